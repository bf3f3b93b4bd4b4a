/-! ===== light as what rooms give; wants as bounds ===== -/
def gg (tt : Nat → Nat) (b a r i : Nat) : Nat := (if pF0 tt i = a ∧ pT0 tt i = r then b * pL0 tt i / 100 else 0) + (if pB0 tt i = 1 ∧ pT0 tt i = a ∧ pF0 tt i = r then b * pL0 tt i / 100 else 0)
/-- the light that a lamp so bright in a gives to r -/
def GG (tt : Nat → Nat) (b a r : Nat) : Nat := fb_sm (gg tt b a r) (tt 2)
theorem fb_sm_nul : ∀ n, fb_sm (fun _ => 0) n = 0 := fun n => by rw [fb_sm_const, Nat.mul_zero]
theorem fb_sm_ind {n a v : Nat} (h : a < n) : fb_sm (fun k => if k = a then v else 0) n = v := by
  have := fb_sm_upd (fun _ => 0) v (i := a) (n := n) h
  rw [fb_sm_nul] at this
  omega
theorem fb_sm_all0 {f : Nat → Nat} {n : Nat} (h : ∀ k, k < n → f k = 0) : fb_sm f n = 0 := by
  rw [fb_sm_cong (g := fun _ => 0) h, fb_sm_nul]
theorem gg_sum {tt : Nat → Nat} (hW : HWf tt) (sh : Nat → Nat) (r : Nat) {i : Nat} (hi : i < tt 2) : fb_sm (fun a => gg tt (sh a) a r i) (tt 1) = Lsm tt sh r i := by
  obtain ⟨b1, b2, _⟩ := hW.pane hi
  have e : fb_sm (fun a => gg tt (sh a) a r i) (tt 1) = fb_sm (fun a => (if a = pF0 tt i then (if pT0 tt i = r then sh (pF0 tt i) * pL0 tt i / 100 else 0) else 0) + (if a = pT0 tt i then (if pB0 tt i = 1 ∧ pF0 tt i = r then sh (pT0 tt i) * pL0 tt i / 100 else 0) else 0)) (tt 1) := fb_sm_cong (fun a ha => by
    unfold gg
    congr 1
    · by_cases h1 : a = pF0 tt i
      · subst h1
        simp
      · have : ¬ pF0 tt i = a := fun h => h1 h.symm
        simp [h1, this]
    · by_cases h1 : a = pT0 tt i
      · subst h1
        simp
      · have : ¬ pT0 tt i = a := fun h => h1 h.symm
        simp [h1, this])
  rw [e, fb_sm_add, fb_sm_ind b1, fb_sm_ind b2]
  rfl
theorem Lsum_GG {tt : Nat → Nat} (hW : HWf tt) (sh : Nat → Nat) (r : Nat) : Lsum tt sh r = fb_sm (fun a => GG tt (sh a) a r) (tt 1) := by
  have key : ∀ m, m ≤ tt 2 → fb_sm (Lsm tt sh r) m = fb_sm (fun a => fb_sm (gg tt (sh a) a r) m) (tt 1) := by
    intro m
    induction m with
    | zero => intro _; rw [show (fun a => fb_sm (gg tt (sh a) a r) 0) = (fun _ => 0) from rfl, fb_sm_nul]; rfl
    | succ m ih =>
      intro hm
      rw [fb_sm_succ, ih (by omega), ← gg_sum hW sh r (show m < tt 2 by omega), ← fb_sm_add]
      rfl
  exact key (tt 2) (Nat.le_refl _)
theorem GG_lit {tt : Nat → Nat} {b a r : Nat} (h : (ltt tt a).testBit r = false) : GG tt b a r = 0 := by
  refine fb_sm_all0 (fun i hi => ?_)
  have h1 : (lt1 tt a i).testBit r = false := by
    cases hb : (lt1 tt a i).testBit r
    · rfl
    · have : (ltt tt a).testBit r = true := by
        unfold ltt
        rw [orf_bit]
        exact ⟨i, hi, hb⟩
      rw [h] at this
      cases this
  unfold lt1 at h1
  rw [Nat.testBit_or, ite_bit, ite_bit, Bool.or_eq_false_iff] at h1
  have c1 := of_decide_eq_false h1.1
  have c2 := of_decide_eq_false h1.2
  unfold gg
  rw [if_neg c1, if_neg (fun hh => c2 ⟨⟨hh.1, hh.2.1⟩, hh.2.2⟩)]
theorem GG_0 {tt : Nat → Nat} (a r : Nat) : GG tt 0 a r = 0 := fb_sm_all0 (fun i _ => by unfold gg; simp)
theorem gg_le {tt : Nat → Nat} (hW : HWf tt) {b a r i : Nat} (hb : b ≤ 999) (hi : i < tt 2) : gg tt b a r i ≤ 999 := by
  obtain ⟨b1, b2, b3, b4, b5, b6⟩ := hW.pane hi
  have m1 : b * pL0 tt i ≤ 999 * 100 := Nat.mul_le_mul hb b5
  unfold gg
  split <;> split <;> omega
theorem ggs_le {tt : Nat → Nat} (hW : HWf tt) {b a r n : Nat} (hb : b ≤ 999) (hn : n ≤ tt 2) : fb_sm (gg tt b a r) n ≤ 59940 := by
  have h1 := fb_sm_bound (f := gg tt b a r) (c := 999) (n := n) (fun k hk => gg_le hW hb (by omega))
  have h2 := hW.pa
  have h3 : n * 999 ≤ 60 * 999 := Nat.mul_le_mul_right _ (by omega)
  omega
theorem GG_le {tt : Nat → Nat} (hW : HWf tt) {b a r : Nat} (hb : b ≤ 999) : GG tt b a r ≤ 59940 := ggs_le hW hb (Nat.le_refl _)
theorem Lsum_le2 {tt sh : Nat → Nat} (hW : HWf tt) (hb : ∀ r, r < tt 1 → sh r ≤ 999) (r : Nat) : Lsum tt sh r ≤ 59940 := by
  have h1 := fb_sm_bound (f := Lsm tt sh r) (c := 999) (n := tt 2) (fun i hi => by
    obtain ⟨b1, b2, b3, b4, b5, b6⟩ := hW.pane hi
    have m1 : sh (pF0 tt i) * pL0 tt i ≤ 999 * 100 := Nat.mul_le_mul (hb _ b1) b5
    have m2 : sh (pT0 tt i) * pL0 tt i ≤ 999 * 100 := Nat.mul_le_mul (hb _ b2) b5
    unfold Lsm
    split <;> split <;> omega)
  have h2 := hW.pa
  have h3 : tt 2 * 999 ≤ 60 * 999 := Nat.mul_le_mul_right _ h2
  unfold Lsum
  omega
def wr (tt : Nat → Nat) (t r w : Nat) : Prop := (tt (256 + 5 * w + 3) ≤ t ∧ t ≤ tt (256 + 5 * w + 4)) ∧ tt (256 + 5 * w) = r
theorem wr_d (tt : Nat → Nat) (t r w : Nat) : wr tt t r w ∨ ¬ wr tt t r w := Classical.em _
/-- the most of what is wanted of r at least, and the least of what it bears, by the first n wants -/
def Lv (tt : Nat → Nat) (t r : Nat) : Nat → Nat
  | 0 => 0
  | n + 1 => if (tt (256 + 5 * n + 3) ≤ t ∧ t ≤ tt (256 + 5 * n + 4)) ∧ tt (256 + 5 * n) = r then max (Lv tt t r n) (tt (256 + 5 * n + 1)) else Lv tt t r n
def Mv (tt : Nat → Nat) (t r : Nat) : Nat → Nat
  | 0 => 99999
  | n + 1 => if (tt (256 + 5 * n + 3) ≤ t ∧ t ≤ tt (256 + 5 * n + 4)) ∧ tt (256 + 5 * n) = r then min (Mv tt t r n) (tt (256 + 5 * n + 2)) else Mv tt t r n
theorem Lv_iff {tt : Nat → Nat} {t r x : Nat} : ∀ {n : Nat}, Lv tt t r n ≤ x ↔ ∀ w, w < n → wr tt t r w → tt (256 + 5 * w + 1) ≤ x
  | 0 => ⟨fun _ w h => absurd h (Nat.not_lt_zero w), fun _ => Nat.zero_le _⟩
  | n + 1 => by
    rw [Lv]
    by_cases h : (tt (256 + 5 * n + 3) ≤ t ∧ t ≤ tt (256 + 5 * n + 4)) ∧ tt (256 + 5 * n) = r
    · rw [if_pos h, Nat.max_le, Lv_iff]
      constructor
      · rintro ⟨h1, h2⟩ w hw hr
        by_cases e : w = n
        · subst e; exact h2
        · exact h1 w (by omega) hr
      · intro h1
        exact ⟨fun w hw hr => h1 w (by omega) hr, h1 n (by omega) h⟩
    · rw [if_neg h, Lv_iff]
      constructor
      · intro h1 w hw hr
        by_cases e : w = n
        · subst e; exact absurd hr h
        · exact h1 w (by omega) hr
      · intro h1 w hw hr
        exact h1 w (by omega) hr
theorem Mv_iff {tt : Nat → Nat} {t r x : Nat} : ∀ {n : Nat}, x ≤ Mv tt t r n ↔ x ≤ 99999 ∧ ∀ w, w < n → wr tt t r w → x ≤ tt (256 + 5 * w + 2)
  | 0 => ⟨fun h => ⟨h, fun w h => absurd h (Nat.not_lt_zero w)⟩, fun h => h.1⟩
  | n + 1 => by
    rw [Mv]
    by_cases h : (tt (256 + 5 * n + 3) ≤ t ∧ t ≤ tt (256 + 5 * n + 4)) ∧ tt (256 + 5 * n) = r
    · rw [if_pos h, Nat.le_min, Mv_iff]
      constructor
      · rintro ⟨⟨h0, h1⟩, h2⟩
        refine ⟨h0, fun w hw hr => ?_⟩
        by_cases e : w = n
        · subst e; exact h2
        · exact h1 w (by omega) hr
      · rintro ⟨h0, h1⟩
        exact ⟨⟨h0, fun w hw hr => h1 w (by omega) hr⟩, h1 n (by omega) h⟩
    · rw [if_neg h, Mv_iff]
      constructor
      · rintro ⟨h0, h1⟩
        refine ⟨h0, fun w hw hr => ?_⟩
        by_cases e : w = n
        · subst e; exact absurd hr h
        · exact h1 w (by omega) hr
      · rintro ⟨h0, h1⟩
        exact ⟨h0, fun w hw hr => h1 w (by omega) hr⟩
theorem Lv_lt {tt : Nat → Nat} (hW : HWf tt) {t r n : Nat} : Lv tt t r n ≤ 99999 := Lv_iff.mpr (fun w _ _ => by have := hW.b (256 + 5 * w + 1); omega)
theorem Mv_lt {tt : Nat → Nat} {t r n : Nat} : Mv tt t r n ≤ 99999 := (Mv_iff.mp (Nat.le_refl _)).1
theorem drk_0 {tt L : Nat → Nat} (hW : HWf tt) {t : Nat} (hL : ∀ r, L r ≤ 99999) : drk tt L t = 0 ↔ ∀ r, r < 16 → Lv tt t r (tt 4) ≤ L r ∧ L r ≤ Mv tt t r (tt 4) := by
  have hro := hW.ro
  constructor
  · intro h0 r hr
    have h : ∀ w, w < tt 4 → (tt (256 + 5 * w + 3) ≤ t ∧ t ≤ tt (256 + 5 * w + 4)) → tt (256 + 5 * w + 1) ≤ L (tt (256 + 5 * w)) ∧ L (tt (256 + 5 * w)) ≤ tt (256 + 5 * w + 2) := by
      intro w hw hwan
      by_cases hg : tt (256 + 5 * w + 1) ≤ L (tt (256 + 5 * w)) ∧ L (tt (256 + 5 * w)) ≤ tt (256 + 5 * w + 2)
      · exact hg
      · exfalso
        have h1 : (drk tt L t).testBit (tt (256 + 5 * w)) = true := by
          unfold drk
          rw [orf_bit]
          exact ⟨w, hw, by rw [if_pos ⟨hwan, hg⟩, n_two]; simp⟩
        rw [h0, Nat.zero_testBit] at h1
        cases h1
    refine ⟨Lv_iff.mpr (fun w hw hr2 => ?_), Mv_iff.mpr ⟨hL r, fun w hw hr2 => ?_⟩⟩
    · have := (h w hw hr2.1).1
      rw [hr2.2] at this
      exact this
    · have := (h w hw hr2.1).2
      rw [hr2.2] at this
      exact this
  · intro h
    refine n_zero (fun i => ?_)
    cases hb : (drk tt L t).testBit i
    · rfl
    · exfalso
      unfold drk at hb
      rw [orf_bit] at hb
      obtain ⟨w, hw, hb⟩ := hb
      by_cases hc : (tt (256 + 5 * w + 3) ≤ t ∧ t ≤ tt (256 + 5 * w + 4)) ∧ ¬ (tt (256 + 5 * w + 1) ≤ L (tt (256 + 5 * w)) ∧ L (tt (256 + 5 * w)) ≤ tt (256 + 5 * w + 2))
      · have h1 := (hW.want hw).1
        obtain ⟨a1, a2⟩ := h (tt (256 + 5 * w)) (by omega)
        exact hc.2 ⟨Lv_iff.mp a1 w hw ⟨hc.1, rfl⟩, (Mv_iff.mp a2).2 w hw ⟨hc.1, rfl⟩⟩
      · rw [if_neg hc, Nat.zero_testBit] at hb
        cases hb
/-! sets of lamps of one brightness -/
def SS (G : Nat → Nat → Nat) (n T r : Nat) : Nat := fb_sm (fun a => if T.testBit a then G a r else 0) n
theorem SS_or {G : Nat → Nat → Nat} {n a b r : Nat} (h : a &&& b = 0) : SS G n (a ||| b) r = SS G n a r + SS G n b r := by
  unfold SS
  rw [← fb_sm_add]
  refine fb_sm_cong (fun k _ => ?_)
  rw [Nat.testBit_or]
  cases ha : a.testBit k
  · simp
  · rw [z_and h ha]
    simp
theorem SS_two {G : Nat → Nat → Nat} {n i r : Nat} (hi : i < n) : SS G n (2 ^ i) r = G i r := by
  unfold SS
  rw [fb_sm_cong (g := fun a => if a = i then G i r else 0) (fun a _ => ?_), fb_sm_ind hi]
  rw [n_two]
  by_cases e : a = i
  · subst e; simp
  · have : ¬ i = a := fun h => e h.symm
    simp [e, this]
theorem SS_0 {G : Nat → Nat → Nat} {n r : Nat} : SS G n 0 r = 0 := fb_sm_all0 (fun k _ => by simp)
def UU (G : Nat → Nat → Nat) (r i : Nat) : Nat := fb_sm (fun a => G a r) i
theorem SS_low {G : Nat → Nat → Nat} {n T i r : Nat} (hT : T < 2 ^ i) (hi : i ≤ n) : SS G n T r ≤ UU G r i := by
  obtain ⟨d, rfl⟩ : ∃ d, n = i + d := ⟨n - i, by omega⟩
  unfold SS UU
  rw [fb_sm_split, fb_sm_all0 (n := d) (fun k _ => by rw [n_lt_bits hT (by omega)]; rfl), Nat.add_zero]
  exact fb_sm_le (fun k _ => by split <;> omega)
theorem SS_pos {G : Nat → Nat → Nat} {n T r : Nat} (h : 0 < SS G n T r) : ∃ a, a < n ∧ T.testBit a = true ∧ G a r ≠ 0 := by
  apply Classical.byContradiction
  intro hn
  have : SS G n T r = 0 := fb_sm_all0 (fun a ha => by
    cases hb : T.testBit a
    · rfl
    · rw [if_pos rfl]
      apply Classical.byContradiction
      intro hg
      exact hn ⟨a, ha, hb, hg⟩)
  omega
/-- all rooms are right -/
def VV (G : Nat → Nat → Nat) (L M : Nat → Nat) (n T : Nat) : Prop := ∀ r, r < 16 → L r ≤ SS G n T r ∧ SS G n T r ≤ M r
/-- the best so far, before and after the sets E -/
def BB (V E : Nat → Prop) (b : Nat) (o : Option Nat) (b' : Nat) (o' : Option Nat) : Prop :=
  (∃ T, E T ∧ V T ∧ b' = pc T ∧ o' = some T ∧ pc T < b ∧ ∀ T2, E T2 → V T2 → pc T < pc T2 ∨ (pc T = pc T2 ∧ T ≤ T2)) ∨ (b' = b ∧ o' = o ∧ ∀ T, E T → V T → b ≤ pc T)
theorem BB_seq {V E E1 E2 : Nat → Prop} {b b1 b2 : Nat} {o o1 o2 : Option Nat} (h1 : BB V E1 b o b1 o1) (h2 : BB V E2 b1 o1 b2 o2) (hE : ∀ T, E T ↔ E1 T ∨ E2 T) (ho : ∀ T1 T2, E1 T1 → E2 T2 → T1 ≤ T2) : BB V E b o b2 o2 := by
  rcases h1 with ⟨T1, a1, a2, a3, a4, a5, a6⟩ | ⟨a1, a2, a3⟩
  · rcases h2 with ⟨T2, c1, c2, c3, c4, c5, c6⟩ | ⟨c1, c2, c3⟩
    · refine Or.inl ⟨T2, (hE T2).mpr (Or.inr c1), c2, c3, c4, by omega, fun T hT hv => ?_⟩
      rcases (hE T).mp hT with h | h
      · have := a6 T h hv
        omega
      · exact c6 T h hv
    · refine Or.inl ⟨T1, (hE T1).mpr (Or.inl a1), a2, by omega, by rw [c2]; exact a4, a5, fun T hT hv => ?_⟩
      rcases (hE T).mp hT with h | h
      · exact a6 T h hv
      · have := c3 T h hv
        have := ho T1 T a1 h
        omega
  · subst a1 a2
    rcases h2 with ⟨T2, c1, c2, c3, c4, c5, c6⟩ | ⟨c1, c2, c3⟩
    · refine Or.inl ⟨T2, (hE T2).mpr (Or.inr c1), c2, c3, c4, c5, fun T hT hv => ?_⟩
      rcases (hE T).mp hT with h | h
      · have := a3 T h hv
        omega
      · exact c6 T h hv
    · refine Or.inr ⟨c1, c2, fun T hT hv => ?_⟩
      rcases (hE T).mp hT with h | h
      · exact a3 T h hv
      · exact c3 T h hv
theorem BB_no {V E : Nat → Prop} {b : Nat} {o : Option Nat} (h : ∀ T, E T → V T → b ≤ pc T) : BB V E b o b o := Or.inr ⟨rfl, rfl, h⟩
theorem BB_dom {V E E1 E2 : Nat → Prop} {b b1 : Nat} {o o1 : Option Nat} (h1 : BB V E1 b o b1 o1) (hd : ∀ T, E2 T → V T → ∃ T1, E1 T1 ∧ V T1 ∧ pc T1 < pc T) (hE : ∀ T, E T ↔ E1 T ∨ E2 T) : BB V E b o b1 o1 := by
  rcases h1 with ⟨T1, a1, a2, a3, a4, a5, a6⟩ | ⟨a1, a2, a3⟩
  · refine Or.inl ⟨T1, (hE T1).mpr (Or.inl a1), a2, a3, a4, a5, fun T hT hv => ?_⟩
    rcases (hE T).mp hT with h | h
    · exact a6 T h hv
    · obtain ⟨T3, d1, d2, d3⟩ := hd T h hv
      have := a6 T3 d1 d2
      omega
  · refine Or.inr ⟨a1, a2, fun T hT hv => ?_⟩
    rcases (hE T).mp hT with h | h
    · exact a3 T h hv
    · obtain ⟨T3, d1, d2, d3⟩ := hd T h hv
      have := a3 T3 d1 d2
      omega
/-- sets that are s above i -/
def Ex (i s T : Nat) : Prop := T / 2 ^ i = s
theorem Ex_dec {i s T : Nat} (h : Ex i s T) : ∃ T', T' < 2 ^ i ∧ T = 2 ^ i * s ||| T' ∧ (2 ^ i * s) &&& T' = 0 := by
  have hp := Nat.two_pow_pos i
  have h1 := Nat.mod_lt T hp
  refine ⟨T % 2 ^ i, h1, ?_, ?_⟩
  · rw [← Nat.two_pow_add_eq_or_of_lt h1, ← h]
    exact (Nat.div_add_mod T (2 ^ i)).symm
  · apply and_z
    intro k hk
    by_cases e : k < i
    · rw [Nat.testBit_two_pow_mul] at hk
      have : ¬ i ≤ k := by omega
      simp [this] at hk
    · exact n_lt_bits h1 (by omega)
theorem Ex_mk {i s T' : Nat} (h : T' < 2 ^ i) : Ex i s (2 ^ i * s ||| T') := by
  unfold Ex
  rw [← Nat.two_pow_add_eq_or_of_lt h, Nat.mul_add_div (Nat.two_pow_pos i), Nat.div_eq_of_lt h, Nat.add_zero]
theorem Ex_split {i s T : Nat} : Ex (i + 1) s T ↔ Ex i (2 * s) T ∨ Ex i (2 * s + 1) T := by
  unfold Ex
  rw [Nat.pow_succ, ← Nat.div_div_eq_div_mul]
  omega
theorem Ex_ord {i s T1 T2 : Nat} (h1 : Ex i (2 * s) T1) (h2 : Ex i (2 * s + 1) T2) : T1 ≤ T2 := by
  unfold Ex at h1 h2
  apply Classical.byContradiction
  intro h
  have := Nat.div_le_div_right (c := 2 ^ i) (show T2 ≤ T1 by omega)
  omega
theorem Ex_hi {i s : Nat} : 2 ^ (i + 1) * s ||| 2 ^ i = 2 ^ i * (2 * s + 1) := by
  have h : 2 ^ i < 2 ^ (i + 1) := n_pw (by omega)
  rw [← Nat.two_pow_add_eq_or_of_lt h, Nat.pow_succ, Nat.mul_add, Nat.mul_one, Nat.mul_assoc]
theorem Ex_lo {i s : Nat} : 2 ^ (i + 1) * s = 2 ^ i * (2 * s) := by rw [Nat.pow_succ, Nat.mul_assoc]
section Ks
variable {G : Nat → Nat → Nat} {L M lit : Nat → Nat} {n i s b : Nat} {o : Option Nat}
theorem ks_pc {T : Nat} (h : Ex i s T) : pc (2 ^ i * s) ≤ pc T := by
  obtain ⟨T', _, rfl, _⟩ := Ex_dec h
  exact pc_sub (fun k hk => by rw [Nat.testBit_or, hk]; rfl)
theorem ks_found (hv : VV G L M n (2 ^ i * s)) (hb : pc (2 ^ i * s) < b) : BB (VV G L M n) (Ex i s) b o (pc (2 ^ i * s)) (some (2 ^ i * s)) := by
  refine Or.inl ⟨2 ^ i * s, ?_, hv, rfl, rfl, hb, fun T hT _ => ?_⟩
  · have := Ex_mk (i := i) (s := s) (T' := 0) (Nat.two_pow_pos i)
    rw [Nat.or_zero] at this
    exact this
  · have h1 := ks_pc hT
    obtain ⟨T', hT', e, _⟩ := Ex_dec hT
    have h2 : 2 ^ i * s ≤ T := by rw [e, ← Nat.two_pow_add_eq_or_of_lt hT']; omega
    omega
theorem ks_few (hb : b ≤ pc (2 ^ i * s)) : BB (VV G L M n) (Ex i s) b o b o := BB_no (fun T hT _ => by
  have := ks_pc hT
  omega)
theorem ks_zero (h : ∃ r, r < 16 ∧ SS G n (2 ^ 0 * s) r < L r) : BB (VV G L M n) (Ex 0 s) b o b o := BB_no (fun T hT hv => by
  obtain ⟨T', hT', rfl, _⟩ := Ex_dec hT
  have e : T' = 0 := by rw [Nat.pow_zero] at hT'; omega
  subst e
  rw [Nat.or_zero] at hv
  obtain ⟨r, hr, h1⟩ := h
  have := (hv r hr).1
  omega)
theorem ks_more (hi : i ≤ n) (h : ∃ r, r < 16 ∧ SS G n (2 ^ i * s) r + UU G r i < L r) : ∀ T, Ex i s T → VV G L M n T → b ≤ pc T := fun T hT hv => by
  obtain ⟨T', hT', rfl, hd⟩ := Ex_dec hT
  obtain ⟨r, hr, h1⟩ := h
  have h2 := (hv r hr).1
  rw [SS_or hd] at h2
  have h3 := SS_low (G := G) (r := r) hT' hi
  omega
theorem ks_bear (h : ∃ r, r < 16 ∧ M r < SS G n (2 ^ i * s) r) : ∀ T, Ex i s T → VV G L M n T → b ≤ pc T := fun T hT hv => by
  obtain ⟨T', hT', rfl, hd⟩ := Ex_dec hT
  obtain ⟨r, hr, h1⟩ := h
  have h2 := (hv r hr).2
  rw [SS_or hd] at h2
  omega
theorem ks_wide (hl : ∀ a r, (lit a).testBit r = false → G a r = 0) {lack : Nat} (hk : ∀ r, lack.testBit r = true → r < 16 ∧ SS G n (2 ^ i * s) r < L r) (hk2 : lack < 65536) (hi : i ≤ 16) (h : (b - 1 - pc (2 ^ i * s)) * wid lit i < pc lack) : BB (VV G L M n) (Ex i s) b o b o := BB_no (fun T hT hv => by
  apply Classical.byContradiction
  intro hb
  obtain ⟨T', hT', rfl, hd⟩ := Ex_dec hT
  rw [pc_or hd] at hb
  have hc : Cov lit i lack 0 T' := fun x => ⟨fun hx => ?_, fun hx => by rw [Nat.zero_testBit] at hx; cases hx⟩
  · have := Cov_cnt i lack 0 T' (by omega) (by omega) (by decide) (Nat.and_zero _) hT' hc
    rw [pc_0] at this
    have h3 : pc T' * wid lit i ≤ (b - 1 - pc (2 ^ i * s)) * wid lit i := Nat.mul_le_mul_right _ (by omega)
    omega
  · obtain ⟨hx1, hx2⟩ := hk x hx
    have h2 := (hv x hx1).1
    rw [SS_or hd] at h2
    obtain ⟨a, ha, hb1, hg⟩ := SS_pos (show 0 < SS G n T' x by omega)
    refine fb_ct_pos.mpr ⟨a, ?_, ?_⟩
    · apply Classical.byContradiction
      intro hai
      rw [n_lt_bits hT' (by omega)] at hb1
      cases hb1
    · rw [hb1]
      cases hg2 : (lit a).testBit x
      · exact absurd (hl a x hg2) hg
      · rfl)
theorem ks_dom (hl : ∀ a r, (lit a).testBit r = false → G a r = 0) (hi : i < n) (hi2 : i < 64) (hs : ∀ r, r < 16 → SS G n (2 ^ (i + 1) * s) r < L r → (lit i).testBit r = false) : ∀ T, Ex i (2 * s + 1) T → VV G L M n T → ∃ T1, Ex i (2 * s) T1 ∧ VV G L M n T1 ∧ pc T1 < pc T := fun T hT hv => by
  obtain ⟨T', hT', rfl, hd⟩ := Ex_dec hT
  have d1 : (2 ^ i * (2 * s)) &&& 2 ^ i = 0 := and_z (fun k hk => by
    rw [← Ex_lo, Nat.testBit_two_pow_mul] at hk
    rw [n_two]
    by_cases e : i = k
    · subst e; simp at hk; omega
    · simp [e])
  have d2 : (2 ^ i * (2 * s)) &&& T' = 0 := and_z (fun k hk => by
    rw [← Ex_lo, Nat.testBit_two_pow_mul] at hk
    by_cases e : i + 1 ≤ k
    · exact n_lt_bits hT' (by omega)
    · simp [e] at hk)
  have eh : 2 ^ i * (2 * s + 1) = 2 ^ i * (2 * s) ||| 2 ^ i := by rw [← Ex_hi, Ex_lo]
  refine ⟨2 ^ i * (2 * s) ||| T', Ex_mk hT', fun r hr => ?_, ?_⟩
  · obtain ⟨h1, h2⟩ := hv r hr
    rw [SS_or hd, eh, SS_or d1, SS_two hi] at h1 h2
    rw [SS_or d2]
    refine ⟨?_, by omega⟩
    by_cases hk : SS G n (2 ^ (i + 1) * s) r < L r
    · rw [hl i r (hs r hr hk)] at h1
      omega
    · rw [Ex_lo] at hk
      omega
  · rw [pc_or d2, pc_or hd, eh, pc_or d1, pc_two hi2]
    omega
end Ks
