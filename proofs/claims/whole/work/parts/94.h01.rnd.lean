/-! ===== round: the pure part ===== -/
theorem Ld_one {tt : Nat → Nat} {s L r k m : Nat} (h1 : Ld tt s L r k) (h2 : Ld tt s L r m) : k = m := by
  rcases Nat.lt_trichotomy k m with h | h | h
  · exact absurd h1.1 (h2.2 k h)
  · exact h
  · exact absurd h2.1 (h1.2 m h)
/-- the class's queue: m states, those below I done -/
def QI (tt : Nat → Nat) (s : Nat) (qL qr par : Nat → Nat) (m I : Nat) : Prop :=
  (0 < m ∧ qL 0 = ltt tt s ∧ qr 0 = s) ∧ (∀ i, i < m → qL i < 2 ^ tt 1 ∧ qr i < tt 1) ∧ (∀ i, 0 < i → par i < i) ∧ (∀ i, 0 < i → i < m → par i < I ∧ adj tt (qr (par i)) (qr i) = true ∧ qL i = qL (par i) ||| ltt tt (qr i)) ∧ (∀ i j, 0 < i → i < j → j < m → par i ≤ par j ∧ (par i = par j → qr i < qr j)) ∧ (∀ i j, i < j → j < m → ¬ (qL i = qL j ∧ qr i = qr j)) ∧ ∀ a o, a < I → adj tt (qr a) o = true → ∃ i, i < m ∧ qL i = qL a ||| ltt tt o ∧ qr i = o ∧ (0 < i → par i ≤ a)
def dpf (par : Nat → Nat) : Nat → Nat → Nat
  | 0, _ => 0
  | f + 1, i => if i = 0 then 0 else dpf par f (par i) + 1
def dp (par : Nat → Nat) (i : Nat) : Nat := dpf par i i
theorem dpf_eq {par : Nat → Nat} (hp : ∀ i, 0 < i → par i < i) : ∀ i f, i ≤ f → dpf par f i = dp par i := by
  intro i
  induction i using Nat.strongRecOn with
  | ind i ih =>
    intro f hf
    cases f with
    | zero =>
      have e : i = 0 := by omega
      subst e
      rfl
    | succ f =>
      rw [dpf]
      by_cases e : i = 0
      · subst e; rw [if_pos rfl]; rfl
      · rw [if_neg e, ih (par i) (hp i (by omega)) f (by have := hp i (by omega); omega)]
        unfold dp
        obtain ⟨j, hj⟩ : ∃ j, i = j + 1 := ⟨i - 1, by omega⟩
        have h1 := hp i (by omega)
        conv => rhs; rw [hj, dpf, if_neg (by omega), ← hj]
        rw [ih (par i) h1 j (by omega)]
        rfl
theorem dp_0 {par : Nat → Nat} : dp par 0 = 0 := rfl
theorem dp_s {par : Nat → Nat} (hp : ∀ i, 0 < i → par i < i) {i : Nat} (hi : 0 < i) : dp par i = dp par (par i) + 1 := by
  obtain ⟨j, hj⟩ : ∃ j, i = j + 1 := ⟨i - 1, by omega⟩
  have h1 := hp i hi
  have h2 : dp par i = dpf par (j + 1) i := by unfold dp; rw [hj]
  rw [h2, dpf, if_neg (by omega), dpf_eq hp (par i) j (by omega)]
section Rnd
variable {tt : Nat → Nat} {s m I g : Nat} {qL qr par : Nat → Nat}
theorem dp_mono (H : QI tt s qL qr par m I) : ∀ j i, i ≤ j → j < m → dp par i ≤ dp par j := by
  obtain ⟨_, _, hp, h3, h4, _, _⟩ := H
  intro j
  induction j using Nat.strongRecOn with
  | ind j ih =>
    intro i hij hj
    by_cases e0 : i = 0
    · rw [e0, dp_0]; exact Nat.zero_le _
    · by_cases e : i = j
      · rw [e]; exact Nat.le_refl _
      · rw [dp_s hp (show 0 < i by omega), dp_s hp (show 0 < j by omega)]
        have h5 := (h4 i j (by omega) (by omega) hj).1
        have h6 := hp j (by omega)
        have := ih (par j) h6 (par i) h5 (by omega)
        omega
/-- nothing is left to do, and the goal isn't there -/
theorem Q_none (H : QI tt s qL qr par m I) (hI : m ≤ I) (hg : ∀ i, i < m → ¬ (qL i = 2 ^ tt 1 - 1 ∧ qr i = s)) : ∀ k i, i < m → ¬ Wn tt s k (qL i) (qr i) := by
  obtain ⟨_, _, hp, h3, h4, h5, h6⟩ := H
  intro k
  induction k with
  | zero => intro i hi h; exact hg i hi h
  | succ k ih =>
    intro i hi h
    obtain ⟨o, h1, h2⟩ := h
    obtain ⟨i2, a1, a2, a3, _⟩ := h6 i o (by omega) h1
    rw [← a2] at h2
    refine ih i2 a1 ?_
    rw [a3]
    exact h2
theorem Q_way (H : QI tt s qL qr par m I) : ∀ i k, i < m → Wn tt s k (qL i) (qr i) → Wn tt s (dp par i + k) (qL 0) (qr 0) := by
  obtain ⟨_, _, hp, h3, h4, h5, h6⟩ := H
  intro i
  induction i using Nat.strongRecOn with
  | ind i ih =>
    intro k hi h
    by_cases e : i = 0
    · rw [e] at h ⊢
      rw [dp_0, Nat.zero_add]
      exact h
    · have h1 := hp i (by omega)
      obtain ⟨a1, a2, a3⟩ := h3 i (by omega) hi
      have h2 : Wn tt s (k + 1) (qL (par i)) (qr (par i)) := ⟨qr i, a2, by rw [← a3]; exact h⟩
      have := ih (par i) h1 (k + 1) (by omega) h2
      rw [dp_s hp (show 0 < i by omega), show dp par (par i) + 1 + k = dp par (par i) + (k + 1) by omega]
      exact this
theorem Q_min (H : QI tt s qL qr par m I) (hg : g < m) (hgs : qL g = 2 ^ tt 1 - 1 ∧ qr g = s) : ∀ k i, i < m → dp par i + k < dp par g → ¬ Wn tt s k (qL i) (qr i) := by
  have hm := dp_mono H
  obtain ⟨_, _, hp, h3, h4, h5, h6⟩ := H
  intro k
  induction k with
  | zero =>
    intro i hi hd h
    have e : i = g := by
      rcases Nat.lt_trichotomy i g with x | x | x
      · exact absurd ⟨h.1.trans hgs.1.symm, h.2.trans hgs.2.symm⟩ (h5 i g x hg)
      · exact x
      · exact absurd ⟨hgs.1.trans h.1.symm, hgs.2.trans h.2.symm⟩ (h5 g i x hi)
    rw [e] at hd
    omega
  | succ k ih =>
    intro i hi hd h
    obtain ⟨o, h1, h2⟩ := h
    have g0 : 0 < g := by
      rcases Nat.eq_zero_or_pos g with e | e
      · rw [e, dp_0] at hd; omega
      · exact e
    have hiI : i < I := by
      apply Classical.byContradiction
      intro hc
      have a1 := (h3 g g0 hg).1
      have a2 := hm i (par g) (by omega) hi
      have a3 := dp_s hp g0
      omega
    obtain ⟨i2, a1, a2, a3, a4⟩ := h6 i o hiI h1
    rw [← a2] at h2
    refine ih i2 a1 ?_ (by rw [a3]; exact h2)
    by_cases e : i2 = 0
    · rw [e, dp_0]; omega
    · rw [dp_s hp (show 0 < i2 by omega)]
      have b1 := a4 (by omega)
      have b2 := hm i (par i2) b1 hi
      omega
/-- the chain of parents from g up, by depth -/
def chn (par : Nat → Nat) (g : Nat) : Nat → Nat
  | 0 => g
  | k + 1 => par (chn par g k)
theorem chn_dp (H : QI tt s qL qr par m I) (hg : g < m) : ∀ k, k ≤ dp par g → chn par g k < m ∧ dp par (chn par g k) = dp par g - k
  | 0, _ => ⟨hg, rfl⟩
  | k + 1, hk => by
    obtain ⟨a1, a2⟩ := chn_dp H hg k (by omega)
    have hp := H.2.2.1
    have h0 : 0 < chn par g k := by
      rcases Nat.eq_zero_or_pos (chn par g k) with e | e
      · rw [e, dp_0] at a2; omega
      · exact e
    have h1 := hp _ h0
    have h2 := dp_s hp h0
    rw [chn]
    exact ⟨by omega, by omega⟩
theorem dp_pos {par : Nat → Nat} (hp : ∀ i, 0 < i → par i < i) {i : Nat} : dp par i = 0 ↔ i = 0 := by
  constructor
  · intro h
    rcases Nat.eq_zero_or_pos i with e | e
    · exact e
    · rw [dp_s hp e] at h; omega
  · rintro rfl; rfl
theorem Q_less (H : QI tt s qL qr par m I) (hg : g < m) (hgs : qL g = 2 ^ tt 1 - 1 ∧ qr g = s) : ∀ k i, k ≤ dp par g → i < m → i < chn par g k → ¬ Wn tt s k (qL i) (qr i) := by
  have hcd := chn_dp H hg
  obtain ⟨_, _, hp, h3, h4, h5, h6⟩ := H
  intro k
  induction k with
  | zero =>
    intro i _ hi hlt h
    exact h5 i g hlt hg ⟨h.1.trans hgs.1.symm, h.2.trans hgs.2.symm⟩
  | succ k ih =>
    intro i hk hi hlt h
    obtain ⟨o, h1, h2⟩ := h
    obtain ⟨c1, c2⟩ := hcd k (by omega)
    have h0 : 0 < chn par g k := by
      rcases Nat.eq_zero_or_pos (chn par g k) with e | e
      · rw [e, dp_0] at c2; omega
      · exact e
    have hpI := (h3 _ h0 c1).1
    rw [chn] at hlt
    obtain ⟨i2, a1, a2, a3, a4⟩ := h6 i o (by omega) h1
    rw [← a2] at h2
    refine ih i2 (by omega) a1 ?_ (by rw [a3]; exact h2)
    apply Classical.byContradiction
    intro hc
    by_cases e : i2 = chn par g k
    · have := a4 (by omega)
      rw [e] at this
      omega
    · have b1 := (h4 (chn par g k) i2 h0 (by omega) a1).1
      have b2 := a4 (by omega)
      omega
theorem Q_RP (H : QI tt s qL qr par m I) (hg : g < m) (hgs : qL g = 2 ^ tt 1 - 1 ∧ qr g = s) : RP tt s (dp par g) (fun k => qr (chn par g (dp par g - k))) (fun k => qL (chn par g (dp par g - k))) := by
  have hcd := chn_dp H hg
  have hmin := Q_min H hg hgs
  have hway := Q_way H
  have hless := Q_less H hg hgs
  have H0 := H
  obtain ⟨⟨h00, h01, h02⟩, hb, hp, h3, h4, h5, h6⟩ := H
  have hc0 : chn par g (dp par g) = 0 := by
    obtain ⟨a1, a2⟩ := hcd (dp par g) (Nat.le_refl _)
    rw [Nat.sub_self] at a2
    exact (dp_pos hp).mp a2
  -- from each of the chain on
  have hW : ∀ k, k ≤ dp par g → Wn tt s k (qL (chn par g k)) (qr (chn par g k)) := by
    intro k
    induction k with
    | zero => intro _; exact hgs
    | succ k ih =>
      intro hk
      obtain ⟨c1, c2⟩ := hcd k (by omega)
      have h0 : 0 < chn par g k := by
        rcases Nat.eq_zero_or_pos (chn par g k) with e | e
        · rw [e, dp_0] at c2; omega
        · exact e
      obtain ⟨a1, a2, a3⟩ := h3 _ h0 c1
      exact ⟨qr (chn par g k), a2, by rw [show chn par g (k + 1) = par (chn par g k) from rfl, ← a3]; exact ih (by omega)⟩
  have hLd : ∀ k, k ≤ dp par g → Ld tt s (qL (chn par g k)) (qr (chn par g k)) k := fun k hk => by
    obtain ⟨c1, c2⟩ := hcd k hk
    exact ⟨hW k hk, fun j hj => hmin j _ c1 (by omega)⟩
  refine ⟨?_, ?_, fun k hk => ⟨?_, hLd _ (by omega)⟩, fun k hk => ?_⟩
  · show qr (chn par g (dp par g - 0)) = s
    rw [Nat.sub_zero, hc0]; exact h02
  · show qL (chn par g (dp par g - 0)) = ltt tt s
    rw [Nat.sub_zero, hc0]; exact h01
  · exact (hb _ (hcd _ (by omega)).1).2
  · have e1 : dp par g - k = (dp par g - (k + 1)) + 1 := by omega
    dsimp only
    rw [e1]
    generalize hkk : dp par g - (k + 1) = kk at *
    obtain ⟨c1, c2⟩ := hcd kk (by omega)
    have h0 : 0 < chn par g kk := by
      rcases Nat.eq_zero_or_pos (chn par g kk) with e | e
      · rw [e, dp_0] at c2; omega
      · exact e
    obtain ⟨a1, a2, a3⟩ := h3 _ h0 c1
    refine ⟨a2, a3, fun o ho hadj hld => ?_⟩
    obtain ⟨i2, b1, b2, b3, b4⟩ := h6 (chn par g (kk + 1)) o a1 hadj
    have hlt : i2 < chn par g kk := by
      apply Classical.byContradiction
      intro hc
      by_cases e : i2 = chn par g kk
      · rw [e] at b3
        rw [b3] at ho
        exact absurd ho (Nat.lt_irrefl _)
      · obtain ⟨d1, d2⟩ := h4 (chn par g kk) i2 h0 (by omega) b1
        have d3 := b4 (by omega)
        have d4 : par (chn par g kk) = par i2 := by
          have : chn par g (kk + 1) = par (chn par g kk) := rfl
          omega
        have := d2 d4
        rw [b3] at this
        omega
    refine hless kk i2 (by omega) b1 hlt ?_
    rw [b2, b3]
    exact hld.1
end Rnd
/-! ways that are long enough, and not too long -/
def lts (tt : Nat → Nat) (S : Nat) : Nat := orf (fun r => if S.testBit r then ltt tt r else 0) (tt 1)
theorem lts_bit {tt : Nat → Nat} {S x : Nat} : (lts tt S).testBit x = true ↔ ∃ r, r < tt 1 ∧ S.testBit r = true ∧ (ltt tt r).testBit x = true := by
  unfold lts
  rw [orf_bit]
  constructor
  · rintro ⟨r, hr, h⟩
    cases hb : S.testBit r
    · rw [hb, if_neg (by decide), Nat.zero_testBit] at h; cases h
    · rw [hb, if_pos rfl] at h; exact ⟨r, hr, hb, h⟩
  · rintro ⟨r, hr, h1, h2⟩
    exact ⟨r, hr, by rw [h1, if_pos rfl]; exact h2⟩
theorem lts_lt {tt : Nat → Nat} (hW : HWf tt) (S : Nat) : lts tt S < 2 ^ tt 1 := orf_lt (fun r _ => by
  split
  · exact ltt_lt hW r
  · exact Nat.two_pow_pos _)
theorem lts_or {tt : Nat → Nat} {S o : Nat} (ho : o < tt 1) : lts tt (S ||| 2 ^ o) = lts tt S ||| ltt tt o := by
  refine n_ext (fun x => ?_)
  apply Bool.eq_iff_iff.mpr
  rw [Nat.testBit_or, Bool.or_eq_true, lts_bit, lts_bit]
  constructor
  · rintro ⟨r, hr, h1, h2⟩
    rw [Nat.testBit_or, n_two, Bool.or_eq_true] at h1
    rcases h1 with h1 | h1
    · exact Or.inl ⟨r, hr, h1, h2⟩
    · have e : o = r := of_decide_eq_true h1
      rw [e]; exact Or.inr h2
  · rintro (⟨r, hr, h1, h2⟩ | h)
    · exact ⟨r, hr, by rw [Nat.testBit_or, h1]; rfl, h2⟩
    · exact ⟨o, ho, by rw [Nat.testBit_or, n_two]; simp, h⟩
theorem lts_two {tt : Nat → Nat} {s : Nat} (hs : s < tt 1) : lts tt (2 ^ s) = ltt tt s := by
  have h := lts_or (tt := tt) (S := 0) hs
  have h0 : lts tt 0 = 0 := n_zero (fun x => by
    cases hb : (lts tt 0).testBit x
    · rfl
    · obtain ⟨r, _, h1, _⟩ := lts_bit.mp hb
      rw [Nat.zero_testBit] at h1; cases h1)
  rw [Nat.zero_or, h0, Nat.zero_or] at h
  exact h
/-- a walk of k steps from r, having been in S, to r', having been in S' -/
def WV (tt : Nat → Nat) : Nat → Nat → Nat → Nat → Nat → Prop
  | 0, r, S, r', S' => r = r' ∧ S = S'
  | k + 1, r, S, r', S' => ∃ o, adj tt r o = true ∧ WV tt k o (S ||| 2 ^ o) r' S'
theorem WV_or {tt : Nat → Nat} {X r' S' : Nat} : ∀ {k r S : Nat}, WV tt k r S r' S' → WV tt k r (S ||| X) r' (S' ||| X)
  | 0, r, S, h => ⟨h.1, by rw [h.2]⟩
  | k + 1, r, S, h => by
    obtain ⟨o, h1, h2⟩ := h
    refine ⟨o, h1, ?_⟩
    have := WV_or (X := X) h2
    rw [Nat.or_assoc, Nat.or_comm (2 ^ o) X, ← Nat.or_assoc] at this
    exact this
theorem WV_Wn {tt : Nat → Nat} (hW : HWf tt) {s S' : Nat} (hS : lts tt S' = 2 ^ tt 1 - 1) : ∀ {k r S : Nat}, WV tt k r S s S' → Wn tt s k (lts tt S) r
  | 0, r, S, h => ⟨by rw [h.2]; exact hS, h.1⟩
  | k + 1, r, S, h => by
    obtain ⟨o, h1, h2⟩ := h
    refine ⟨o, h1, ?_⟩
    rw [← lts_or (adj_lt hW h1)]
    exact WV_Wn hW hS h2
theorem or_in {S r : Nat} (h : S.testBit r = true) : S ||| 2 ^ r = S := n_ext (fun x => by
  rw [Nat.testBit_or, n_two]
  by_cases e : r = x
  · subst e; rw [h]; rfl
  · simp [e])
/-- a step aside and back -/
theorem WV_ins {tt : Nat → Nat} {a b r' S' : Nat} (hab : adj tt a b = true) : ∀ {k r S : Nat}, S.testBit r = true → WV tt k r S r' S' → (a = r ∨ (S'.testBit a = true ∧ S.testBit a = false)) → WV tt (k + 2) r S r' (S' ||| 2 ^ b) := by
  have side : ∀ {k r S : Nat}, S.testBit r = true → WV tt k r S r' S' → a = r → WV tt (k + 2) r S r' (S' ||| 2 ^ b) := by
    intro k r S hr h e
    subst e
    refine ⟨b, hab, a, by rw [adj_sym]; exact hab, ?_⟩
    have h1 : S ||| 2 ^ b ||| 2 ^ a = S ||| 2 ^ b := or_in (by rw [Nat.testBit_or, hr]; rfl)
    rw [h1]
    exact WV_or h
  intro k
  induction k with
  | zero =>
    intro r S hr h ha
    rcases ha with ha | ⟨h1, h2⟩
    · exact side hr h ha
    · rw [h.2, h1] at h2; cases h2
  | succ k ih =>
    intro r S hr h ha
    rcases ha with ha | ⟨h1, h2⟩
    · exact side hr h ha
    · obtain ⟨o, g1, g2⟩ := h
      refine ⟨o, g1, ih (by rw [Nat.testBit_or, n_two]; simp) g2 ?_⟩
      by_cases e : a = o
      · exact Or.inl e
      · refine Or.inr ⟨h1, ?_⟩
        rw [Nat.testBit_or, h2, n_two]
        have : ¬ o = a := fun h => e h.symm
        simp [this]
/-- a closed walk through all that can be come to -/
theorem WV_all {tt : Nat → Nat} (hW : HWf tt) {s : Nat} (hs : s < tt 1) : ∃ k S, k ≤ 2 * (tt 1 - 1) ∧ WV tt k s (2 ^ s) s S ∧ S < 2 ^ tt 1 ∧ S.testBit s = true ∧ ∀ a b, S.testBit a = true → adj tt a b = true → S.testBit b = true := by
  have hro := hW.ro
  have key : ∀ d S, pc S + d = tt 1 → S < 2 ^ tt 1 → S.testBit s = true → WV tt (2 * (pc S - 1)) s (2 ^ s) s S → ∃ k S, k ≤ 2 * (tt 1 - 1) ∧ WV tt k s (2 ^ s) s S ∧ S < 2 ^ tt 1 ∧ S.testBit s = true ∧ ∀ a b, S.testBit a = true → adj tt a b = true → S.testBit b = true := by
    intro d
    induction d with
    | zero =>
      intro S h1 h2 h3 h4
      refine ⟨_, S, by omega, h4, h2, h3, fun a b _ hab => ?_⟩
      have hb := adj_lt hW hab
      cases hx : S.testBit b
      · exfalso
        have h5 := pc_bit (s := S) (r := b) (by omega) hx
        have h6 := pc_le_n (n := tt 1) (by omega) (n_or_lt h2 (n_pw hb))
        omega
      · rfl
    | succ d ih =>
      intro S h1 h2 h3 h4
      by_cases hc : ∀ a b, S.testBit a = true → adj tt a b = true → S.testBit b = true
      · exact ⟨_, S, by omega, h4, h2, h3, hc⟩
      · have hx : ∃ a b, S.testBit a = true ∧ adj tt a b = true ∧ S.testBit b = false := by
          apply Classical.byContradiction
          intro hn
          apply hc
          intro a b ha hab
          cases hx : S.testBit b
          · exact absurd ⟨a, b, ha, hab, hx⟩ hn
          · rfl
        obtain ⟨a, b, ha, hab, hb⟩ := hx
        have hbl := adj_lt hW hab
        have hp := pc_bit (s := S) (r := b) (by omega) hb
        have hp1 : 0 < pc S := by
          rcases Nat.eq_zero_or_pos (pc S) with e | e
          · have := (pc_zero (by have := pw16 hro; omega)).mp e
            rw [this, Nat.zero_testBit] at h3; cases h3
          · exact e
        refine ih (S ||| 2 ^ b) (by omega) (n_or_lt h2 (n_pw hbl)) (by rw [Nat.testBit_or, h3]; rfl) ?_
        have h5 := WV_ins hab (k := 2 * (pc S - 1)) (r := s) (S := 2 ^ s) (by rw [n_two]; simp) h4 (by
          by_cases e : a = s
          · exact Or.inl e
          · refine Or.inr ⟨ha, ?_⟩
            rw [n_two]
            have : ¬ s = a := fun h => e h.symm
            simp [this])
        rw [hp, show 2 * (pc S + 1 - 1) = 2 * (pc S - 1) + 2 by omega]
        exact h5
  refine key (tt 1 - 1) (2 ^ s) (by rw [pc_two (by omega)]; omega) (n_pw hs) (by rw [n_two]; simp) ?_
  rw [pc_two (by omega)]
  exact ⟨rfl, rfl⟩
theorem way_wk {tt : Nat → Nat} (hW : HWf tt) {s r : Nat} (hs : s < tt 1) (h : way tt s r < FAR) : ∃ d, Wk tt (tt 1) s r d := by
  obtain ⟨d1, _⟩ := dst_wk hW (b := r) hs
  unfold way at h
  generalize dst tt s r = d at *
  by_cases hd : s < tt 1 ∧ d < 16
  · exact ⟨d, d1 hd.2⟩
  · rw [if_neg hd] at h; exact absurd h (Nat.lt_irrefl _)
theorem wk_way {tt : Nat → Nat} (hW : HWf tt) {s r L : Nat} (hs : s < tt 1) (h : Wk tt (tt 1) s r L) : way tt s r < FAR := by
  have h1 := ((dst_wk hW (b := r) hs).2 L h).2
  unfold way
  generalize dst tt s r = d at *
  rw [if_pos ⟨hs, h1⟩]
  unfold FAR
  omega
/-- near to s -/
def ner (tt : Nat → Nat) (s : Nat) : Nat := mk (fun r => decide (way tt s r < FAR)) (tt 1)
theorem W_some {tt : Nat → Nat} (hW : HWf tt) {s : Nat} (hs : s < tt 1) (hc : lts tt (mk (fun r => decide (way tt s r < FAR)) (tt 1)) = 2 ^ tt 1 - 1) : ∃ k, k ≤ 2 * (tt 1 - 1) ∧ Wn tt s k (ltt tt s) s := by
  obtain ⟨k, S, h1, h2, h3, h4, h5⟩ := WV_all hW hs
  refine ⟨k, h1, ?_⟩
  have hin : ∀ L a b, Wk tt (tt 1) a b L → S.testBit a = true → S.testBit b = true := by
    intro L
    induction L with
    | zero => intro a b h ha; rw [← show a = b from h]; exact ha
    | succ L ih =>
      intro a b h ha
      obtain ⟨c, c1, _, c3⟩ := Wk_s.mp h
      exact ih c b c3 (h5 a c ha c1)
  have hS : lts tt S = 2 ^ tt 1 - 1 := by
    refine n_ext (fun x => ?_)
    apply Bool.eq_iff_iff.mpr
    constructor
    · intro hx
      rw [Nat.testBit_two_pow_sub_one]
      apply decide_eq_true
      apply Classical.byContradiction
      intro hn
      rw [n_lt_bits (lts_lt hW S) (by omega)] at hx
      cases hx
    · intro hx
      rw [← hc] at hx
      obtain ⟨r, r1, r2, r3⟩ := lts_bit.mp hx
      refine lts_bit.mpr ⟨r, r1, ?_, r3⟩
      rw [mk_bit] at r2
      have r4 : way tt s r < FAR := by
        have := r2
        simp at this
        exact this.2
      obtain ⟨d, hd⟩ := way_wk hW hs r4
      exact hin d s r hd h4
  have := WV_Wn hW hS h2
  rw [lts_two hs] at this
  exact this
/-- and no way without -/
theorem W_none {tt : Nat → Nat} (hW : HWf tt) {s : Nat} (hs : s < tt 1) (hc : lts tt (mk (fun r => decide (way tt s r < FAR)) (tt 1)) ≠ 2 ^ tt 1 - 1) : ∀ k, ¬ Wn tt s k (ltt tt s) s := by
  intro k h
  have key : ∀ k L r, (∃ d, Wk tt (tt 1) s r d) → Wn tt s k L r → (∀ x, L.testBit x = true → (lts tt (mk (fun r => decide (way tt s r < FAR)) (tt 1))).testBit x = true) → lts tt (mk (fun r => decide (way tt s r < FAR)) (tt 1)) = 2 ^ tt 1 - 1 := by
    intro k
    induction k with
    | zero =>
      intro L r _ h hL
      refine n_ext (fun x => ?_)
      apply Bool.eq_iff_iff.mpr
      constructor
      · intro hx
        rw [Nat.testBit_two_pow_sub_one]
        apply decide_eq_true
        apply Classical.byContradiction
        intro hn
        rw [n_lt_bits (lts_lt hW _) (by omega)] at hx
        cases hx
      · intro hx
        exact hL x (by rw [h.1]; exact hx)
    | succ k ih =>
      intro L r hr h hL
      obtain ⟨o, h1, h2⟩ := h
      have ho := adj_lt hW h1
      obtain ⟨d, hd⟩ := hr
      have hd1 : Wk tt (tt 1) s o (d + 1) := Wk_cat hW hd (Wk_s.mpr ⟨o, h1, Or.inr rfl, rfl⟩)
      refine ih (L ||| ltt tt o) o ⟨d + 1, hd1⟩ h2 (fun x hx => ?_)
      rw [Nat.testBit_or, Bool.or_eq_true] at hx
      rcases hx with hx | hx
      · exact hL x hx
      · refine lts_bit.mpr ⟨o, ho, ?_, hx⟩
        rw [mk_bit]
        have hw : way tt s o < FAR := wk_way hW hs hd1
        simp [ho, hw]
  refine hc (key k _ _ ⟨0, rfl⟩ h (fun x hx => lts_bit.mpr ⟨s, hs, ?_, hx⟩))
  rw [mk_bit]
  have := way_self hW hs
  simp [hs, this, FAR]
theorem adj_ne {tt : Nat → Nat} (hW : HWf tt) {a b : Nat} (h : adj tt a b = true) : a ≠ b := by
  obtain ⟨j, hj, h1⟩ := adj_door h
  have := (hW.pane hj).2.2.1
  omega
theorem way_1 {tt : Nat → Nat} (hW : HWf tt) {a b : Nat} (ha : a < tt 1) : way tt a b = 1 ↔ adj tt a b = true := by
  obtain ⟨d1, d2⟩ := dst_wk hW (b := b) ha
  unfold way
  generalize dst tt a b = d at *
  constructor
  · intro h
    by_cases hd : a < tt 1 ∧ d < 16
    · rw [if_pos hd] at h
      subst h
      obtain ⟨c, c1, _, c3⟩ := Wk_s.mp (d1 hd.2)
      rw [← show c = b from c3]
      exact c1
    · rw [if_neg hd] at h
      exact absurd h (by decide)
  · intro h
    have h1 := d2 1 (Wk_s.mpr ⟨b, h, Or.inr rfl, rfl⟩)
    rw [if_pos ⟨ha, h1.2⟩]
    have : d ≠ 0 := fun e => by
      subst e
      exact adj_ne hW h (d1 h1.2)
    omega
