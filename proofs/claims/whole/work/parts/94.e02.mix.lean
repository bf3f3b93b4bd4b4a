/-! ===== mixed: ways as numbers, the pure part ===== -/
theorem kv_m (l : Nat) : nI l + -1 = kv l := by
  unfold kv
  exact (Int32.sub_eq_add_neg _ _).symm
def mlv (tt : Nat → Nat) (r : Nat) : Nat → Nat → Nat
  | 0, _ => 0
  | i + 1, p => mlv tt r i (p / mb tt) + GG tt (mbr tt (p % mb tt)) i r
def mpr (tt : Nat → Nat) : Nat → Nat → Nat
  | 0, w => w
  | j + 1, w => mpr tt j w / mb tt
def mzx (tt : Nat → Nat) : Nat → Nat → Nat
  | 0, p => p
  | j + 1, p => mzx tt j (p * mb tt)
section Mix
variable {tt : Nat → Nat}
theorem mb_pos : 0 < mb tt := Nat.succ_pos _
theorem mb_d {p d : Nat} (hd : d < mb tt) : (p * mb tt + d) / mb tt = p ∧ (p * mb tt + d) % mb tt = d := by
  constructor
  · rw [Nat.mul_comm, Nat.mul_add_div mb_pos, Nat.div_eq_of_lt hd, Nat.add_zero]
  · rw [Nat.mul_comm, Nat.mul_add_mod, Nat.mod_eq_of_lt hd]
theorem mpr_mono : ∀ {j w1 w2 : Nat}, w1 ≤ w2 → mpr tt j w1 ≤ mpr tt j w2
  | 0, _, _, h => h
  | j + 1, _, _, h => Nat.div_le_div_right (mpr_mono (j := j) h)
theorem Em_split {j p w : Nat} : mpr tt (j + 1) w = p ↔ ∃ d, d < mb tt ∧ mpr tt j w = p * mb tt + d := by
  rw [mpr]
  constructor
  · intro h
    refine ⟨mpr tt j w % mb tt, Nat.mod_lt _ mb_pos, ?_⟩
    rw [← h, Nat.mul_comm]
    exact (Nat.div_add_mod _ _).symm
  · rintro ⟨d, hd, h⟩
    rw [h]
    exact (mb_d hd).1
theorem Em_ord {j p d1 d2 w1 w2 : Nat} (h1 : mpr tt j w1 = p * mb tt + d1) (h2 : mpr tt j w2 = p * mb tt + d2) (h : d1 < d2) : w1 ≤ w2 := by
  apply Classical.byContradiction
  intro hc
  have := mpr_mono (tt := tt) (j := j) (show w2 ≤ w1 by omega)
  omega
theorem moi_c {i p d : Nat} (hd : d < mb tt) : moi tt (i + 1) (p * mb tt + d) = moi tt i p + mol tt d := by
  obtain ⟨h1, h2⟩ := mb_d (p := p) hd
  rw [moi, h1, h2]
theorem mla_c {i p d : Nat} (hd : d < mb tt) : mla tt (i + 1) (p * mb tt + d) = mla tt i p + (if d = 0 then 0 else 1) := by
  obtain ⟨h1, h2⟩ := mb_d (p := p) hd
  rw [mla, h1, h2]
theorem mlv_c {i p d r : Nat} (hd : d < mb tt) : mlv tt r (i + 1) (p * mb tt + d) = mlv tt r i p + GG tt (mbr tt d) i r := by
  obtain ⟨h1, h2⟩ := mb_d (p := p) hd
  rw [mlv, h1, h2]
theorem mdg_c {i p d r : Nat} (hd : d < mb tt) : mdg tt (i + 1) (p * mb tt + d) r = if r = i then d else mdg tt i p r := by
  obtain ⟨h1, h2⟩ := mb_d (p := p) hd
  rw [mdg, h1, h2]
theorem mdg_lt : ∀ {i p r : Nat}, mdg tt i p r < mb tt
  | 0, _, _ => mb_pos
  | i + 1, p, r => by
    rw [mdg]
    split
    · exact Nat.mod_lt _ mb_pos
    · exact mdg_lt (i := i)
theorem Em_mono {n : Nat} : ∀ {j i p w : Nat}, mpr tt j w = p → i + j = n → moi tt i p ≤ moi tt n w ∧ mla tt i p ≤ mla tt n w ∧ ∀ r, mlv tt r i p ≤ mlv tt r n w
  | 0, i, p, w, h, hn => by
    have e : i = n := by omega
    have e2 : w = p := h
    subst e e2
    exact ⟨Nat.le_refl _, Nat.le_refl _, fun r => Nat.le_refl _⟩
  | j + 1, i, p, w, h, hn => by
    obtain ⟨d, hd, h1⟩ := Em_split.mp h
    obtain ⟨a1, a2, a3⟩ := Em_mono (n := n) (j := j) (i := i + 1) h1 (by omega)
    rw [moi_c hd] at a1
    rw [mla_c hd] at a2
    refine ⟨by omega, by omega, fun r => ?_⟩
    have := a3 r
    rw [mlv_c hd] at this
    omega
theorem mzx_Em : ∀ {j p : Nat}, mpr tt j (mzx tt j p) = p
  | 0, p => rfl
  | j + 1, p => by
    rw [mzx, mpr, mzx_Em (j := j), Nat.mul_div_cancel _ mb_pos]
theorem mzx_v {n : Nat} : ∀ {j i p : Nat}, i + j = n → moi tt n (mzx tt j p) = moi tt i p ∧ mla tt n (mzx tt j p) = mla tt i p ∧ (∀ r, mlv tt r n (mzx tt j p) = mlv tt r i p) ∧ ∀ r, mdg tt n (mzx tt j p) r = if r < i then mdg tt i p r else 0
  | 0, i, p, hn => by
    have e : i = n := by omega
    subst e
    refine ⟨rfl, rfl, fun r => rfl, fun r => ?_⟩
    have key : ∀ i p r, ¬ r < i → mdg tt i p r = 0 := by
      intro i
      induction i with
      | zero => intro p r _; rfl
      | succ i ih =>
        intro p r hr
        rw [mdg, if_neg (by omega)]
        exact ih _ _ (by omega)
    by_cases h : r < i
    · rw [if_pos h]; rfl
    · rw [if_neg h]; exact key i p r h
  | j + 1, i, p, hn => by
    obtain ⟨a1, a2, a3, a4⟩ := mzx_v (n := n) (j := j) (i := i + 1) (p := p * mb tt) (by omega)
    have c1 : moi tt (i + 1) (p * mb tt) = moi tt i p + mol tt 0 := moi_c (tt := tt) (i := i) (p := p) (d := 0) mb_pos
    have c2 : mla tt (i + 1) (p * mb tt) = mla tt i p + 0 := mla_c (tt := tt) (i := i) (p := p) (d := 0) mb_pos
    rw [mzx]
    refine ⟨?_, ?_, fun r => ?_, fun r => ?_⟩
    · rw [a1, c1]; rfl
    · rw [a2, c2]
      rfl
    · have c3 : mlv tt r (i + 1) (p * mb tt) = mlv tt r i p + GG tt (mbr tt 0) i r := mlv_c (tt := tt) (i := i) (p := p) (d := 0) (r := r) mb_pos
      rw [a3, c3, show mbr tt 0 = 0 from rfl, GG_0]
      rfl
    · have c4 : mdg tt (i + 1) (p * mb tt) r = if r = i then 0 else mdg tt i p r := mdg_c (tt := tt) (i := i) (p := p) (d := 0) (r := r) mb_pos
      rw [a4, c4]
      by_cases h1 : r < i
      · rw [if_pos (by omega), if_neg (by omega), if_pos h1]
      · rw [if_neg h1]
        by_cases h2 : r = i
        · rw [if_pos (by omega), if_pos h2]
        · rw [if_neg (by omega)]
theorem mzx_mono : ∀ {j p1 p2 : Nat}, p1 ≤ p2 → mzx tt j p1 ≤ mzx tt j p2
  | 0, _, _, h => h
  | j + 1, _, _, h => mzx_mono (j := j) (Nat.mul_le_mul_right _ h)
theorem mzx_le : ∀ {j p w : Nat}, mpr tt j w = p → mzx tt j p ≤ w
  | 0, p, w, h => by
    have e : w = p := h
    rw [e]
    exact Nat.le_refl _
  | j + 1, p, w, h => by
    obtain ⟨d, hd, h1⟩ := Em_split.mp h
    have h2 := mzx_le (j := j) h1
    have h3 := mzx_mono (tt := tt) (j := j) (show p * mb tt ≤ p * mb tt + d by omega)
    rw [mzx]
    omega
/-- the brightest that a lamp in a is for r -/
def mgx (tt : Nat → Nat) (a r : Nat) : Nat → Nat
  | 0 => 0
  | k + 1 => max (mgx tt a r k) (GG tt (tt (248 + 2 * k)) a r)
theorem mgx_le {a r k : Nat} : ∀ {m : Nat}, k < m → GG tt (tt (248 + 2 * k)) a r ≤ mgx tt a r m
  | m + 1, h => by
    rw [mgx]
    by_cases e : k = m
    · subst e; exact Nat.le_max_right _ _
    · exact Nat.le_trans (mgx_le (m := m) (by omega)) (Nat.le_max_left _ _)
theorem mgx_d {a r d : Nat} (hd : d < mb tt) : GG tt (mbr tt d) a r ≤ mgx tt a r (tt 3) := by
  unfold mbr
  unfold mb at hd
  by_cases h : d = 0
  · rw [if_pos h, GG_0]; exact Nat.zero_le _
  · rw [if_neg h]; exact mgx_le (by omega)
/-- what lamps in the last j of n rooms give to r at most -/
def mtu (tt : Nat → Nat) (n r : Nat) : Nat → Nat
  | 0 => 0
  | j + 1 => mtu tt n r j + mgx tt (n - 1 - j) r (tt 3)
theorem mtu_le {n r : Nat} : ∀ {j i p w : Nat}, mpr tt j w = p → i + j = n → mlv tt r n w ≤ mlv tt r i p + mtu tt n r j
  | 0, i, p, w, h, hn => by
    have e : i = n := by omega
    have e2 : w = p := h
    subst e e2
    exact Nat.le_refl _
  | j + 1, i, p, w, h, hn => by
    obtain ⟨d, hd, h1⟩ := Em_split.mp h
    have a := mtu_le (n := n) (r := r) (j := j) (i := i + 1) h1 (by omega)
    rw [mlv_c hd] at a
    have g := mgx_d (a := i) (r := r) hd
    rw [mtu, show n - 1 - j = i by omega]
    omega
def mlo (tt : Nat → Nat) : Nat → Nat
  | 0 => 99999
  | k + 1 => min (mlo tt k) (tt (248 + 2 * k + 1))
theorem mlo_le {k : Nat} : ∀ {m : Nat}, k < m → mlo tt m ≤ tt (248 + 2 * k + 1)
  | m + 1, h => by
    rw [mlo]
    by_cases e : k = m
    · subst e; exact Nat.min_le_right _ _
    · exact Nat.le_trans (Nat.min_le_left _ _) (mlo_le (m := m) (by omega))
theorem mlo_top : ∀ m, mlo tt m ≤ 99999
  | 0 => Nat.le_refl _
  | m + 1 => Nat.le_trans (Nat.min_le_left _ _) (mlo_top m)
theorem mlo_d {d : Nat} (hd : d < mb tt) (h0 : d ≠ 0) : mlo tt (tt 3) ≤ mol tt d := by
  unfold mol
  unfold mb at hd
  rw [if_neg h0]
  exact mlo_le (by omega)
/-- one lamp more, or the same light -/
theorem Em_more {n : Nat} : ∀ {j i p w : Nat}, mpr tt j w = p → i + j = n → (moi tt i p + mlo tt (tt 3) ≤ moi tt n w ∧ mla tt i p + 1 ≤ mla tt n w) ∨ ∀ r, mlv tt r n w = mlv tt r i p
  | 0, i, p, w, h, hn => by
    have e : i = n := by omega
    have e2 : w = p := h
    subst e e2
    exact Or.inr (fun r => rfl)
  | j + 1, i, p, w, h, hn => by
    obtain ⟨d, hd, h1⟩ := Em_split.mp h
    obtain ⟨m1, m2, _⟩ := Em_mono (n := n) (j := j) (i := i + 1) h1 (by omega)
    rw [moi_c hd] at m1
    rw [mla_c hd] at m2
    by_cases h0 : d = 0
    · rcases Em_more (n := n) (j := j) (i := i + 1) h1 (by omega) with ⟨a1, a2⟩ | a
      · rw [moi_c hd] at a1
        rw [mla_c hd] at a2
        exact Or.inl ⟨by omega, by omega⟩
      · refine Or.inr (fun r => ?_)
        rw [a r, mlv_c hd, h0, show mbr tt 0 = 0 from rfl, GG_0]
        rfl
    · have := mlo_d hd h0
      rw [if_neg h0] at m2
      exact Or.inl ⟨by omega, by omega⟩
/-- other choices ahead, the same behind -/
theorem Em_swap {n : Nat} : ∀ {j i p s w : Nat}, mpr tt j w = p → i + j = n → ∃ w1, mpr tt j w1 = s ∧ moi tt n w1 + moi tt i p = moi tt n w + moi tt i s ∧ mla tt n w1 + mla tt i p = mla tt n w + mla tt i s ∧ ∀ r, mlv tt r n w1 + mlv tt r i p = mlv tt r n w + mlv tt r i s
  | 0, i, p, s, w, h, hn => by
    have e : i = n := by omega
    have e2 : w = p := h
    subst e e2
    exact ⟨s, rfl, Nat.add_comm _ _, Nat.add_comm _ _, fun r => Nat.add_comm _ _⟩
  | j + 1, i, p, s, w, h, hn => by
    obtain ⟨d, hd, h1⟩ := Em_split.mp h
    obtain ⟨w1, b1, b2, b3, b4⟩ := Em_swap (n := n) (j := j) (i := i + 1) (s := s * mb tt + d) h1 (by omega)
    rw [moi_c hd, moi_c hd] at b2
    rw [mla_c hd, mla_c hd] at b3
    refine ⟨w1, Em_split.mpr ⟨d, hd, b1⟩, by omega, by omega, fun r => ?_⟩
    have := b4 r
    rw [mlv_c hd, mlv_c hd] at this
    omega
end Mix
/-! the best so far, by what it costs -/
def BV (v : Nat → Nat) (V E : Nat → Prop) (b : Nat) (o : Option Nat) (b' : Nat) (o' : Option Nat) : Prop :=
  (∃ T, E T ∧ V T ∧ b' = v T ∧ o' = some T ∧ v T < b ∧ ∀ T2, E T2 → V T2 → v T < v T2 ∨ (v T = v T2 ∧ T ≤ T2)) ∨ (b' = b ∧ o' = o ∧ ∀ T, E T → V T → b ≤ v T)
theorem BV_seq {v : Nat → Nat} {V E E1 E2 : Nat → Prop} {b b1 b2 : Nat} {o o1 o2 : Option Nat} (h1 : BV v V E1 b o b1 o1) (h2 : BV v V E2 b1 o1 b2 o2) (hE : ∀ T, E T ↔ E1 T ∨ E2 T) (ho : ∀ T1 T2, E1 T1 → E2 T2 → T1 ≤ T2) : BV v V E b o b2 o2 := by
  rcases h1 with ⟨T1, a1, a2, a3, a4, a5, a6⟩ | ⟨a1, a2, a3⟩
  · rcases h2 with ⟨T2, c1, c2, c3, c4, c5, c6⟩ | ⟨c1, c2, c3⟩
    · refine Or.inl ⟨T2, (hE T2).mpr (Or.inr c1), c2, c3, c4, by omega, fun T hT hv => ?_⟩
      rcases (hE T).mp hT with h | h
      · have := a6 T h hv
        omega
      · exact c6 T h hv
    · refine Or.inl ⟨T1, (hE T1).mpr (Or.inl a1), a2, by omega, by rw [c2]; exact a4, a5, fun T hT hv => ?_⟩
      rcases (hE T).mp hT with h | h
      · exact a6 T h hv
      · have := c3 T h hv
        have := ho T1 T a1 h
        omega
  · subst a1 a2
    rcases h2 with ⟨T2, c1, c2, c3, c4, c5, c6⟩ | ⟨c1, c2, c3⟩
    · refine Or.inl ⟨T2, (hE T2).mpr (Or.inr c1), c2, c3, c4, c5, fun T hT hv => ?_⟩
      rcases (hE T).mp hT with h | h
      · have := a3 T h hv
        omega
      · exact c6 T h hv
    · refine Or.inr ⟨c1, c2, fun T hT hv => ?_⟩
      rcases (hE T).mp hT with h | h
      · exact a3 T h hv
      · exact c3 T h hv
theorem BV_no {v : Nat → Nat} {V E : Nat → Prop} {b : Nat} {o : Option Nat} (h : ∀ T, E T → V T → b ≤ v T) : BV v V E b o b o := Or.inr ⟨rfl, rfl, h⟩
theorem BV_dom {v : Nat → Nat} {V E E1 E2 : Nat → Prop} {b b1 : Nat} {o o1 : Option Nat} (h1 : BV v V E1 b o b1 o1) (hd : ∀ T, E2 T → V T → ∃ T1, E1 T1 ∧ V T1 ∧ v T1 < v T) (hE : ∀ T, E T ↔ E1 T ∨ E2 T) : BV v V E b o b1 o1 := by
  rcases h1 with ⟨T1, a1, a2, a3, a4, a5, a6⟩ | ⟨a1, a2, a3⟩
  · refine Or.inl ⟨T1, (hE T1).mpr (Or.inl a1), a2, a3, a4, a5, fun T hT hv => ?_⟩
    rcases (hE T).mp hT with h | h
    · exact a6 T h hv
    · obtain ⟨T3, d1, d2, d3⟩ := hd T h hv
      have := a6 T3 d1 d2
      omega
  · refine Or.inr ⟨a1, a2, fun T hT hv => ?_⟩
    rcases (hE T).mp hT with h | h
    · exact a3 T h hv
    · obtain ⟨T3, d1, d2, d3⟩ := hd T h hv
      have := a3 T3 d1 d2
      omega
theorem BV_cong {v : Nat → Nat} {V E E' : Nat → Prop} {b b' : Nat} {o o' : Option Nat} (h : BV v V E b o b' o') (hE : ∀ T, E' T ↔ E T) : BV v V E' b o b' o' := by
  rcases h with ⟨T1, a1, a2, a3, a4, a5, a6⟩ | ⟨a1, a2, a3⟩
  · exact Or.inl ⟨T1, (hE T1).mpr a1, a2, a3, a4, a5, fun T hT hv => a6 T ((hE T).mp hT) hv⟩
  · exact Or.inr ⟨a1, a2, fun T hT hv => a3 T ((hE T).mp hT) hv⟩
/-- all rooms are right -/
def VM (tt L M : Nat → Nat) (n w : Nat) : Prop := ∀ r, r < 16 → L r ≤ mlv tt r n w ∧ mlv tt r n w ≤ M r
section Ms
variable {tt L M : Nat → Nat} {n i j p b : Nat} {o : Option Nat}
theorem ms_found (hn : i + j = n) (hv : VM tt L M n (mzx tt j p)) (hb : mcv tt i p < b) : BV (mcv tt n) (VM tt L M n) (fun w => mpr tt j w = p) b o (mcv tt i p) (some (mzx tt j p)) := by
  obtain ⟨z1, z2, _⟩ := mzx_v (tt := tt) (p := p) hn
  have e : mcv tt n (mzx tt j p) = mcv tt i p := by unfold mcv; rw [z1, z2]
  refine Or.inl ⟨mzx tt j p, mzx_Em, hv, e.symm, rfl, by rw [e]; exact hb, fun w hw _ => ?_⟩
  obtain ⟨m1, m2, _⟩ := Em_mono hw hn
  have h2 := mzx_le hw
  rw [e]
  unfold mcv
  omega
theorem ms_not (hn : i + j = n) (hb : b ≤ mcv tt i p) : BV (mcv tt n) (VM tt L M n) (fun w => mpr tt j w = p) b o b o := BV_no (fun w hw _ => by
  obtain ⟨m1, m2, _⟩ := Em_mono hw hn
  unfold mcv at hb ⊢
  omega)
theorem ms_more (hn : i + j = n) (hl : ∃ r, r < 16 ∧ mlv tt r i p < L r) (hb : b ≤ 100 * (moi tt i p + mlo tt (tt 3)) + (mla tt i p + 1)) : BV (mcv tt n) (VM tt L M n) (fun w => mpr tt j w = p) b o b o := BV_no (fun w hw hv => by
  obtain ⟨r, hr, h1⟩ := hl
  rcases Em_more hw hn with ⟨a1, a2⟩ | a
  · unfold mcv
    omega
  · have := (hv r hr).1
    rw [a r] at this
    omega)
theorem ms_zero (hn : i + 0 = n) (hl : ∃ r, r < 16 ∧ mlv tt r i p < L r) : BV (mcv tt n) (VM tt L M n) (fun w => mpr tt 0 w = p) b o b o := BV_no (fun w hw hv => by
  obtain ⟨r, hr, h1⟩ := hl
  have e : w = p := hw
  have e2 : i = n := hn
  subst e e2
  have := (hv r hr).1
  omega)
theorem ms_up (hn : i + j = n) (hl : ∃ r, r < 16 ∧ mlv tt r i p + mtu tt n r j < L r) : ∀ w, mpr tt j w = p → VM tt L M n w → b ≤ mcv tt n w := fun w hw hv => by
  obtain ⟨r, hr, h1⟩ := hl
  have h2 := (hv r hr).1
  have h3 := mtu_le (r := r) hw hn
  omega
theorem ms_bear (hn : i + j = n) (hl : ∃ r, r < 16 ∧ M r < mlv tt r i p) : ∀ w, mpr tt j w = p → VM tt L M n w → b ≤ mcv tt n w := fun w hw hv => by
  obtain ⟨r, hr, h1⟩ := hl
  have h2 := (hv r hr).2
  have h3 := (Em_mono hw hn).2.2 r
  omega
theorem ms_dom {d : Nat} (hd : d < mb tt) (h0 : d ≠ 0) (hn : i + 1 + j = n) (hs : ∀ r, r < 16 → mlv tt r i p < L r → (ltt tt i).testBit r = false) : ∀ w, mpr tt j w = p * mb tt + d → VM tt L M n w → ∃ w1, mpr tt j w1 = p * mb tt + 0 ∧ VM tt L M n w1 ∧ mcv tt n w1 < mcv tt n w := fun w hw hv => by
  obtain ⟨w1, b1, b2, b3, b4⟩ := Em_swap (s := p * mb tt + 0) hw hn
  rw [moi_c hd, moi_c mb_pos] at b2
  rw [mla_c hd, mla_c mb_pos, if_neg h0, if_pos rfl] at b3
  refine ⟨w1, b1, fun r hr => ?_, ?_⟩
  · obtain ⟨h1, h2⟩ := hv r hr
    have h3 := b4 r
    rw [mlv_c hd, mlv_c mb_pos, show mbr tt 0 = 0 from rfl, GG_0] at h3
    have h4 := (Em_mono b1 hn).2.2 r
    rw [mlv_c mb_pos, show mbr tt 0 = 0 from rfl, GG_0] at h4
    refine ⟨?_, by omega⟩
    by_cases hk : mlv tt r i p < L r
    · have := GG_lit (b := mbr tt d) (hs r hr hk)
      omega
    · omega
  · have e : mol tt 0 = 0 := rfl
    unfold mcv
    omega
end Ms
