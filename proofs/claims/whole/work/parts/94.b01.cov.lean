/-! ===== bit counts of sets; the fewest that cover ===== -/
theorem pc_or {a b : Nat} (h : a &&& b = 0) : pc (a ||| b) = pc a + pc b := by
  unfold pc
  rw [← fb_ct_or]
  · exact fb_ct_cong (fun k _ => Nat.testBit_or a b k)
  · intro k _ hk
    have : (a &&& b).testBit k = true := by rw [Nat.testBit_and, hk.1, hk.2]; rfl
    rw [h, Nat.zero_testBit] at this
    cases this
theorem pc_sub {a b : Nat} (h : ∀ i, a.testBit i = true → b.testBit i = true) : pc a ≤ pc b := fb_ct_sub (fun k _ => h k)
theorem and_z {a b : Nat} (h : ∀ i, a.testBit i = true → b.testBit i = false) : a &&& b = 0 := n_zero (fun i => by
  rw [Nat.testBit_and]
  cases ha : a.testBit i
  · rfl
  · rw [h i ha]; rfl)
theorem z_and {a b i : Nat} (h : a &&& b = 0) (ha : a.testBit i = true) : b.testBit i = false := by
  have : (a &&& b).testBit i = false := by rw [h, Nat.zero_testBit]
  rw [Nat.testBit_and, ha] at this
  simpa using this
theorem sdf_or_and (a b : Nat) : a = sdf a b ||| (a &&& b) := n_ext (fun i => by
  rw [Nat.testBit_or, sdf_bit, Nat.testBit_and]
  cases a.testBit i <;> cases b.testBit i <;> rfl)
theorem pc_sdf (a b : Nat) : pc (sdf a b) + pc (a &&& b) = pc a := by
  rw [← pc_or]
  · rw [← sdf_or_and]
  · apply and_z
    intro i hi
    rw [sdf_bit] at hi
    rw [Nat.testBit_and]
    cases ha : a.testBit i
    · rfl
    · cases hb : b.testBit i
      · rfl
      · rw [ha, hb] at hi; cases hi
theorem pc_two {k : Nat} (hk : k < 64) : pc (2 ^ k) = 1 := by
  have e : 2 ^ k = 2 ^ (k + 1) - 1 - (2 ^ k - 1) := by
    rw [Nat.pow_succ]
    have := Nat.two_pow_pos k
    omega
  have h1 : pc (2 ^ (k + 1) - 1) = k + 1 := pc_ones (by omega)
  have h2 : pc (2 ^ k - 1) = k := pc_ones (by omega)
  have h3 : (2 ^ k) &&& (2 ^ k - 1) = 0 := and_z (fun i hi => by
    rw [n_two] at hi
    rw [Nat.testBit_two_pow_sub_one]
    have : k = i := of_decide_eq_true hi
    simp [this])
  have h4 : (2 ^ k) ||| (2 ^ k - 1) = 2 ^ (k + 1) - 1 := n_ext (fun i => by
    rw [Nat.testBit_or, n_two, Nat.testBit_two_pow_sub_one, Nat.testBit_two_pow_sub_one]
    by_cases h1 : k = i
    · subst h1; simp
    · by_cases h2 : i < k
      · have : i < k + 1 := by omega
        simp [h1, h2, this]
      · have : ¬ i < k + 1 := by omega
        simp [h1, h2, this])
  have h5 := pc_or h3
  rw [h4, h1, h2] at h5
  omega
theorem top_split {T i : Nat} (hT : T < 2 ^ (i + 1)) (hb : T.testBit i = true) : ∃ T', T' < 2 ^ i ∧ T = T' ||| 2 ^ i := by
  refine ⟨sdf T (2 ^ i), n_bits_lt (fun k hk => ?_), n_ext (fun k => ?_)⟩
  · rw [sdf_bit, n_two]
    by_cases e : i = k
    · simp [e]
    · rw [n_lt_bits hT (by omega)]; rfl
  · rw [Nat.testBit_or, sdf_bit, n_two]
    by_cases e : i = k
    · subst e; simp [hb]
    · simp [e]
theorem top_low {T i : Nat} (hT : T < 2 ^ (i + 1)) (hb : T.testBit i = false) : T < 2 ^ i := n_bits_lt (fun k hk => by
  by_cases e : k = i
  · subst e; exact hb
  · exact n_lt_bits hT (by omega))
theorem or_top {T' i : Nat} (h : T' < 2 ^ i) : T' ||| 2 ^ i = T' + 2 ^ i := by
  have := Nat.two_pow_add_eq_or_of_lt h 1
  rw [Nat.mul_one] at this
  rw [Nat.or_comm, ← this, Nat.add_comm]
theorem pc_top {T' i : Nat} (hi : i < 64) (h : T' < 2 ^ i) : pc (T' ||| 2 ^ i) = pc T' + 1 := by
  rw [pc_or, pc_two hi]
  apply and_z
  intro k hk
  rw [n_two]
  by_cases e : i = k
  · subst e
    rw [n_lt_bits h (Nat.le_refl _)] at hk
    cases hk
  · simp [e]
/-- by how many of S, below i, x is given -/
def cnt (g : Nat → Nat) (S x : Nat) (i : Nat) : Nat := fb_ct (fun r => S.testBit r && (g r).testBit x) i
def Cov (g : Nat → Nat) (i one two S : Nat) : Prop := ∀ x, (one.testBit x = true → 1 ≤ cnt g S x i) ∧ (two.testBit x = true → 2 ≤ cnt g S x i)
theorem cnt_lo {g : Nat → Nat} {S x i : Nat} (h : S.testBit i = false) : cnt g S x (i + 1) = cnt g S x i := by
  unfold cnt
  rw [fb_ct_succ, h]
  rfl
theorem cnt_hi {g : Nat → Nat} {T x i : Nat} (h : T < 2 ^ i) : cnt g (T ||| 2 ^ i) x (i + 1) = cnt g T x i + (if (g i).testBit x then 1 else 0) := by
  unfold cnt
  rw [fb_ct_succ]
  have e1 : (T ||| 2 ^ i).testBit i = true := by rw [Nat.testBit_or, n_two]; simp
  have e2 : fb_ct (fun r => (T ||| 2 ^ i).testBit r && (g r).testBit x) i = fb_ct (fun r => T.testBit r && (g r).testBit x) i := fb_ct_cong (fun k hk => by
    rw [Nat.testBit_or, n_two]
    have : ¬ i = k := by omega
    simp [this])
  rw [e1, e2]
  simp
theorem Cov_lo {g : Nat → Nat} {i one two S : Nat} (h : S < 2 ^ i) : Cov g (i + 1) one two S ↔ Cov g i one two S := by
  have hb : S.testBit i = false := n_lt_bits h (Nat.le_refl _)
  unfold Cov
  simp only [cnt_lo hb]
theorem Cov_hi {g : Nat → Nat} {i one two T : Nat} (h : T < 2 ^ i) (hd : one &&& two = 0) : Cov g (i + 1) one two (T ||| 2 ^ i) ↔ Cov g i (sdf one (g i) ||| (two &&& g i)) (sdf two (g i)) T := by
  unfold Cov
  constructor
  · intro hc x
    obtain ⟨h1, h2⟩ := hc x
    rw [cnt_hi h] at h1 h2
    rw [Nat.testBit_or, sdf_bit, sdf_bit, Nat.testBit_and]
    constructor
    · intro hx
      cases hg : (g i).testBit x
      · rw [hg] at hx h1
        simp at hx h1
        exact h1 hx
      · rw [hg] at hx h2
        simp at hx h2
        have := h2 hx
        omega
    · intro hx
      cases hg : (g i).testBit x
      · rw [hg] at hx h2
        simp at hx h2
        exact h2 hx
      · rw [hg] at hx
        simp at hx
  · intro hc x
    obtain ⟨h1, h2⟩ := hc x
    rw [cnt_hi h]
    rw [Nat.testBit_or, sdf_bit, Nat.testBit_and] at h1
    rw [sdf_bit] at h2
    cases hg : (g i).testBit x
    · rw [hg] at h1 h2
      simp at h1 h2 ⊢
      exact ⟨h1, h2⟩
    · rw [hg] at h1 h2
      simp at h1 h2 ⊢
      exact h1
theorem dis_hi {one two a : Nat} (hd : one &&& two = 0) : (sdf one a ||| (two &&& a)) &&& sdf two a = 0 := and_z (fun i hi => by
  rw [Nat.testBit_or, sdf_bit, Nat.testBit_and] at hi
  rw [sdf_bit]
  cases ha : a.testBit i
  · rw [ha] at hi
    simp at hi ⊢
    exact z_and hd hi
  · simp)
def twc (g : Nat → Nat) : Nat → Nat
  | 0 => 0
  | i + 1 => twc g i ||| (orf g i &&& g i)
def wid (g : Nat → Nat) : Nat → Nat
  | 0 => 0
  | i + 1 => max (wid g i) (pc (g i))
theorem cnt_once {g : Nat → Nat} {S x : Nat} : ∀ i, 1 ≤ cnt g S x i → (orf g i).testBit x = true := by
  intro i h
  rw [orf_bit]
  obtain ⟨k, hk, h1⟩ := fb_ct_pos.mp (show 0 < cnt g S x i from h)
  exact ⟨k, hk, by cases hb : (g k).testBit x; · rw [hb] at h1; simp at h1
                   · rfl⟩
theorem cnt_twice {g : Nat → Nat} {S x : Nat} : ∀ i, 2 ≤ cnt g S x i → (twc g i).testBit x = true
  | 0, h => absurd h (by unfold cnt; exact Nat.not_succ_le_zero 1)
  | i + 1, h => by
    rw [twc, Nat.testBit_or, Nat.testBit_and]
    unfold cnt at h
    rw [fb_ct_succ] at h
    by_cases h2 : 2 ≤ fb_ct (fun r => S.testBit r && (g r).testBit x) i
    · rw [cnt_twice i h2]; rfl
    · cases hs : (S.testBit i && (g i).testBit x)
      · rw [hs] at h
        simp at h
        omega
      · have h1 : 1 ≤ cnt g S x i := by
          rw [hs] at h
          simp at h
          unfold cnt
          omega
        rw [cnt_once i h1]
        cases hg : (g i).testBit x
        · rw [hg] at hs; simp at hs
        · simp
theorem wid_mono {g : Nat → Nat} (i : Nat) : wid g i ≤ wid g (i + 1) := Nat.le_max_left _ _
theorem Cov_cnt {g : Nat → Nat} : ∀ (i one two T : Nat), i ≤ 64 → one < 2 ^ 64 → two < 2 ^ 64 → one &&& two = 0 → T < 2 ^ i → Cov g i one two T → pc one + 2 * pc two ≤ pc T * wid g i
  | 0, one, two, T, _, h1, h2, _, _, hc => by
    have e1 : one = 0 := n_zero (fun x => by
      cases hx : one.testBit x
      · rfl
      · exact absurd ((hc x).1 hx) (by unfold cnt; exact Nat.not_succ_le_zero 0))
    have e2 : two = 0 := n_zero (fun x => by
      cases hx : two.testBit x
      · rfl
      · exact absurd ((hc x).2 hx) (by unfold cnt; exact Nat.not_succ_le_zero 1))
    rw [e1, e2, pc_0]
    omega
  | i + 1, one, two, T, hi, h1, h2, hd, hT, hc => by
    cases hb : T.testBit i
    · have hl := top_low hT hb
      have := Cov_cnt i one two T (by omega) h1 h2 hd hl ((Cov_lo hl).mp hc)
      exact Nat.le_trans this (Nat.mul_le_mul_left _ (wid_mono i))
    · obtain ⟨T', hT', rfl⟩ := top_split hT hb
      have hc' := (Cov_hi hT' hd).mp hc
      have ih := Cov_cnt i _ _ T' (by omega) (n_or_lt (sdf_lt h1) (n_and_ltl h2)) (sdf_lt h2) (dis_hi hd) hT' hc'
      have e1 : pc (sdf one (g i) ||| (two &&& g i)) = pc (sdf one (g i)) + pc (two &&& g i) := pc_or (and_z (fun k hk => by
        rw [sdf_bit] at hk
        rw [Nat.testBit_and]
        cases ha : (g i).testBit k
        · simp
        · rw [ha] at hk; simp at hk))
      have e2 := pc_sdf one (g i)
      have e3 := pc_sdf two (g i)
      have e4 : pc (one &&& g i) + pc (two &&& g i) ≤ pc (g i) := by
        rw [← pc_or]
        · exact pc_sub (fun k hk => by
            rw [Nat.testBit_or, Nat.testBit_and, Nat.testBit_and] at hk
            cases ha : (g i).testBit k
            · rw [ha] at hk; simp at hk
            · rfl)
        · exact and_z (fun k hk => by
            rw [Nat.testBit_and] at hk ⊢
            cases ho : one.testBit k
            · rw [ho] at hk; simp at hk
            · rw [z_and hd ho]; rfl)
      have e5 : pc (g i) ≤ wid g (i + 1) := Nat.le_max_right _ _
      have e6 : pc T' * wid g i ≤ pc T' * wid g (i + 1) := Nat.mul_le_mul_left _ (wid_mono i)
      rw [pc_top (by omega) hT', Nat.add_mul, Nat.one_mul]
      omega
/-- the search -/
def sk (g : Nat → Nat) : Nat → Nat → Nat → Nat → Option Nat
  | 0, one, two, _ => if one ||| two = 0 then some 0 else none
  | i + 1, one, two, left => if one ||| two = 0 then some 0 else if sdf (one ||| two) (orf g (i + 1)) = 0 ∧ sdf two (twc g (i + 1)) = 0 ∧ pc one + 2 * pc two ≤ left * wid g (i + 1) then (match sk g i one two left with
      | some s => some s
      | none => if g i &&& (one ||| two) = 0 then none else (sk g i (sdf one (g i) ||| (two &&& g i)) (sdf two (g i)) (left - 1)).map (fun s => s ||| 2 ^ i)) else none
def skOK (g : Nat → Nat) (i one two left : Nat) (o : Option Nat) : Prop := match o with
  | none => ∀ T, T < 2 ^ i → Cov g i one two T → ¬ pc T ≤ left
  | some S => S < 2 ^ i ∧ Cov g i one two S ∧ pc S ≤ left ∧ ∀ T, T < 2 ^ i → Cov g i one two T → pc T ≤ left → S ≤ T
theorem or_0 {a b : Nat} (h : a ||| b = 0) : a = 0 ∧ b = 0 := by
  constructor
  · exact n_zero (fun i => by have : (a ||| b).testBit i = false := by rw [h, Nat.zero_testBit]
                              rw [Nat.testBit_or] at this; cases ha : a.testBit i; · rfl
                              · rw [ha] at this; simp at this)
  · exact n_zero (fun i => by have : (a ||| b).testBit i = false := by rw [h, Nat.zero_testBit]
                              rw [Nat.testBit_or] at this; cases ha : b.testBit i; · rfl
                              · rw [ha] at this; simp at this)
theorem sdf_0 {a b : Nat} : sdf a b = 0 ↔ ∀ i, a.testBit i = true → b.testBit i = true := by
  constructor
  · intro h i hi
    have : (sdf a b).testBit i = false := by rw [h, Nat.zero_testBit]
    rw [sdf_bit, hi] at this
    simpa using this
  · intro h
    exact n_zero (fun i => by
      rw [sdf_bit]
      cases ha : a.testBit i
      · rfl
      · rw [h i ha]; rfl)
theorem skOK_0 {g : Nat → Nat} {i one two left : Nat} (h : one ||| two = 0) : skOK g i one two left (some 0) := by
  obtain ⟨rfl, rfl⟩ := or_0 h
  refine ⟨Nat.two_pow_pos i, fun x => ⟨fun hx => ?_, fun hx => ?_⟩, by rw [pc_0]; omega, fun T _ _ _ => Nat.zero_le _⟩
  · rw [Nat.zero_testBit] at hx; cases hx
  · rw [Nat.zero_testBit] at hx; cases hx
theorem sk_ok {g : Nat → Nat} : ∀ (i one two left : Nat), i ≤ 64 → one < 2 ^ 64 → two < 2 ^ 64 → one &&& two = 0 → skOK g i one two left (sk g i one two left)
  | 0, one, two, left, hi, h1, h2, hd => by
    rw [sk]
    by_cases h : one ||| two = 0
    · rw [if_pos h]
      exact skOK_0 h
    · rw [if_neg h]
      intro T hT hc _
      have e1 : one = 0 := n_zero (fun x => by
        cases hx : one.testBit x
        · rfl
        · exact absurd ((hc x).1 hx) (by unfold cnt; exact Nat.not_succ_le_zero 0))
      have e2 : two = 0 := n_zero (fun x => by
        cases hx : two.testBit x
        · rfl
        · exact absurd ((hc x).2 hx) (by unfold cnt; exact Nat.not_succ_le_zero 1))
      exact h (by rw [e1, e2]; rfl)
  | i + 1, one, two, left, hi, h1, h2, hd => by
    rw [sk]
    by_cases h : one ||| two = 0
    · rw [if_pos h]
      exact skOK_0 h
    · rw [if_neg h]
      by_cases hp : sdf (one ||| two) (orf g (i + 1)) = 0 ∧ sdf two (twc g (i + 1)) = 0 ∧ pc one + 2 * pc two ≤ left * wid g (i + 1)
      · rw [if_pos hp]
        have ih1 := sk_ok (g := g) i one two left (by omega) h1 h2 hd
        have hpow : 2 ^ i < 2 ^ (i + 1) := n_pw (by omega)
        cases hs : sk g i one two left with
        | some S =>
          rw [hs] at ih1
          obtain ⟨a1, a2, a3, a4⟩ := ih1
          refine ⟨by omega, (Cov_lo a1).mpr a2, a3, fun T hT hc hl => ?_⟩
          cases hb : T.testBit i
          · have hl2 := top_low hT hb
            exact a4 T hl2 ((Cov_lo hl2).mp hc) hl
          · obtain ⟨T', hT', rfl⟩ := top_split hT hb
            rw [or_top hT']
            omega
        | none =>
          rw [hs] at ih1
          by_cases hg : g i &&& (one ||| two) = 0
          · simp only [if_pos hg]
            intro T hT hc hl
            cases hb : T.testBit i
            · have hl2 := top_low hT hb
              exact ih1 T hl2 ((Cov_lo hl2).mp hc) hl
            · obtain ⟨T', hT', rfl⟩ := top_split hT hb
              have hc' := (Cov_hi hT' hd).mp hc
              have d1 : ∀ x, one.testBit x = true → (g i).testBit x = false := fun x hx => by
                cases hgx : (g i).testBit x
                · rfl
                · have := z_and hg hgx
                  rw [Nat.testBit_or, hx] at this
                  simp at this
              have d2 : ∀ x, two.testBit x = true → (g i).testBit x = false := fun x hx => by
                cases hgx : (g i).testBit x
                · rfl
                · have := z_and hg hgx
                  rw [Nat.testBit_or, hx] at this
                  simp at this
              refine ih1 T' hT' (fun x => ⟨fun hx => (hc' x).1 ?_, fun hx => (hc' x).2 ?_⟩) ?_
              · rw [Nat.testBit_or, sdf_bit, hx, d1 x hx]; rfl
              · rw [sdf_bit, hx, d2 x hx]; rfl
              · rw [pc_top (by omega) hT'] at hl
                omega
          · simp only [if_neg hg]
            have ih2 := sk_ok (g := g) i (sdf one (g i) ||| (two &&& g i)) (sdf two (g i)) (left - 1) (by omega) (n_or_lt (sdf_lt h1) (n_and_ltl h2)) (sdf_lt h2) (dis_hi hd)
            have hleft : 0 < left := by
              rcases Nat.eq_zero_or_pos left with e | e
              · exfalso
                rw [e, Nat.zero_mul] at hp
                have p1 : pc one = 0 := by omega
                have p2 : pc two = 0 := by omega
                rw [pc_zero h1] at p1
                rw [pc_zero h2] at p2
                exact h (by rw [p1, p2]; rfl)
              · exact e
            cases hs2 : sk g i (sdf one (g i) ||| (two &&& g i)) (sdf two (g i)) (left - 1) with
            | none =>
              rw [hs2] at ih2
              show skOK g (i + 1) one two left none
              intro T hT hc hl
              cases hb : T.testBit i
              · have hl2 := top_low hT hb
                exact ih1 T hl2 ((Cov_lo hl2).mp hc) hl
              · obtain ⟨T', hT', rfl⟩ := top_split hT hb
                rw [pc_top (by omega) hT'] at hl
                exact ih2 T' hT' ((Cov_hi hT' hd).mp hc) (by omega)
            | some S =>
              rw [hs2] at ih2
              obtain ⟨a1, a2, a3, a4⟩ := ih2
              show skOK g (i + 1) one two left (some (S ||| 2 ^ i))
              refine ⟨n_or_lt (by omega) (n_pw (by omega)), (Cov_hi a1 hd).mpr a2, by rw [pc_top (by omega) a1]; omega, fun T hT hc hl => ?_⟩
              cases hb : T.testBit i
              · have hl2 := top_low hT hb
                exact absurd hl (ih1 T hl2 ((Cov_lo hl2).mp hc))
              · obtain ⟨T', hT', rfl⟩ := top_split hT hb
                rw [pc_top (by omega) hT'] at hl
                have := a4 T' hT' ((Cov_hi hT' hd).mp hc) (by omega)
                rw [or_top hT', or_top a1]
                omega
      · rw [if_neg hp]
        intro T hT hc hl
        apply hp
        refine ⟨sdf_0.mpr (fun x hx => ?_), sdf_0.mpr (fun x hx => cnt_twice _ ((hc x).2 hx)), ?_⟩
        · rw [Nat.testBit_or] at hx
          cases ho : one.testBit x
          · rw [ho] at hx
            exact cnt_once _ (Nat.le_trans (by decide) ((hc x).2 (by simpa using hx)))
          · exact cnt_once _ ((hc x).1 ho)
        · exact Nat.le_trans (Cov_cnt (i + 1) one two T hi h1 h2 hd hT hc) (Nat.mul_le_mul_right _ hl)
/-- the best of all sets below 2 ^ n that V likes: the fewest, of these the least -/
def BestF (V : Nat → Prop) (n : Nat) (o : Option Nat) : Prop := match o with
  | none => ∀ T, T < 2 ^ n → ¬ V T
  | some S => S < 2 ^ n ∧ V S ∧ ∀ T, T < 2 ^ n → V T → pc S < pc T ∨ (pc S = pc T ∧ S ≤ T)
theorem BestF_one {V : Nat → Prop} {n : Nat} {o1 o2 : Option Nat} (h1 : BestF V n o1) (h2 : BestF V n o2) : o1 = o2 := by
  cases o1 with
  | none =>
    cases o2 with
    | none => rfl
    | some S => exact absurd h2.2.1 (h1 S h2.1)
  | some S =>
    cases o2 with
    | none => exact absurd h1.2.1 (h2 S h1.1)
    | some S2 =>
      have a := h1.2.2 S2 h2.1 h2.2.1
      have b := h2.2.2 S h1.1 h1.2.1
      congr 1
      omega
theorem BestF_cong {V W : Nat → Prop} {n : Nat} {o : Option Nat} (h : ∀ T, T < 2 ^ n → (V T ↔ W T)) (H : BestF V n o) : BestF W n o := by
  cases o with
  | none => exact fun T hT hw => H T hT ((h T hT).mpr hw)
  | some S => exact ⟨H.1, (h S H.1).mp H.2.1, fun T hT hw => H.2.2 T hT ((h T hT).mpr hw)⟩
/-- sets are tried by one more at a time -/
def fwl (g : Nat → Nat) (n one two : Nat) : Nat → Nat → Option Nat
  | 0, _ => none
  | k + 1, m => match sk g n one two m with
    | some s => some s
    | none => fwl g n one two k (m + 1)
theorem pc_le_n {T n : Nat} (hn : n ≤ 64) (h : T < 2 ^ n) : pc T ≤ n := by
  rw [pc_eq hn h]
  exact fb_ct_le _ _
theorem fwl_ok {g : Nat → Nat} {n one two : Nat} (hn : n ≤ 64) (h1 : one < 2 ^ 64) (h2 : two < 2 ^ 64) (hd : one &&& two = 0) : ∀ k m, m + k = n + 1 → (∀ T, T < 2 ^ n → Cov g n one two T → m ≤ pc T) → BestF (Cov g n one two) n (fwl g n one two k m)
  | 0, m, hm, hT => fun T hT2 hc => by
    have := hT T hT2 hc
    have := pc_le_n hn hT2
    omega
  | k + 1, m, hm, hT => by
    rw [fwl]
    have ih := sk_ok (g := g) n one two m hn h1 h2 hd
    cases hs : sk g n one two m with
    | some S =>
      rw [hs] at ih
      obtain ⟨a1, a2, a3, a4⟩ := ih
      refine ⟨a1, a2, fun T hT2 hc => ?_⟩
      have b1 := hT T hT2 hc
      by_cases e : pc S < pc T
      · exact Or.inl e
      · have b2 := hT S a1 a2
        exact Or.inr ⟨by omega, a4 T hT2 hc (by omega)⟩
    | none =>
      rw [hs] at ih
      refine fwl_ok hn h1 h2 hd k (m + 1) (by omega) (fun T hT2 hc => ?_)
      have := ih T hT2 hc
      omega
