/-! ===== LONE ===== -/
/-- no two of S clash -/
def Ind (cl : Nat → Nat) (S : Nat) : Prop := ∀ a b, S.testBit a = true → S.testBit b = true → (cl a).testBit b = false
def skl (cl : Nat → Nat) : Nat → Nat → Nat → Option Nat
  | 0, _, left => if left = 0 then some 0 else none
  | i + 1, free, left => if left = 0 then some 0 else if left ≤ pc (free &&& (2 ^ (i + 1) - 1)) then (match skl cl i free left with
      | some s => some s
      | none => if free.testBit i then (skl cl i (sdf free (cl i)) (left - 1)).map (fun s => s ||| 2 ^ i) else none) else none
def lnOK (cl : Nat → Nat) (i free left : Nat) (o : Option Nat) : Prop := match o with
  | none => ∀ T, T < 2 ^ i → sdf T free = 0 → Ind cl T → pc T ≠ left
  | some S => S < 2 ^ i ∧ sdf S free = 0 ∧ Ind cl S ∧ pc S = left ∧ ∀ T, T < 2 ^ i → sdf T free = 0 → Ind cl T → pc T = left → S ≤ T
theorem lnOK_0 (cl : Nat → Nat) (i free : Nat) : lnOK cl i free 0 (some 0) := ⟨Nat.two_pow_pos i, sdf_0.mpr (fun k hk => (by rw [Nat.zero_testBit] at hk; cases hk)), fun a b ha => (by rw [Nat.zero_testBit] at ha; cases ha), pc_0, fun T _ _ _ _ => Nat.zero_le _⟩
theorem Ind_sub {cl : Nat → Nat} {S T : Nat} (h : ∀ i, T.testBit i = true → S.testBit i = true) (hs : Ind cl S) : Ind cl T := fun a b ha hb => hs a b (h a ha) (h b hb)
theorem Ind_hi {cl : Nat → Nat} {i T' : Nat} (hT : T' < 2 ^ i) (hsym : ∀ a b, a ≤ i → b ≤ i → (cl a).testBit b = (cl b).testBit a) (hself : (cl i).testBit i = false) : Ind cl (T' ||| 2 ^ i) ↔ Ind cl T' ∧ sdf T' (sdf T' (cl i)) = 0 := by
  constructor
  · intro h
    refine ⟨Ind_sub (fun k hk => by rw [Nat.testBit_or, hk]; rfl) h, sdf_0.mpr (fun k hk => ?_)⟩
    rw [sdf_bit, hk, h i k (by rw [Nat.testBit_or, n_two]; simp) (by rw [Nat.testBit_or, hk]; rfl)]
    rfl
  · rintro ⟨h1, h2⟩ a b ha hb
    have h3 : ∀ k, T'.testBit k = true → (cl i).testBit k = false := fun k hk => by
      have := sdf_0.mp h2 k hk
      rw [sdf_bit, hk] at this
      simpa using this
    have hle : ∀ k, T'.testBit k = true → k ≤ i := fun k hk => by
      by_cases e : k < i
      · omega
      · rw [n_lt_bits hT (by omega)] at hk; cases hk
    rw [Nat.testBit_or, n_two] at ha hb
    cases ha2 : T'.testBit a
    · have ea : i = a := by rw [ha2] at ha; simpa using ha
      subst ea
      cases hb2 : T'.testBit b
      · have eb : i = b := by rw [hb2] at hb; simpa using hb
        subst eb
        exact hself
      · exact h3 b hb2
    · cases hb2 : T'.testBit b
      · have eb : i = b := by rw [hb2] at hb; simpa using hb
        subst eb
        rw [hsym a i (hle a ha2) (Nat.le_refl _)]
        exact h3 a ha2
      · exact h1 a b ha2 hb2
theorem skl_ok {cl : Nat → Nat} {n : Nat} (hn : n ≤ 64) (hsym : ∀ a b, a < n → b < n → (cl a).testBit b = (cl b).testBit a) (hself : ∀ a, (cl a).testBit a = false) : ∀ (i free left : Nat), i ≤ n → free < 2 ^ 64 → lnOK cl i free left (skl cl i free left)
  | 0, free, left, hi, hf => by
    rw [skl]
    by_cases h : left = 0
    · rw [if_pos h, h]; exact lnOK_0 cl 0 free
    · rw [if_neg h]
      intro T hT _ _ e
      have : T = 0 := by
        have : T < 1 := hT
        omega
      rw [this, pc_0] at e
      exact h e.symm
  | i + 1, free, left, hi, hf => by
    rw [skl]
    by_cases h : left = 0
    · rw [if_pos h, h]; exact lnOK_0 cl (i + 1) free
    · rw [if_neg h]
      have hpow : 2 ^ i < 2 ^ (i + 1) := n_pw (by omega)
      by_cases hp : left ≤ pc (free &&& (2 ^ (i + 1) - 1))
      · rw [if_pos hp]
        have ih1 := skl_ok hn hsym hself i free left (by omega) hf
        have hspl : ∀ T', T' < 2 ^ i → free.testBit i = true → ((sdf (T' ||| 2 ^ i) free = 0 ∧ Ind cl (T' ||| 2 ^ i)) ↔ (sdf T' (sdf free (cl i)) = 0 ∧ Ind cl T')) := fun T' hT' hfi => by
          rw [Ind_hi hT' (fun a b ha hb => hsym a b (by omega) (by omega)) (hself i)]
          rw [sdf_0, sdf_0, sdf_0]
          constructor
          · rintro ⟨h1, h2, h3⟩
            refine ⟨fun k hk => ?_, h2⟩
            have := h3 k hk
            rw [sdf_bit, hk] at this
            rw [sdf_bit, h1 k (by rw [Nat.testBit_or, hk]; rfl)]
            simpa using this
          · rintro ⟨h1, h2⟩
            refine ⟨fun k hk => ?_, h2, fun k hk => ?_⟩
            · rw [Nat.testBit_or, n_two] at hk
              cases hk2 : T'.testBit k
              · rw [hk2] at hk
                have : i = k := by simpa using hk
                subst this
                exact hfi
              · have := h1 k hk2
                rw [sdf_bit] at this
                cases hf2 : free.testBit k
                · rw [hf2] at this; cases this
                · rfl
            · have := h1 k hk
              rw [sdf_bit] at this
              rw [sdf_bit, hk]
              cases hc : (cl i).testBit k
              · rfl
              · rw [hc] at this; simp at this
        cases hs : skl cl i free left with
        | some S =>
          rw [hs] at ih1
          obtain ⟨a1, a2, a3, a4, a5⟩ := ih1
          refine ⟨by omega, a2, a3, a4, fun T hT t1 t2 t3 => ?_⟩
          cases hb : T.testBit i
          · exact a5 T (top_low hT hb) t1 t2 t3
          · obtain ⟨T', hT', rfl⟩ := top_split hT hb
            rw [or_top hT']
            omega
        | none =>
          rw [hs] at ih1
          cases hfi : free.testBit i
          · show lnOK cl (i + 1) free left none
            intro T hT t1 t2 t3
            cases hb : T.testBit i
            · exact ih1 T (top_low hT hb) t1 t2 t3
            · have := sdf_0.mp t1 i hb
              rw [hfi] at this
              cases this
          · have ih2 := skl_ok hn hsym hself i (sdf free (cl i)) (left - 1) (by omega) (sdf_lt hf)
            show lnOK cl (i + 1) free left ((skl cl i (sdf free (cl i)) (left - 1)).map (fun s => s ||| 2 ^ i))
            cases hs2 : skl cl i (sdf free (cl i)) (left - 1) with
            | none =>
              rw [hs2] at ih2
              intro T hT t1 t2 t3
              cases hb : T.testBit i
              · exact ih1 T (top_low hT hb) t1 t2 t3
              · obtain ⟨T', hT', rfl⟩ := top_split hT hb
                obtain ⟨u1, u2⟩ := (hspl T' hT' hfi).mp ⟨t1, t2⟩
                rw [pc_top (by omega) hT'] at t3
                exact ih2 T' hT' u1 u2 (by omega)
            | some S =>
              rw [hs2] at ih2
              obtain ⟨a1, a2, a3, a4, a5⟩ := ih2
              obtain ⟨u1, u2⟩ := (hspl S a1 hfi).mpr ⟨a2, a3⟩
              refine ⟨n_or_lt (by omega) (n_pw (by omega)), u1, u2, by rw [pc_top (by omega) a1]; omega, fun T hT t1 t2 t3 => ?_⟩
              cases hb : T.testBit i
              · exact absurd t3 (ih1 T (top_low hT hb) t1 t2)
              · obtain ⟨T', hT', rfl⟩ := top_split hT hb
                obtain ⟨w1, w2⟩ := (hspl T' hT' hfi).mp ⟨t1, t2⟩
                rw [pc_top (by omega) hT'] at t3
                have := a5 T' hT' w1 w2 (by omega)
                show S ||| 2 ^ i ≤ T' ||| 2 ^ i
                rw [or_top hT', or_top a1]
                omega
      · rw [if_neg hp]
        intro T hT t1 t2 t3
        apply hp
        rw [← t3]
        apply pc_sub
        intro k hk
        rw [Nat.testBit_and, sdf_0.mp t1 k hk, all_bit]
        have : k < i + 1 := by
          by_cases e : k < i + 1
          · exact e
          · rw [n_lt_bits hT (by omega)] at hk; cases hk
        simp [this]
def BestL (V : Nat → Prop) (n : Nat) (S : Nat) : Prop := S < 2 ^ n ∧ V S ∧ ∀ T, T < 2 ^ n → V T → pc T < pc S ∨ (pc T = pc S ∧ S ≤ T)
theorem BestL_one {V : Nat → Prop} {n S1 S2 : Nat} (h1 : BestL V n S1) (h2 : BestL V n S2) : S1 = S2 := by
  have a := h1.2.2 S2 h2.1 h2.2.1
  have b := h2.2.2 S1 h1.1 h1.2.1
  omega
theorem BestL_cong {V W : Nat → Prop} {n S : Nat} (h : ∀ T, T < 2 ^ n → (V T ↔ W T)) (H : BestL V n S) : BestL W n S := ⟨H.1, (h S H.1).mp H.2.1, fun T hT hw => H.2.2 T hT ((h T hT).mpr hw)⟩
/-- larger ones, one more at a time -/
def lnl (cl : Nat → Nat) (n : Nat) : Nat → Nat → Nat → Nat
  | 0, _, S => S
  | k + 1, w, S => match skl cl n (2 ^ n - 1) w with
    | none => S
    | some T => lnl cl n k (w + 1) T
theorem Ind_drop {cl : Nat → Nat} {T : Nat} (hT : T < 2 ^ 64) (h : Ind cl T) (h0 : 0 < pc T) : ∃ T', (∀ i, T'.testBit i = true → T.testBit i = true) ∧ pc T' + 1 = pc T := by
  have : T ≠ 0 := fun e => by rw [e, pc_0] at h0; omega
  obtain ⟨i, hi⟩ := n_nz this
  refine ⟨sdf T (2 ^ i), fun k hk => ?_, ?_⟩
  · rw [sdf_bit] at hk
    cases hk2 : T.testBit k
    · rw [hk2] at hk; cases hk
    · rfl
  · have := pc_sdf T (2 ^ i)
    have e : T &&& 2 ^ i = 2 ^ i := n_ext (fun k => by
      rw [Nat.testBit_and, n_two]
      by_cases e : i = k
      · subst e; simp [hi]
      · simp [e])
    have hi2 : i < 64 := by
      by_cases e : i < 64
      · exact e
      · rw [n_lt_bits hT (by omega)] at hi; cases hi
    rw [e, pc_two hi2] at this
    exact this
theorem Ind_down {cl : Nat → Nat} : ∀ (d T w : Nat), T < 2 ^ 64 → Ind cl T → pc T = w + d → ∃ T', (∀ i, T'.testBit i = true → T.testBit i = true) ∧ pc T' = w
  | 0, T, w, _, _, hp => ⟨T, fun _ h => h, hp⟩
  | d + 1, T, w, hT, h, hp => by
    obtain ⟨T', h1, h2⟩ := Ind_drop hT h (by omega)
    have hlt : T' < 2 ^ 64 := n_bits_lt (fun k hk => by
      cases e : T'.testBit k
      · rfl
      · have := h1 k e
        rw [n_lt_bits hT hk] at this
        cases this)
    obtain ⟨T2, h3, h4⟩ := Ind_down d T' w hlt (Ind_sub h1 h) (by omega)
    exact ⟨T2, fun i hi => h1 i (h3 i hi), h4⟩
theorem lnl_ok {cl : Nat → Nat} {n : Nat} (hn : n ≤ 63) (hsym : ∀ a b, a < n → b < n → (cl a).testBit b = (cl b).testBit a) (hself : ∀ a, (cl a).testBit a = false) : ∀ k w S, w + k = n + 1 → lnOK cl n (2 ^ n - 1) (w - 1) (some S) → 0 < w → BestL (Ind cl) n (lnl cl n k w S)
  | 0, w, S, hw, hS, h0 => by
    obtain ⟨a1, a2, a3, a4, a5⟩ := hS
    refine ⟨a1, a3, fun T hT ht => ?_⟩
    have := pc_le_n (by omega) hT
    by_cases e : pc T = pc S
    · exact Or.inr ⟨e, a5 T hT (sdf_all hT) ht (by omega)⟩
    · show pc T < pc S ∨ _
      omega
  | k + 1, w, S, hw, hS, h0 => by
    rw [lnl]
    have hp : 2 ^ n ≤ 2 ^ 63 := n_pwl hn
    have ih := skl_ok (cl := cl) (n := n) (by omega) hsym hself n (2 ^ n - 1) w (Nat.le_refl _) (by omega)
    cases hs : skl cl n (2 ^ n - 1) w with
    | some T =>
      rw [hs] at ih
      exact lnl_ok hn hsym hself k (w + 1) T (by omega) ih (by omega)
    | none =>
      rw [hs] at ih
      obtain ⟨a1, a2, a3, a4, a5⟩ := hS
      refine ⟨a1, a3, fun T hT ht => ?_⟩
      by_cases e : pc T = pc S
      · exact Or.inr ⟨e, a5 T hT (sdf_all hT) ht (by omega)⟩
      · left
        show pc T < pc S
        by_cases e2 : pc T < pc S
        · exact e2
        · exfalso
          obtain ⟨T', h1, h2⟩ := Ind_down (pc T - w) T w (by omega) ht (by omega)
          have hT' : T' < 2 ^ n := n_bits_lt (fun k hk => by
            cases e3 : T'.testBit k
            · rfl
            · have := h1 k e3
              rw [n_lt_bits hT hk] at this
              cases this)
          exact ih T' hT' (sdf_all hT') (Ind_sub h1 ht) h2
