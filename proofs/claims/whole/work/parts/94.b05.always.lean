/-! ===== barred, always, ever ===== -/
section Alw
variable {A : Nat → Nat → Int32} {Z : Nat → Int32} {B : Nat → Nat → Int64} {Q : Nat → Int64} {P : Nat → Option Nat} {F : Nat → Nat → Option Nat} {q : Nat} {D : List xC} {c : Nat × Nat} {K : Nat → Nat} {tt lk lh : Nat → Nat} {R i : Nat}
theorem m_barred34 (hT : Told (A 58) tt lk lh) (hW : HWf tt) {nx : Nat → Nat} (hn : ∀ r, r < tt 1 → A 63 r = nI (nx r)) (hx : ∀ r, nx r < 65536) {r : Nat} (hr : r < tt 1) : f_X12_barred_34 xFU (HH A Z B Q P F q D c) 57 (nI r) nM (nI 0) = some (eo ((bst (fun S => !S.testBit r && litB nx (tt 1) S (2 ^ tt 1 - 1)) (2 ^ tt 1)).map pc), HH A Z B Q P F q D c) := by
  have hro := hW.ro
  have hpw := pw16 hro
  have hpp := Nat.two_pow_pos (tt 1)
  refine loop0 (F := fun m k (s : Option Nat) => f_X12_barred_34 m (HH A Z B Q P F q D c) 57 (nI r) (eo (s.map pc)) (nI k)) (N := 2 ^ tt 1) (st := fun k => bst (fun S => !S.testBit r && litB nx (tt 1) S (2 ^ tt 1 - 1)) k) (fun m k hk => ?_) (fun m => ?_) (by omega)
  · have e0 := m_isLit (A := A) (Z := Z) (B := B) (Q := Q) (P := P) (F := F) (q := q) (D := D) (c := c) hT hW hn hx (S := k) (o := 2 ^ tt 1 - 1) (by omega) (by omega)
    have pk : pc k ≤ 64 := pc_le k
    cases hb : k.testBit r
    · rw [bst]
      simp only [hb]
      cases hv : litB nx (tt 1) k (2 ^ tt 1 - 1)
      · rw [hv] at e0
        cases hs : bst (fun S => !S.testBit r && litB nx (tt 1) S (2 ^ tt 1 - 1)) k with
        | none =>
          simp only [eo, Option.map_none, Bool.and_false, Bool.false_eq_true, if_false]
          simp (disch := omega) only [f_X12_barred_34, f_X12_barred_63, if_true, if_false, Bool.false_eq_true, Bool.true_eq_false, y_lit, y_m1, nI_add, pk_mul, fa_and, fa_or, y_bs, if_pos, if_neg, y_shl, y_shr, y_le, y_lt, y_eq, y_sub, y_dv, y_rm, y_b0, y_b1, y_sdf, y_ltM, y_Mlt, y_leM, y_Mle, y_eqM, y_Meq, s_e1, s_e2, s_e3, s_e4, s_e5, s_e6, gO_57, m_all hT hW, has_spec, hb, e0]
        | some b =>
          have pb : pc b ≤ 64 := pc_le b
          simp only [eo, Option.map_some, Bool.and_false, Bool.false_eq_true, and_false, if_false]
          by_cases hp : pc k < pc b
          · simp (disch := omega) only [f_X12_barred_34, f_X12_barred_63, if_true, if_false, Bool.false_eq_true, Bool.true_eq_false, y_lit, y_m1, nI_add, pk_mul, fa_and, fa_or, y_bs, if_pos, if_neg, y_shl, y_shr, y_le, y_lt, y_eq, y_sub, y_dv, y_rm, y_b0, y_b1, y_sdf, y_ltM, y_Mlt, y_leM, y_Mle, y_eqM, y_Meq, s_e1, s_e2, s_e3, s_e4, s_e5, s_e6, gO_57, m_all hT hW, has_spec, hb, e0, ones_spec]
          · simp (disch := omega) only [f_X12_barred_34, f_X12_barred_63, if_true, if_false, Bool.false_eq_true, Bool.true_eq_false, y_lit, y_m1, nI_add, pk_mul, fa_and, fa_or, y_bs, if_pos, if_neg, y_shl, y_shr, y_le, y_lt, y_eq, y_sub, y_dv, y_rm, y_b0, y_b1, y_sdf, y_ltM, y_Mlt, y_leM, y_Mle, y_eqM, y_Meq, s_e1, s_e2, s_e3, s_e4, s_e5, s_e6, gO_57, m_all hT hW, has_spec, hb, ones_spec]
      · rw [hv] at e0
        cases hs : bst (fun S => !S.testBit r && litB nx (tt 1) S (2 ^ tt 1 - 1)) k with
        | none =>
          simp only [eo, Option.map_none, Option.map_some, Bool.not_false, Bool.and_true, if_true]
          simp (disch := omega) only [f_X12_barred_34, f_X12_barred_63, if_true, if_false, Bool.false_eq_true, Bool.true_eq_false, y_lit, y_m1, nI_add, pk_mul, fa_and, fa_or, y_bs, if_pos, if_neg, y_shl, y_shr, y_le, y_lt, y_eq, y_sub, y_dv, y_rm, y_b0, y_b1, y_sdf, y_ltM, y_Mlt, y_leM, y_Mle, y_eqM, y_Meq, s_e1, s_e2, s_e3, s_e4, s_e5, s_e6, gO_57, m_all hT hW, has_spec, hb, e0, ones_spec]
        | some b =>
          have pb : pc b ≤ 64 := pc_le b
          simp only [Bool.not_false, Bool.and_true, and_true]
          by_cases hp : pc k < pc b
          · rw [if_pos hp]
            simp only [eo, Option.map_some]
            simp (disch := omega) only [f_X12_barred_34, f_X12_barred_63, if_true, if_false, Bool.false_eq_true, Bool.true_eq_false, y_lit, y_m1, nI_add, pk_mul, fa_and, fa_or, y_bs, if_pos, if_neg, y_shl, y_shr, y_le, y_lt, y_eq, y_sub, y_dv, y_rm, y_b0, y_b1, y_sdf, y_ltM, y_Mlt, y_leM, y_Mle, y_eqM, y_Meq, s_e1, s_e2, s_e3, s_e4, s_e5, s_e6, gO_57, m_all hT hW, has_spec, hb, e0, ones_spec]
          · rw [if_neg hp]
            simp only [eo, Option.map_some]
            simp (disch := omega) only [f_X12_barred_34, f_X12_barred_63, if_true, if_false, Bool.false_eq_true, Bool.true_eq_false, y_lit, y_m1, nI_add, pk_mul, fa_and, fa_or, y_bs, if_pos, if_neg, y_shl, y_shr, y_le, y_lt, y_eq, y_sub, y_dv, y_rm, y_b0, y_b1, y_sdf, y_ltM, y_Mlt, y_leM, y_Mle, y_eqM, y_Meq, s_e1, s_e2, s_e3, s_e4, s_e5, s_e6, gO_57, m_all hT hW, has_spec, hb, ones_spec]
    · have e1 : bst (fun S => !S.testBit r && litB nx (tt 1) S (2 ^ tt 1 - 1)) (k + 1) = bst (fun S => !S.testBit r && litB nx (tt 1) S (2 ^ tt 1 - 1)) k := by
        rw [bst]
        cases bst (fun S => !S.testBit r && litB nx (tt 1) S (2 ^ tt 1 - 1)) k <;> simp [hb]
      rw [e1]
      simp (disch := omega) only [f_X12_barred_34, if_true, if_false, Bool.false_eq_true, Bool.true_eq_false, y_lit, y_m1, nI_add, pk_mul, fa_and, fa_or, y_bs, if_pos, if_neg, y_shl, y_shr, y_le, y_lt, y_eq, y_sub, y_dv, y_rm, y_b0, y_b1, y_sdf, y_ltM, y_Mlt, y_leM, y_Mle, y_eqM, y_Meq, s_e1, s_e2, s_e3, s_e4, s_e5, s_e6, gO_57, m_all hT hW, has_spec, hb]
  · simp (disch := omega) only [f_X12_barred_34, if_true, if_false, Bool.false_eq_true, Bool.true_eq_false, y_lit, y_m1, nI_add, pk_mul, fa_and, fa_or, y_bs, if_pos, if_neg, y_shl, y_shr, y_le, y_lt, y_eq, y_sub, y_dv, y_rm, y_b0, y_b1, y_sdf, y_ltM, y_Mlt, y_leM, y_Mle, y_eqM, y_Meq, s_e1, s_e2, s_e3, s_e4, s_e5, s_e6, gO_57, m_all hT hW]
theorem bar_eq (hW : HWf tt) {r : Nat} (hr : r < tt 1) {o : Option Nat} (h : BestF (Cov (msk (ltt tt) (sdf (2 ^ tt 1 - 1) (2 ^ r))) (tt 1) (2 ^ tt 1 - 1) 0) (tt 1) o) : o = bst (fun S => !S.testBit r && litB (nxt tt) (tt 1) S (2 ^ tt 1 - 1)) (2 ^ tt 1) := by
  have hro := hW.ro
  refine BestF_one (BestF_cong (fun T hT => ?_) (BestF_msk h)) bst_best
  rw [Cov_lit (dual_h tt hW) (by omega), Bool.and_eq_true]
  constructor
  · rintro ⟨h1, h2⟩
    refine ⟨?_, h1⟩
    cases hb : T.testBit r
    · rfl
    · have := sdf_0.mp h2 r hb
      rw [sdf_bit, n_two] at this
      simp at this
  · rintro ⟨h1, h2⟩
    refine ⟨h2, sdf_0.mpr (fun k hk => ?_)⟩
    rw [sdf_bit, n_two, all_bit]
    have hk2 : k < tt 1 := by
      by_cases e : k < tt 1
      · exact e
      · rw [n_lt_bits hT (by omega)] at hk; cases hk
    by_cases e : r = k
    · subst e
      rw [hk] at h1
      cases h1
    · simp [hk2, e]
theorem c_suffice {n one left : Nat} {g : Nat → Nat} (hn : n ≤ 16) (hg : ∀ r, g r < 65536) (hl : Laid A n g) (h3 : Z 3 = nI n) (h1 : one < 65536) (hleft : left ≤ 16) : f_X2_suffice (HH A Z B Q P F q D c) 22 (nI one) (nI left) = some (nI (if (sk g n one 0 left).isSome then 1 else 0)) := by
  have es := c_seek (A := A) (Z := Z) (B := B) (Q := Q) (P := P) (F := F) (q := q) (D := D) (c := c) hn hg hl n one 0 left 40 (Nat.le_refl _) (by omega) h1 (by omega) (Nat.and_zero _) hleft
  unfold f_X2_suffice
  rw [gf_22_0, Option.bind_some, h3]
  rw [show (0 : Int32) = nI 0 from rfl, es, Option.bind_some]
  cases hs : sk g n one 0 left with
  | none => rw [if_pos (show eo none = -1 from rfl)]; rfl
  | some S =>
    have hS := sk_lt (by omega) (by omega) (by omega) (Nat.and_zero _) hs
    have hS2 : 2 ^ n ≤ 2 ^ 16 := n_pwl (by omega)
    rw [if_neg (by show ¬ nI S = nM; rw [y_eqM (by omega)]; exact id)]
    rfl
def amg (V : Nat → Bool) (b : Bool) (S : Nat) : Nat → Nat
  | 0 => S
  | k + 1 => if pc k = pc S ∧ V k = true then (if b then amg V b S k &&& k else amg V b S k ||| k) else amg V b S k
theorem amg_t {V : Nat → Bool} {S r : Nat} : ∀ k, ((amg V true S k).testBit r = true ↔ S.testBit r = true ∧ ∀ T, T < k → pc T = pc S → V T = true → T.testBit r = true)
  | 0 => ⟨fun h => ⟨h, fun T hT => absurd hT (Nat.not_lt_zero T)⟩, fun h => h.1⟩
  | k + 1 => by
    rw [amg]
    by_cases h : pc k = pc S ∧ V k = true
    · rw [if_pos h, if_pos rfl, Nat.testBit_and, Bool.and_eq_true, amg_t k]
      constructor
      · rintro ⟨⟨h1, h2⟩, h3⟩
        refine ⟨h1, fun T hT p v => ?_⟩
        by_cases e : T = k
        · subst e; exact h3
        · exact h2 T (by omega) p v
      · rintro ⟨h1, h2⟩
        exact ⟨⟨h1, fun T hT => h2 T (by omega)⟩, h2 k (by omega) h.1 h.2⟩
    · rw [if_neg h, amg_t k]
      constructor
      · rintro ⟨h1, h2⟩
        refine ⟨h1, fun T hT p v => ?_⟩
        by_cases e : T = k
        · subst e; exact absurd ⟨p, v⟩ h
        · exact h2 T (by omega) p v
      · rintro ⟨h1, h2⟩
        exact ⟨h1, fun T hT => h2 T (by omega)⟩
theorem amg_f {V : Nat → Bool} {S r : Nat} : ∀ k, ((amg V false S k).testBit r = true ↔ S.testBit r = true ∨ ∃ T, T < k ∧ pc T = pc S ∧ V T = true ∧ T.testBit r = true)
  | 0 => ⟨fun h => Or.inl h, fun h => by
      rcases h with h | ⟨T, hT, _⟩
      · exact h
      · exact absurd hT (Nat.not_lt_zero T)⟩
  | k + 1 => by
    rw [amg]
    by_cases h : pc k = pc S ∧ V k = true
    · rw [if_pos h, if_neg (by decide), Nat.testBit_or, Bool.or_eq_true, amg_f k]
      constructor
      · rintro ((h1 | ⟨T, h1, h2, h3, h4⟩) | h3)
        · exact Or.inl h1
        · exact Or.inr ⟨T, by omega, h2, h3, h4⟩
        · exact Or.inr ⟨k, by omega, h.1, h.2, h3⟩
      · rintro (h1 | ⟨T, h1, h2, h3, h4⟩)
        · exact Or.inl (Or.inl h1)
        · by_cases e : T = k
          · subst e; exact Or.inr h4
          · exact Or.inl (Or.inr ⟨T, by omega, h2, h3, h4⟩)
    · rw [if_neg h, amg_f k]
      constructor
      · rintro (h1 | ⟨T, h1, h2, h3, h4⟩)
        · exact Or.inl h1
        · exact Or.inr ⟨T, by omega, h2, h3, h4⟩
      · rintro (h1 | ⟨T, h1, h2, h3, h4⟩)
        · exact Or.inl h1
        · by_cases e : T = k
          · subst e; exact absurd ⟨h2, h3⟩ h
          · exact Or.inr ⟨T, by omega, h2, h3, h4⟩
theorem amg_lt {V : Nat → Bool} {b : Bool} {S n : Nat} (hS : S < 2 ^ n) : ∀ k, k ≤ 2 ^ n → amg V b S k < 2 ^ n
  | 0, _ => hS
  | k + 1, hk => by
    have ih := amg_lt (V := V) (b := b) hS k (by omega)
    rw [amg]
    split
    · split
      · exact n_and_ltl ih
      · exact n_or_lt ih (by omega)
    · exact ih
theorem m_among22 (hT : Told (A 58) tt lk lh) (hW : HWf tt) {nx : Nat → Nat} (hn : ∀ r, r < tt 1 → A 63 r = nI (nx r)) (hx : ∀ r, nx r < 65536) (b : Bool) {S : Nat} (hS : S < 2 ^ tt 1) : f_X12_among_22 xFU (HH A Z B Q P F q D c) 57 (nI (if b then 1 else 0)) (nI S) (nI S) (nI 0) = some (nI (amg (fun S => litB nx (tt 1) S (2 ^ tt 1 - 1)) b S (2 ^ tt 1)), HH A Z B Q P F q D c) := by
  have hro := hW.ro
  have hpw := pw16 hro
  have hpp := Nat.two_pow_pos (tt 1)
  refine loop0 (F := fun m k (s : Nat) => f_X12_among_22 m (HH A Z B Q P F q D c) 57 (nI (if b then 1 else 0)) (nI S) (nI s) (nI k)) (N := 2 ^ tt 1) (st := fun k => amg (fun S => litB nx (tt 1) S (2 ^ tt 1 - 1)) b S k) (fun m k hk => ?_) (fun m => ?_) (by omega)
  · have e0 := m_isLit (A := A) (Z := Z) (B := B) (Q := Q) (P := P) (F := F) (q := q) (D := D) (c := c) hT hW hn hx (S := k) (o := 2 ^ tt 1 - 1) (by omega) (by omega)
    have pk : pc k ≤ 64 := pc_le k
    have ps : pc S ≤ 64 := pc_le S
    rw [amg]
    by_cases hp : pc k = pc S
    · cases hv : litB nx (tt 1) k (2 ^ tt 1 - 1)
      · rw [hv] at e0
        simp (disch := omega) only [f_X12_among_22, if_true, if_false, Bool.false_eq_true, Bool.true_eq_false, y_lit, y_m1, nI_add, pk_mul, fa_and, fa_or, y_bs, if_pos, if_neg, y_shl, y_shr, y_le, y_lt, y_eq, y_sub, y_dv, y_rm, y_b0, y_b1, y_sdf, y_ltM, y_Mlt, y_leM, y_Mle, y_eqM, y_Meq, s_e1, s_e2, s_e3, s_e4, s_e5, s_e6, gO_57, m_all hT hW, ones_spec, hp, e0, and_false]
      · rw [hv] at e0
        cases b
        · simp (disch := omega) only [f_X12_among_22, if_true, if_false, Bool.false_eq_true, Bool.true_eq_false, y_lit, y_m1, nI_add, pk_mul, fa_and, fa_or, y_bs, if_pos, if_neg, y_shl, y_shr, y_le, y_lt, y_eq, y_sub, y_dv, y_rm, y_b0, y_b1, y_sdf, y_ltM, y_Mlt, y_leM, y_Mle, y_eqM, y_Meq, s_e1, s_e2, s_e3, s_e4, s_e5, s_e6, gO_57, m_all hT hW, ones_spec, hp, e0, and_self]
        · simp (disch := omega) only [f_X12_among_22, if_true, if_false, Bool.false_eq_true, Bool.true_eq_false, y_lit, y_m1, nI_add, pk_mul, fa_and, fa_or, y_bs, if_pos, if_neg, y_shl, y_shr, y_le, y_lt, y_eq, y_sub, y_dv, y_rm, y_b0, y_b1, y_sdf, y_ltM, y_Mlt, y_leM, y_Mle, y_eqM, y_Meq, s_e1, s_e2, s_e3, s_e4, s_e5, s_e6, gO_57, m_all hT hW, ones_spec, hp, e0, and_self]
    · simp (disch := omega) only [f_X12_among_22, if_true, if_false, Bool.false_eq_true, Bool.true_eq_false, y_lit, y_m1, nI_add, pk_mul, fa_and, fa_or, y_bs, if_pos, if_neg, y_shl, y_shr, y_le, y_lt, y_eq, y_sub, y_dv, y_rm, y_b0, y_b1, y_sdf, y_ltM, y_Mlt, y_leM, y_Mle, y_eqM, y_Meq, s_e1, s_e2, s_e3, s_e4, s_e5, s_e6, gO_57, m_all hT hW, ones_spec, hp, false_and]
  · simp (disch := omega) only [f_X12_among_22, if_true, if_false, Bool.false_eq_true, Bool.true_eq_false, y_lit, y_m1, nI_add, pk_mul, fa_and, fa_or, y_bs, if_pos, if_neg, y_shl, y_shr, y_le, y_lt, y_eq, y_sub, y_dv, y_rm, y_b0, y_b1, y_sdf, y_ltM, y_Mlt, y_leM, y_Mle, y_eqM, y_Meq, s_e1, s_e2, s_e3, s_e4, s_e5, s_e6, gO_57, m_all hT hW]
theorem m_among (hT : Told (A 58) tt lk lh) (hW : HWf tt) (b : Bool) : ∃ f, f_X12_among (HH A Z B Q P F q D c) 57 (nI (if b then 1 else 0)) = some (nI (match bst (fun S => litB (nxt tt) (tt 1) S (2 ^ tt 1 - 1)) (2 ^ tt 1) with
    | none => 0
    | some S => amg (fun S => litB (nxt tt) (tt 1) S (2 ^ tt 1 - 1)) b S (2 ^ tt 1)), HH (upA A 63 f) Z B Q P F q D c) := by
  have hro := hW.ro
  have hpw := pw16 hro
  obtain ⟨f, e1, hf⟩ := m_layNexts (A := A) (Z := Z) (B := B) (Q := Q) (P := P) (F := F) (q := q) (D := D) (c := c) hT hW
  have e2 := m_bestOf (A := upA A 63 f) (Z := Z) (B := B) (Q := Q) (P := P) (F := F) (q := q) (D := D) (c := c) hT hW hf (nxt_lt16 hW) (w := 0) (by decide)
  have ei : isoB tt (nxt tt) 0 = fun S => litB (nxt tt) (tt 1) S (2 ^ tt 1 - 1) := rfl
  rw [ei] at e2
  refine ⟨f, ?_⟩
  unfold f_X12_among
  rw [gO_57, Option.bind_some, e1, Option.bind_some, gO_57, Option.bind_some, show (0 : Int32) = nI 0 from rfl, e2, Option.bind_some]
  cases hs : bst (fun S => litB (nxt tt) (tt 1) S (2 ^ tt 1 - 1)) (2 ^ tt 1) with
  | none => rw [if_pos (show eo none = -1 from rfl)]
  | some S =>
    have hS := bst_lt hs
    rw [if_neg (by show ¬ nI S = nM; rw [y_eqM (by omega)]; exact id)]
    exact m_among22 (A := upA A 63 f) hT hW hf (nxt_lt16 hW) b hS
end Alw

section Alw2
variable {A : Nat → Nat → Int32} {Z : Nat → Int32} {B : Nat → Nat → Int64} {Q : Nat → Int64} {P : Nat → Option Nat} {F : Nat → Nat → Option Nat} {q : Nat} {D : List xC} {c : Nat × Nat} {K : Nat → Nat} {tt lk lh : Nat → Nat} {R i : Nat}
theorem few_eq (hW : HWf tt) {o : Option Nat} (h : BestF (Cov (msk (ltt tt) (2 ^ tt 1 - 1)) (tt 1) (2 ^ tt 1 - 1) 0) (tt 1) o) : o = bst (fun S => litB (nxt tt) (tt 1) S (2 ^ tt 1 - 1)) (2 ^ tt 1) := by
  have hro := hW.ro
  exact BestF_one (few_all (dual_h tt hW) (by omega) h) bst_best
theorem lit_cov (hW : HWf tt) {T : Nat} : Cov (ltt tt) (tt 1) (2 ^ tt 1 - 1) 0 T ↔ litB (nxt tt) (tt 1) T (2 ^ tt 1 - 1) = true := by
  have hro := hW.ro
  exact Cov_lit (dual_h tt hW) (by omega)
/-- a set of as few without a room -/
theorem alw_bit (hW : HWf tt) {S r : Nat} (hr : r < tt 1) (hb : bst (fun S => litB (nxt tt) (tt 1) S (2 ^ tt 1 - 1)) (2 ^ tt 1) = some S) : (sk (msk (ltt tt) (sdf (2 ^ tt 1 - 1) (2 ^ r))) (tt 1) (2 ^ tt 1 - 1) 0 (pc S)).isSome = !(amg (fun S => litB (nxt tt) (tt 1) S (2 ^ tt 1 - 1)) true S (2 ^ tt 1)).testBit r := by
  have hro := hW.ro
  have hpw := pw16 hro
  have hpp := Nat.two_pow_pos (tt 1)
  have hbest := bst_best (V := fun S => litB (nxt tt) (tt 1) S (2 ^ tt 1 - 1)) (n := tt 1)
  rw [hb] at hbest
  obtain ⟨b1, b2, b3⟩ := hbest
  have hk := sk_ok (g := msk (ltt tt) (sdf (2 ^ tt 1 - 1) (2 ^ r))) (tt 1) (2 ^ tt 1 - 1) 0 (pc S) (by omega) (by omega) (by omega) (Nat.and_zero _)
  have hal : ∀ T, T < 2 ^ tt 1 → (T &&& sdf (2 ^ tt 1 - 1) (2 ^ r)).testBit r = false := fun T _ => by
    rw [Nat.testBit_and, sdf_bit, n_two]
    simp
  cases ha : (amg (fun S => litB (nxt tt) (tt 1) S (2 ^ tt 1 - 1)) true S (2 ^ tt 1)).testBit r
  · cases hs : sk (msk (ltt tt) (sdf (2 ^ tt 1 - 1) (2 ^ r))) (tt 1) (2 ^ tt 1 - 1) 0 (pc S) with
    | some T => rfl
    | none =>
      exfalso
      rw [hs] at hk
      have h1 : (amg (fun S => litB (nxt tt) (tt 1) S (2 ^ tt 1 - 1)) true S (2 ^ tt 1)).testBit r = true := by
        rw [amg_t]
        have key : ∀ T, T < 2 ^ tt 1 → pc T = pc S → litB (nxt tt) (tt 1) T (2 ^ tt 1 - 1) = true → T.testBit r = true := fun T hT hp hv => by
          cases hbt : T.testBit r
          · exfalso
            have e : T &&& sdf (2 ^ tt 1 - 1) (2 ^ r) = T := n_ext (fun k => by
              rw [Nat.testBit_and, sdf_bit, n_two, all_bit]
              cases hk2 : T.testBit k
              · rfl
              · have hk3 : k < tt 1 := by
                  by_cases e : k < tt 1
                  · exact e
                  · rw [n_lt_bits hT (by omega)] at hk2; cases hk2
                have : ¬ r = k := fun e => by rw [e, hk2] at hbt; cases hbt
                simp [hk3, this])
            exact hk T hT (Cov_msk.mpr (by rw [e]; exact (lit_cov hW).mpr hv)) (by omega)
          · rfl
        exact ⟨key S b1 rfl b2, key⟩
      rw [h1] at ha
      cases ha
  · cases hs : sk (msk (ltt tt) (sdf (2 ^ tt 1 - 1) (2 ^ r))) (tt 1) (2 ^ tt 1 - 1) 0 (pc S) with
    | none => rfl
    | some T =>
      exfalso
      rw [hs] at hk
      obtain ⟨k1, k2, k3, k4⟩ := hk
      have hc := Cov_msk.mp k2
      have hlit := (lit_cov hW).mp hc
      have hp : pc (T &&& sdf (2 ^ tt 1 - 1) (2 ^ r)) ≤ pc T := pc_sub (fun i hi => by
        rw [Nat.testBit_and] at hi
        cases hs : T.testBit i
        · rw [hs] at hi; simp at hi
        · rfl)
      have h3 := b3 _ (n_and_ltl k1) hlit
      have h4 := (amg_t (2 ^ tt 1)).mp ha
      have := h4.2 _ (n_and_ltl k1) (by omega) hlit
      rw [hal T k1] at this
      cases this
theorem evr_bit (hW : HWf tt) {S r : Nat} (hr : r < tt 1) (hb : bst (fun S => litB (nxt tt) (tt 1) S (2 ^ tt 1 - 1)) (2 ^ tt 1) = some S) : 0 < pc S ∧ (sk (msk (ltt tt) (2 ^ tt 1 - 1)) (tt 1) (sdf (2 ^ tt 1 - 1) (ltt tt r)) 0 (pc S - 1)).isSome = (amg (fun S => litB (nxt tt) (tt 1) S (2 ^ tt 1 - 1)) false S (2 ^ tt 1)).testBit r := by
  have hro := hW.ro
  have hpw := pw16 hro
  have hpp := Nat.two_pow_pos (tt 1)
  have hbest := bst_best (V := fun S => litB (nxt tt) (tt 1) S (2 ^ tt 1 - 1)) (n := tt 1)
  rw [hb] at hbest
  obtain ⟨b1, b2, b3⟩ := hbest
  have hpos : 0 < pc S := by
    rcases Nat.eq_zero_or_pos (pc S) with e | e
    · exfalso
      have : S = 0 := (pc_zero (by omega)).mp e
      subst this
      have h1 := (((lit_cov hW).mpr b2) r).1 (by rw [all_bit]; exact decide_eq_true hr)
      obtain ⟨k, hk, h2⟩ := fb_ct_pos.mp (show 0 < cnt (ltt tt) 0 r (tt 1) from h1)
      simp at h2
    · exact e
  refine ⟨hpos, ?_⟩
  have hk := sk_ok (g := msk (ltt tt) (2 ^ tt 1 - 1)) (tt 1) (sdf (2 ^ tt 1 - 1) (ltt tt r)) 0 (pc S - 1) (by omega) (sdf_lt (k := 64) (by omega)) (by omega) (Nat.and_zero _)
  have hand : ∀ T, T < 2 ^ tt 1 → T &&& (2 ^ tt 1 - 1) = T := fun T hT => n_ext (fun k => by
    rw [Nat.testBit_and, all_bit]
    cases hk2 : T.testBit k
    · rfl
    · have hk3 : k < tt 1 := by
        by_cases e : k < tt 1
        · exact e
        · rw [n_lt_bits hT (by omega)] at hk2; cases hk2
      simp [hk3])
  -- a room's rest, and the room
  have hcov : ∀ T x, T < 2 ^ tt 1 → (1 ≤ cnt (ltt tt) T x (tt 1) ↔ ∃ k, k < tt 1 ∧ T.testBit k = true ∧ (ltt tt k).testBit x = true) := fun T x _ => by
    constructor
    · intro h
      obtain ⟨k, hk, h2⟩ := fb_ct_pos.mp (show 0 < cnt (ltt tt) T x (tt 1) from h)
      rw [Bool.and_eq_true] at h2
      exact ⟨k, hk, h2.1, h2.2⟩
    · rintro ⟨k, hk, h1, h2⟩
      exact fb_ct_pos.mpr ⟨k, hk, by rw [h1, h2]; rfl⟩
  cases ha : (amg (fun S => litB (nxt tt) (tt 1) S (2 ^ tt 1 - 1)) false S (2 ^ tt 1)).testBit r
  · cases hs : sk (msk (ltt tt) (2 ^ tt 1 - 1)) (tt 1) (sdf (2 ^ tt 1 - 1) (ltt tt r)) 0 (pc S - 1) with
    | none => rfl
    | some T =>
      exfalso
      rw [hs] at hk
      obtain ⟨k1, k2, k3, k4⟩ := hk
      have hc := Cov_msk.mp k2
      rw [hand T k1] at hc
      have hT2 : T ||| 2 ^ r < 2 ^ tt 1 := n_or_lt k1 (n_pw hr)
      have hlit : litB (nxt tt) (tt 1) (T ||| 2 ^ r) (2 ^ tt 1 - 1) = true := (lit_cov hW).mp (fun x => ⟨fun hx => ?_, fun hx => (by rw [Nat.zero_testBit] at hx; cases hx)⟩)
      · have hp : pc (T ||| 2 ^ r) ≤ pc T + 1 := by
          cases hbt : T.testBit r
          · rw [pc_or, pc_two (by omega)]
            · exact Nat.le_refl _
            · exact and_z (fun k hk => by
                rw [n_two]
                have : ¬ r = k := fun e => by rw [e, hk] at hbt; cases hbt
                simp [this])
          · have e : T ||| 2 ^ r = T := n_ext (fun k => by
              rw [Nat.testBit_or, n_two]
              by_cases e : r = k
              · subst e; simp [hbt]
              · simp [e])
            rw [e]
            omega
        have h3 := b3 _ hT2 hlit
        have : (amg (fun S => litB (nxt tt) (tt 1) S (2 ^ tt 1 - 1)) false S (2 ^ tt 1)).testBit r = true := (amg_f (2 ^ tt 1)).mpr (Or.inr ⟨T ||| 2 ^ r, hT2, by omega, hlit, by rw [Nat.testBit_or, n_two]; simp⟩)
        rw [this] at ha
        cases ha
      · rw [hcov _ x hT2]
        by_cases hl : (ltt tt r).testBit x = true
        · exact ⟨r, hr, by rw [Nat.testBit_or, n_two]; simp, hl⟩
        · have h1 := (hc x).1 (by
            rw [sdf_bit, hx]
            cases hl2 : (ltt tt r).testBit x
            · rfl
            · exact absurd hl2 hl)
          rw [hcov T x k1] at h1
          obtain ⟨k, hk, h2, h3⟩ := h1
          exact ⟨k, hk, by rw [Nat.testBit_or, h2]; rfl, h3⟩
  · cases hs : sk (msk (ltt tt) (2 ^ tt 1 - 1)) (tt 1) (sdf (2 ^ tt 1 - 1) (ltt tt r)) 0 (pc S - 1) with
    | some T => rfl
    | none =>
      exfalso
      rw [hs] at hk
      have h1 : ∃ T, T < 2 ^ tt 1 ∧ pc T = pc S ∧ litB (nxt tt) (tt 1) T (2 ^ tt 1 - 1) = true ∧ T.testBit r = true := by
        rcases (amg_f (2 ^ tt 1)).mp ha with h | h
        · exact ⟨S, b1, rfl, b2, h⟩
        · exact h
      obtain ⟨T, t1, t2, t3, t4⟩ := h1
      have hT2 : sdf T (2 ^ r) < 2 ^ tt 1 := sdf_lt t1
      have hpc : pc (sdf T (2 ^ r)) + 1 = pc T := by
        have := pc_sdf T (2 ^ r)
        have e : T &&& 2 ^ r = 2 ^ r := n_ext (fun k => by
          rw [Nat.testBit_and, n_two]
          by_cases e : r = k
          · subst e; simp [t4]
          · simp [e])
        rw [e, pc_two (by omega)] at this
        exact this
      refine hk (sdf T (2 ^ r)) hT2 (Cov_msk.mpr ?_) (by omega)
      rw [hand _ hT2]
      have hc := (lit_cov hW).mpr t3
      intro x
      refine ⟨fun hx => ?_, fun hx => (by rw [Nat.zero_testBit] at hx; cases hx)⟩
      rw [sdf_bit, Bool.and_eq_true] at hx
      have h2 := (hc x).1 hx.1
      rw [hcov T x t1] at h2
      obtain ⟨k, hk1, h3, h4⟩ := h2
      rw [hcov _ x hT2]
      refine ⟨k, hk1, ?_, h4⟩
      rw [sdf_bit, n_two, h3]
      have : ¬ r = k := fun e => by
        subst e
        rw [h4] at hx
        simp at hx
      simp [this]
end Alw2
