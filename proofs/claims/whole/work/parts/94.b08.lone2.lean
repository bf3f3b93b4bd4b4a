def clh (nx : Nat → Nat) (n : Nat) (a : Nat) : Nat := mk (fun b => decide (b ≠ a ∧ nx a &&& nx b ≠ 0)) n
def lnB (nx : Nat → Nat) (n S : Nat) : Bool := allB (fun b => !S.testBit b || decide (orf (fun a => if S.testBit a then nx a else 0) b &&& nx b = 0)) n
theorem clh_bit (nx : Nat → Nat) (n a b : Nat) : (clh nx n a).testBit b = (decide (b < n) && decide (b ≠ a ∧ nx a &&& nx b ≠ 0)) := mk_bit _ _ _
theorem clh_sym {nx : Nat → Nat} {n a b : Nat} (ha : a < n) (hb : b < n) : (clh nx n a).testBit b = (clh nx n b).testBit a := by
  rw [clh_bit, clh_bit]
  have e : (b ≠ a ∧ nx a &&& nx b ≠ 0) ↔ (a ≠ b ∧ nx b &&& nx a ≠ 0) := by
    rw [Nat.and_comm (nx a)]
    constructor <;> rintro ⟨h1, h2⟩ <;> exact ⟨fun h => h1 h.symm, h2⟩
  simp only [ha, hb, decide_true, Bool.true_and]
  exact decide_eq_decide.mpr e
theorem clh_self (nx : Nat → Nat) (n a : Nat) : (clh nx n a).testBit a = false := by
  rw [clh_bit]
  simp
theorem lnB_ind {nx : Nat → Nat} {n S : Nat} (hS : S < 2 ^ n) : lnB nx n S = true ↔ Ind (clh nx n) S := by
  unfold lnB
  rw [allB_iff]
  have hlt : ∀ k, S.testBit k = true → k < n := fun k hk => by
    by_cases e : k < n
    · exact e
    · rw [n_lt_bits hS (by omega)] at hk; cases hk
  constructor
  · intro h
    have key : ∀ a b, a < b → S.testBit a = true → S.testBit b = true → nx a &&& nx b = 0 := fun a b hab ha hb => by
      have h1 := h b (hlt b hb)
      rw [hb] at h1
      have h2 : orf (fun a => if S.testBit a then nx a else 0) b &&& nx b = 0 := by simpa using h1
      exact and_z (fun k hk => z_and h2 ((orf_bit _ _ _).mpr ⟨a, hab, by rw [ha]; exact hk⟩))
    intro a b ha hb
    rw [clh_bit]
    by_cases e : b = a
    · simp [e]
    · have : nx a &&& nx b = 0 := by
        rcases Nat.lt_or_ge a b with h1 | h1
        · exact key a b h1 ha hb
        · rw [Nat.and_comm]
          exact key b a (by omega) hb ha
      simp [this]
  · intro h b hb
    cases hbs : S.testBit b
    · rfl
    · have : orf (fun a => if S.testBit a then nx a else 0) b &&& nx b = 0 := and_z (fun k hk => by
        obtain ⟨a, ha, h1⟩ := (orf_bit _ _ _).mp hk
        cases has : S.testBit a
        · rw [has] at h1; simp at h1
        · rw [has] at h1
          simp only [if_true] at h1
          have h2 := h a b has hbs
          rw [clh_bit] at h2
          have h3 : ¬ (b ≠ a ∧ nx a &&& nx b ≠ 0) := fun hh => by
            rw [decide_eq_true hb, decide_eq_true hh] at h2
            cases h2
          have h4 : nx a &&& nx b = 0 := by
            by_cases e : nx a &&& nx b = 0
            · exact e
            · exact absurd ⟨by omega, e⟩ h3
          exact z_and h4 h1)
      simp [this]
def bsl (V : Nat → Bool) : Nat → Option Nat
  | 0 => none
  | k + 1 => match bsl V k with
    | none => if V k then some k else none
    | some b => if pc b < pc k ∧ V k = true then some k else some b
theorem bsl_ok {V : Nat → Bool} (h0 : V 0 = true) : ∀ k, 0 < k → ∃ S, bsl V k = some S ∧ S < k ∧ V S = true ∧ ∀ T, T < k → V T = true → pc T < pc S ∨ (pc T = pc S ∧ S ≤ T)
  | 0, h => absurd h (Nat.not_lt_zero 0)
  | 1, _ => ⟨0, by simp [bsl, h0], by omega, h0, fun T hT _ => by
      have : T = 0 := by omega
      subst this
      exact Or.inr ⟨rfl, Nat.le_refl _⟩⟩
  | k + 2, _ => by
    obtain ⟨S, e, a1, a2, a3⟩ := bsl_ok h0 (k + 1) (by omega)
    rw [bsl, e]
    by_cases h : pc S < pc (k + 1) ∧ V (k + 1) = true
    · refine ⟨k + 1, by simp only [if_pos h], by omega, h.2, fun T hT hv => ?_⟩
      by_cases e2 : T = k + 1
      · subst e2; exact Or.inr ⟨rfl, Nat.le_refl _⟩
      · have := a3 T (by omega) hv
        omega
    · refine ⟨S, by simp only [if_neg h], by omega, a2, fun T hT hv => ?_⟩
      by_cases e2 : T = k + 1
      · subst e2
        have : ¬ pc S < pc (k + 1) := fun hh => h ⟨hh, hv⟩
        omega
      · exact a3 T (by omega) hv
theorem bsl_lt {V : Nat → Bool} (h0 : V 0 = true) {k S : Nat} (h : bsl V k = some S) : S < k := by
  rcases Nat.eq_zero_or_pos k with e | e
  · subst e; cases h
  · obtain ⟨T, e1, h1, _⟩ := bsl_ok h0 k e
    rw [h] at e1
    cases e1
    exact h1
section Lone
variable {A : Nat → Nat → Int32} {Z : Nat → Int32} {B : Nat → Nat → Int64} {Q : Nat → Int64} {P : Nat → Option Nat} {F : Nat → Nat → Option Nat} {q : Nat} {D : List xC} {c : Nat × Nat} {K : Nat → Nat} {tt lk lh : Nat → Nat} {R i : Nat}
theorem lnB_0 (nx : Nat → Nat) (n : Nat) : lnB nx n 0 = true := allB_t (fun i _ => by rw [Nat.zero_testBit]; rfl)
theorem m_isLone (hT : Told (A 58) tt lk lh) (hW : HWf tt) {nx : Nat → Nat} (hn : ∀ r, r < tt 1 → A 63 r = nI (nx r)) (hx : ∀ r, nx r < 65536) {S : Nat} (hS : S < 65536) : f_X12_isLone (HH A Z B Q P F q D c) 57 (nI S) = some (nI (if lnB nx (tt 1) S then 1 else 0)) := by
  have hro := hW.ro
  unfold f_X12_isLone
  have key := loop_I (F := fun m i (s : Int32) => f_X12_isLone_4 (HH A Z B Q P F q D c) m 57 (nI S) s (nI i)) (N := tt 1) some (fun i s => s = nI (orf (fun a => if S.testBit a then nx a else 0) i) ∧ ∀ b, b < i → (!S.testBit b || decide (orf (fun a => if S.testBit a then nx a else 0) b &&& nx b = 0)) = true) (fun r => r = nI (if lnB nx (tt 1) S then 1 else 0)) (fun m i s hi hs => ?_) (fun m s hs => ?_) (by omega) (s := nI 0) ⟨rfl, fun k hk => by omega⟩
  · obtain ⟨r, e1, rfl⟩ := key
    exact e1
  · obtain ⟨rfl, hs⟩ := hs
    have l0 : orf (fun a => if S.testBit a then nx a else 0) i < 65536 := orf_lt (k := 16) (fun r _ => by split; exact hx r; decide)
    have l1 : orf (fun a => if S.testBit a then nx a else 0) i &&& nx i < 65536 := n_and_ltl (k := 16) l0
    cases hb : S.testBit i
    · left
      refine ⟨_, ?_, rfl, fun r hr => ?_⟩
      · rw [orf]
        simp (disch := omega) only [f_X12_isLone_4, if_true, if_false, Bool.false_eq_true, Bool.true_eq_false, y_lit, y_m1, nI_add, pk_mul, fa_and, fa_or, y_bs, if_pos, if_neg, y_shl, y_shr, y_le, y_lt, y_eq, y_sub, y_dv, y_rm, y_b0, y_b1, y_sdf, y_ltM, y_Mlt, y_leM, y_Mle, y_eqM, y_Meq, s_e1, s_e2, s_e3, s_e4, s_e5, s_e6, gO_57, m_rooms hT, has_spec, hb, Nat.or_zero]
      · by_cases e : r = i
        · subst e; rw [hb]; rfl
        · exact hs r (by omega)
    · by_cases hz : orf (fun a => if S.testBit a then nx a else 0) i &&& nx i = 0
      · left
        refine ⟨_, ?_, rfl, fun r hr => ?_⟩
        · rw [orf]
          simp (disch := omega) only [f_X12_isLone_4, if_true, if_false, Bool.false_eq_true, Bool.true_eq_false, y_lit, y_m1, nI_add, pk_mul, fa_and, fa_or, y_bs, if_pos, if_neg, y_shl, y_shr, y_le, y_lt, y_eq, y_sub, y_dv, y_rm, y_b0, y_b1, y_sdf, y_ltM, y_Mlt, y_leM, y_Mle, y_eqM, y_Meq, s_e1, s_e2, s_e3, s_e4, s_e5, s_e6, gO_57, m_rooms hT, has_spec, hb, gf_57_16, ld_63, hn, hz]
        · by_cases e : r = i
          · subst e; rw [hz]; simp
          · exact hs r (by omega)
      · right
        refine ⟨nI 0, ?_, ?_⟩
        · simp (disch := omega) only [f_X12_isLone_4, if_true, if_false, Bool.false_eq_true, Bool.true_eq_false, y_lit, y_m1, nI_add, pk_mul, fa_and, fa_or, y_bs, if_pos, if_neg, y_shl, y_shr, y_le, y_lt, y_eq, y_sub, y_dv, y_rm, y_b0, y_b1, y_sdf, y_ltM, y_Mlt, y_leM, y_Mle, y_eqM, y_Meq, s_e1, s_e2, s_e3, s_e4, s_e5, s_e6, gO_57, m_rooms hT, has_spec, hb, gf_57_16, ld_63, hn, hz]
        · unfold lnB
          rw [allB_f hi (by rw [hb, decide_eq_false hz]; rfl)]
          rfl
  · obtain ⟨rfl, hs⟩ := hs
    refine ⟨nI 1, ?_, ?_⟩
    · simp (disch := omega) only [f_X12_isLone_4, if_true, if_false, Bool.false_eq_true, Bool.true_eq_false, y_lit, y_m1, nI_add, pk_mul, fa_and, fa_or, y_bs, if_pos, if_neg, y_shl, y_shr, y_le, y_lt, y_eq, y_sub, y_dv, y_rm, y_b0, y_b1, y_sdf, y_ltM, y_Mlt, y_leM, y_Mle, y_eqM, y_Meq, s_e1, s_e2, s_e3, s_e4, s_e5, s_e6, gO_57, m_rooms hT]
    · unfold lnB
      rw [allB_t hs]
      rfl
theorem m_bestLone (hT : Told (A 58) tt lk lh) (hW : HWf tt) {nx : Nat → Nat} (hn : ∀ r, r < tt 1 → A 63 r = nI (nx r)) (hx : ∀ r, nx r < 65536) : f_X12_bestOf (HH A Z B Q P F q D c) 57 (nI 3) = some (eo (bsl (lnB nx (tt 1)) (2 ^ tt 1))) := by
  have hro := hW.ro
  have hpw := pw16 hro
  have hpp := Nat.two_pow_pos (tt 1)
  refine loop0 (F := fun m k (s : Option Nat) => f_X12_bestOf_4 (HH A Z B Q P F q D c) m 57 (nI 3) (eo s) (nI k)) (N := 2 ^ tt 1) (st := fun k => bsl (lnB nx (tt 1)) k) (fun m k hk => ?_) (fun m => ?_) (by omega)
  · have e1 := m_isLone (A := A) (Z := Z) (B := B) (Q := Q) (P := P) (F := F) (q := q) (D := D) (c := c) hT hW hn hx (S := k) (by omega)
    have e0 : f_X12_isSo (HH A Z B Q P F q D c) 57 (nI 3) (nI k) = some (nI (if lnB nx (tt 1) k then 1 else 0)) := by
      unfold f_X12_isSo
      rw [if_neg (by decide), if_neg (by decide), if_neg (by decide), gO_57, Option.bind_some, e1, Option.bind_some]
      cases lnB nx (tt 1) k <;> rfl
    have pk : pc k ≤ 64 := pc_le k
    rw [bsl]
    cases hs : bsl (lnB nx (tt 1)) k with
    | none =>
      simp only [eo]
      cases hv : lnB nx (tt 1) k
      · rw [hv] at e0
        simp (disch := omega) only [f_X12_bestOf_4, f_X12_bestOf_50, if_true, if_false, Bool.false_eq_true, Bool.true_eq_false, y_lit, y_m1, nI_add, pk_mul, fa_and, fa_or, y_bs, if_pos, if_neg, y_shl, y_shr, y_le, y_lt, y_eq, y_sub, y_dv, y_rm, y_b0, y_b1, y_sdf, y_ltM, y_Mlt, y_leM, y_Mle, y_eqM, y_Meq, s_e1, s_e2, s_e3, s_e4, s_e5, s_e6, gO_57, m_all hT hW, e0]
      · rw [hv] at e0
        simp (disch := omega) only [f_X12_bestOf_4, f_X12_bestOf_50, if_true, if_false, Bool.false_eq_true, Bool.true_eq_false, y_lit, y_m1, nI_add, pk_mul, fa_and, fa_or, y_bs, if_pos, if_neg, y_shl, y_shr, y_le, y_lt, y_eq, y_sub, y_dv, y_rm, y_b0, y_b1, y_sdf, y_ltM, y_Mlt, y_leM, y_Mle, y_eqM, y_Meq, s_e1, s_e2, s_e3, s_e4, s_e5, s_e6, gO_57, m_all hT hW, e0]
    | some b =>
      have hb := bsl_lt (lnB_0 nx (tt 1)) hs
      have pb : pc b ≤ 64 := pc_le b
      simp only [eo]
      cases hv : lnB nx (tt 1) k
      · rw [hv] at e0
        by_cases hp : pc b < pc k
        · simp (disch := omega) only [f_X12_bestOf_4, f_X12_bestOf_50, if_true, if_false, Bool.false_eq_true, Bool.true_eq_false, y_lit, y_m1, nI_add, pk_mul, fa_and, fa_or, y_bs, if_pos, if_neg, y_shl, y_shr, y_le, y_lt, y_eq, y_sub, y_dv, y_rm, y_b0, y_b1, y_sdf, y_ltM, y_Mlt, y_leM, y_Mle, y_eqM, y_Meq, s_e1, s_e2, s_e3, s_e4, s_e5, s_e6, gO_57, m_all hT hW, ones_spec, e0, and_false]
        · simp (disch := omega) only [f_X12_bestOf_4, f_X12_bestOf_50, if_true, if_false, Bool.false_eq_true, Bool.true_eq_false, y_lit, y_m1, nI_add, pk_mul, fa_and, fa_or, y_bs, if_pos, if_neg, y_shl, y_shr, y_le, y_lt, y_eq, y_sub, y_dv, y_rm, y_b0, y_b1, y_sdf, y_ltM, y_Mlt, y_leM, y_Mle, y_eqM, y_Meq, s_e1, s_e2, s_e3, s_e4, s_e5, s_e6, gO_57, m_all hT hW, ones_spec, and_false]
      · rw [hv] at e0
        by_cases hp : pc b < pc k
        · simp (disch := omega) only [f_X12_bestOf_4, f_X12_bestOf_50, if_true, if_false, Bool.false_eq_true, Bool.true_eq_false, y_lit, y_m1, nI_add, pk_mul, fa_and, fa_or, y_bs, if_pos, if_neg, y_shl, y_shr, y_le, y_lt, y_eq, y_sub, y_dv, y_rm, y_b0, y_b1, y_sdf, y_ltM, y_Mlt, y_leM, y_Mle, y_eqM, y_Meq, s_e1, s_e2, s_e3, s_e4, s_e5, s_e6, gO_57, m_all hT hW, ones_spec, e0, and_true]
        · simp (disch := omega) only [f_X12_bestOf_4, f_X12_bestOf_50, if_true, if_false, Bool.false_eq_true, Bool.true_eq_false, y_lit, y_m1, nI_add, pk_mul, fa_and, fa_or, y_bs, if_pos, if_neg, y_shl, y_shr, y_le, y_lt, y_eq, y_sub, y_dv, y_rm, y_b0, y_b1, y_sdf, y_ltM, y_Mlt, y_leM, y_Mle, y_eqM, y_Meq, s_e1, s_e2, s_e3, s_e4, s_e5, s_e6, gO_57, m_all hT hW, ones_spec, and_true]
  · simp (disch := omega) only [f_X12_bestOf_4, if_true, if_false, Bool.false_eq_true, Bool.true_eq_false, y_lit, y_m1, nI_add, pk_mul, fa_and, fa_or, y_bs, if_pos, if_neg, y_shl, y_shr, y_le, y_lt, y_eq, y_sub, y_dv, y_rm, y_b0, y_b1, y_sdf, y_ltM, y_Mlt, y_leM, y_Mle, y_eqM, y_Meq, s_e1, s_e2, s_e3, s_e4, s_e5, s_e6, gO_57, m_all hT hW]
theorem skl_lt {cl : Nat → Nat} {n : Nat} (hn : n ≤ 64) (hsym : ∀ a b, a < n → b < n → (cl a).testBit b = (cl b).testBit a) (hself : ∀ a, (cl a).testBit a = false) {i free left S : Nat} (hi : i ≤ n) (hf : free < 2 ^ 64) (h : skl cl i free left = some S) : S < 2 ^ i := by
  have := skl_ok hn hsym hself i free left hi hf
  rw [h] at this
  exact this.1
theorem c_seekLone {n : Nat} {cl : Nat → Nat} (hn : n ≤ 16) (hcl : ∀ r, r < n → A 27 r = nI (cl r)) (hc : ∀ r, cl r < 65536) (hsym : ∀ a b, a < n → b < n → (cl a).testBit b = (cl b).testBit a) (hself : ∀ a, (cl a).testBit a = false) : ∀ (i free left m : Nat), i ≤ n → i < m → free < 65536 → left ≤ 16 → f_X2_seekLone (HH A Z B Q P F q D c) m 22 (nI i) (nI free) (nI left) = some (eo (skl cl i free left))
  | 0, free, left, m, hi, hm, hf, hl => by
    obtain ⟨m, rfl⟩ : ∃ k, m = k + 1 := ⟨m - 1, by omega⟩
    rw [skl]
    by_cases h : left = 0
    · rw [if_pos h]
      simp (disch := omega) only [f_X2_seekLone, if_true, if_false, Bool.false_eq_true, Bool.true_eq_false, y_lit, y_m1, nI_add, pk_mul, fa_and, fa_or, y_bs, if_pos, if_neg, y_shl, y_shr, y_le, y_lt, y_eq, y_sub, y_dv, y_rm, y_b0, y_b1, y_sdf, y_ltM, y_Mlt, y_leM, y_Mle, y_eqM, y_Meq, s_e1, s_e2, s_e3, s_e4, s_e5, s_e6, h, eo]
    · rw [if_neg h]
      simp (disch := omega) only [f_X2_seekLone, if_true, if_false, Bool.false_eq_true, Bool.true_eq_false, y_lit, y_m1, nI_add, pk_mul, fa_and, fa_or, y_bs, if_pos, if_neg, y_shl, y_shr, y_le, y_lt, y_eq, y_sub, y_dv, y_rm, y_b0, y_b1, y_sdf, y_ltM, y_Mlt, y_leM, y_Mle, y_eqM, y_Meq, s_e1, s_e2, s_e3, s_e4, s_e5, s_e6, h, eo]
  | i + 1, free, left, m, hi, hm, hf, hl => by
    obtain ⟨m, rfl⟩ : ∃ k, m = k + 1 := ⟨m - 1, by omega⟩
    have ih1 := c_seekLone hn hcl hc hsym hself i free left m (by omega) (by omega) hf hl
    have hS2 : 2 ^ i ≤ 2 ^ 16 := n_pwl (by omega)
    have hS3 : 2 ^ (i + 1) ≤ 2 ^ 16 := n_pwl (by omega)
    have hpos := Nat.two_pow_pos (i + 1)
    have l1 : free &&& (2 ^ (i + 1) - 1) < 65536 := n_and_ltl (k := 16) hf
    have p1 : pc (free &&& (2 ^ (i + 1) - 1)) ≤ 16 := pc_le_n (by decide) l1
    have u0 := hcl i (by omega)
    have e0 : nI (i + 1) - 1 = nI i := n_sub1 i
    rw [f_X2_seekLone, skl]
    by_cases h : left = 0
    · rw [if_pos (by rw [h]; exact nI_0), if_pos h]
      rfl
    · rw [if_neg (by rw [n_z (by omega)]; exact h), if_neg h, if_neg (by rw [← nI_0, y_le (by omega) (by omega)]; omega), n_all1 (by omega), fa_and, bitCount_spec _ (by omega), Option.bind_some, e0, ih1, Option.bind_some]
      by_cases hp : left ≤ pc (free &&& (2 ^ (i + 1) - 1))
      · rw [if_pos (by rw [y_le (by omega) (by omega)]; exact hp), if_pos hp]
        cases hs : skl cl i free left with
        | some S =>
          have hS := skl_lt (by omega) hsym hself (by omega) (by omega) hs
          rw [if_neg (by show ¬ nI S = nM; rw [y_eqM (by omega)]; exact id)]
        | none =>
          rw [if_pos (show eo none = -1 from rfl)]
          cases hb : free.testBit i
          · rw [if_pos ((n_bit0 (by omega) (by omega)).mpr hb)]
            rfl
          · have hb2 : ¬ ((nI free >>> (nI i &&& 31)) &&& 1 = 0) := fun e => by rw [n_bit0 (by omega) (by omega), hb] at e; cases e
            have ih2 := c_seekLone hn hcl hc hsym hself i (sdf free (cl i)) (left - 1) m (by omega) (by omega) (sdf_lt (k := 16) hf) (by omega)
            rw [if_neg hb2, gf_22_5, Option.bind_some, ld_27 (by omega), Option.bind_some, u0, show (-1 : Int32) = nM from rfl, y_sdf (by omega), show (1 : Int32) = nI 1 from rfl, y_sub (by omega), ih2, Option.bind_some]
            cases hs2 : skl cl i (sdf free (cl i)) (left - 1) with
            | none =>
              rw [if_pos (show eo none = nM from rfl)]
              rfl
            | some S =>
              have hS := skl_lt (by omega) hsym hself (by omega) (by have := sdf_lt (k := 16) (b := cl i) hf; omega) hs2
              rw [if_neg (by show ¬ nI S = nM; rw [y_eqM (by omega)]; exact id), show (31 : Int32) = nI 31 from rfl, fa_and, y_shl (by omega)]
              show some (nI S ||| nI (2 ^ i)) = some (nI (S ||| 2 ^ i))
              rw [fa_or]
      · rw [if_neg (by rw [y_le (by omega) (by omega)]; exact hp), if_neg hp]
        rfl
end Lone
