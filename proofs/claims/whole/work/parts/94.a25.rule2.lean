section Rule2
variable {A : Nat → Nat → Int32} {Z : Nat → Int32} {B : Nat → Nat → Int64} {Q : Nat → Int64} {P : Nat → Option Nat} {F : Nat → Nat → Option Nat} {q : Nat} {D : List xC} {c : Nat × Nat} {K : Nat → Nat} {tt lk lh : Nat → Nat} {R i : Nat}
/-- does room k (of n) have a lamp -/
theorem m_hasLamp15 (h : xH) {n p b k : Nat} (hn : n ≤ 40) (hp : 0 < p) (hp8 : p ≤ 8) (hb : b < 2 ^ p) (hk : k < 1000) : f_X12_hasLamp_15 h (nI n) (nI p) (nI b) (nI k) = some (nI (if k < n ∧ b.testBit (k % p) = true then 1 else 0)) := by
  have hb2 : b < 256 := Nat.lt_of_lt_of_le hb (n_pwl (m := 8) hp8)
  have hm := Nat.mod_lt k hp
  by_cases h1 : k < n
  · cases h2 : b.testBit (k % p) <;> simp (disch := omega) only [f_X12_hasLamp_15, if_true, if_false, Bool.false_eq_true, Bool.true_eq_false, y_lit, y_m1, nI_add, pk_mul, fa_and, fa_or, y_bs, if_pos, if_neg, y_shl, y_shr, y_le, y_lt, y_eq, y_sub, y_dv, y_rm, y_b0, y_b1, y_sdf, y_ltM, y_Mlt, y_leM, y_Mle, y_eqM, y_Meq, s_e1, s_e2, s_e3, s_e4, s_e5, s_e6, has_spec, h2, h1, and_self, and_false, true_and]
  · simp (disch := omega) only [f_X12_hasLamp_15, if_true, if_false, Bool.false_eq_true, Bool.true_eq_false, y_lit, y_m1, nI_add, pk_mul, fa_and, fa_or, y_bs, if_pos, if_neg, y_shl, y_shr, y_le, y_lt, y_eq, y_sub, y_dv, y_rm, y_b0, y_b1, y_sdf, y_ltM, y_Mlt, y_leM, y_Mle, y_eqM, y_Meq, s_e1, s_e2, s_e3, s_e4, s_e5, s_e6, h1, false_and]
theorem m_hasLamp15M (h : xH) (n p b : Nat) : f_X12_hasLamp_15 h (nI n) (nI p) (nI b) nM = some (nI 0) := by
  unfold f_X12_hasLamp_15
  rw [if_pos (by decide)]
  rfl
theorem rls_bit (n p b k : Nat) : (rls n p b).testBit k = (decide (k < n) && b.testBit (k % p)) := mk_bit _ _ _
theorem m_lampL (h : xH) {n p b k : Nat} (ring : Bool) (hr : ring = true → 3 ≤ n) (hn : n ≤ 40) (hp : 0 < p) (hp8 : p ≤ 8) (hb : b < 2 ^ p) (hk : k < n) : f_X12_hasLamp h (nI n) (if ring then 1 else 0) (nI p) (nI b) (nI k - 1) = some (nI (if (decide (0 < k) && (rls n p b).testBit (k - 1)) || (ring && (decide (k = 0) && (rls n p b).testBit (n - 1))) then 1 else 0)) := by
  cases ring with
  | false =>
    unfold f_X12_hasLamp
    rw [if_pos (by decide)]
    by_cases h0 : k = 0
    · subst h0
      rw [show nI 0 - 1 = nM from by decide, m_hasLamp15M]
      simp
    · rw [show (1 : Int32) = nI 1 from rfl, y_sub (by omega), m_hasLamp15 h hn hp hp8 hb (by omega), rls_bit]
      have h1 : k - 1 < n := by omega
      have h2 : 0 < k := by omega
      simp [h1, h2]
  | true =>
    have h3 := hr rfl
    unfold f_X12_hasLamp
    rw [if_neg (by decide)]
    by_cases h0 : k = 0
    · subst h0
      have e : nI 0 - 1 + nI n = nI (n - 1) := by
        rw [show nI 0 - 1 = nM from by decide]
        rw [← y_sub (a := n) (b := 1) (by omega), show nM = -nI 1 from by decide, Int32.sub_eq_add_neg, Int32.add_comm]
      rw [e, y_rm (by omega) (by omega) (by omega), Option.bind_some, m_hasLamp15 h hn hp hp8 hb (by have := Nat.mod_lt (n - 1) (y := n) (by omega); omega), Nat.mod_eq_of_lt (a := n - 1) (b := n) (by omega), rls_bit]
      have h1 : n - 1 < n := by omega
      simp [h1, rls_bit]
    · have e : nI k - 1 + nI n = nI (k - 1 + n) := by
        rw [show (1 : Int32) = nI 1 from rfl, y_sub (by omega), nI_add]
      rw [e, y_rm (by omega) (by omega) (by omega), Option.bind_some, m_hasLamp15 h hn hp hp8 hb (by have := Nat.mod_lt (k - 1 + n) (y := n) (by omega); omega), Nat.add_mod_right, Nat.mod_eq_of_lt (a := k - 1) (b := n) (by omega), rls_bit]
      have h1 : k - 1 < n := by omega
      have h2 : 0 < k := by omega
      simp [h1, h2, h0]
theorem m_lampR (h : xH) {n p b k : Nat} (ring : Bool) (hr : ring = true → 3 ≤ n) (hn : n ≤ 40) (hp : 0 < p) (hp8 : p ≤ 8) (hb : b < 2 ^ p) (hk : k < n) : f_X12_hasLamp h (nI n) (if ring then 1 else 0) (nI p) (nI b) (nI k + 1) = some (nI (if (rls n p b).testBit (k + 1) || (ring && (decide (k = n - 1) && (rls n p b).testBit 0)) then 1 else 0)) := by
  cases ring with
  | false =>
    unfold f_X12_hasLamp
    rw [if_pos (by decide), nI_1, m_hasLamp15 h hn hp hp8 hb (by omega), rls_bit]
    simp
  | true =>
    have h3 := hr rfl
    unfold f_X12_hasLamp
    rw [if_neg (by decide), nI_1, nI_add, y_rm (by omega) (by omega) (by omega), Option.bind_some, m_hasLamp15 h hn hp hp8 hb (by have := Nat.mod_lt (k + 1 + n) (y := n) (by omega); omega), Nat.add_mod_right, rls_bit, rls_bit]
    by_cases h0 : k = n - 1
    · subst h0
      rw [show n - 1 + 1 = n by omega, Nat.mod_self]
      have h1 : 0 < n := by omega
      simp [h1]
    · rw [Nat.mod_eq_of_lt (a := k + 1) (b := n) (by omega)]
      have h1 : k + 1 < n := by omega
      simp [h0, h1]
def fdk (n : Nat) (ring : Bool) (p b : Nat) : Int32 := if unl n ring (rls n p b) = 0 then nM else nI (low (unl n ring (rls n p b)))
theorem m_firstDark (h : xH) {n p b : Nat} (ring : Bool) (hr : ring = true → 3 ≤ n) (hn : n ≤ 40) (hp : 0 < p) (hp8 : p ≤ 8) (hb : b < 2 ^ p) : f_X12_firstDark h (nI n) (if ring then 1 else 0) (nI p) (nI b) = some (fdk n ring p b) := by
  unfold f_X12_firstDark
  have key := loop_I (F := fun m i (s : Unit) => f_X12_firstDark_3 h m (nI n) (if ring then 1 else 0) (nI p) (nI b) (nI i)) (N := n) some (fun i _ => ∀ k, k < i → (unl n ring (rls n p b)).testBit k = false) (fun r => r = fdk n ring p b) (fun m i s hi hs => ?_) (fun m s hs => ?_) (by omega) (s := ()) (fun k hk => by omega)
  · obtain ⟨r, e1, rfl⟩ := key
    exact e1
  · have eL := m_lampL h ring hr hn hp hp8 hb hi
    have eR := m_lampR h ring hr hn hp hp8 hb hi
    have eu : (unl n ring (rls n p b)).testBit i = !((decide (0 < i) && (rls n p b).testBit (i - 1)) || (rls n p b).testBit (i + 1) || (ring && (decide (i = 0) && (rls n p b).testBit (n - 1))) || (ring && (decide (i = n - 1) && (rls n p b).testBit 0))) := by
      unfold unl
      rw [mk_bit]
      simp [hi]
    have hstep : f_X12_firstDark_3 h (m + 1) (nI n) (if ring then 1 else 0) (nI p) (nI b) (nI i) = if (unl n ring (rls n p b)).testBit i = true then some (nI i) else f_X12_firstDark_3 h m (nI n) (if ring then 1 else 0) (nI p) (nI b) (nI (i + 1)) := by
      rw [f_X12_firstDark_3, if_neg (by rw [y_le (by omega) (by omega)]; omega), eL, Option.bind_some, eu, nI_1]
      rw [nI_1] at eR
      generalize (decide (0 < i) && (rls n p b).testBit (i - 1)) = b1 at eL eR ⊢
      generalize (ring && (decide (i = 0) && (rls n p b).testBit (n - 1))) = b2 at eL eR ⊢
      generalize (rls n p b).testBit (i + 1) = b3 at eL eR ⊢
      generalize (ring && (decide (i = n - 1) && (rls n p b).testBit 0)) = b4 at eL eR ⊢
      rw [eR, Option.bind_some]
      cases b1 <;> cases b2 <;> cases b3 <;> cases b4 <;> rfl
    cases hu : (unl n ring (rls n p b)).testBit i
    · left
      refine ⟨(), ?_, fun k hk => ?_⟩
      · rw [hstep, hu]
        rfl
      · by_cases e : k = i
        · subst e; exact hu
        · exact hs k (by omega)
    · right
      refine ⟨nI i, ?_, ?_⟩
      · rw [hstep, hu]
        rfl
      · unfold fdk
        rw [if_neg (fun e => by rw [e, Nat.zero_testBit] at hu; cases hu), low_eq (by omega) hu hs]
  · refine ⟨nM, ?_, ?_⟩
    · show f_X12_firstDark_3 h (m + 1) _ _ _ _ _ = _
      rw [f_X12_firstDark_3, if_pos (by rw [y_le (by omega) (by omega)]; exact Nat.le_refl _)]
      rfl
    · unfold fdk
      rw [if_pos]
      apply n_zero
      intro k
      by_cases hk : k < n
      · exact hs k hk
      · exact n_lt_bits (unl_lt _ _ _) (by omega)
/-- an argument that is one of m to n -/
theorem m_isLong (h : xH) (x : Int32) (ring : Bool) : f_X12_isLong h x (if ring then 1 else 0) = some (if (if ring then nI 3 else nI 1) ≤ x ∧ x ≤ nI 40 then nI 1 else nI 0) := by
  unfold f_X12_isLong f_X12_isLong_13
  cases ring with
  | false =>
    rw [if_pos (by decide), show (1 : Int64) = (1 : Int32).toInt64 from by decide, show (40 : Int64) = (40 : Int32).toInt64 from by decide, within_spec, Option.bind_some, if_pos (nb_ite _)]
    rfl
  | true =>
    rw [if_neg (by decide), show (3 : Int64) = (3 : Int32).toInt64 from by decide, show (40 : Int64) = (40 : Int32).toInt64 from by decide, within_spec, Option.bind_some, if_pos (nb_ite _)]
    rfl
theorem c_checkRow (x : Int32) (ring : Bool) : f_X11_checkRow (HH A Z B Q P F q D c) x (if ring then 1 else 0) = some (if (if ring then nI 3 else nI 1) ≤ x ∧ x ≤ nI 40 then .inr () else .inl ("java/lang/IllegalArgumentException", HH A Z B Q P F q D (c.1 + 1, c.2 + 6))) := by
  unfold f_X11_checkRow f_X11_checkRow_10 f_X11_checkRow_19
  have e : ∀ y : Int32, (x < y) ↔ ¬ y ≤ x := fun y => by rw [fa_lt, fa_le]; omega
  cases ring with
  | false =>
    rw [if_pos (by decide)]
    simp only [e, y_lit, Bool.false_eq_true, if_false]
    by_cases h1 : nI 1 ≤ x <;> by_cases h2 : x ≤ nI 40 <;> simp [h1, h2, thr_HH]
  | true =>
    rw [if_neg (by decide)]
    simp only [e, y_lit, if_true]
    by_cases h1 : nI 3 ≤ x <;> by_cases h2 : x ≤ nI 40 <;> simp [h1, h2, thr_HH]
theorem row_of {x : Int32} {ring : Bool} (h : (if ring then nI 3 else nI 1) ≤ x ∧ x ≤ nI 40) : ∃ n, x = nI n ∧ 0 < n ∧ n ≤ 40 ∧ (ring = true → 3 ≤ n) := by
  obtain ⟨h1, h2⟩ := h
  have h0 : ¬ x < 0 := by
    cases ring
    · rw [if_neg (by decide), fa_le] at h1
      rw [fa_lt]
      have : (nI 1).toInt = 1 := by decide
      have : (0 : Int32).toInt = 0 := by decide
      omega
    · rw [if_pos rfl, fa_le] at h1
      rw [fa_lt]
      have : (nI 3).toInt = 3 := by decide
      have : (0 : Int32).toInt = 0 := by decide
      omega
  obtain ⟨n, hn, rfl⟩ := nI_of h0
  rw [y_le hn (by decide)] at h2
  refine ⟨n, rfl, ?_, h2, ?_⟩
  · cases ring
    · rw [if_neg (by decide), y_le (by decide) hn] at h1
      omega
    · rw [if_pos rfl, y_le (by decide) hn] at h1
      omega
  · rintro rfl
    rw [if_pos rfl, y_le (by decide) hn] at h1
    omega
theorem neg_lN {n : Nat} (h0 : 0 < n) (hn : n < 2 ^ 64) : -lN n = lN (2 ^ 64 - n) := by
  apply Int64.toBitVec_inj.mp
  apply BitVec.eq_of_toNat_eq
  rw [Int64.toBitVec_neg, BitVec.toNat_neg, wb_tn hn, wb_tn (by omega)]
  omega
theorem cmp_lN0 {n : Nat} (hn : n < 2 ^ 63) : (lg_cmp (lN n) (0 : Int64) = 0) = (n = 0) := by
  apply propext
  constructor
  · intro e
    by_cases h : n = 0
    · exact h
    · have h1 : (0 : Int64) < lN n := by
        rw [show (0 : Int64) = lN 0 from rfl, pk_lLT (by decide) hn]
        omega
      have h2 : 0 < lg_cmp (lN n) 0 := (lg_cmp_gt ..).mpr h1
      rw [e] at h2
      exact absurd h2 (by decide)
  · rintro rfl
    exact cmp_self _
theorem c_ruleEnd (h : xH) {U : Nat} (hU : U < 2 ^ 40) : (if (lg_cmp (lN U) (0 : Int64)) = 0 then (some (.inr (-1 : Int32)) : Option ((String × xH) ⊕ (Int32))) else ((f_J13_bitCount_95d88 h ((lN U &&& (-lN U)) - (1 : Int64))).bind fun r11 => some (.inr r11))) = some (.inr (if U = 0 then nM else nI (low U))) := by
  by_cases h0 : U = 0
  · rw [if_pos (by rw [cmp_lN0 (by omega)]; exact h0), if_pos h0]
    rfl
  · obtain ⟨a, b, d⟩ := low_spec h0 (by omega)
    have hp0 := Nat.two_pow_pos (low U)
    have hp : 2 ^ low U ≤ 2 ^ 63 := n_pwl (by omega)
    rw [if_neg (by rw [cmp_lN0 (by omega)]; exact h0), if_neg h0, neg_lN (by omega) (by omega), fb_andL, low_and (by omega) b d, show (1 : Int64) = lN 1 from rfl, lN_sub (by omega), bitCountL_spec h (by omega), Option.bind_some, pc_ones (by omega)]
theorem m_wp (h : xH) (y : Int32) : f_X12_within h y.toInt64 (1 : Int64) (8 : Int64) = some (if nI 1 ≤ y ∧ y ≤ nI 8 then nI 1 else nI 0) := by
  rw [show (1 : Int64) = (1 : Int32).toInt64 from by decide, show (8 : Int64) = (8 : Int32).toInt64 from by decide, within_spec]
  rfl
theorem m_wb (h : xH) (z : Int32) {p : Nat} (hp : p ≤ 8) : f_X12_within h z.toInt64 (0 : Int64) (Int32.toInt64 (((1 : Int32) <<< (nI p &&& 31)) - (1 : Int32))) = some (if rk z (2 ^ p) = true then nI 1 else nI 0) := by
  have : 2 ^ p ≤ 2 ^ 8 := n_pwl hp
  rw [n_shl (by omega)]
  exact rk_withinL h z (by omega) rfl
end Rule2
theorem ok_rule : ∀ x0 r x2 x3, (r = 0 ∨ r = 1) → ME (fun h => f_L_rule h 0 x0 r x2 x3 76) (fun h => f_X12_rule h 57 x0 r x2 x3) := by
  intro x r y z hr h i hJ hi
  obtain ⟨K, A, Z, B, Q, P, F, q, D, c, tt, lk, lh, R, rfl, hI⟩ := hJ
  have hz := hI.2.1.2.2.2
  obtain ⟨ring, rfl⟩ : ∃ ring : Bool, r = if ring then 1 else 0 := by
    rcases hr with rfl | rfl
    · exact ⟨false, rfl⟩
    · exact ⟨true, rfl⟩
  have el : ∀ u v : Int32, (u < v) ↔ ¬ v ≤ u := fun u v => by rw [fa_lt, fa_le]; omega
  by_cases hrow : (if ring then nI 3 else nI 1) ≤ x ∧ x ≤ nI 40
  · obtain ⟨n, rfl, n0, n40, n3⟩ := row_of hrow
    by_cases hp : nI 1 ≤ y ∧ y ≤ nI 8
    · obtain ⟨p, rfl, p0, p8⟩ : ∃ p, y = nI p ∧ 0 < p ∧ p ≤ 8 := by
        have h0 : ¬ y < 0 := by
          have := hp.1
          rw [fa_le] at this
          rw [fa_lt]
          have h1 : (nI 1).toInt = 1 := by decide
          have h2 : (0 : Int32).toInt = 0 := by decide
          omega
        obtain ⟨p, hp2, rfl⟩ := nI_of h0
        rw [y_le (by decide) hp2, y_le hp2 (by decide)] at hp
        exact ⟨p, rfl, by omega, by omega⟩
      have h28 : 2 ^ p ≤ 2 ^ 8 := n_pwl p8
      cases hb : rk z (2 ^ p)
      · refine ME_t hI (k := 1) (b := nI 0) (by decide) ?_ ?_ (oZ18 (nI 1)) rfl
        · show f_L_rule (HH A Z B Q P F q D c) 0 (nI n) (if ring then 1 else 0) (nI p) z 76 = _
          unfold f_L_rule f_X11_rule f_X11_rule_29
          rw [gO_0, Option.bind_some, c_checkRow, if_pos hrow, Option.bind_some]
          rcases rk_f (by omega) hb with h1 | ⟨k, k1, k2, rfl⟩
          · simp (disch := omega) only [if_true, if_false, Bool.false_eq_true, Bool.true_eq_false, y_lit, y_m1, nI_add, pk_mul, fa_and, fa_or, y_bs, if_pos, if_neg, y_shl, y_shr, y_le, y_lt, y_eq, y_sub, y_dv, y_rm, y_b0, y_b1, y_sdf, y_ltM, y_Mlt, y_leM, y_Mle, y_eqM, y_Meq, s_e1, s_e2, s_e3, s_e4, s_e5, s_e6, h1, thr_HH]
          · simp (disch := omega) only [if_true, if_false, Bool.false_eq_true, Bool.true_eq_false, y_lit, y_m1, nI_add, pk_mul, fa_and, fa_or, y_bs, if_pos, if_neg, y_shl, y_shr, y_le, y_lt, y_eq, y_sub, y_dv, y_rm, y_b0, y_b1, y_sdf, y_ltM, y_Mlt, y_leM, y_Mle, y_eqM, y_Meq, s_e1, s_e2, s_e3, s_e4, s_e5, s_e6, thr_HH]
        · show f_X12_rule (HH A Z B Q P F q D (c.1 + 1, c.2 + 6)) 57 (nI n) (if ring then 1 else 0) (nI p) z = _
          unfold f_X12_rule f_X12_rule_41 f_X12_rule_42
          rw [m_isLong, if_pos hrow, Option.bind_some, if_neg (by decide), m_wp, if_pos hp, Option.bind_some, if_neg (by decide), m_wb _ _ p8, hb, Option.bind_some, if_pos (by decide), pf_57_4, Option.bind_some, gf_57_4, Option.bind_some, y_us, if_neg (by decide)]
          rfl
      · obtain ⟨b, hb2, rfl⟩ := rk_t (by omega) hb
        refine ME_s hI (fdk n ring p b) ?_ ?_
        · show f_L_rule (HH A Z B Q P F q D c) 0 (nI n) (if ring then 1 else 0) (nI p) (nI b) 76 = _
          have hU := unl_lt n ring (rls n p b)
          have h40 := pw40 n40
          have e2 := c_ruleEnd (HH A Z B Q P F q D c) (U := unl n ring (rls n p b)) (by omega)
          unfold f_L_rule f_X11_rule f_X11_rule_29
          rw [gO_0, Option.bind_some, c_checkRow, if_pos hrow, Option.bind_some]
          simp (disch := omega) only [y_lit]
          rw [if_neg (by rw [y_lt (by omega) (by omega)]; omega), if_neg (by rw [y_lt (by omega) (by omega)]; omega), if_neg (by rw [y_lt (by omega) (by omega)]; omega), if_pos (by rw [fa_and, y_shl (by omega), y_lt (by omega) (by omega)]; exact hb2), c_lampsByRule _ n40 p0 p8 hb2, Option.bind_some]
          have e3 := c_unlitBy (HH A Z B Q P F q D c) ring n0 n40 (rls_lt n p b)
          simp only [y_lit] at e2 e3 ⊢
          rw [e3, Option.bind_some, e2, Option.bind_some]
          show ((stJ _ 76 (nI 0) (Int32.toInt64 (fdk n ring p b))).bind _) = _
          rw [oB_st, Option.bind_some]
        · show f_X12_rule (HH A Z _ Q P F q D c) 57 (nI n) (if ring then 1 else 0) (nI p) (nI b) = _
          unfold f_X12_rule f_X12_rule_41 f_X12_rule_42
          rw [m_isLong, if_pos hrow, Option.bind_some, if_neg (by decide), m_wp, if_pos hp, Option.bind_some, if_neg (by decide), m_wb _ _ p8, hb, Option.bind_some, if_neg (by decide), pf_57_4, Option.bind_some, gf_57_4, Option.bind_some, y_us, if_pos (by decide), m_firstDark _ ring n3 n40 p0 p8 hb2, Option.bind_some]
          rfl
    · refine ME_t hI (k := 1) (b := nI 0) (by decide) ?_ ?_ (oZ18 (nI 1)) rfl
      · show f_L_rule (HH A Z B Q P F q D c) 0 (nI n) (if ring then 1 else 0) y z 76 = _
        unfold f_L_rule f_X11_rule f_X11_rule_29
        rw [gO_0, Option.bind_some, c_checkRow, if_pos hrow, Option.bind_some]
        simp only [y_lit, el, thr_HH]
        by_cases h1 : nI 1 ≤ y
        · have h2 : ¬ y ≤ nI 8 := fun h => hp ⟨h1, h⟩
          simp only [h1, h2, not_true_eq_false, not_false_eq_true, if_true, if_false, y_bs, s_e1]
        · simp only [h1, not_false_eq_true, if_true, y_bs, s_e1, if_false]
      · show f_X12_rule (HH A Z B Q P F q D (c.1 + 1, c.2 + 6)) 57 (nI n) (if ring then 1 else 0) y z = _
        unfold f_X12_rule f_X12_rule_41 f_X12_rule_42
        rw [m_isLong, if_pos hrow, Option.bind_some, if_neg (by decide), m_wp, if_neg hp, Option.bind_some, if_pos nI_0, pf_57_4, Option.bind_some, gf_57_4, Option.bind_some, y_us, if_neg (by decide)]
        rfl
  · refine ME_t hI (k := 1) (b := nI 0) (by decide) ?_ ?_ (oZ18 (nI 1)) rfl
    · show f_L_rule (HH A Z B Q P F q D c) 0 x (if ring then 1 else 0) y z 76 = _
      unfold f_L_rule f_X11_rule
      rw [gO_0, Option.bind_some, c_checkRow, if_neg hrow, Option.bind_some]
      rfl
    · show f_X12_rule (HH A Z B Q P F q D (c.1 + 1, c.2 + 6)) 57 x (if ring then 1 else 0) y z = _
      unfold f_X12_rule f_X12_rule_41 f_X12_rule_42
      rw [m_isLong, if_neg hrow, Option.bind_some, if_pos nI_0, pf_57_4, Option.bind_some, gf_57_4, Option.bind_some, y_us, if_neg (by decide)]
      rfl
