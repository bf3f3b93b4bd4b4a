/-! ===== fault, pane, kind, next, hated, of, upper, lower ===== -/
theorem ok_fault : ∀ x0, MP (fun h => f_X11_fault h 0 x0) (fun h => f_X12_fault h 57 x0) := by
  intro x h i hJ hi
  obtain ⟨K, A, Z, B, Q, P, F, q, D, c, tt, lk, lh, R, rfl, hI⟩ := hJ
  have hz := hI.2.1.2.2.2
  have z1 := hI.2.2.2.1
  have hJ2 : JJ (HH A (upA Z 18 0) B Q P F q D c) (i + 1) := JJ_q hI Only.rf hz (oZ18 _) Only.rf (Nat.le_refl _) (by omega) (by omega)
  by_cases h0 : x = 0
  · refine ⟨Z 1, _, ?_, ?_, hJ2⟩
    · simp only [f_X11_fault, h0, if_true, gf_0_2, Option.bind_some]
    · simp only [f_X12_fault, pf_57_4, h0, if_true, gf_57_14, Option.bind_some, z1.1]
      all_goals rfl
  · by_cases h1 : x = 1
    · refine ⟨Z 2, _, ?_, ?_, hJ2⟩
      · simp only [f_X11_fault, h0, h1, if_false, if_true, gf_0_3, Option.bind_some]
        all_goals rfl
      · simp only [f_X12_fault, pf_57_4, h0, h1, if_false, if_true, gf_57_15, Option.bind_some, z1.2.1]
        all_goals rfl
    · refine ⟨-1, _, ?_, ?_, hJ2⟩
      · simp only [f_X11_fault, h0, h1, if_false]
      · simp only [f_X12_fault, pf_57_4, h0, h1, if_false, Option.bind_some]
theorem ok_upper : MPJ (fun h => f_X11_upper h 0) (fun h => f_X12_upper h 57) := by
  intro h i hJ hi
  obtain ⟨K, A, Z, B, Q, P, F, q, D, c, tt, lk, lh, R, rfl, hI⟩ := hJ
  have hz := hI.2.1.2.2.2
  have z1 := hI.2.2.2.1
  have hJ2 : JJ (HH A (upA Z 18 0) B Q P F q D c) (i + 1) := JJ_q hI Only.rf hz (oZ18 _) Only.rf (Nat.le_refl _) (by omega) (by omega)
  refine ⟨Q 0, _, ?_, ?_, hJ2⟩
  · simp only [f_X11_upper, gf_0_8, Option.bind_some]
  · simp only [f_X12_upper, pf_57_4, gf_57_24, Option.bind_some, z1.2.2.1]
theorem ok_lower : MPJ (fun h => f_X11_lower h 0) (fun h => f_X12_lower h 57) := by
  intro h i hJ hi
  obtain ⟨K, A, Z, B, Q, P, F, q, D, c, tt, lk, lh, R, rfl, hI⟩ := hJ
  have hz := hI.2.1.2.2.2
  have z1 := hI.2.2.2.1
  have hJ2 : JJ (HH A (upA Z 18 0) B Q P F q D c) (i + 1) := JJ_q hI Only.rf hz (oZ18 _) Only.rf (Nat.le_refl _) (by omega) (by omega)
  refine ⟨Q 1, _, ?_, ?_, hJ2⟩
  · simp only [f_X11_lower, gf_0_9, Option.bind_some]
  · simp only [f_X12_lower, pf_57_4, gf_57_25, Option.bind_some, z1.2.2.2]
theorem ok_hated : ∀ x0, ME (fun h => f_L_hated h 0 x0 76) (fun h => f_X12_hated h 57 x0) := by
  intro x h i hJ hi
  obtain ⟨K, A, Z, B, Q, P, F, q, D, c, tt, lk, lh, R, rfl, hI⟩ := hJ
  have hz := hI.2.1.2.2.2
  obtain ⟨H, hW, hL, hT, hLm⟩ := hI.1
  have hro := hW.ro
  cases hr : rk x (tt 1)
  · refine ME_t hI (k := 1) (b := nI 0) (by decide) ?_ ?_ (oZ182 0 (nI 1)) rfl
    · simp (disch := omega) only [f_L_hated, f_X11_hated, if_true, if_false, Bool.false_eq_true, Bool.true_eq_false, y_lit, y_m1, nI_add, pk_mul, fa_and, fa_or, y_bs, if_pos, if_neg, y_shl, y_shr, y_le, y_lt, y_eq, y_sub, y_dv, y_rm, y_b0, y_b1, y_sdf, y_ltM, y_Mlt, y_leM, y_Mle, y_eqM, y_Meq, s_e1, s_e2, s_e3, s_e4, s_e5, s_e6, gO_0, c_checkRoom H, hr]
      all_goals rfl
    · simp (disch := omega) only [f_X12_hated, if_true, if_false, Bool.false_eq_true, Bool.true_eq_false, y_lit, y_m1, nI_add, pk_mul, fa_and, fa_or, y_bs, if_pos, if_neg, y_shl, y_shr, y_le, y_lt, y_eq, y_sub, y_dv, y_rm, y_b0, y_b1, y_sdf, y_ltM, y_Mlt, y_leM, y_Mle, y_eqM, y_Meq, s_e1, s_e2, s_e3, s_e4, s_e5, s_e6, pf_57_4, gO_57, m_isRoom hT hW, hr, m_fails]
      all_goals rfl
  · obtain ⟨r, hr1, rfl⟩ := rk_t (by omega) hr
    refine ME_s hI (nI (tt (432 + r))) ?_ ?_
    · simp (disch := omega) only [f_L_hated, f_X11_hated, if_true, if_false, Bool.false_eq_true, Bool.true_eq_false, y_lit, y_m1, nI_add, pk_mul, fa_and, fa_or, y_bs, if_pos, if_neg, y_shl, y_shr, y_le, y_lt, y_eq, y_sub, y_dv, y_rm, y_b0, y_b1, y_sdf, y_ltM, y_Mlt, y_leM, y_Mle, y_eqM, y_Meq, s_e1, s_e2, s_e3, s_e4, s_e5, s_e6, gO_0, c_checkRoom H, hr, gf_0_4, hs_12 H, hs_ha H, oB_st]
      all_goals rfl
    · simp (disch := omega) only [f_X12_hated, if_true, if_false, Bool.false_eq_true, Bool.true_eq_false, y_lit, y_m1, nI_add, pk_mul, fa_and, fa_or, y_bs, if_pos, if_neg, y_shl, y_shr, y_le, y_lt, y_eq, y_sub, y_dv, y_rm, y_b0, y_b1, y_sdf, y_ltM, y_Mlt, y_leM, y_Mle, y_eqM, y_Meq, s_e1, s_e2, s_e3, s_e4, s_e5, s_e6, pf_57_4, gO_57, m_isRoom hT hW, hr, gf_57_0, ld_58, hT.1]
      all_goals rfl
