section Dark2
variable {A : Nat → Nat → Int32} {Z : Nat → Int32} {B : Nat → Nat → Int64} {Q : Nat → Int64} {P : Nat → Option Nat} {F : Nat → Nat → Option Nat} {q : Nat} {D : List xC} {c : Nat × Nat} {K : Nat → Nat} {tt lk lh : Nat → Nat} {R i : Nat}
theorem m_roomHour (hT : Told (A 58) tt lk lh) (hW : HWf tt) (x y : Int32) : f_X12_roomHour (HH A Z B Q P F q D c) 57 x y = some (if rk x (tt 1) = true then (if rk y 24 = true then nI 0 else nI 2) else nI 1) := by
  cases h1 : rk x (tt 1) <;> cases h2 : rk y 24 <;> simp (disch := omega) only [f_X12_roomHour, if_true, if_false, Bool.false_eq_true, Bool.true_eq_false, y_lit, y_m1, nI_add, pk_mul, fa_and, fa_or, y_bs, if_pos, if_neg, y_shl, y_shr, y_le, y_lt, y_eq, y_sub, y_dv, y_rm, y_b0, y_b1, y_sdf, y_ltM, y_Mlt, y_leM, y_Mle, y_eqM, y_Meq, s_e1, s_e2, s_e3, s_e4, s_e5, s_e6, gO_57, m_isRoom hT hW, m_isHour, h1, h2]
theorem zro_21 (h : Zro A) (f : Nat → Int32) : Zro (upA A 21 f) := h
theorem zro_64 (h : Zro A) (f : Nat → Int32) : Zro (upA A 64 f) := h
theorem zro_2164 (h : Zro A) (f g : Nat → Int32) : Zro (upA (upA A 21 f) 64 g) := h
theorem oA21 (f : Nat → Int32) : Only SA A (upA A 21 f) := Only.rf.up (by decide)
theorem oA64 (f : Nat → Int32) : Only SA A (upA A 64 f) := Only.rf.up (by decide)
theorem oA2164 (f g : Nat → Int32) : Only SA A (upA (upA A 21 f) 64 g) := (Only.rf.up (by decide)).up (by decide)
end Dark2
theorem ok_light : ∀ x0 x1, ME (fun h => f_L_light h 0 x0 x1 76) (fun h => f_X12_light h 57 x0 x1) := by
  intro x y h i hJ hi
  obtain ⟨K, A, Z, B, Q, P, F, q, D, c, tt, lk, lh, R, rfl, hI⟩ := hJ
  have hz := hI.2.1.2.2.2
  obtain ⟨H, hW, hL, hT, hLm⟩ := hI.1
  have hro := hW.ro
  cases hr : rk x (tt 1)
  · refine ME_t hI (k := 1) (b := nI 0) (by decide) ?_ ?_ (oZ18 (nI 1)) rfl
    · simp (disch := omega) only [f_L_light, f_X11_light, if_true, if_false, Bool.false_eq_true, Bool.true_eq_false, y_lit, y_m1, nI_add, pk_mul, fa_and, fa_or, y_bs, if_pos, if_neg, y_shl, y_shr, y_le, y_lt, y_eq, y_sub, y_dv, y_rm, y_b0, y_b1, y_sdf, y_ltM, y_Mlt, y_leM, y_Mle, y_eqM, y_Meq, s_e1, s_e2, s_e3, s_e4, s_e5, s_e6, gO_0, c_checkRoom H, hr]
      all_goals rfl
    · simp (disch := omega) only [f_X12_light, if_true, if_false, Bool.false_eq_true, Bool.true_eq_false, y_lit, y_m1, nI_add, pk_mul, fa_and, fa_or, y_bs, if_pos, if_neg, y_shl, y_shr, y_le, y_lt, y_eq, y_sub, y_dv, y_rm, y_b0, y_b1, y_sdf, y_ltM, y_Mlt, y_leM, y_Mle, y_eqM, y_Meq, s_e1, s_e2, s_e3, s_e4, s_e5, s_e6, pf_57_4, gf_57_4, gO_57, m_roomHour hT hW, hr, y_us, y_un, y_vs, y_vn, y_uu, y_vv, ne_eq, not_false_eq_true, not_true_eq_false]
      all_goals rfl
  · obtain ⟨r, hr1, rfl⟩ := rk_t (by omega) hr
    cases hy : rk y 24
    · refine ME_t hI (k := 2) (b := nI 0) (by decide) ?_ ?_ (oZ18 (nI 2)) rfl
      · simp (disch := omega) only [f_L_light, f_X11_light, if_true, if_false, Bool.false_eq_true, Bool.true_eq_false, y_lit, y_m1, nI_add, pk_mul, fa_and, fa_or, y_bs, if_pos, if_neg, y_shl, y_shr, y_le, y_lt, y_eq, y_sub, y_dv, y_rm, y_b0, y_b1, y_sdf, y_ltM, y_Mlt, y_leM, y_Mle, y_eqM, y_Meq, s_e1, s_e2, s_e3, s_e4, s_e5, s_e6, gO_0, c_checkRoom H, hr, c_checkHour, hy]
        all_goals rfl
      · simp (disch := omega) only [f_X12_light, if_true, if_false, Bool.false_eq_true, Bool.true_eq_false, y_lit, y_m1, nI_add, pk_mul, fa_and, fa_or, y_bs, if_pos, if_neg, y_shl, y_shr, y_le, y_lt, y_eq, y_sub, y_dv, y_rm, y_b0, y_b1, y_sdf, y_ltM, y_Mlt, y_leM, y_Mle, y_eqM, y_Meq, s_e1, s_e2, s_e3, s_e4, s_e5, s_e6, pf_57_4, gf_57_4, gO_57, m_roomHour hT hW, hr, hy, y_us, y_un, y_vs, y_vn, y_uu, y_vv, ne_eq, not_false_eq_true, not_true_eq_false]
        all_goals rfl
    · obtain ⟨t, ht, rfl⟩ := rk_t (by omega) hy
      obtain ⟨f, e1, hf⟩ := c_shineInto (q' := q) (A := A) (Z := Z) (B := B) (Q := Q) (P := P) (F := F) (c := c) H hW hL hLm (brn_lt lh t)
      obtain ⟨g, e2, hg⟩ := m_layShine (A := upA A 21 f) (Z := upA Z 18 (nI 0)) (B := oB B (Int32.toInt64 (nI (Lsum tt (shn tt lk (brn lh t)) r)))) (Q := Q) (P := P) (F := F) (q := q) (D := D) (c := c) hT hW hL ht
      have e3 := m_lightOf (A := upA (upA A 21 f) 64 g) (Z := upA Z 18 (nI 0)) (B := oB B (Int32.toInt64 (nI (Lsum tt (shn tt lk (brn lh t)) r)))) (Q := Q) (P := P) (F := F) (q := q) (D := D) (c := c) hT hW (sh := shn tt lk (brn lh t)) hg (fun r _ => shn_le hW hL _ r) (r := r) (by omega)
      refine ME_r hI (v := nI (Lsum tt (shn tt lk (brn lh t)) r)) (A1 := upA A 21 f) (Z1 := Z) (A2 := upA (upA A 21 f) 64 g) (Z2 := upA Z 18 (nI 0)) ?_ ?_ (oA2164 f g) hz (oZ18 _) rfl
      · simp (disch := omega) only [f_L_light, f_X11_light, if_true, if_false, Bool.false_eq_true, Bool.true_eq_false, y_lit, y_m1, nI_add, pk_mul, fa_and, fa_or, y_bs, if_pos, if_neg, y_shl, y_shr, y_le, y_lt, y_eq, y_sub, y_dv, y_rm, y_b0, y_b1, y_sdf, y_ltM, y_Mlt, y_leM, y_Mle, y_eqM, y_Meq, s_e1, s_e2, s_e3, s_e4, s_e5, s_e6, gO_0, c_checkRoom H, hr, c_checkHour, hy, gf_0_4, gf_0_5, gf_0_11, gf_12_0, gO_12, c_burning hLm hL, hs_gO H, e1, ld_21, y_us, y_un, y_vs, y_vn, y_uu, y_vv, ne_eq, not_false_eq_true, not_true_eq_false, hf, oB_st]
      · simp (disch := omega) only [f_X12_light, if_true, if_false, Bool.false_eq_true, Bool.true_eq_false, y_lit, y_m1, nI_add, pk_mul, fa_and, fa_or, y_bs, if_pos, if_neg, y_shl, y_shr, y_le, y_lt, y_eq, y_sub, y_dv, y_rm, y_b0, y_b1, y_sdf, y_ltM, y_Mlt, y_leM, y_Mle, y_eqM, y_Meq, s_e1, s_e2, s_e3, s_e4, s_e5, s_e6, pf_57_4, gf_57_4, gO_57, m_roomHour (A := upA A 21 f) hT hW, hr, hy, e2, e3, y_us, y_un, y_vs, y_vn, y_uu, y_vv, ne_eq, not_false_eq_true, not_true_eq_false]
theorem ok_by : ∀ x0 x1, ME (fun h => f_L_by h 0 x0 x1 76) (fun h => f_X12_by h 57 x0 x1) := by
  intro x y h i hJ hi
  obtain ⟨K, A, Z, B, Q, P, F, q, D, c, tt, lk, lh, R, rfl, hI⟩ := hJ
  have hz := hI.2.1.2.2.2
  obtain ⟨H, hW, hL, hT, hLm⟩ := hI.1
  have hro := hW.ro
  cases hr : rk x (tt 1)
  · refine ME_t hI (k := 1) (b := nI 0) (by decide) ?_ ?_ (oZ18 (nI 1)) rfl
    · simp (disch := omega) only [f_L_by, f_X11_by, if_true, if_false, Bool.false_eq_true, Bool.true_eq_false, y_lit, y_m1, nI_add, pk_mul, fa_and, fa_or, y_bs, if_pos, if_neg, y_shl, y_shr, y_le, y_lt, y_eq, y_sub, y_dv, y_rm, y_b0, y_b1, y_sdf, y_ltM, y_Mlt, y_leM, y_Mle, y_eqM, y_Meq, s_e1, s_e2, s_e3, s_e4, s_e5, s_e6, gO_0, c_checkRoom H, hr]
      all_goals rfl
    · simp (disch := omega) only [f_X12_by, if_true, if_false, Bool.false_eq_true, Bool.true_eq_false, y_lit, y_m1, nI_add, pk_mul, fa_and, fa_or, y_bs, if_pos, if_neg, y_shl, y_shr, y_le, y_lt, y_eq, y_sub, y_dv, y_rm, y_b0, y_b1, y_sdf, y_ltM, y_Mlt, y_leM, y_Mle, y_eqM, y_Meq, s_e1, s_e2, s_e3, s_e4, s_e5, s_e6, pf_57_4, gf_57_4, gO_57, m_roomHour hT hW, hr, y_us, y_un, y_vs, y_vn, y_uu, y_vv, ne_eq, not_false_eq_true, not_true_eq_false]
      all_goals rfl
  · obtain ⟨r, hr1, rfl⟩ := rk_t (by omega) hr
    cases hy : rk y 24
    · refine ME_t hI (k := 2) (b := nI 0) (by decide) ?_ ?_ (oZ18 (nI 2)) rfl
      · simp (disch := omega) only [f_L_by, f_X11_by, if_true, if_false, Bool.false_eq_true, Bool.true_eq_false, y_lit, y_m1, nI_add, pk_mul, fa_and, fa_or, y_bs, if_pos, if_neg, y_shl, y_shr, y_le, y_lt, y_eq, y_sub, y_dv, y_rm, y_b0, y_b1, y_sdf, y_ltM, y_Mlt, y_leM, y_Mle, y_eqM, y_Meq, s_e1, s_e2, s_e3, s_e4, s_e5, s_e6, gO_0, c_checkRoom H, hr, c_checkHour, hy]
        all_goals rfl
      · simp (disch := omega) only [f_X12_by, if_true, if_false, Bool.false_eq_true, Bool.true_eq_false, y_lit, y_m1, nI_add, pk_mul, fa_and, fa_or, y_bs, if_pos, if_neg, y_shl, y_shr, y_le, y_lt, y_eq, y_sub, y_dv, y_rm, y_b0, y_b1, y_sdf, y_ltM, y_Mlt, y_leM, y_Mle, y_eqM, y_Meq, s_e1, s_e2, s_e3, s_e4, s_e5, s_e6, pf_57_4, gf_57_4, gO_57, m_roomHour hT hW, hr, hy, y_us, y_un, y_vs, y_vn, y_uu, y_vv, ne_eq, not_false_eq_true, not_true_eq_false]
        all_goals rfl
    · obtain ⟨t, ht, rfl⟩ := rk_t (by omega) hy
      obtain ⟨g, e2, hg⟩ := m_layShine (A := A) (Z := upA Z 18 (nI 0)) (B := oB B (Int32.toInt64 (nI (nxt tt r &&& brn lh t)))) (Q := Q) (P := P) (F := F) (q := q) (D := D) (c := c) hT hW hL ht
      have e3 := m_shining (A := upA A 64 g) (Z := upA Z 18 (nI 0)) (B := oB B (Int32.toInt64 (nI (nxt tt r &&& brn lh t)))) (Q := Q) (P := P) (F := F) (q := q) (D := D) (c := c) hT hW (sh := shn tt lk (brn lh t)) hg (fun r _ => shn_le hW hL _ r)
      rw [shn_pos hW hL] at e3
      have hT2 : Told (upA A 64 g 58) tt lk lh := hT
      refine ME_r hI (v := nI (nxt tt r &&& brn lh t)) (A1 := A) (Z1 := Z) (A2 := upA A 64 g) (Z2 := upA Z 18 (nI 0)) ?_ ?_ (oA64 g) hz (oZ18 _) rfl
      · simp (disch := omega) only [f_L_by, f_X11_by, if_true, if_false, Bool.false_eq_true, Bool.true_eq_false, y_lit, y_m1, nI_add, pk_mul, fa_and, fa_or, y_bs, if_pos, if_neg, y_shl, y_shr, y_le, y_lt, y_eq, y_sub, y_dv, y_rm, y_b0, y_b1, y_sdf, y_ltM, y_Mlt, y_leM, y_Mle, y_eqM, y_Meq, s_e1, s_e2, s_e3, s_e4, s_e5, s_e6, gO_0, c_checkRoom H, hr, c_checkHour, hy, gf_0_4, gf_0_5, gO_12, c_burning hLm hL, hs_13 H, hs_ne H, oB_st]
      · simp (disch := omega) only [f_X12_by, if_true, if_false, Bool.false_eq_true, Bool.true_eq_false, y_lit, y_m1, nI_add, pk_mul, fa_and, fa_or, y_bs, if_pos, if_neg, y_shl, y_shr, y_le, y_lt, y_eq, y_sub, y_dv, y_rm, y_b0, y_b1, y_sdf, y_ltM, y_Mlt, y_leM, y_Mle, y_eqM, y_Meq, s_e1, s_e2, s_e3, s_e4, s_e5, s_e6, pf_57_4, gf_57_4, gO_57, m_roomHour hT hW, hr, hy, e2, e3, m_nextOf hT2 hW, y_us, y_un, y_vs, y_vn, y_uu, y_vv, ne_eq, not_false_eq_true, not_true_eq_false]
theorem ok_dark : ∀ x0, ME (fun h => f_L_dark h 0 x0 76) (fun h => f_X12_dark h 57 x0) := by
  intro y h i hJ hi
  obtain ⟨K, A, Z, B, Q, P, F, q, D, c, tt, lk, lh, R, rfl, hI⟩ := hJ
  have hz := hI.2.1.2.2.2
  obtain ⟨H, hW, hL, hT, hLm⟩ := hI.1
  have hro := hW.ro
  cases hy : rk y 24
  · refine ME_t hI (k := 1) (b := nI 0) (by decide) ?_ ?_ (oZ182 (nI 0) (nI 1)) rfl
    · simp (disch := omega) only [f_L_dark, f_X11_dark, if_true, if_false, Bool.false_eq_true, Bool.true_eq_false, y_lit, y_m1, nI_add, pk_mul, fa_and, fa_or, y_bs, if_pos, if_neg, y_shl, y_shr, y_le, y_lt, y_eq, y_sub, y_dv, y_rm, y_b0, y_b1, y_sdf, y_ltM, y_Mlt, y_leM, y_Mle, y_eqM, y_Meq, s_e1, s_e2, s_e3, s_e4, s_e5, s_e6, gO_0, c_checkHour, hy]
      all_goals rfl
    · simp (disch := omega) only [f_X12_dark, if_true, if_false, Bool.false_eq_true, Bool.true_eq_false, y_lit, y_m1, nI_add, pk_mul, fa_and, fa_or, y_bs, if_pos, if_neg, y_shl, y_shr, y_le, y_lt, y_eq, y_sub, y_dv, y_rm, y_b0, y_b1, y_sdf, y_ltM, y_Mlt, y_leM, y_Mle, y_eqM, y_Meq, s_e1, s_e2, s_e3, s_e4, s_e5, s_e6, pf_57_4, gO_57, m_isHour, hy, m_fails]
  · obtain ⟨t, ht, rfl⟩ := rk_t (by omega) hy
    obtain ⟨f, e1⟩ := c_darkRooms (A := A) (Z := Z) (B := B) (Q := Q) (P := P) (F := F) (c := c) H hW hL hLm (brn_lt lh t) ht
    obtain ⟨g, e2, hg⟩ := m_darkIn (A := upA A 21 f) (Z := upA Z 18 (nI 0)) (B := oB B (Int32.toInt64 (nI (drk tt (Lsum tt (shn tt lk (brn lh t))) t)))) (Q := Q) (P := P) (F := F) (q := q) (D := D) (c := c) hT hW hL ht
    refine ME_r hI (v := nI (drk tt (Lsum tt (shn tt lk (brn lh t))) t)) (A1 := upA A 21 f) (Z1 := Z) (A2 := upA (upA A 21 f) 64 g) (Z2 := upA Z 18 (nI 0)) ?_ ?_ (oA2164 f g) hz (oZ18 _) rfl
    · simp (disch := omega) only [f_L_dark, f_X11_dark, if_true, if_false, Bool.false_eq_true, Bool.true_eq_false, y_lit, y_m1, nI_add, pk_mul, fa_and, fa_or, y_bs, if_pos, if_neg, y_shl, y_shr, y_le, y_lt, y_eq, y_sub, y_dv, y_rm, y_b0, y_b1, y_sdf, y_ltM, y_Mlt, y_leM, y_Mle, y_eqM, y_Meq, s_e1, s_e2, s_e3, s_e4, s_e5, s_e6, gO_0, c_checkHour, hy, gf_0_5, gO_12, c_burning hLm hL, e1, oB_st]
    · simp (disch := omega) only [f_X12_dark, if_true, if_false, Bool.false_eq_true, Bool.true_eq_false, y_lit, y_m1, nI_add, pk_mul, fa_and, fa_or, y_bs, if_pos, if_neg, y_shl, y_shr, y_le, y_lt, y_eq, y_sub, y_dv, y_rm, y_b0, y_b1, y_sdf, y_ltM, y_Mlt, y_leM, y_Mle, y_eqM, y_Meq, s_e1, s_e2, s_e3, s_e4, s_e5, s_e6, pf_57_4, gO_57, m_isHour, hy, e2]
