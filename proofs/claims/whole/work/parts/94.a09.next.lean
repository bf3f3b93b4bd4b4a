/-! ===== nextOf, next, never; pane, kind, of ===== -/
section Nxt
variable {A : Nat → Nat → Int32} {Z : Nat → Int32} {B : Nat → Nat → Int64} {Q : Nat → Int64} {P : Nat → Option Nat} {F : Nat → Nat → Option Nat} {q : Nat} {D : List xC} {c : Nat × Nat} {K : Nat → Nat} {tt lk lh : Nat → Nat} {R i : Nat}
theorem i84 (i : Nat) : 8 + 4 * (i + 1) = 8 + 4 * i + 4 := by omega
theorem m_nextOf (hT : Told (A 58) tt lk lh) (hW : HWf tt) {r : Nat} (hr : r < 16) : f_X12_nextOf (HH A Z B Q P F q D c) 57 (nI r) = some (nI (nxt tt r)) := by
  have hpa := hW.pa
  have hro := hW.ro
  refine loop0 (F := fun n i (s : Int32) => f_X12_nextOf_5 (HH A Z B Q P F q D c) n 57 (nI r) s (nI (8 + 4 * i))) (N := tt 2) (st := fun i => nI (orf (nx1 tt r) i)) (fun n i hi => ?_) (fun n => ?_) (by omega)
  · obtain ⟨b1, b2, b3, b4, b5, b6⟩ := hW.pane hi
    have e : orf (nx1 tt r) (i + 1) = orf (nx1 tt r) i ||| nx1 tt r i := rfl
    simp only [pF0, pT0, pL0, pB0] at b1 b2 b3 b4 b5 b6
    have e1 : nx1 tt r i = (if tt (8 + 4 * i + 1) = r then 2 ^ tt (8 + 4 * i) else 0) ||| (if tt (8 + 4 * i + 3) = 1 ∧ tt (8 + 4 * i) = r then 2 ^ tt (8 + 4 * i + 1) else 0) := rfl
    rw [e, i84, e1]
    by_cases h1 : tt (8 + 4 * i + 1) = r <;> by_cases h2 : tt (8 + 4 * i + 3) = 1 <;> by_cases h3 : tt (8 + 4 * i) = r <;> first | (exfalso; omega) | (simp (disch := omega) only [f_X12_nextOf_5, f_X12_nextOf_43, if_true, if_false, Bool.false_eq_true, Bool.true_eq_false, y_lit, y_m1, nI_add, pk_mul, fa_and, fa_or, y_bs, if_pos, if_neg, y_shl, y_shr, y_le, y_lt, y_eq, y_sub, y_dv, y_rm, y_b0, y_b1, y_sdf, y_ltM, y_Mlt, y_leM, y_Mle, y_eqM, y_Meq, s_e1, s_e2, s_e3, s_e4, s_e5, s_e6, gf_57_0, ld_58, hT.1, h2, true_and, false_and, Nat.or_zero, Nat.zero_or, Nat.or_assoc])
  · simp (disch := omega) only [f_X12_nextOf_5, if_true, if_false, Bool.false_eq_true, Bool.true_eq_false, y_lit, y_m1, nI_add, pk_mul, fa_and, fa_or, y_bs, if_pos, if_neg, y_shl, y_shr, y_le, y_lt, y_eq, y_sub, y_dv, y_rm, y_b0, y_b1, y_sdf, y_ltM, y_Mlt, y_leM, y_Mle, y_eqM, y_Meq, s_e1, s_e2, s_e3, s_e4, s_e5, s_e6, gf_57_0, ld_58, hT.1]
    all_goals rfl
theorem mk_step {p : Nat → Bool} {n : Nat} : mk p (n + 1) = mk p n ||| (if p n then 2 ^ n else 0) := rfl
theorem c_never (H : Hs K D q tt) (hW : HWf tt) : f_X11_never (HH A Z B Q P F q D c) 0 = some (nI (mk (fun r => decide (nxt tt r = 0)) (tt 1))) := by
  have hro := hW.ro
  refine loop0 (F := fun n i (s : Int32) => f_X11_never_4 (HH A Z B Q P F q D c) n 0 s (nI i)) (N := tt 1) (st := fun i => nI (mk (fun r => decide (nxt tt r = 0)) i)) (fun n i hi => ?_) (fun n => ?_) (by omega)
  · have hx := nxt_lt16 hW i
    rw [mk_step]
    by_cases h1 : nxt tt i = 0 <;> simp (disch := omega) only [f_X11_never_4, if_true, if_false, Bool.false_eq_true, Bool.true_eq_false, y_lit, y_m1, nI_add, pk_mul, fa_and, fa_or, y_bs, if_pos, if_neg, y_shl, y_shr, y_le, y_lt, y_eq, y_sub, y_dv, y_rm, y_b0, y_b1, y_sdf, y_ltM, y_Mlt, y_leM, y_Mle, y_eqM, y_Meq, s_e1, s_e2, s_e3, s_e4, s_e5, s_e6, gf_0_4, hs_1 H, hs_13 H, hs_ne H, h1, decide_true, decide_false, Nat.or_zero]
  · simp (disch := omega) only [f_X11_never_4, if_true, if_false, Bool.false_eq_true, Bool.true_eq_false, y_lit, y_m1, nI_add, pk_mul, fa_and, fa_or, y_bs, if_pos, if_neg, y_shl, y_shr, y_le, y_lt, y_eq, y_sub, y_dv, y_rm, y_b0, y_b1, y_sdf, y_ltM, y_Mlt, y_leM, y_Mle, y_eqM, y_Meq, s_e1, s_e2, s_e3, s_e4, s_e5, s_e6, gf_0_4, hs_1 H]
theorem m_never (hT : Told (A 58) tt lk lh) (hW : HWf tt) : f_X12_never (HH A Z B Q P F q D c) 57 = some (nI (mk (fun r => decide (nxt tt r = 0)) (tt 1)), HH A (upA Z 18 (nI 0)) B Q P F q D c) := by
  have hro := hW.ro
  unfold f_X12_never
  rw [pf_57_4, Option.bind_some]
  refine loop0 (F := fun n i (s : Int32) => f_X12_never_9 n (HH A (upA Z 18 (nI 0)) B Q P F q D c) 57 s (nI i)) (N := tt 1) (st := fun i => nI (mk (fun r => decide (nxt tt r = 0)) i)) (fun n i hi => ?_) (fun n => ?_) (by omega)
  · have hx := nxt_lt16 hW i
    rw [mk_step]
    by_cases h1 : nxt tt i = 0 <;> simp (disch := omega) only [f_X12_never_9, f_X12_never_33, if_true, if_false, Bool.false_eq_true, Bool.true_eq_false, y_lit, y_m1, nI_add, pk_mul, fa_and, fa_or, y_bs, if_pos, if_neg, y_shl, y_shr, y_le, y_lt, y_eq, y_sub, y_dv, y_rm, y_b0, y_b1, y_sdf, y_ltM, y_Mlt, y_leM, y_Mle, y_eqM, y_Meq, s_e1, s_e2, s_e3, s_e4, s_e5, s_e6, gO_57, m_rooms hT, m_nextOf hT hW, h1, decide_true, decide_false, Nat.or_zero]
  · simp (disch := omega) only [f_X12_never_9, if_true, if_false, Bool.false_eq_true, Bool.true_eq_false, y_lit, y_m1, nI_add, pk_mul, fa_and, fa_or, y_bs, if_pos, if_neg, y_shl, y_shr, y_le, y_lt, y_eq, y_sub, y_dv, y_rm, y_b0, y_b1, y_sdf, y_ltM, y_Mlt, y_leM, y_Mle, y_eqM, y_Meq, s_e1, s_e2, s_e3, s_e4, s_e5, s_e6, gO_57, m_rooms hT]
end Nxt
theorem ok_never : MP (fun h => f_X11_never h 0) (fun h => f_X12_never h 57) := by
  intro h i hJ hi
  obtain ⟨K, A, Z, B, Q, P, F, q, D, c, tt, lk, lh, R, rfl, hI⟩ := hJ
  obtain ⟨H, hW, hL, hT, hLm⟩ := hI.1
  exact ⟨_, _, c_never H hW, m_never hT hW, JJ_q hI Only.rf hI.2.1.2.2.2 (oZ18 _) Only.rf (Nat.le_refl _) (by omega) (by omega)⟩
theorem ok_next : ∀ x0, ME (fun h => f_L_next h 0 x0 76) (fun h => f_X12_next h 57 x0) := by
  intro x h i hJ hi
  obtain ⟨K, A, Z, B, Q, P, F, q, D, c, tt, lk, lh, R, rfl, hI⟩ := hJ
  have hz := hI.2.1.2.2.2
  obtain ⟨H, hW, hL, hT, hLm⟩ := hI.1
  have hro := hW.ro
  cases hr : rk x (tt 1)
  · refine ME_t hI (k := 1) (b := nI 0) (by decide) ?_ ?_ (oZ182 0 (nI 1)) rfl
    · simp (disch := omega) only [f_L_next, f_X11_next, if_true, if_false, Bool.false_eq_true, Bool.true_eq_false, y_lit, y_m1, nI_add, pk_mul, fa_and, fa_or, y_bs, if_pos, if_neg, y_shl, y_shr, y_le, y_lt, y_eq, y_sub, y_dv, y_rm, y_b0, y_b1, y_sdf, y_ltM, y_Mlt, y_leM, y_Mle, y_eqM, y_Meq, s_e1, s_e2, s_e3, s_e4, s_e5, s_e6, gO_0, c_checkRoom H, hr]
      all_goals rfl
    · simp (disch := omega) only [f_X12_next, if_true, if_false, Bool.false_eq_true, Bool.true_eq_false, y_lit, y_m1, nI_add, pk_mul, fa_and, fa_or, y_bs, if_pos, if_neg, y_shl, y_shr, y_le, y_lt, y_eq, y_sub, y_dv, y_rm, y_b0, y_b1, y_sdf, y_ltM, y_Mlt, y_leM, y_Mle, y_eqM, y_Meq, s_e1, s_e2, s_e3, s_e4, s_e5, s_e6, pf_57_4, gO_57, m_isRoom hT hW, hr, m_fails]
      all_goals rfl
  · obtain ⟨r, hr1, rfl⟩ := rk_t (by omega) hr
    refine ME_s hI (nI (nxt tt r)) ?_ ?_
    · simp (disch := omega) only [f_L_next, f_X11_next, if_true, if_false, Bool.false_eq_true, Bool.true_eq_false, y_lit, y_m1, nI_add, pk_mul, fa_and, fa_or, y_bs, if_pos, if_neg, y_shl, y_shr, y_le, y_lt, y_eq, y_sub, y_dv, y_rm, y_b0, y_b1, y_sdf, y_ltM, y_Mlt, y_leM, y_Mle, y_eqM, y_Meq, s_e1, s_e2, s_e3, s_e4, s_e5, s_e6, gO_0, c_checkRoom H, hr, gf_0_4, hs_13 H, hs_ne H, oB_st]
      all_goals rfl
    · simp (disch := omega) only [f_X12_next, if_true, if_false, Bool.false_eq_true, Bool.true_eq_false, y_lit, y_m1, nI_add, pk_mul, fa_and, fa_or, y_bs, if_pos, if_neg, y_shl, y_shr, y_le, y_lt, y_eq, y_sub, y_dv, y_rm, y_b0, y_b1, y_sdf, y_ltM, y_Mlt, y_leM, y_Mle, y_eqM, y_Meq, s_e1, s_e2, s_e3, s_e4, s_e5, s_e6, pf_57_4, gO_57, m_isRoom hT hW, hr, m_nextOf hT hW]
      all_goals rfl
theorem rk_pane (x : Int32) (n : Nat) {α : Type} (a b : α) : (if x < nI 0 then a else (if x < nI n then b else a)) = if rk x n = true then b else a := rk_if x n a b
theorem ok_pane : ∀ x0 x1, ME (fun h => f_L_pane h 0 x0 x1 76) (fun h => f_X12_pane h 57 x0 x1) := by
  intro x y h i hJ hi
  obtain ⟨K, A, Z, B, Q, P, F, q, D, c, tt, lk, lh, R, rfl, hI⟩ := hJ
  have hz := hI.2.1.2.2.2
  obtain ⟨H, hW, hL, hT, hLm⟩ := hI.1
  have hpa := hW.pa
  have ew : f_X12_within (HH A (upA Z 18 0) B Q P F q D (c.1 + 1, c.2 + 6)) x.toInt64 (0 : Int64) (nI (tt 2) - 1).toInt64 = some (if rk x (tt 2) = true then nI 1 else nI 0) := rk_withinL _ x (by omega) rfl
  have ew2 : ∀ B', f_X12_within (HH A (upA Z 18 0) B' Q P F q D c) x.toInt64 (0 : Int64) (nI (tt 2) - 1).toInt64 = some (if rk x (tt 2) = true then nI 1 else nI 0) := fun B' => rk_withinL _ x (by omega) rfl
  have e2 : ∀ B' c', ldI (HH A (upA Z 18 0) B' Q P F q D c') .int 58 2 = some (nI (tt 2)) := fun B' c' => by rw [show (2 : Int32) = nI 2 from rfl, ld_58 (by decide), hT.1 2 (by decide)]
  cases hr : rk x (tt 2)
  · refine ME_t hI (k := 1) (b := nI 0) (by decide) ?_ ?_ (oZ182 0 (nI 1)) rfl
    · show f_L_pane (HH A Z B Q P F q D c) 0 x y 76 = _
      simp only [f_L_pane, f_X11_pane, f_X11_pane_15, gO_0, gf_0_4, hs_3 H, Option.bind_some, thr_HH, rk_if, hr]
      all_goals rfl
    · show f_X12_pane (HH A Z B Q P F q D (c.1 + 1, c.2 + 6)) 57 x y = _
      simp only [f_X12_pane, pf_57_4, gf_57_0, Option.bind_some, e2, ew, hr, gO_57, m_fails]
      all_goals rfl
  · obtain ⟨r, hr1, rfl⟩ := rk_t (by omega) hr
    cases hy : rk y 4
    · refine ME_t hI (k := 2) (b := nI 0) (by decide) ?_ ?_ (oZ182 0 (nI 2)) rfl
      · simp (disch := omega) only [f_L_pane, f_X11_pane, f_X11_pane_15, if_true, if_false, Bool.false_eq_true, Bool.true_eq_false, y_lit, y_m1, nI_add, pk_mul, fa_and, fa_or, y_bs, if_pos, if_neg, y_shl, y_shr, y_le, y_lt, y_eq, y_sub, y_dv, y_rm, y_b0, y_b1, y_sdf, y_ltM, y_Mlt, y_leM, y_Mle, y_eqM, y_Meq, s_e1, s_e2, s_e3, s_e4, s_e5, s_e6, gO_0, gf_0_4, hs_3 H, c_checkWhat, hy]
        all_goals rfl
      · show f_X12_pane (HH A Z B Q P F q D (c.1 + 1, c.2 + 6)) 57 (nI r) y = _
        simp only [f_X12_pane, pf_57_4, gf_57_0, Option.bind_some, e2, ew, hr, gO_57, m_w4, hy, m_fails]
        all_goals rfl
    · obtain ⟨w, hw1, rfl⟩ := rk_t (by omega) hy
      refine ME_s hI (nI (tt (8 + 4 * r + w))) ?_ ?_
      · simp (disch := omega) only [f_L_pane, f_X11_pane, f_X11_pane_15, if_true, if_false, Bool.false_eq_true, Bool.true_eq_false, y_lit, y_m1, nI_add, pk_mul, fa_and, fa_or, y_bs, if_pos, if_neg, y_shl, y_shr, y_le, y_lt, y_eq, y_sub, y_dv, y_rm, y_b0, y_b1, y_sdf, y_ltM, y_Mlt, y_leM, y_Mle, y_eqM, y_Meq, s_e1, s_e2, s_e3, s_e4, s_e5, s_e6, gO_0, gf_0_4, hs_3 H, c_checkWhat, hy, hs_7 H, Ar_ld H.2.2.1, oB_st]
        rw [show 8 + (r * 4 + w) = 8 + 4 * r + w by omega]
        all_goals rfl
      · show f_X12_pane (HH A Z (oB B _) Q P F q D c) 57 (nI r) (nI w) = _
        simp (disch := omega) only [f_X12_pane, pf_57_4, gf_57_0, Option.bind_some, e2, ew2, hr, gO_57, m_w4, hy]
        simp (disch := omega) only [if_true, if_false, Bool.false_eq_true, Bool.true_eq_false, y_lit, y_m1, nI_add, pk_mul, fa_and, fa_or, y_bs, if_pos, if_neg, y_shl, y_shr, y_le, y_lt, y_eq, y_sub, y_dv, y_rm, y_b0, y_b1, y_sdf, y_ltM, y_Mlt, y_leM, y_Mle, y_eqM, y_Meq, s_e1, s_e2, s_e3, s_e4, s_e5, s_e6, ld_58, hT.1]
        all_goals rfl
theorem ok_kind : ∀ x0 x1, ME (fun h => f_L_kind h 0 x0 x1 76) (fun h => f_X12_kind h 57 x0 x1) := by
  intro x y h i hJ hi
  obtain ⟨K, A, Z, B, Q, P, F, q, D, c, tt, lk, lh, R, rfl, hI⟩ := hJ
  have hz := hI.2.1.2.2.2
  obtain ⟨H, hW, hL, hT, hLm⟩ := hI.1
  have hpa := hW.ki
  cases hr : rk x (tt 3)
  · refine ME_t hI (k := 1) (b := nI 0) (by decide) ?_ ?_ (oZ182 0 (nI 1)) rfl
    · simp (disch := omega) only [f_L_kind, f_X11_kind, if_true, if_false, Bool.false_eq_true, Bool.true_eq_false, y_lit, y_m1, nI_add, pk_mul, fa_and, fa_or, y_bs, if_pos, if_neg, y_shl, y_shr, y_le, y_lt, y_eq, y_sub, y_dv, y_rm, y_b0, y_b1, y_sdf, y_ltM, y_Mlt, y_leM, y_Mle, y_eqM, y_Meq, s_e1, s_e2, s_e3, s_e4, s_e5, s_e6, gO_0, c_checkKind H, hr]
      all_goals rfl
    · simp (disch := omega) only [f_X12_kind, if_true, if_false, Bool.false_eq_true, Bool.true_eq_false, y_lit, y_m1, nI_add, pk_mul, fa_and, fa_or, y_bs, if_pos, if_neg, y_shl, y_shr, y_le, y_lt, y_eq, y_sub, y_dv, y_rm, y_b0, y_b1, y_sdf, y_ltM, y_Mlt, y_leM, y_Mle, y_eqM, y_Meq, s_e1, s_e2, s_e3, s_e4, s_e5, s_e6, pf_57_4, gO_57, m_isKind hT hW, hr, m_fails]
      all_goals rfl
  · obtain ⟨r, hr1, rfl⟩ := rk_t (by omega) hr
    cases hy : rk y 2
    · refine ME_t hI (k := 2) (b := nI 0) (by decide) ?_ ?_ (oZ182 0 (nI 2)) rfl
      · simp (disch := omega) only [f_L_kind, f_X11_kind, if_true, if_false, Bool.false_eq_true, Bool.true_eq_false, y_lit, y_m1, nI_add, pk_mul, fa_and, fa_or, y_bs, if_pos, if_neg, y_shl, y_shr, y_le, y_lt, y_eq, y_sub, y_dv, y_rm, y_b0, y_b1, y_sdf, y_ltM, y_Mlt, y_leM, y_Mle, y_eqM, y_Meq, s_e1, s_e2, s_e3, s_e4, s_e5, s_e6, gO_0, c_checkKind H, hr, c_checkWhat, hy]
        all_goals rfl
      · simp (disch := omega) only [f_X12_kind, if_true, if_false, Bool.false_eq_true, Bool.true_eq_false, y_lit, y_m1, nI_add, pk_mul, fa_and, fa_or, y_bs, if_pos, if_neg, y_shl, y_shr, y_le, y_lt, y_eq, y_sub, y_dv, y_rm, y_b0, y_b1, y_sdf, y_ltM, y_Mlt, y_leM, y_Mle, y_eqM, y_Meq, s_e1, s_e2, s_e3, s_e4, s_e5, s_e6, pf_57_4, gO_57, m_isKind hT hW, hr, m_w2, hy, m_fails]
        all_goals rfl
    · obtain ⟨w, hw1, rfl⟩ := rk_t (by omega) hy
      refine ME_s hI (nI (tt (248 + 2 * r + w))) ?_ ?_
      · simp (disch := omega) only [f_L_kind, f_X11_kind, if_true, if_false, Bool.false_eq_true, Bool.true_eq_false, y_lit, y_m1, nI_add, pk_mul, fa_and, fa_or, y_bs, if_pos, if_neg, y_shl, y_shr, y_le, y_lt, y_eq, y_sub, y_dv, y_rm, y_b0, y_b1, y_sdf, y_ltM, y_Mlt, y_leM, y_Mle, y_eqM, y_Meq, s_e1, s_e2, s_e3, s_e4, s_e5, s_e6, gO_0, c_checkKind H, hr, gf_0_4, c_checkWhat, hy, hs_8 H, Ar_ld H.2.2.2.1, oB_st]
        rw [show 248 + (r * 2 + w) = 248 + 2 * r + w by omega]
        all_goals rfl
      · simp (disch := omega) only [f_X12_kind, if_true, if_false, Bool.false_eq_true, Bool.true_eq_false, y_lit, y_m1, nI_add, pk_mul, fa_and, fa_or, y_bs, if_pos, if_neg, y_shl, y_shr, y_le, y_lt, y_eq, y_sub, y_dv, y_rm, y_b0, y_b1, y_sdf, y_ltM, y_Mlt, y_leM, y_Mle, y_eqM, y_Meq, s_e1, s_e2, s_e3, s_e4, s_e5, s_e6, pf_57_4, gO_57, m_isKind hT hW, hr, m_w2, hy, gf_57_0, ld_58, hT.1]
        all_goals rfl
theorem ok_of : ∀ x0 x1, ME (fun h => f_L_of h 0 x0 x1 76) (fun h => f_X12_of h 57 x0 x1) := by
  intro x y h i hJ hi
  obtain ⟨K, A, Z, B, Q, P, F, q, D, c, tt, lk, lh, R, rfl, hI⟩ := hJ
  have hz := hI.2.1.2.2.2
  obtain ⟨H, hW, hL, hT, hLm⟩ := hI.1
  have hro := hW.ro
  cases hr : rk x (tt 1)
  · refine ME_t hI (k := 1) (b := nI 0) (by decide) ?_ ?_ (oZ182 0 (nI 1)) rfl
    · simp (disch := omega) only [f_L_of, f_X11_of, if_true, if_false, Bool.false_eq_true, Bool.true_eq_false, y_lit, y_m1, nI_add, pk_mul, fa_and, fa_or, y_bs, if_pos, if_neg, y_shl, y_shr, y_le, y_lt, y_eq, y_sub, y_dv, y_rm, y_b0, y_b1, y_sdf, y_ltM, y_Mlt, y_leM, y_Mle, y_eqM, y_Meq, s_e1, s_e2, s_e3, s_e4, s_e5, s_e6, gO_0, c_checkRoom H, hr]
      all_goals rfl
    · simp (disch := omega) only [f_X12_of, if_true, if_false, Bool.false_eq_true, Bool.true_eq_false, y_lit, y_m1, nI_add, pk_mul, fa_and, fa_or, y_bs, if_pos, if_neg, y_shl, y_shr, y_le, y_lt, y_eq, y_sub, y_dv, y_rm, y_b0, y_b1, y_sdf, y_ltM, y_Mlt, y_leM, y_Mle, y_eqM, y_Meq, s_e1, s_e2, s_e3, s_e4, s_e5, s_e6, pf_57_4, gO_57, m_isRoom hT hW, hr, m_fails]
      all_goals rfl
  · obtain ⟨r, hr1, rfl⟩ := rk_t (by omega) hr
    cases hy : rk y 3
    · refine ME_t hI (k := 2) (b := nI 0) (by decide) ?_ ?_ (oZ182 0 (nI 2)) rfl
      · simp (disch := omega) only [f_L_of, f_X11_of, if_true, if_false, Bool.false_eq_true, Bool.true_eq_false, y_lit, y_m1, nI_add, pk_mul, fa_and, fa_or, y_bs, if_pos, if_neg, y_shl, y_shr, y_le, y_lt, y_eq, y_sub, y_dv, y_rm, y_b0, y_b1, y_sdf, y_ltM, y_Mlt, y_leM, y_Mle, y_eqM, y_Meq, s_e1, s_e2, s_e3, s_e4, s_e5, s_e6, gO_0, c_checkRoom H, hr, c_checkWhat, hy]
        all_goals rfl
      · simp (disch := omega) only [f_X12_of, if_true, if_false, Bool.false_eq_true, Bool.true_eq_false, y_lit, y_m1, nI_add, pk_mul, fa_and, fa_or, y_bs, if_pos, if_neg, y_shl, y_shr, y_le, y_lt, y_eq, y_sub, y_dv, y_rm, y_b0, y_b1, y_sdf, y_ltM, y_Mlt, y_leM, y_Mle, y_eqM, y_Meq, s_e1, s_e2, s_e3, s_e4, s_e5, s_e6, pf_57_4, gO_57, m_isRoom hT hW, hr, m_w3, hy, m_fails]
        all_goals rfl
    · obtain ⟨w, hw1, rfl⟩ := rk_t (by omega) hy
      have hw : w = 0 ∨ w = 1 ∨ w = 2 := by omega
      rcases hw with rfl | rfl | rfl
      · refine ME_s hI (kv (lk r)) ?_ ?_
        · simp (disch := omega) only [f_L_of, f_X11_of, if_true, if_false, Bool.false_eq_true, Bool.true_eq_false, y_lit, y_m1, nI_add, pk_mul, fa_and, fa_or, y_bs, if_pos, if_neg, y_shl, y_shr, y_le, y_lt, y_eq, y_sub, y_dv, y_rm, y_b0, y_b1, y_sdf, y_ltM, y_Mlt, y_leM, y_Mle, y_eqM, y_Meq, s_e1, s_e2, s_e3, s_e4, s_e5, s_e6, gO_0, c_checkRoom H, hr, c_checkWhat, hy, gf_0_5, gf_12_0, ld_13, (hLm r (by omega)).1, oB_st]
          all_goals rfl
        · simp (disch := omega) only [f_X12_of, if_true, if_false, Bool.false_eq_true, Bool.true_eq_false, y_lit, y_m1, nI_add, pk_mul, fa_and, fa_or, y_bs, if_pos, if_neg, y_shl, y_shr, y_le, y_lt, y_eq, y_sub, y_dv, y_rm, y_b0, y_b1, y_sdf, y_ltM, y_Mlt, y_leM, y_Mle, y_eqM, y_Meq, s_e1, s_e2, s_e3, s_e4, s_e5, s_e6, pf_57_4, gO_57, m_isRoom hT hW, hr, m_w3, hy, gf_57_0, ld_58, Nat.add_zero, hT.2.1]
          all_goals rfl
      · refine ME_s hI (nI (lh r)) ?_ ?_
        · simp (disch := omega) only [f_L_of, f_X11_of, if_true, if_false, Bool.false_eq_true, Bool.true_eq_false, y_lit, y_m1, nI_add, pk_mul, fa_and, fa_or, y_bs, if_pos, if_neg, y_shl, y_shr, y_le, y_lt, y_eq, y_sub, y_dv, y_rm, y_b0, y_b1, y_sdf, y_ltM, y_Mlt, y_leM, y_Mle, y_eqM, y_Meq, s_e1, s_e2, s_e3, s_e4, s_e5, s_e6, gO_0, c_checkRoom H, hr, c_checkWhat, hy, gf_0_5, gf_12_1, ld_14, (hLm r (by omega)).2, oB_st]
          all_goals rfl
        · simp (disch := omega) only [f_X12_of, if_true, if_false, Bool.false_eq_true, Bool.true_eq_false, y_lit, y_m1, nI_add, pk_mul, fa_and, fa_or, y_bs, if_pos, if_neg, y_shl, y_shr, y_le, y_lt, y_eq, y_sub, y_dv, y_rm, y_b0, y_b1, y_sdf, y_ltM, y_Mlt, y_leM, y_Mle, y_eqM, y_Meq, s_e1, s_e2, s_e3, s_e4, s_e5, s_e6, pf_57_4, gO_57, m_isRoom hT hW, hr, m_w3, hy, gf_57_0, ld_58, hT.2.2]
          all_goals rfl
      · refine ME_s hI (nI (tt (416 + r))) ?_ ?_
        · simp (disch := omega) only [f_L_of, f_X11_of, if_true, if_false, Bool.false_eq_true, Bool.true_eq_false, y_lit, y_m1, nI_add, pk_mul, fa_and, fa_or, y_bs, if_pos, if_neg, y_shl, y_shr, y_le, y_lt, y_eq, y_sub, y_dv, y_rm, y_b0, y_b1, y_sdf, y_ltM, y_Mlt, y_leM, y_Mle, y_eqM, y_Meq, s_e1, s_e2, s_e3, s_e4, s_e5, s_e6, gO_0, c_checkRoom H, hr, c_checkWhat, hy, gf_0_4, hs_11 H, hs_bu H, oB_st]
          all_goals rfl
        · simp (disch := omega) only [f_X12_of, if_true, if_false, Bool.false_eq_true, Bool.true_eq_false, y_lit, y_m1, nI_add, pk_mul, fa_and, fa_or, y_bs, if_pos, if_neg, y_shl, y_shr, y_le, y_lt, y_eq, y_sub, y_dv, y_rm, y_b0, y_b1, y_sdf, y_ltM, y_Mlt, y_leM, y_Mle, y_eqM, y_Meq, s_e1, s_e2, s_e3, s_e4, s_e5, s_e6, pf_57_4, gO_57, m_isRoom hT hW, hr, m_w3, hy, gf_57_0, ld_58, hT.1]
          all_goals rfl
