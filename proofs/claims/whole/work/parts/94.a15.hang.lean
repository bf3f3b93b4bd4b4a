/-! ===== calls that change the lamps; hang, count, oil ===== -/
section Hang
variable {A : Nat → Nat → Int32} {Z : Nat → Int32} {B : Nat → Nat → Int64} {Q : Nat → Int64} {P : Nat → Option Nat} {F : Nat → Nat → Option Nat} {q : Nat} {D : List xC} {c : Nat × Nat} {K : Nat → Nat} {tt lk lh : Nat → Nat} {R i : Nat}
theorem Inv_l (H : Inv K A Z B Q P F q D c tt lk lh R i) {A' : Nat → Nat → Int32} {Z' : Nat → Int32} {B' : Nat → Nat → Int64} {lk' lh' : Nat → Nat} (hA : Only (13 :: 14 :: 58 :: SA) A A') (hz : Zro A') (hZ : Only SZ Z Z') (hB : Only [76] B B') (hL : LWf tt lk' lh') (hT : Told (A' 58) tt lk' lh') (hLm : Lam (A' 13) (A' 14) lk' lh') : JJ (HH A' Z' B' Q P F q D c) (i + 1) := by
  obtain ⟨⟨a1, a2, a3, a4, a5⟩, ⟨b1, b2, b3, b4⟩, ⟨p1, p2, p3⟩, ⟨z1, z2, z3, z4⟩, r1, r2, r3, r4⟩ := H
  refine ⟨K, A', Z', B', Q, P, F, q, D, c, tt, lk', lh', R, rfl, ⟨a1, a2, hL, hT, hLm⟩, ⟨Img_D (fun _ _ h => h) (fun _ _ _ _ _ h => h) (hA 61 (by decide)) (hA 59 (by decide)) b1, ?_, ?_, hz⟩, ⟨Plan_D (fun _ _ h => h) (hA 50 (by decide)) (hA 51 (by decide)) ?_ p1, Sav_D (fun _ _ h => h) (hA 56 (by decide)) (hA 40 (by decide)) (hZ 7 (by decide)) (hZ 8 (by decide)) (hZ 30 (by decide)) p2, p3⟩, ⟨?_, ?_, z3, z4⟩, r1, r2, by omega, by omega⟩
  · unfold TapeOK
    rw [hA 62 (by decide), hA 1 (by decide), hZ 0 (by decide), hZ 19 (by decide)]
    exact b2
  · unfold TrayOK
    rw [hA 19 (by decide), hA 20 (by decide), hA 73 (by decide), hA 74 (by decide), hB 18 (by decide), hB 75 (by decide)]
    exact b3
  · intro k k1 k2
    apply hZ
    unfold SZ
    simp only [List.mem_cons, List.not_mem_nil, or_false]
    omega
  · rw [hZ 1 (by decide), hZ 27 (by decide)]; exact z1
  · rw [hZ 2 (by decide), hZ 28 (by decide)]; exact z2
theorem c_areHours (h : xH) (x : Int32) : f_X11_areHours h x.toInt64 = some (if rk x 16777216 = true then nI 1 else nI 0) := by
  have e0 : (0 : Int64) = (0 : Int32).toInt64 := rfl
  have e1 : (16777215 : Int64) = (16777215 : Int32).toInt64 := by decide
  unfold f_X11_areHours
  rw [e0, e1]
  simp only [w_lt, w_gt]
  have e2 : (16777215 : Int32) < x ↔ ¬ x < nI 16777216 := by
    rw [fa_lt, fa_lt, nI_toInt (by decide)]
    have : (16777215 : Int32).toInt = 16777215 := by decide
    rw [this]
    omega
  unfold rk
  by_cases h1 : x < 0
  · simp [h1]; rfl
  · by_cases h2 : x < nI 16777216
    · have h3 : ¬ (16777215 : Int32) < x := fun h => e2.mp h h2
      simp [h1, h2, h3]; rfl
    · have h3 : (16777215 : Int32) < x := e2.mpr h2
      simp [h1, h2, h3]; rfl
theorem m_wHours (h : xH) (x : Int32) : f_X12_within h x.toInt64 (0 : Int64) (16777215 : Int64) = some (if rk x 16777216 = true then nI 1 else nI 0) := rk_withinL h x (by decide) (by decide)
/-- the kind that an argument tells: 0 for none -/
def kof (y : Int32) : Nat := if y = nM then 0 else y.toNatClampNeg + 1
theorem kof_v {y : Int32} {n : Nat} (hn : n < 1000) (h : y = nM ∨ rk y n = true) : kv (kof y) = y ∧ kof y ≤ n ∧ (kof y = 0 ↔ y = nM) := by
  unfold kof
  by_cases e : y = nM
  · rw [if_pos e]
    exact ⟨by rw [kv_0, e]; rfl, by omega, by simp [e]⟩
  · rw [if_neg e]
    obtain ⟨k, hk, rfl⟩ := rk_t (by omega) (h.resolve_left e)
    rw [nI_clamp (by omega), kv_s]
    exact ⟨rfl, by omega, by simp [e]⟩
theorem c_put {r : Nat} (hr : r < 16) (y z : Int32) : f_X5_put (HH A Z B Q P F q D c) 12 (nI r) y z = some (HH (upA (upA A 13 (va_up (A 13) r y)) 14 (va_up (A 14) r (if y = nM then 0 else z))) Z B Q P F q D c) := by
  unfold f_X5_put f_X5_put_22
  by_cases e : y = nM
  · subst e
    simp (disch := omega) only [if_true, if_false, Bool.false_eq_true, Bool.true_eq_false, y_lit, y_m1, nI_add, pk_mul, fa_and, fa_or, y_bs, if_pos, if_neg, y_shl, y_shr, y_le, y_lt, y_eq, y_sub, y_dv, y_rm, y_b0, y_b1, y_sdf, y_ltM, y_Mlt, y_leM, y_Mle, y_eqM, y_Meq, s_e1, s_e2, s_e3, s_e4, s_e5, s_e6, gf_12_0, gf_12_1, st_13, st_14, y_us, y_un, y_vs, y_vn, y_uu, y_vv, ne_eq, not_false_eq_true, not_true_eq_false]
  · simp (disch := omega) only [if_true, if_false, Bool.false_eq_true, Bool.true_eq_false, y_lit, y_m1, nI_add, pk_mul, fa_and, fa_or, y_bs, if_pos, if_neg, y_shl, y_shr, y_le, y_lt, y_eq, y_sub, y_dv, y_rm, y_b0, y_b1, y_sdf, y_ltM, y_Mlt, y_leM, y_Mle, y_eqM, y_Meq, s_e1, s_e2, s_e3, s_e4, s_e5, s_e6, gf_12_0, gf_12_1, st_13, st_14, y_us, y_un, y_vs, y_vn, y_uu, y_vv, ne_eq, not_false_eq_true, not_true_eq_false, e]
theorem m_hangs {r : Nat} (hr : r < 16) (y z : Int32) : f_X12_hangs (HH A Z B Q P F q D c) 57 (nI r) y z = some (HH (upA A 58 (va_up (va_up (A 58) (448 + 2 * r) y) (448 + 2 * r + 1) (if y = nM then 0 else z))) Z B Q P F q D c) := by
  unfold f_X12_hangs f_X12_hangs_36
  by_cases e : y = nM
  · subst e
    simp (disch := omega) only [if_true, if_false, Bool.false_eq_true, Bool.true_eq_false, y_lit, y_m1, nI_add, pk_mul, fa_and, fa_or, y_bs, if_pos, if_neg, y_shl, y_shr, y_le, y_lt, y_eq, y_sub, y_dv, y_rm, y_b0, y_b1, y_sdf, y_ltM, y_Mlt, y_leM, y_Mle, y_eqM, y_Meq, s_e1, s_e2, s_e3, s_e4, s_e5, s_e6, gf_57_0, st_58, y_us, y_un, y_vs, y_vn, y_uu, y_vv, ne_eq, not_false_eq_true, not_true_eq_false]
  · simp (disch := omega) only [if_true, if_false, Bool.false_eq_true, Bool.true_eq_false, y_lit, y_m1, nI_add, pk_mul, fa_and, fa_or, y_bs, if_pos, if_neg, y_shl, y_shr, y_le, y_lt, y_eq, y_sub, y_dv, y_rm, y_b0, y_b1, y_sdf, y_ltM, y_Mlt, y_leM, y_Mle, y_eqM, y_Meq, s_e1, s_e2, s_e3, s_e4, s_e5, s_e6, gf_57_0, st_58, y_us, y_un, y_vs, y_vn, y_uu, y_vv, ne_eq, not_false_eq_true, not_true_eq_false, e]
theorem Told_put {f : Nat → Int32} (hT : Told f tt lk lh) {r : Nat} (hr : r < 16) (l z : Nat) : Told (va_up (va_up f (448 + 2 * r) (kv l)) (448 + 2 * r + 1) (nI z)) tt (va_up lk r l) (va_up lh r z) := by
  obtain ⟨h1, h2, h3⟩ := hT
  refine ⟨fun k hk => ?_, fun k hk => ?_, fun k hk => ?_⟩
  · rw [y_vn (by omega), y_vn (by omega)]
    exact h1 k hk
  · rw [y_vn (by omega)]
    by_cases e : k = r
    · subst e
      rw [y_vs, y_vs]
    · rw [y_vn (by omega), y_vn e]
      exact h2 k hk
  · by_cases e : k = r
    · subst e
      rw [y_vs, y_vs]
    · rw [y_vn (by omega), y_vn (by omega), y_vn e]
      exact h3 k hk
theorem Lam_put {f g : Nat → Int32} (hL : Lam f g lk lh) (r l z : Nat) : Lam (va_up f r (kv l)) (va_up g r (nI z)) (va_up lk r l) (va_up lh r z) := fun k hk => by
  by_cases e : k = r
  · subst e
    rw [y_vs, y_vs, y_vs, y_vs]
    exact ⟨rfl, rfl⟩
  · rw [y_vn e, y_vn e, y_vn e, y_vn e]
    exact hL k hk
theorem LWf_put (hL : LWf tt lk lh) {r l z : Nat} (hr : r < tt 1) (hl : l ≤ tt 3) (hz : z < 2 ^ 24) (h0 : l = 0 → z = 0) : LWf tt (va_up lk r l) (va_up lh r z) := fun k => by
  by_cases e : k = r
  · subst e
    rw [y_vs, y_vs]
    exact ⟨hl, hz, h0, fun h => by omega⟩
  · rw [y_vn e, y_vn e]
    exact hL k
theorem ME_l {cl mo : xH → Option (Int32 × xH)} (hI : Inv K A Z B Q P F q D c tt lk lh R i) {A1 A2 : Nat → Nat → Int32} {Z1 Z2 : Nat → Int32} {v : Int32} {lk' lh' : Nat → Nat} (e1 : cl (HH A Z B Q P F q D c) = some (nI 0, HH A1 Z1 (oB B v.toInt64) Q P F q D c)) (e2 : mo (HH A1 Z1 (oB B v.toInt64) Q P F q D c) = some (v, HH A2 Z2 (oB B v.toInt64) Q P F q D c)) (hA : Only (13 :: 14 :: 58 :: SA) A A2) (hz : Zro A2) (hZ : Only SZ Z Z2) (h18 : Z2 18 = nI 0) (hL : LWf tt lk' lh') (hT : Told (A2 58) tt lk' lh') (hLm : Lam (A2 13) (A2 14) lk' lh') : MER cl mo (HH A Z B Q P F q D c) i :=
  ⟨nI 0, _, v, _, e1, ⟨_, _, _, _, _, _, _, _, _, rfl⟩, e2, by rw [gf_57_4, h18], fun _ => oB_ld _, Inv_l hI hA hz hZ (oB_o _) hL hT hLm⟩
end Hang
theorem ok_hang : ∀ x0 x1 x2, ME (fun h => f_L_hang h 0 x0 x1 x2 76) (fun h => f_X12_hang h 57 x0 x1 x2) := by
  intro x y z h i hJ hi
  obtain ⟨K, A, Z, B, Q, P, F, q, D, c, tt, lk, lh, R, rfl, hI⟩ := hJ
  have hz := hI.2.1.2.2.2
  obtain ⟨H, hW, hL, hT, hLm⟩ := hI.1
  have hro := hW.ro
  have hki := hW.ki
  cases hr : rk x (tt 1)
  · refine ME_t hI (k := 1) (b := nI 0) (by decide) ?_ ?_ (oZ182 (nI 0) (nI 1)) rfl
    · simp (disch := omega) only [f_L_hang, f_X11_hang, if_true, if_false, Bool.false_eq_true, Bool.true_eq_false, y_lit, y_m1, nI_add, pk_mul, fa_and, fa_or, y_bs, if_pos, if_neg, y_shl, y_shr, y_le, y_lt, y_eq, y_sub, y_dv, y_rm, y_b0, y_b1, y_sdf, y_ltM, y_Mlt, y_leM, y_Mle, y_eqM, y_Meq, s_e1, s_e2, s_e3, s_e4, s_e5, s_e6, gO_0, c_checkRoom H, hr]
    · simp (disch := omega) only [f_X12_hang, f_X12_hang_26, if_true, if_false, Bool.false_eq_true, Bool.true_eq_false, y_lit, y_m1, nI_add, pk_mul, fa_and, fa_or, y_bs, if_pos, if_neg, y_shl, y_shr, y_le, y_lt, y_eq, y_sub, y_dv, y_rm, y_b0, y_b1, y_sdf, y_ltM, y_Mlt, y_leM, y_Mle, y_eqM, y_Meq, s_e1, s_e2, s_e3, s_e4, s_e5, s_e6, pf_57_4, gO_57, m_isRoom hT hW, hr, m_fails]
  · obtain ⟨r, hr1, rfl⟩ := rk_t (by omega) hr
    by_cases hk : y = nM ∨ rk y (tt 3) = true
    · cases hh : rk z 16777216
      · refine ME_t hI (k := 2) (b := nI 0) (by decide) ?_ ?_ (oZ182 (nI 0) (nI 2)) rfl
        · by_cases hy : y = nM
          · simp (disch := omega) only [f_L_hang, f_X11_hang, f_X11_hang_15, if_true, if_false, Bool.false_eq_true, Bool.true_eq_false, y_lit, y_m1, nI_add, pk_mul, fa_and, fa_or, y_bs, if_pos, if_neg, y_shl, y_shr, y_le, y_lt, y_eq, y_sub, y_dv, y_rm, y_b0, y_b1, y_sdf, y_ltM, y_Mlt, y_leM, y_Mle, y_eqM, y_Meq, s_e1, s_e2, s_e3, s_e4, s_e5, s_e6, gO_0, c_checkRoom H, hr, hy, c_areHours, hh, thr_HH]
          · simp (disch := omega) only [f_L_hang, f_X11_hang, f_X11_hang_15, if_true, if_false, Bool.false_eq_true, Bool.true_eq_false, y_lit, y_m1, nI_add, pk_mul, fa_and, fa_or, y_bs, if_pos, if_neg, y_shl, y_shr, y_le, y_lt, y_eq, y_sub, y_dv, y_rm, y_b0, y_b1, y_sdf, y_ltM, y_Mlt, y_leM, y_Mle, y_eqM, y_Meq, s_e1, s_e2, s_e3, s_e4, s_e5, s_e6, gO_0, c_checkRoom H, hr, hy, c_checkKind H, hk.resolve_left hy, c_areHours, hh, thr_HH]
        · by_cases hy : y = nM
          · simp (disch := omega) only [f_X12_hang, f_X12_hang_26, f_X12_hang_32, if_true, if_false, Bool.false_eq_true, Bool.true_eq_false, y_lit, y_m1, nI_add, pk_mul, fa_and, fa_or, y_bs, if_pos, if_neg, y_shl, y_shr, y_le, y_lt, y_eq, y_sub, y_dv, y_rm, y_b0, y_b1, y_sdf, y_ltM, y_Mlt, y_leM, y_Mle, y_eqM, y_Meq, s_e1, s_e2, s_e3, s_e4, s_e5, s_e6, pf_57_4, gO_57, m_isRoom hT hW, hr, hy, m_wHours, hh, m_fails]
          · simp (disch := omega) only [f_X12_hang, f_X12_hang_26, f_X12_hang_32, if_true, if_false, Bool.false_eq_true, Bool.true_eq_false, y_lit, y_m1, nI_add, pk_mul, fa_and, fa_or, y_bs, if_pos, if_neg, y_shl, y_shr, y_le, y_lt, y_eq, y_sub, y_dv, y_rm, y_b0, y_b1, y_sdf, y_ltM, y_Mlt, y_leM, y_Mle, y_eqM, y_Meq, s_e1, s_e2, s_e3, s_e4, s_e5, s_e6, pf_57_4, gO_57, m_isRoom hT hW, hr, hy, m_isKind hT hW, hk.resolve_left hy, m_wHours, hh, m_fails]
      · obtain ⟨w, hw, rfl⟩ := rk_t (by omega) hh
        obtain ⟨k1, k2, k3⟩ := kof_v (n := tt 3) (by omega) hk
        have e14 : (if y = nM then (0 : Int32) else nI w) = nI (if kof y = 0 then 0 else w) := by
          by_cases e : y = nM
          · rw [if_pos e, if_pos (k3.mpr e)]; rfl
          · rw [if_neg e, if_neg (fun h => e (k3.mp h))]
        refine ME_l hI (v := kv (lk r)) (A1 := upA (upA A 13 (va_up (A 13) r y)) 14 (va_up (A 14) r (nI (if kof y = 0 then 0 else w)))) (Z1 := Z) (A2 := upA (upA (upA A 13 (va_up (A 13) r y)) 14 (va_up (A 14) r (nI (if kof y = 0 then 0 else w)))) 58 (va_up (va_up (A 58) (448 + 2 * r) y) (448 + 2 * r + 1) (nI (if kof y = 0 then 0 else w)))) (Z2 := upA Z 18 (nI 0)) (lk' := va_up lk r (kof y)) (lh' := va_up lh r (if kof y = 0 then 0 else w)) ?_ ?_ (((Only.rf.up (by decide)).up (by decide)).up (by decide)) hz (oZ18 _) rfl (LWf_put hL hr1 k2 (by split <;> omega) (fun e => if_pos e)) ?_ ?_
        · by_cases hy : y = nM
          · simp (disch := omega) only [f_L_hang, f_X11_hang, f_X11_hang_15, y_lit, y_m1, Option.bind_some, if_true, if_false, gO_0, c_checkRoom H, hr, hy, c_areHours, hh, y_eq, if_neg, gf_0_5, gf_12_0, gO_12, ld_13, (hLm r (by omega)).1, c_put, oB_st]
            rw [← hy, ← e14, if_pos hy]
            rfl
          · simp (disch := omega) only [f_L_hang, f_X11_hang, f_X11_hang_15, y_lit, y_m1, Option.bind_some, if_true, if_false, gO_0, c_checkRoom H, hr, hy, c_checkKind H, hk.resolve_left hy, c_areHours, hh, y_eq, if_neg, gf_0_5, gf_12_0, gO_12, ld_13, (hLm r (by omega)).1, c_put, oB_st]
            rw [← e14, if_neg hy]
        · have eT : A 58 (448 + 2 * r) = kv (lk r) := hT.2.1 r (by omega)
          by_cases hy : y = nM
          · simp (disch := omega) only [f_X12_hang, f_X12_hang_26, f_X12_hang_32, y_lit, y_m1, nI_add, pk_mul, Option.bind_some, if_true, if_false, pf_57_4, gO_57, m_isRoom (A := upA (upA A 13 _) 14 _) hT hW, hr, hy, m_wHours, hh, y_eq, if_neg, gf_57_0, ld_58, y_us, y_un, y_vs, y_vn, y_uu, y_vv, ne_eq, not_false_eq_true, not_true_eq_false, eT, m_hangs]
            rw [← hy, ← e14, if_pos hy]
            rfl
          · simp (disch := omega) only [f_X12_hang, f_X12_hang_26, f_X12_hang_32, y_lit, y_m1, nI_add, pk_mul, Option.bind_some, if_true, if_false, pf_57_4, gO_57, m_isRoom (A := upA (upA A 13 _) 14 _) hT hW, hr, hy, m_isKind (A := upA (upA A 13 _) 14 _) hT hW, hk.resolve_left hy, m_wHours, hh, y_eq, if_neg, gf_57_0, ld_58, y_us, y_un, y_vs, y_vn, y_uu, y_vv, ne_eq, not_false_eq_true, not_true_eq_false, eT, m_hangs]
            rw [← e14, if_neg hy]
        · have t1 := Told_put hT (r := r) (by omega) (kof y) (if kof y = 0 then 0 else w)
          rw [k1] at t1
          exact t1
        · have t1 := Lam_put hLm r (kof y) (if kof y = 0 then 0 else w)
          rw [k1] at t1
          exact t1
    · have hy : ¬ y = nM := fun e => hk (Or.inl e)
      have hk2 : rk y (tt 3) = false := by
        cases h : rk y (tt 3)
        · rfl
        · exact absurd (Or.inr h) hk
      refine ME_t hI (k := 1) (b := nI 0) (by decide) ?_ ?_ (oZ182 (nI 0) (nI 1)) rfl
      · simp (disch := omega) only [f_L_hang, f_X11_hang, if_true, if_false, Bool.false_eq_true, Bool.true_eq_false, y_lit, y_m1, nI_add, pk_mul, fa_and, fa_or, y_bs, if_pos, if_neg, y_shl, y_shr, y_le, y_lt, y_eq, y_sub, y_dv, y_rm, y_b0, y_b1, y_sdf, y_ltM, y_Mlt, y_leM, y_Mle, y_eqM, y_Meq, s_e1, s_e2, s_e3, s_e4, s_e5, s_e6, gO_0, c_checkRoom H, hr, hy, c_checkKind H, hk2]
      · simp (disch := omega) only [f_X12_hang, f_X12_hang_26, if_true, if_false, Bool.false_eq_true, Bool.true_eq_false, y_lit, y_m1, nI_add, pk_mul, fa_and, fa_or, y_bs, if_pos, if_neg, y_shl, y_shr, y_le, y_lt, y_eq, y_sub, y_dv, y_rm, y_b0, y_b1, y_sdf, y_ltM, y_Mlt, y_leM, y_Mle, y_eqM, y_Meq, s_e1, s_e2, s_e3, s_e4, s_e5, s_e6, pf_57_4, gO_57, m_isRoom hT hW, hr, hy, m_isKind hT hW, hk2, m_fails]
