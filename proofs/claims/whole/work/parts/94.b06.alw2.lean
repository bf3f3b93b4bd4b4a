section Alw3
variable {A : Nat → Nat → Int32} {Z : Nat → Int32} {B : Nat → Nat → Int64} {Q : Nat → Int64} {P : Nat → Option Nat} {F : Nat → Nat → Option Nat} {q : Nat} {D : List xC} {c : Nat × Nat} {K : Nat → Nat} {tt lk lh : Nat → Nat} {R i : Nat}
theorem oCov {A' : Nat → Nat → Int32} (h : Only [23, 24, 25, 26] A A') (f : Nat → Int32) : Only SA A (upA A' 63 f) := (h.mono (by decide)).up (by decide)
theorem oCov0 {A' : Nat → Nat → Int32} (h : Only [23, 24, 25, 26] A A') : Only SA A A' := h.mono (by decide)
theorem oZ3 (x y : Int32) : Only SZ Z (upA (upA Z 3 x) 18 y) := (Only.rf.up (by decide)).up (by decide)
end Alw3
theorem ok_barred : ∀ x0, ME (fun h => f_L_barred h 0 x0 76) (fun h => f_X12_barred h 57 x0) := by
  intro x h i hJ hi
  obtain ⟨K, A, Z, B, Q, P, F, q, D, c, tt, lk, lh, R, rfl, hI⟩ := hJ
  have hz := hI.2.1.2.2.2
  obtain ⟨H, hW, hL, hT, hLm⟩ := hI.1
  have hro := hW.ro
  have hpw := pw16 hro
  have hpp := Nat.two_pow_pos (tt 1)
  cases hr : rk x (tt 1)
  · refine ME_t hI (k := 1) (b := nI 0) (by decide) ?_ ?_ (oZ18 (nI 1)) rfl
    · simp (disch := omega) only [f_L_barred, f_X11_barred, if_true, if_false, Bool.false_eq_true, Bool.true_eq_false, y_lit, y_m1, nI_add, pk_mul, fa_and, fa_or, y_bs, if_pos, if_neg, y_shl, y_shr, y_le, y_lt, y_eq, y_sub, y_dv, y_rm, y_b0, y_b1, y_sdf, y_ltM, y_Mlt, y_leM, y_Mle, y_eqM, y_Meq, s_e1, s_e2, s_e3, s_e4, s_e5, s_e6, gO_0, c_checkRoom H, hr]
    · unfold f_X12_barred f_X12_barred_14
      generalize xFU = N
      simp (disch := omega) only [if_true, if_false, Bool.false_eq_true, Bool.true_eq_false, y_lit, y_m1, nI_add, pk_mul, fa_and, fa_or, y_bs, if_pos, if_neg, y_shl, y_shr, y_le, y_lt, y_eq, y_sub, y_dv, y_rm, y_b0, y_b1, y_sdf, y_ltM, y_Mlt, y_leM, y_Mle, y_eqM, y_Meq, s_e1, s_e2, s_e3, s_e4, s_e5, s_e6, pf_57_4, gf_57_4, gO_57, m_isRoom hT hW, hr, y_us, y_un, y_vs, y_vn, y_uu, y_vv, ne_eq, not_false_eq_true, not_true_eq_false]
  · obtain ⟨r, hr1, rfl⟩ := rk_t (by omega) hr
    have hal : sdf (2 ^ tt 1 - 1) (2 ^ r) < 65536 := sdf_lt (k := 16) (by omega)
    obtain ⟨A', o, e1, h1, h2, h3, h4⟩ := c_fewestOf (A := A) (Z := Z) (B := B) (Q := Q) (P := P) (F := F) (c := c) H hW hz hal
    have ho := bar_eq hW hr1 h4
    have hT' : Told (A' 58) tt lk lh := by rw [h1 58 (by decide)]; exact hT
    obtain ⟨f, e2, hf⟩ := m_layNexts (A := A') (Z := upA (upA Z 3 (nI (tt 1))) 18 (nI 0)) (B := oB B (Int32.toInt64 (eo (o.map pc)))) (Q := Q) (P := P) (F := F) (q := q) (D := D) (c := c) hT' hW
    have e3 := m_barred34 (A := upA A' 63 f) (Z := upA (upA Z 3 (nI (tt 1))) 18 (nI 0)) (B := oB B (Int32.toInt64 (eo (o.map pc)))) (Q := Q) (P := P) (F := F) (q := q) (D := D) (c := c) hT' hW hf (nxt_lt16 hW) hr1
    rw [← ho] at e3
    refine ME_r hI (v := eo (o.map pc)) (A1 := A') (Z1 := upA Z 3 (nI (tt 1))) (A2 := upA A' 63 f) (Z2 := upA (upA Z 3 (nI (tt 1))) 18 (nI 0)) ?_ ?_ (oCov h1 f) h3 (oZ3 _ _) rfl
    · cases o with
      | none =>
        simp only [eo] at e1
        simp (disch := omega) only [f_L_barred, f_X11_barred, if_true, if_false, Bool.false_eq_true, Bool.true_eq_false, y_lit, y_m1, nI_add, pk_mul, fa_and, fa_or, y_bs, if_pos, if_neg, y_shl, y_shr, y_le, y_lt, y_eq, y_sub, y_dv, y_rm, y_b0, y_b1, y_sdf, y_ltM, y_Mlt, y_leM, y_Mle, y_eqM, y_Meq, s_e1, s_e2, s_e3, s_e4, s_e5, s_e6, gO_0, c_checkRoom H, hr, gf_0_4, hs_gO H, c_allRooms H hW, e1, eo, Option.map_none, oB_st]
      | some S =>
        have hS := eo_lt hro h4 rfl
        simp only [eo] at e1
        simp (disch := omega) only [f_L_barred, f_X11_barred, if_true, if_false, Bool.false_eq_true, Bool.true_eq_false, y_lit, y_m1, nI_add, pk_mul, fa_and, fa_or, y_bs, if_pos, if_neg, y_shl, y_shr, y_le, y_lt, y_eq, y_sub, y_dv, y_rm, y_b0, y_b1, y_sdf, y_ltM, y_Mlt, y_leM, y_Mle, y_eqM, y_Meq, s_e1, s_e2, s_e3, s_e4, s_e5, s_e6, gO_0, c_checkRoom H, hr, gf_0_4, hs_gO H, c_allRooms H hW, e1, eo, Option.map_some, bitCount_spec, oB_st]
    · unfold f_X12_barred f_X12_barred_14
      generalize xFU = N at e3 ⊢
      simp (disch := omega) only [if_true, if_false, Bool.false_eq_true, Bool.true_eq_false, y_lit, y_m1, nI_add, pk_mul, fa_and, fa_or, y_bs, if_pos, if_neg, y_shl, y_shr, y_le, y_lt, y_eq, y_sub, y_dv, y_rm, y_b0, y_b1, y_sdf, y_ltM, y_Mlt, y_leM, y_Mle, y_eqM, y_Meq, s_e1, s_e2, s_e3, s_e4, s_e5, s_e6, pf_57_4, gf_57_4, gO_57, m_isRoom hT' hW, hr, y_us, y_un, y_vs, y_vn, y_uu, y_vv, ne_eq, not_false_eq_true, not_true_eq_false, e2, e3]
section Alw4
variable {A : Nat → Nat → Int32} {Z : Nat → Int32} {B : Nat → Nat → Int64} {Q : Nat → Int64} {P : Nat → Option Nat} {F : Nat → Nat → Option Nat} {q : Nat} {D : List xC} {c : Nat × Nat} {K : Nat → Nat} {tt lk lh : Nat → Nat} {R i : Nat}
theorem c_always26 (H : Hs K D q tt) (hW : HWf tt) (hz : Zro A) {S : Nat} (hS : S < 2 ^ tt 1) : ∃ A', f_X11_always_26 xFU (HH A (upA Z 3 (nI (tt 1))) B Q P F q D c) 0 (nI (2 ^ tt 1 - 1)) (nI S) (nI 0) (nI 0) = some (nI (mk (fun r => !(sk (msk (ltt tt) (sdf (2 ^ tt 1 - 1) (2 ^ r))) (tt 1) (2 ^ tt 1 - 1) 0 (pc S)).isSome) (tt 1)), HH A' (upA Z 3 (nI (tt 1))) B Q P F q D c) ∧ Only [23, 24, 25, 26] A A' ∧ Zro A' := by
  have hro := hW.ro
  have hpw := pw16 hro
  have hpp := Nat.two_pow_pos (tt 1)
  have hps : pc S ≤ 16 := Nat.le_trans (pc_le_n (by omega) hS) hro
  have key := loop_J (F := fun n i (s : Int32 × xH) => f_X11_always_26 n s.2 0 (nI (2 ^ tt 1 - 1)) (nI S) s.1 (nI i)) (N := tt 1) some (fun i s => ∃ A', s = (nI (mk (fun r => !(sk (msk (ltt tt) (sdf (2 ^ tt 1 - 1) (2 ^ r))) (tt 1) (2 ^ tt 1 - 1) 0 (pc S)).isSome) i), HH A' (upA Z 3 (nI (tt 1))) B Q P F q D c) ∧ Only [23, 24, 25, 26] A A' ∧ Zro A') (fun n i s hi hs => ?_) (fun n s hs => ?_) (by omega) (s := (nI 0, HH A (upA Z 3 (nI (tt 1))) B Q P F q D c)) ⟨A, rfl, Only.rf, hz⟩
  · obtain ⟨s, e1, A', rfl, h1, h2⟩ := key
    exact ⟨A', e1, h1, h2⟩
  · obtain ⟨A', rfl, h1, h2⟩ := hs
    have hal : sdf (2 ^ tt 1 - 1) (2 ^ i) < 65536 := sdf_lt (k := 16) (by omega)
    obtain ⟨A2, e1, g1, g2, g3⟩ := c_layH (A := A') (Z := upA Z 3 (nI (tt 1))) (B := B) (Q := Q) (P := P) (F := F) (c := c) H hW h2 hal
    rw [y_uu] at e1
    have e2 := c_suffice (A := A2) (Z := upA Z 3 (nI (tt 1))) (B := B) (Q := Q) (P := P) (F := F) (q := q) (D := D) (c := c) (one := 2 ^ tt 1 - 1) hro (msk_lt (ltt_lt16 hW) _) g2 rfl (by omega) hps
    rw [mk_step]
    refine ⟨_, ?_, A2, rfl, h1.tr g1 (fun _ h => h) (fun _ h => h), g3⟩
    cases hs : (sk (msk (ltt tt) (sdf (2 ^ tt 1 - 1) (2 ^ i))) (tt 1) (2 ^ tt 1 - 1) 0 (pc S)).isSome
    · rw [hs] at e2
      simp (disch := omega) only [f_X11_always_26, if_true, if_false, Bool.false_eq_true, Bool.true_eq_false, y_lit, y_m1, nI_add, pk_mul, fa_and, fa_or, y_bs, if_pos, if_neg, y_shl, y_shr, y_le, y_lt, y_eq, y_sub, y_dv, y_rm, y_b0, y_b1, y_sdf, y_ltM, y_Mlt, y_leM, y_Mle, y_eqM, y_Meq, s_e1, s_e2, s_e3, s_e4, s_e5, s_e6, gf_0_4, gf_0_12, hs_1 H, hs_14 H, gO_22, e1, e2, bitCount_spec, Bool.not_false]
    · rw [hs] at e2
      simp (disch := omega) only [f_X11_always_26, if_true, if_false, Bool.false_eq_true, Bool.true_eq_false, y_lit, y_m1, nI_add, pk_mul, fa_and, fa_or, y_bs, if_pos, if_neg, y_shl, y_shr, y_le, y_lt, y_eq, y_sub, y_dv, y_rm, y_b0, y_b1, y_sdf, y_ltM, y_Mlt, y_leM, y_Mle, y_eqM, y_Meq, s_e1, s_e2, s_e3, s_e4, s_e5, s_e6, gf_0_4, gf_0_12, hs_1 H, hs_14 H, gO_22, e1, e2, bitCount_spec, Bool.not_true, Nat.or_zero]
  · obtain ⟨A', rfl, h1, h2⟩ := hs
    simp (disch := omega) only [f_X11_always_26, if_true, if_false, Bool.false_eq_true, Bool.true_eq_false, y_lit, y_m1, nI_add, pk_mul, fa_and, fa_or, y_bs, if_pos, if_neg, y_shl, y_shr, y_le, y_lt, y_eq, y_sub, y_dv, y_rm, y_b0, y_b1, y_sdf, y_ltM, y_Mlt, y_leM, y_Mle, y_eqM, y_Meq, s_e1, s_e2, s_e3, s_e4, s_e5, s_e6, gf_0_4, hs_1 H]
theorem c_ever26 (H : Hs K D q tt) (hW : HWf tt) (hl : Laid A (tt 1) (msk (ltt tt) (2 ^ tt 1 - 1))) {S : Nat} (hS : S < 2 ^ tt 1) (hp : tt 1 ≠ 0 → 0 < pc S) : f_X11_ever_26 xFU (HH A (upA Z 3 (nI (tt 1))) B Q P F q D c) 0 (nI (2 ^ tt 1 - 1)) (nI S) (nI 0) (nI 0) = some (nI (mk (fun r => (sk (msk (ltt tt) (2 ^ tt 1 - 1)) (tt 1) (sdf (2 ^ tt 1 - 1) (ltt tt r)) 0 (pc S - 1)).isSome) (tt 1)), HH A (upA Z 3 (nI (tt 1))) B Q P F q D c) := by
  have hro := hW.ro
  have hpw := pw16 hro
  have hpp := Nat.two_pow_pos (tt 1)
  have hps : pc S ≤ 16 := Nat.le_trans (pc_le_n (by omega) hS) hro
  refine loop0 (F := fun n i (s : Int32) => f_X11_ever_26 n (HH A (upA Z 3 (nI (tt 1))) B Q P F q D c) 0 (nI (2 ^ tt 1 - 1)) (nI S) s (nI i)) (N := tt 1) (st := fun i => nI (mk (fun r => (sk (msk (ltt tt) (2 ^ tt 1 - 1)) (tt 1) (sdf (2 ^ tt 1 - 1) (ltt tt r)) 0 (pc S - 1)).isSome) i)) (fun n i hi => ?_) (fun n => ?_) (by omega)
  · have h0 := hp (by omega)
    have hal : sdf (2 ^ tt 1 - 1) (ltt tt i) < 65536 := sdf_lt (k := 16) (by omega)
    have e2 := c_suffice (A := A) (Z := upA Z 3 (nI (tt 1))) (B := B) (Q := Q) (P := P) (F := F) (q := q) (D := D) (c := c) (one := sdf (2 ^ tt 1 - 1) (ltt tt i)) (left := pc S - 1) hro (msk_lt (ltt_lt16 hW) _) hl rfl hal (by omega)
    rw [mk_step]
    cases hs : (sk (msk (ltt tt) (2 ^ tt 1 - 1)) (tt 1) (sdf (2 ^ tt 1 - 1) (ltt tt i)) 0 (pc S - 1)).isSome
    · rw [hs] at e2
      simp (disch := omega) only [f_X11_ever_26, if_true, if_false, Bool.false_eq_true, Bool.true_eq_false, y_lit, y_m1, nI_add, pk_mul, fa_and, fa_or, y_bs, if_pos, if_neg, y_shl, y_shr, y_le, y_lt, y_eq, y_sub, y_dv, y_rm, y_b0, y_b1, y_sdf, y_ltM, y_Mlt, y_leM, y_Mle, y_eqM, y_Meq, s_e1, s_e2, s_e3, s_e4, s_e5, s_e6, gf_0_4, gf_0_12, hs_1 H, hs_14 H, hs_li H, gO_22, e2, bitCount_spec, Nat.or_zero]
    · rw [hs] at e2
      simp (disch := omega) only [f_X11_ever_26, if_true, if_false, Bool.false_eq_true, Bool.true_eq_false, y_lit, y_m1, nI_add, pk_mul, fa_and, fa_or, y_bs, if_pos, if_neg, y_shl, y_shr, y_le, y_lt, y_eq, y_sub, y_dv, y_rm, y_b0, y_b1, y_sdf, y_ltM, y_Mlt, y_leM, y_Mle, y_eqM, y_Meq, s_e1, s_e2, s_e3, s_e4, s_e5, s_e6, gf_0_4, gf_0_12, hs_1 H, hs_14 H, hs_li H, gO_22, e2, bitCount_spec]
  · simp (disch := omega) only [f_X11_ever_26, if_true, if_false, Bool.false_eq_true, Bool.true_eq_false, y_lit, y_m1, nI_add, pk_mul, fa_and, fa_or, y_bs, if_pos, if_neg, y_shl, y_shr, y_le, y_lt, y_eq, y_sub, y_dv, y_rm, y_b0, y_b1, y_sdf, y_ltM, y_Mlt, y_leM, y_Mle, y_eqM, y_Meq, s_e1, s_e2, s_e3, s_e4, s_e5, s_e6, gf_0_4, hs_1 H]
end Alw4
theorem ok_always : MHQ (fun h => f_X11_always h 0) (fun h => f_X12_always h 57) := by
  intro h i hJ hi
  obtain ⟨K, A, Z, B, Q, P, F, q, D, c, tt, lk, lh, R, rfl, hI⟩ := hJ
  have hz := hI.2.1.2.2.2
  obtain ⟨H, hW, hL, hT, hLm⟩ := hI.1
  have hro := hW.ro
  have hpw := pw16 hro
  have hpp := Nat.two_pow_pos (tt 1)
  obtain ⟨A', o, e1, h1, h2, h3, h4⟩ := c_fewestOf (A := A) (Z := Z) (B := B) (Q := Q) (P := P) (F := F) (c := c) H hW hz (al := 2 ^ tt 1 - 1) (by omega)
  have ho := few_eq hW h4
  cases o with
  | none =>
    have hT' : Told (A' 58) tt lk lh := by rw [h1 58 (by decide)]; exact hT
    obtain ⟨f, e2⟩ := m_among (A := A') (Z := upA (upA Z 3 (nI (tt 1))) 18 (nI 0)) (B := B) (Q := Q) (P := P) (F := F) (q := q) (D := D) (c := c) hT' hW true
    rw [← ho] at e2
    refine ⟨nI 0, HH A' (upA Z 3 (nI (tt 1))) B Q P F q D c, HH (upA A' 63 f) (upA (upA Z 3 (nI (tt 1))) 18 (nI 0)) B Q P F q D c, ?_, ⟨_, _, _, _, _, _, _, _, _, rfl⟩, ?_, JJ_q hI (oCov h1 f) h3 (oZ3 _ _) Only.rf (Nat.le_refl _) (by omega) (by omega)⟩
    · show f_X11_always (HH A Z B Q P F q D c) 0 = _
      simp only [eo] at e1
      unfold f_X11_always
      generalize xFU = N
      simp (disch := omega) only [if_true, if_false, Bool.false_eq_true, Bool.true_eq_false, y_lit, y_m1, nI_add, pk_mul, fa_and, fa_or, y_bs, if_pos, if_neg, y_shl, y_shr, y_le, y_lt, y_eq, y_sub, y_dv, y_rm, y_b0, y_b1, y_sdf, y_ltM, y_Mlt, y_leM, y_Mle, y_eqM, y_Meq, s_e1, s_e2, s_e3, s_e4, s_e5, s_e6, gf_0_4, hs_gO H, c_allRooms H hW, gO_0, e1]
    · show f_X12_always (HH A' (upA Z 3 (nI (tt 1))) B Q P F q D c) 57 = _
      unfold f_X12_always
      have e2' : f_X12_among (HH A' (upA (upA Z 3 (nI (tt 1))) 18 (nI 0)) B Q P F q D c) 57 (nI 1) = some (nI 0, HH (upA A' 63 f) (upA (upA Z 3 (nI (tt 1))) 18 (nI 0)) B Q P F q D c) := e2
      rw [show (1 : Int32) = nI 1 from rfl, show (0 : Int32) = nI 0 from rfl, pf_57_4, Option.bind_some, gO_57, Option.bind_some, e2', Option.bind_some]
  | some S =>
    have hS : S < 2 ^ tt 1 := h4.1
    obtain ⟨A2, e3, g1, g2⟩ := c_always26 (A := A') (Z := Z) (B := B) (Q := Q) (P := P) (F := F) (c := c) H hW h3 hS
    have h12 := h1.tr g1 (fun _ h => h) (fun _ h => h)
    have hT' : Told (A2 58) tt lk lh := by rw [h12 58 (by decide)]; exact hT
    obtain ⟨f, e2⟩ := m_among (A := A2) (Z := upA (upA Z 3 (nI (tt 1))) 18 (nI 0)) (B := B) (Q := Q) (P := P) (F := F) (q := q) (D := D) (c := c) hT' hW true
    rw [← ho] at e2
    have ev : amg (fun S => litB (nxt tt) (tt 1) S (2 ^ tt 1 - 1)) true S (2 ^ tt 1) = mk (fun r => !(sk (msk (ltt tt) (sdf (2 ^ tt 1 - 1) (2 ^ r))) (tt 1) (2 ^ tt 1 - 1) 0 (pc S)).isSome) (tt 1) := n_ext (fun r => by
      rw [mk_bit]
      by_cases hr : r < tt 1
      · rw [alw_bit hW hr ho.symm]
        simp [hr]
      · rw [n_lt_bits (amg_lt hS _ (Nat.le_refl _)) (by omega)]
        simp [hr])
    have e2' : f_X12_among (HH A2 (upA (upA Z 3 (nI (tt 1))) 18 (nI 0)) B Q P F q D c) 57 (nI 1) = some (nI (mk (fun r => !(sk (msk (ltt tt) (sdf (2 ^ tt 1 - 1) (2 ^ r))) (tt 1) (2 ^ tt 1 - 1) 0 (pc S)).isSome) (tt 1)), HH (upA A2 63 f) (upA (upA Z 3 (nI (tt 1))) 18 (nI 0)) B Q P F q D c) := by
      rw [← ev]
      exact e2
    refine ⟨nI (mk (fun r => !(sk (msk (ltt tt) (sdf (2 ^ tt 1 - 1) (2 ^ r))) (tt 1) (2 ^ tt 1 - 1) 0 (pc S)).isSome) (tt 1)), HH A2 (upA Z 3 (nI (tt 1))) B Q P F q D c, HH (upA A2 63 f) (upA (upA Z 3 (nI (tt 1))) 18 (nI 0)) B Q P F q D c, ?_, ⟨_, _, _, _, _, _, _, _, _, rfl⟩, ?_, JJ_q hI (oCov h12 f) g2 (oZ3 _ _) Only.rf (Nat.le_refl _) (by omega) (by omega)⟩
    rotate_left
    · show f_X12_always (HH A2 (upA Z 3 (nI (tt 1))) B Q P F q D c) 57 = _
      unfold f_X12_always
      rw [show (1 : Int32) = nI 1 from rfl, show (0 : Int32) = nI 0 from rfl, pf_57_4, Option.bind_some, gO_57, Option.bind_some, e2', Option.bind_some]
    · show f_X11_always (HH A Z B Q P F q D c) 0 = _
      simp only [eo] at e1
      unfold f_X11_always
      generalize xFU = N at e3 ⊢
      simp (disch := omega) only [if_true, if_false, Bool.false_eq_true, Bool.true_eq_false, y_lit, y_m1, nI_add, pk_mul, fa_and, fa_or, y_bs, if_pos, if_neg, y_shl, y_shr, y_le, y_lt, y_eq, y_sub, y_dv, y_rm, y_b0, y_b1, y_sdf, y_ltM, y_Mlt, y_leM, y_Mle, y_eqM, y_Meq, s_e1, s_e2, s_e3, s_e4, s_e5, s_e6, gf_0_4, hs_gO H, c_allRooms H hW, gO_0, e1, e3]
theorem ok_ever : MHQ (fun h => f_X11_ever h 0) (fun h => f_X12_ever h 57) := by
  intro h i hJ hi
  obtain ⟨K, A, Z, B, Q, P, F, q, D, c, tt, lk, lh, R, rfl, hI⟩ := hJ
  have hz := hI.2.1.2.2.2
  obtain ⟨H, hW, hL, hT, hLm⟩ := hI.1
  have hro := hW.ro
  have hpw := pw16 hro
  have hpp := Nat.two_pow_pos (tt 1)
  obtain ⟨A', o, e1, h1, h2, h3, h4⟩ := c_fewestOf (A := A) (Z := Z) (B := B) (Q := Q) (P := P) (F := F) (c := c) H hW hz (al := 2 ^ tt 1 - 1) (by omega)
  have ho := few_eq hW h4
  have hT' : Told (A' 58) tt lk lh := by rw [h1 58 (by decide)]; exact hT
  obtain ⟨f, e2⟩ := m_among (A := A') (Z := upA (upA Z 3 (nI (tt 1))) 18 (nI 0)) (B := B) (Q := Q) (P := P) (F := F) (q := q) (D := D) (c := c) hT' hW false
  rw [← ho] at e2
  cases o with
  | none =>
    refine ⟨nI 0, HH A' (upA Z 3 (nI (tt 1))) B Q P F q D c, HH (upA A' 63 f) (upA (upA Z 3 (nI (tt 1))) 18 (nI 0)) B Q P F q D c, ?_, ⟨_, _, _, _, _, _, _, _, _, rfl⟩, ?_, JJ_q hI (oCov h1 f) h3 (oZ3 _ _) Only.rf (Nat.le_refl _) (by omega) (by omega)⟩
    · show f_X11_ever (HH A Z B Q P F q D c) 0 = _
      simp only [eo] at e1
      unfold f_X11_ever
      generalize xFU = N
      simp (disch := omega) only [if_true, if_false, Bool.false_eq_true, Bool.true_eq_false, y_lit, y_m1, nI_add, pk_mul, fa_and, fa_or, y_bs, if_pos, if_neg, y_shl, y_shr, y_le, y_lt, y_eq, y_sub, y_dv, y_rm, y_b0, y_b1, y_sdf, y_ltM, y_Mlt, y_leM, y_Mle, y_eqM, y_Meq, s_e1, s_e2, s_e3, s_e4, s_e5, s_e6, gf_0_4, hs_gO H, c_allRooms H hW, gO_0, e1]
    · show f_X12_ever (HH A' (upA Z 3 (nI (tt 1))) B Q P F q D c) 57 = _
      unfold f_X12_ever
      have e2' : f_X12_among (HH A' (upA (upA Z 3 (nI (tt 1))) 18 (nI 0)) B Q P F q D c) 57 (nI 0) = some (nI 0, HH (upA A' 63 f) (upA (upA Z 3 (nI (tt 1))) 18 (nI 0)) B Q P F q D c) := e2
      rw [show (0 : Int32) = nI 0 from rfl, pf_57_4, Option.bind_some, gO_57, Option.bind_some, e2', Option.bind_some]
  | some S =>
    have hS : S < 2 ^ tt 1 := h4.1
    have e3 := c_ever26 (A := A') (Z := Z) (B := B) (Q := Q) (P := P) (F := F) (c := c) H hW h2 hS (fun hn => (evr_bit hW (r := 0) (by omega) ho.symm).1)
    have ev : amg (fun S => litB (nxt tt) (tt 1) S (2 ^ tt 1 - 1)) false S (2 ^ tt 1) = mk (fun r => (sk (msk (ltt tt) (2 ^ tt 1 - 1)) (tt 1) (sdf (2 ^ tt 1 - 1) (ltt tt r)) 0 (pc S - 1)).isSome) (tt 1) := n_ext (fun r => by
      rw [mk_bit]
      by_cases hr : r < tt 1
      · rw [(evr_bit hW hr ho.symm).2]
        simp [hr]
      · rw [n_lt_bits (amg_lt hS _ (Nat.le_refl _)) (by omega)]
        simp [hr])
    have e2' : f_X12_among (HH A' (upA (upA Z 3 (nI (tt 1))) 18 (nI 0)) B Q P F q D c) 57 (nI 0) = some (nI (mk (fun r => (sk (msk (ltt tt) (2 ^ tt 1 - 1)) (tt 1) (sdf (2 ^ tt 1 - 1) (ltt tt r)) 0 (pc S - 1)).isSome) (tt 1)), HH (upA A' 63 f) (upA (upA Z 3 (nI (tt 1))) 18 (nI 0)) B Q P F q D c) := by
      rw [← ev]
      exact e2
    refine ⟨nI (mk (fun r => (sk (msk (ltt tt) (2 ^ tt 1 - 1)) (tt 1) (sdf (2 ^ tt 1 - 1) (ltt tt r)) 0 (pc S - 1)).isSome) (tt 1)), HH A' (upA Z 3 (nI (tt 1))) B Q P F q D c, HH (upA A' 63 f) (upA (upA Z 3 (nI (tt 1))) 18 (nI 0)) B Q P F q D c, ?_, ⟨_, _, _, _, _, _, _, _, _, rfl⟩, ?_, JJ_q hI (oCov h1 f) h3 (oZ3 _ _) Only.rf (Nat.le_refl _) (by omega) (by omega)⟩
    rotate_left
    · show f_X12_ever (HH A' (upA Z 3 (nI (tt 1))) B Q P F q D c) 57 = _
      unfold f_X12_ever
      rw [show (0 : Int32) = nI 0 from rfl, pf_57_4, Option.bind_some, gO_57, Option.bind_some, e2', Option.bind_some]
    · show f_X11_ever (HH A Z B Q P F q D c) 0 = _
      simp only [eo] at e1
      unfold f_X11_ever
      generalize xFU = N at e3 ⊢
      simp (disch := omega) only [if_true, if_false, Bool.false_eq_true, Bool.true_eq_false, y_lit, y_m1, nI_add, pk_mul, fa_and, fa_or, y_bs, if_pos, if_neg, y_shl, y_shr, y_le, y_lt, y_eq, y_sub, y_dv, y_rm, y_b0, y_b1, y_sdf, y_ltM, y_Mlt, y_leM, y_Mle, y_eqM, y_Meq, s_e1, s_e2, s_e3, s_e4, s_e5, s_e6, gf_0_4, hs_gO H, c_allRooms H hW, gO_0, e1, e3]
