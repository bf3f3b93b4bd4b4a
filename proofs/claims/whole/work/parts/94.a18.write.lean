/-! ===== write ===== -/
theorem bv_cut (x : BitVec 64) {n : Nat} (hn : n ≤ 64) (h0 : 0 < n) : (x <<< (64 - n)).sshiftRight (64 - n) = (x.setWidth n).signExtend 64 := by
  apply BitVec.eq_of_getLsbD_eq
  intro i hi
  rw [BitVec.getLsbD_sshiftRight, BitVec.getLsbD_signExtend, BitVec.msb_eq_getLsbD_last, BitVec.msb_eq_getLsbD_last]
  simp only [BitVec.getLsbD_shiftLeft, BitVec.getLsbD_setWidth]
  have e1 : ¬ 64 ≤ i := by omega
  by_cases h1 : 64 - n + i < 64
  · have h2 : i < n := by omega
    have h3 : ¬ 64 - n + i < 64 - n := by omega
    have h4 : 64 - n + i - (64 - n) = i := by omega
    simp [h1, h2, h3, h4, hi, e1]
  · have h2 : ¬ i < n := by omega
    have h3 : ¬ 63 < 64 - n := by omega
    have h4 : 63 - (64 - n) = n - 1 := by omega
    have h5 : n - 1 < n := by omega
    simp [h1, h2, h3, h4, h5, hi, e1]
def cut (s : Nat) (v : Int64) : Int64 := if s = 0 then Int32.toInt64 (Int8.toInt32 (Int32.toInt8 (Int64.toInt32 v))) else if s = 1 then Int32.toInt64 (Int16.toInt32 (Int32.toInt16 (Int64.toInt32 v))) else if s = 2 then Int32.toInt64 (Int64.toInt32 v) else v
theorem cut_sh (v k : Int64) {n : Nat} (hn : n ≤ 64) (h0 : 0 < n) (hk : (k.toBitVec.smod 64).toNat = 64 - n) : ((v <<< k) >>> k).toBitVec = (v.toBitVec.setWidth n).signExtend 64 := by
  rw [Int64.toBitVec_shiftRight, Int64.toBitVec_shiftLeft]
  show ((v.toBitVec <<< (k.toBitVec.smod 64)).sshiftRight (k.toBitVec.smod 64).toNat) = _
  rw [BitVec.shiftLeft_eq', hk, bv_cut _ hn h0]
theorem m_cut {s : Nat} (hs : s < 4) (v : Int64) : (v <<< (Int32.toInt64 ((64 : Int32) - ((8 : Int32) <<< (nI s &&& 31))) &&& 63)) >>> (Int32.toInt64 ((64 : Int32) - ((8 : Int32) <<< (nI s &&& 31))) &&& 63) = cut s v := by
  apply Int64.toBitVec_inj.mp
  have hc : s = 0 ∨ s = 1 ∨ s = 2 ∨ s = 3 := by omega
  rcases hc with rfl | rfl | rfl | rfl
  · rw [cut_sh v _ (n := 8) (by decide) (by decide) (by decide)]
    show _ = (Int32.toInt64 (Int8.toInt32 (Int32.toInt8 (Int64.toInt32 v)))).toBitVec
    rw [Int32.toBitVec_toInt64, Int8.toBitVec_toInt32, Int32.toBitVec_toInt8, Int64.toBitVec_toInt32]
    apply BitVec.eq_of_getLsbD_eq
    intro i hi
    simp only [BitVec.getLsbD_signExtend, BitVec.msb_eq_getLsbD_last, BitVec.getLsbD_setWidth]
    by_cases h1 : i < 8
    · have : i < 32 := by omega
      simp [h1, this, hi]
    · by_cases h2 : i < 32
      · simp [h1, h2, hi]
      · simp [h1, h2, hi]
  · rw [cut_sh v _ (n := 16) (by decide) (by decide) (by decide)]
    show _ = (Int32.toInt64 (Int16.toInt32 (Int32.toInt16 (Int64.toInt32 v)))).toBitVec
    rw [Int32.toBitVec_toInt64, Int16.toBitVec_toInt32, Int32.toBitVec_toInt16, Int64.toBitVec_toInt32]
    apply BitVec.eq_of_getLsbD_eq
    intro i hi
    simp only [BitVec.getLsbD_signExtend, BitVec.msb_eq_getLsbD_last, BitVec.getLsbD_setWidth]
    by_cases h1 : i < 16
    · have : i < 32 := by omega
      simp [h1, this, hi]
    · by_cases h2 : i < 32
      · simp [h1, h2, hi]
      · simp [h1, h2, hi]
  · rw [cut_sh v _ (n := 32) (by decide) (by decide) (by decide)]
    show _ = (Int32.toInt64 (Int64.toInt32 v)).toBitVec
    rw [Int32.toBitVec_toInt64, Int64.toBitVec_toInt32]
    apply BitVec.eq_of_getLsbD_eq
    intro i hi
    simp only [BitVec.getLsbD_signExtend, BitVec.msb_eq_getLsbD_last, BitVec.getLsbD_setWidth]
    by_cases h1 : i < 32
    · simp [h1, hi]
    · simp [h1, hi]
  · rw [cut_sh v _ (n := 64) (by decide) (by decide) (by decide)]
    show _ = v.toBitVec
    apply BitVec.eq_of_getLsbD_eq
    intro i hi
    simp only [BitVec.getLsbD_signExtend, BitVec.msb_eq_getLsbD_last, BitVec.getLsbD_setWidth]
    simp [hi]
theorem c_cutTo (h : xH) {s : Nat} (hs : s < 4) (v : Int64) : f_X10_cutTo h (nI s) v = some (cut s v) := by
  have hc : s = 0 ∨ s = 1 ∨ s = 2 ∨ s = 3 := by omega
  rcases hc with rfl | rfl | rfl | rfl <;> rfl
section Write
variable {A : Nat → Nat → Int32} {Z : Nat → Int32} {B : Nat → Nat → Int64} {Q : Nat → Int64} {P : Nat → Option Nat} {F : Nat → Nat → Option Nat} {q : Nat} {D : List xC} {c : Nat × Nat} {K : Nat → Nat} {tt lk lh : Nat → Nat} {R i : Nat}
theorem c_trayThere0 {x : Int32} (hx : rk x 4 = false) : f_X11_checkTrayThere (HH A Z B Q P F q D c) 0 x = some (.inl ("java/util/NoSuchElementException", HH A Z B Q P F q D (c.1 + 1, c.2 + 6))) := by
  unfold f_X11_checkTrayThere
  simp (disch := omega) only [if_true, if_false, Bool.false_eq_true, Bool.true_eq_false, y_lit, y_m1, nI_add, pk_mul, fa_and, fa_or, y_bs, if_pos, if_neg, y_shl, y_shr, y_le, y_lt, y_eq, y_sub, y_dv, y_rm, y_b0, y_b1, y_sdf, y_ltM, y_Mlt, y_leM, y_Mle, y_eqM, y_Meq, s_e1, s_e2, s_e3, s_e4, s_e5, s_e6, c_checkTray, hx]
theorem c_trayThere1 {t : Nat} (ht : t < 4) (h : A 19 t = nM) : f_X11_checkTrayThere (HH A Z B Q P F q D c) 0 (nI t) = some (.inl ("java/lang/IllegalStateException", HH A Z B Q P F q D (c.1 + 1, c.2 + 6))) := by
  have hx : rk (nI t) 4 = true := rk_k ht (by decide)
  unfold f_X11_checkTrayThere
  simp (disch := omega) only [if_true, if_false, Bool.false_eq_true, Bool.true_eq_false, y_lit, y_m1, nI_add, pk_mul, fa_and, fa_or, y_bs, if_pos, if_neg, y_shl, y_shr, y_le, y_lt, y_eq, y_sub, y_dv, y_rm, y_b0, y_b1, y_sdf, y_ltM, y_Mlt, y_leM, y_Mle, y_eqM, y_Meq, s_e1, s_e2, s_e3, s_e4, s_e5, s_e6, c_checkTray, hx, gf_0_10, gf_17_1, ld_19, h, thr_HH]
theorem c_trayThere2 {t m : Nat} (ht : t < 4) (hm : m ≤ 40) (h : A 19 t = nI m) : f_X11_checkTrayThere (HH A Z B Q P F q D c) 0 (nI t) = some (.inr ()) := by
  have hx : rk (nI t) 4 = true := rk_k ht (by decide)
  unfold f_X11_checkTrayThere
  simp (disch := omega) only [if_true, if_false, Bool.false_eq_true, Bool.true_eq_false, y_lit, y_m1, nI_add, pk_mul, fa_and, fa_or, y_bs, if_pos, if_neg, y_shl, y_shr, y_le, y_lt, y_eq, y_sub, y_dv, y_rm, y_b0, y_b1, y_sdf, y_ltM, y_Mlt, y_leM, y_Mle, y_eqM, y_Meq, s_e1, s_e2, s_e3, s_e4, s_e5, s_e6, c_checkTray, hx, gf_0_10, gf_17_1, ld_19, h]
end Write
theorem ok_write : ∀ x0 x1 v, MEJ (fun h => f_L_write h 0 x0 x1 v 76) (fun h => f_X12_write h 57 x0 x1 v) := by
  intro x y v h i hJ hi
  obtain ⟨K, A, Z, B, Q, P, F, q, D, c, tt, lk, lh, R, rfl, hI⟩ := hJ
  have hz := hI.2.1.2.2.2
  have hTape := hI.2.1.2.1
  obtain ⟨hY, hN⟩ := hI.2.1.2.2.1
  cases hx : rk x 4
  · refine MEJ_t hI (k := 1) (b := (nI 0).toInt64) (by decide) ?_ ?_ (oZ182 (nI 0) (nI 1)) rfl
    · unfold f_L_write f_X11_write
      simp (disch := omega) only [if_true, if_false, Bool.false_eq_true, Bool.true_eq_false, y_lit, y_m1, nI_add, pk_mul, fa_and, fa_or, y_bs, if_pos, if_neg, y_shl, y_shr, y_le, y_lt, y_eq, y_sub, y_dv, y_rm, y_b0, y_b1, y_sdf, y_ltM, y_Mlt, y_leM, y_Mle, y_eqM, y_Meq, s_e1, s_e2, s_e3, s_e4, s_e5, s_e6, gO_0, c_trayThere0 hx]
    · unfold f_X12_write
      simp (disch := omega) only [if_true, if_false, Bool.false_eq_true, Bool.true_eq_false, y_lit, y_m1, nI_add, pk_mul, fa_and, fa_or, y_bs, if_pos, if_neg, y_shl, y_shr, y_le, y_lt, y_eq, y_sub, y_dv, y_rm, y_b0, y_b1, y_sdf, y_ltM, y_Mlt, y_leM, y_Mle, y_eqM, y_Meq, s_e1, s_e2, s_e3, s_e4, s_e5, s_e6, pf_57_4, gO_57, m_isTray, hx, m_fails]
  · obtain ⟨t, ht, rfl⟩ := rk_t (by decide) hx
    rcases hY t ht with ⟨a1, a2⟩ | ⟨s, m, hs, hm, a3, a4, a5, a6⟩
    · refine MEJ_t hI (k := 2) (b := (nI 0).toInt64) (by decide) ?_ ?_ (oZ182 (nI 0) (nI 2)) rfl
      · unfold f_L_write f_X11_write
        simp (disch := omega) only [if_true, if_false, Bool.false_eq_true, Bool.true_eq_false, y_lit, y_m1, nI_add, pk_mul, fa_and, fa_or, y_bs, if_pos, if_neg, y_shl, y_shr, y_le, y_lt, y_eq, y_sub, y_dv, y_rm, y_b0, y_b1, y_sdf, y_ltM, y_Mlt, y_leM, y_Mle, y_eqM, y_Meq, s_e1, s_e2, s_e3, s_e4, s_e5, s_e6, gO_0, c_trayThere1 ht a1]
      · unfold f_X12_write
        simp (disch := omega) only [if_true, if_false, Bool.false_eq_true, Bool.true_eq_false, y_lit, y_m1, nI_add, pk_mul, fa_and, fa_or, y_bs, if_pos, if_neg, y_shl, y_shr, y_le, y_lt, y_eq, y_sub, y_dv, y_rm, y_b0, y_b1, y_sdf, y_ltM, y_Mlt, y_leM, y_Mle, y_eqM, y_Meq, s_e1, s_e2, s_e3, s_e4, s_e5, s_e6, pf_57_4, gO_57, m_isTray, hx, gf_57_29, ld_73, a2, m_fails]
    · have ew : ∀ h', f_X12_within h' y.toInt64 (0 : Int64) (nI m - 1).toInt64 = some (if rk y m = true then nI 1 else nI 0) := fun h' => rk_withinL h' y (by omega) rfl
      cases hy : rk y m
      · refine MEJ_t hI (k := 3) (b := (nI 0).toInt64) (by decide) ?_ ?_ (oZ182 (nI 0) (nI 3)) rfl
        · unfold f_L_write f_X11_write f_X11_write_22
          simp only [gO_0, y_bs, c_trayThere2 ht hm a3, gf_0_10, gf_17_1, ld_19 ht, a3, rk_if, hy, thr_HH]
          rfl
        · show f_X12_write (HH A Z B Q P F q D (c.1 + 1, c.2 + 6)) 57 (nI t) y v = _
          unfold f_X12_write
          rw [pf_57_4, Option.bind_some, m_isTray, hx, Option.bind_some, if_neg (by decide), gf_57_29, Option.bind_some, ld_73 ht, Option.bind_some, a5, if_neg (by rw [show (-1 : Int32) = nM from rfl, y_eqM (by omega)]; exact id), gf_57_30, Option.bind_some, ld_74 ht, Option.bind_some, a6, ew, Option.bind_some, hy, if_pos (by decide), gO_57, Option.bind_some, m_fails, Option.bind_some]
          rfl
      · obtain ⟨p, hp, rfl⟩ := rk_t (by omega) hy
        refine ⟨nI 0, HH A Z (oB (upA B 18 (va_up (B 18) (40 * t + p) (cut s v))) (cut s v)) Q P F q D c, cut s v, HH A (upA Z 18 (nI 0)) (upA (oB (upA B 18 (va_up (B 18) (40 * t + p) (cut s v))) (cut s v)) 75 (va_up (B 75) (40 * t + p) (cut s v))) Q P F q D c, ?_, ⟨_, _, _, _, _, _, _, _, _, rfl⟩, ?_, gf_57_4, fun _ => ?_, Inv_g hI Only.rf hz (Only.rf.up (by decide)) (TapeOK_only hTape rfl rfl rfl rfl) ⟨hY, fun k hk => ?_⟩⟩
        · show f_L_write (HH A Z B Q P F q D c) 0 (nI t) (nI p) v 76 = _
          unfold f_L_write f_X11_write f_X11_write_22 f_X10_put
          simp (disch := omega) only [if_true, if_false, Bool.false_eq_true, Bool.true_eq_false, y_lit, y_m1, nI_add, pk_mul, fa_and, fa_or, y_bs, if_pos, if_neg, y_shl, y_shr, y_le, y_lt, y_eq, y_sub, y_dv, y_rm, y_b0, y_b1, y_sdf, y_ltM, y_Mlt, y_leM, y_Mle, y_eqM, y_Meq, s_e1, s_e2, s_e3, s_e4, s_e5, s_e6, gO_0, c_trayThere2 ht hm a3, gf_0_10, gO_17, gf_17_0, gf_17_1, gf_17_2, ld_19, ld_20, a3, a4, c_cutTo, st_18, oB_st]
          rw [show t * 40 + p = 40 * t + p by omega]
        · show f_X12_write (HH A Z _ Q P F q D c) 57 (nI t) (nI p) v = _
          unfold f_X12_write
          rw [pf_57_4, Option.bind_some, m_isTray, hx, Option.bind_some, if_neg (by decide), gf_57_29, Option.bind_some, ld_73 ht, Option.bind_some, a5, if_neg (by rw [show (-1 : Int32) = nM from rfl, y_eqM (by omega)]; exact id), gf_57_30, Option.bind_some, ld_74 ht, Option.bind_some, a6, ew, Option.bind_some, hy, if_neg (by decide), Option.bind_some, ld_73 ht, Option.bind_some, a5, gf_57_31, Option.bind_some, m_cut hs]
          simp (disch := omega) only [y_lit, pk_mul, nI_add, y_bs, st_75, gf_57_31, ld_75, y_us, y_vs]
          rfl
        · rw [← nI_0, ld_76 (by decide)]
          rfl
        · show va_up (B 18) (40 * t + p) (cut s v) k = va_up (B 75) (40 * t + p) (cut s v) k
          unfold va_up
          rw [hN k hk]
