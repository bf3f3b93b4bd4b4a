/-! ===== small methods ===== -/
theorem s_e1 : ("java/lang/IllegalArgumentException" = "java/util/NoSuchElementException") = False := eq_false (by decide)
theorem s_e2 : ("java/lang/IllegalArgumentException" = "java/lang/IllegalStateException") = False := eq_false (by decide)
theorem s_e3 : ("java/lang/IllegalArgumentException" = "java/lang/IndexOutOfBoundsException") = False := eq_false (by decide)
theorem s_e4 : ("java/lang/IllegalStateException" = "java/util/NoSuchElementException") = False := eq_false (by decide)
theorem s_e5 : ("java/lang/IndexOutOfBoundsException" = "java/util/NoSuchElementException") = False := eq_false (by decide)
theorem s_e6 : ("java/lang/IndexOutOfBoundsException" = "java/lang/IllegalStateException") = False := eq_false (by decide)
theorem y_bit2 {n j : Nat} (hj : j < 31) : (nI (n &&& 2 ^ j) = nI 0) = (n.testBit j = false) := by
  rw [← fa_and]
  exact propext (fa_bit hj)
section Small
variable {A : Nat → Nat → Int32} {Z : Nat → Int32} {B : Nat → Nat → Int64} {Q : Nat → Int64} {P : Nat → Option Nat} {F : Nat → Nat → Option Nat} {q : Nat} {D : List xC} {c : Nat × Nat} {K : Nat → Nat} {tt lk lh : Nat → Nat} {R i : Nat}
theorem thr_HH : thr (HH A Z B Q P F q D c) = HH A Z B Q P F q D (c.1 + 1, c.2 + 6) := rfl
theorem rk_if {α : Type} (x : Int32) (n : Nat) (a b : α) : (if x < 0 then a else (if x < nI n then b else a)) = if rk x n = true then b else a := by
  unfold rk
  by_cases h1 : x < 0
  · simp [h1]
  · by_cases h2 : x < nI n
    · simp [h1, h2]
    · simp [h1, h2]
theorem c_checkRoom (H : Hs K D q tt) (x : Int32) : f_X11_checkRoom (HH A Z B Q P F q D c) 0 x = some (if rk x (tt 1) = true then .inr () else .inl ("java/util/NoSuchElementException", HH A Z B Q P F q D (c.1 + 1, c.2 + 6))) := by
  unfold f_X11_checkRoom f_X11_checkRoom_15
  rw [gf_0_4, Option.bind_some, hs_1 H, Option.bind_some, rk_if, thr_HH]
  split <;> rfl
theorem c_checkKind (H : Hs K D q tt) (x : Int32) : f_X11_checkKind (HH A Z B Q P F q D c) 0 x = some (if rk x (tt 3) = true then .inr () else .inl ("java/util/NoSuchElementException", HH A Z B Q P F q D (c.1 + 1, c.2 + 6))) := by
  unfold f_X11_checkKind f_X11_checkKind_15
  rw [gf_0_4, Option.bind_some, hs_4 H, Option.bind_some, rk_if, thr_HH]
  split <;> rfl
theorem c_checkHour (x : Int32) : f_X11_checkHour (HH A Z B Q P F q D c) x = some (if rk x 24 = true then .inr () else .inl ("java/lang/IllegalArgumentException", HH A Z B Q P F q D (c.1 + 1, c.2 + 6))) := by
  unfold f_X11_checkHour f_X11_checkHour_10
  rw [show (24 : Int32) = nI 24 from rfl, rk_if, thr_HH]
  split <;> rfl
theorem c_checkImage (x : Int32) : f_X11_checkImage (HH A Z B Q P F q D c) x = some (if rk x 3 = true then .inr () else .inl ("java/util/NoSuchElementException", HH A Z B Q P F q D (c.1 + 1, c.2 + 6))) := by
  unfold f_X11_checkImage f_X11_checkImage_9
  rw [show (3 : Int32) = nI 3 from rfl, rk_if, thr_HH]
  split <;> rfl
theorem c_checkTray (x : Int32) : f_X11_checkTray (HH A Z B Q P F q D c) x = some (if rk x 4 = true then .inr () else .inl ("java/util/NoSuchElementException", HH A Z B Q P F q D (c.1 + 1, c.2 + 6))) := by
  unfold f_X11_checkTray f_X11_checkTray_9
  rw [show (4 : Int32) = nI 4 from rfl, rk_if, thr_HH]
  split <;> rfl
theorem le_lt1 (x : Int32) {m : Nat} (hm : m < 1000000) : (x ≤ nI m) = (x < nI (m + 1)) := propext (by
  rw [fa_le, fa_lt, nI_toInt (by omega), nI_toInt (by omega)]
  omega)
theorem c_checkWhat (x : Int32) {m : Nat} (hm : m < 1000000) : f_X11_checkWhat (HH A Z B Q P F q D c) x (nI 0) (nI m) = some (if rk x (m + 1) = true then .inr () else .inl ("java/lang/IllegalArgumentException", HH A Z B Q P F q D (c.1 + 1, c.2 + 6))) := by
  unfold f_X11_checkWhat f_X11_checkWhat_10
  simp only [le_lt1 x hm]
  rw [nI_0, rk_if, thr_HH]
  split <;> rfl
theorem m_rooms (hT : Told (A 58) tt lk lh) : f_X12_rooms (HH A Z B Q P F q D c) 57 = some (nI (tt 1)) := by
  unfold f_X12_rooms
  simp (disch := omega) only [if_true, if_false, Bool.false_eq_true, Bool.true_eq_false, y_lit, y_m1, nI_add, pk_mul, fa_and, fa_or, y_bs, if_pos, if_neg, y_shl, y_shr, y_le, y_lt, y_eq, y_sub, y_dv, y_rm, y_b0, y_b1, y_sdf, y_ltM, y_Mlt, y_leM, y_Mle, y_eqM, y_Meq, gf_57_0, ld_58, hT.1]
theorem m_all (hT : Told (A 58) tt lk lh) (hW : HWf tt) : f_X12_all (HH A Z B Q P F q D c) 57 = some (nI (2 ^ tt 1 - 1)) := by
  unfold f_X12_all
  have := hW.ro
  rw [gO_57, Option.bind_some, m_rooms hT, Option.bind_some, n_all1 (by omega)]
theorem m_isRoom (hT : Told (A 58) tt lk lh) (hW : HWf tt) (x : Int32) : f_X12_isRoom (HH A Z B Q P F q D c) 57 x = some (if rk x (tt 1) = true then nI 1 else nI 0) := by
  unfold f_X12_isRoom
  have := hW.ro
  rw [gO_57, Option.bind_some, m_rooms hT, Option.bind_some, rk_within _ _ (by omega), Option.bind_some, if_pos (nb_ite _)]
  rfl
theorem m_isKind (hT : Told (A 58) tt lk lh) (hW : HWf tt) (x : Int32) : f_X12_isKind (HH A Z B Q P F q D c) 57 x = some (if rk x (tt 3) = true then nI 1 else nI 0) := by
  unfold f_X12_isKind
  have := hW.ki
  rw [gf_57_0, Option.bind_some, show (3 : Int32) = nI 3 from rfl, ld_58 (by decide), Option.bind_some, hT.1 3 (by decide), rk_within _ _ (by omega), Option.bind_some, if_pos (nb_ite _)]
  rfl
theorem rk_withinL (h : xH) (x : Int32) {n : Nat} {M : Int64} (hn : n < 2147483648) (hM : (nI n - 1).toInt64 = M) : f_X12_within h x.toInt64 (0 : Int64) M = some (if rk x n = true then nI 1 else nI 0) := by
  rw [← hM, rk_within h x hn]
  rfl
theorem m_isHour (h : xH) (x : Int32) : f_X12_isHour h x = some (if rk x 24 = true then nI 1 else nI 0) := by
  unfold f_X12_isHour
  rw [rk_withinL h x (n := 24) (by decide) (by decide), Option.bind_some]
  exact if_pos (nb_ite _)
theorem m_isTray (h : xH) (x : Int32) : f_X12_isTray h x = some (if rk x 4 = true then nI 1 else nI 0) := by
  unfold f_X12_isTray
  rw [rk_withinL h x (n := 4) (by decide) (by decide), Option.bind_some]
  exact if_pos (nb_ite _)
theorem m_fails (k : Int32) : f_X12_fails (HH A Z B Q P F q D c) 57 k = some (nI 0, HH A (upA Z 18 k) B Q P F q D c) := by
  unfold f_X12_fails
  rw [pf_57_4, Option.bind_some]
  rfl
theorem m_w7 (h : xH) (x : Int32) : f_X12_within h x.toInt64 (0 : Int64) (6 : Int64) = some (if rk x 7 = true then nI 1 else nI 0) := rk_withinL h x (by decide) (by decide)
theorem m_w4 (h : xH) (x : Int32) : f_X12_within h x.toInt64 (0 : Int64) (3 : Int64) = some (if rk x 4 = true then nI 1 else nI 0) := rk_withinL h x (by decide) (by decide)
theorem m_w2 (h : xH) (x : Int32) : f_X12_within h x.toInt64 (0 : Int64) (1 : Int64) = some (if rk x 2 = true then nI 1 else nI 0) := rk_withinL h x (by decide) (by decide)
theorem m_w3 (h : xH) (x : Int32) : f_X12_within h x.toInt64 (0 : Int64) (2 : Int64) = some (if rk x 3 = true then nI 1 else nI 0) := rk_withinL h x (by decide) (by decide)
theorem m_w5 (h : xH) (x : Int32) : f_X12_within h x.toInt64 (0 : Int64) (4 : Int64) = some (if rk x 5 = true then nI 1 else nI 0) := rk_withinL h x (by decide) (by decide)
theorem rk_withinN (h : xH) (x : Int32) {n : Nat} (h0 : 0 < n) (hn : n < 2147483648) : f_X12_within h x.toInt64 (0 : Int64) (nI (n - 1)).toInt64 = some (if rk x n = true then nI 1 else nI 0) := by
  rw [← y_sub (a := n) (b := 1) h0]
  exact rk_withinL h x hn rfl
/-- ME where the call throws -/
theorem ME_t {cl mo : xH → Option (Int32 × xH)} (hI : Inv K A Z B Q P F q D c tt lk lh R i) {Z' : Nat → Int32} {k : Nat} {b : Int32} (hk : ¬ nI k = 0) (e1 : cl (HH A Z B Q P F q D c) = some (nI k, HH A Z B Q P F q D (c.1 + 1, c.2 + 6))) (e2 : mo (HH A Z B Q P F q D (c.1 + 1, c.2 + 6)) = some (b, HH A Z' B Q P F q D (c.1 + 1, c.2 + 6))) (hZ : Only SZ Z Z') (h18 : Z' 18 = nI k) : MER cl mo (HH A Z B Q P F q D c) i :=
  ⟨nI k, _, b, _, e1, ⟨_, _, _, _, _, _, _, _, _, rfl⟩, e2, by rw [gf_57_4, h18], fun e => absurd e hk, JJ_q hI Only.rf hI.2.1.2.2.2 hZ Only.rf (Nat.le_add_right _ _) (Nat.add_le_add_left (by decide) _) (Nat.add_le_add_left (by decide) _)⟩
/-- the array out, with an answer -/
def oB (B : Nat → Nat → Int64) (v : Int64) : Nat → Nat → Int64 := upA B 76 (va_up (B 76) 0 v)
theorem oB_o (v : Int64) : Only [76] B (oB B v) := Only.rf.up (by decide)
theorem oB_ld (v : Int64) : ldJ (HH A Z (oB B v) Q P F q D c) 76 (nI 0) = some v := by
  rw [ld_76 (by decide)]
  rfl
theorem oB_st (v : Int64) : stJ (HH A Z B Q P F q D c) 76 (nI 0) v = some (HH A Z (oB B v) Q P F q D c) := st_76 (by decide)
/-- ME where it returns, and only scratch has changed -/
theorem ME_r {cl mo : xH → Option (Int32 × xH)} (hI : Inv K A Z B Q P F q D c tt lk lh R i) {A1 A2 : Nat → Nat → Int32} {Z1 Z2 : Nat → Int32} {v : Int32} (e1 : cl (HH A Z B Q P F q D c) = some (nI 0, HH A1 Z1 (oB B v.toInt64) Q P F q D c)) (e2 : mo (HH A1 Z1 (oB B v.toInt64) Q P F q D c) = some (v, HH A2 Z2 (oB B v.toInt64) Q P F q D c)) (hA : Only SA A A2) (hz : Zro A2) (hZ : Only SZ Z Z2) (h18 : Z2 18 = nI 0) : MER cl mo (HH A Z B Q P F q D c) i :=
  ⟨nI 0, _, v, _, e1, ⟨_, _, _, _, _, _, _, _, _, rfl⟩, e2, by rw [gf_57_4, h18], fun _ => oB_ld _, JJ_q hI hA hz hZ (oB_o _) (Nat.le_refl _) (Nat.le_add_right _ _) (Nat.le_add_right _ _)⟩
/-- ME where it returns, and nothing has changed -/
theorem ME_s {cl mo : xH → Option (Int32 × xH)} (hI : Inv K A Z B Q P F q D c tt lk lh R i) (v : Int32) (e1 : cl (HH A Z B Q P F q D c) = some (nI 0, HH A Z (oB B v.toInt64) Q P F q D c)) (e2 : mo (HH A Z (oB B v.toInt64) Q P F q D c) = some (v, HH A (upA Z 18 (nI 0)) (oB B v.toInt64) Q P F q D c)) : MER cl mo (HH A Z B Q P F q D c) i := ME_r hI e1 e2 Only.rf hI.2.1.2.2.2 (Only.rf.up (by decide)) rfl
theorem oZ18 (x : Int32) : Only SZ Z (upA Z 18 x) := Only.rf.up (by decide)
theorem oZ182 (x y : Int32) : Only SZ Z (upA (upA Z 18 x) 18 y) := (Only.rf.up (by decide)).up (by decide)
end Small
