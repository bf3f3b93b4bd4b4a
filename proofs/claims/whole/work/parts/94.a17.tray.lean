/-! ===== tray, write ===== -/
theorem rk_f {x : Int32} {n : Nat} (hn : n < 2147483648) (h : rk x n = false) : x < nI 0 ∨ ∃ k, n ≤ k ∧ k < 2147483648 ∧ x = nI k := by
  rcases n_cases x with h1 | ⟨k, hk, rfl⟩
  · exact Or.inl h1
  · right
    refine ⟨k, ?_, hk, rfl⟩
    by_cases e : k < n
    · rw [rk_k e hn] at h
      cases h
    · omega
section Tray
variable {A : Nat → Nat → Int32} {Z : Nat → Int32} {B : Nat → Nat → Int64} {Q : Nat → Int64} {P : Nat → Option Nat} {F : Nat → Nat → Option Nat} {q : Nat} {D : List xC} {c : Nat × Nat} {K : Nat → Nat} {tt lk lh : Nat → Nat} {R i : Nat}
theorem Inv_g (H : Inv K A Z B Q P F q D c tt lk lh R i) {A' : Nat → Nat → Int32} {Z' : Nat → Int32} {B' : Nat → Nat → Int64} (hA : Only (19 :: 20 :: 73 :: 74 :: 1 :: 62 :: SA) A A') (hz : Zro A') (hZ : Only (0 :: 19 :: SZ) Z Z') (hT : TapeOK A' Z') (hY : TrayOK A' B') : JJ (HH A' Z' B' Q P F q D c) (i + 1) := by
  obtain ⟨⟨a1, a2, a3, a4, a5⟩, ⟨b1, b2, b3, b4⟩, ⟨p1, p2, p3⟩, ⟨z1, z2, z3, z4⟩, r1, r2, r3, r4⟩ := H
  refine ⟨K, A', Z', B', Q, P, F, q, D, c, tt, lk, lh, R, rfl, ⟨a1, a2, a3, ?_, ?_⟩, ⟨Img_D (fun _ _ h => h) (fun _ _ _ _ _ h => h) (hA 61 (by decide)) (hA 59 (by decide)) b1, hT, hY, hz⟩, ⟨Plan_D (fun _ _ h => h) (hA 50 (by decide)) (hA 51 (by decide)) ?_ p1, Sav_D (fun _ _ h => h) (hA 56 (by decide)) (hA 40 (by decide)) (hZ 7 (by decide)) (hZ 8 (by decide)) (hZ 30 (by decide)) p2, p3⟩, ⟨?_, ?_, z3, z4⟩, r1, r2, by omega, by omega⟩
  · rw [hA 58 (by decide)]; exact a4
  · rw [hA 13 (by decide), hA 14 (by decide)]; exact a5
  · intro k k1 k2
    apply hZ
    unfold SZ
    simp only [List.mem_cons, List.not_mem_nil, or_false]
    omega
  · rw [hZ 1 (by decide), hZ 27 (by decide)]; exact z1
  · rw [hZ 2 (by decide), hZ 28 (by decide)]; exact z2
theorem TapeOK_only {A' : Nat → Nat → Int32} {Z' : Nat → Int32} (h : TapeOK A Z) (h1 : A' 1 = A 1) (h2 : A' 62 = A 62) (h3 : Z' 0 = Z 0) (h4 : Z' 19 = Z 19) : TapeOK A' Z' := by
  unfold TapeOK
  rw [h1, h2, h3, h4]
  exact h
def clr (f : Nat → Int64) (t n : Nat) : Nat → Int64 := fun k => if 40 * t ≤ k ∧ k < 40 * t + n then 0 else f k
theorem clr_s {f : Nat → Int64} {t n : Nat} {g : Nat → Int64} (hg : ∀ k, g k = clr f t n k) (k : Nat) : va_up g (40 * t + n) 0 k = clr f t (n + 1) k := by
  unfold va_up
  rw [hg]
  unfold clr
  by_cases e : k = 40 * t + n
  · rw [if_pos e, if_pos (by omega)]
  · rw [if_neg e]
    by_cases h : 40 * t ≤ k ∧ k < 40 * t + n
    · rw [if_pos h, if_pos (by omega)]
    · rw [if_neg h, if_neg (by omega)]
theorem clr_0 (f : Nat → Int64) (t k : Nat) : f k = clr f t 0 k := by
  unfold clr
  rw [if_neg (by omega)]
theorem c_lay {t : Nat} (ht : t < 4) : ∃ g, f_X10_lay_17 xFU (HH A Z B Q P F q D c) 17 (nI t) (nI 0) = some (HH A Z (upA B 18 g) Q P F q D c) ∧ ∀ k, g k = clr (B 18) t 40 k := by
  have key := loop_J (F := fun n i (s : xH) => f_X10_lay_17 n s 17 (nI t) (nI i)) (N := 40) some (fun i s => ∃ g, s = HH A Z (upA B 18 g) Q P F q D c ∧ ∀ k, g k = clr (B 18) t i k) (fun n i s hi hs => ?_) (fun n s hs => ?_) (by omega) (s := HH A Z B Q P F q D c) ⟨B 18, by rw [y_ua], clr_0 _ _⟩
  · obtain ⟨s, e1, f, e2, hf⟩ := key
    exact ⟨f, by rw [← e2]; exact e1, hf⟩
  · obtain ⟨g, rfl, hg⟩ := hs
    refine ⟨_, ?_, _, rfl, clr_s hg⟩
    simp (disch := omega) only [f_X10_lay_17, if_true, if_false, Bool.false_eq_true, Bool.true_eq_false, y_lit, y_m1, nI_add, pk_mul, fa_and, fa_or, y_bs, if_pos, if_neg, y_shl, y_shr, y_le, y_lt, y_eq, y_sub, y_dv, y_rm, y_b0, y_b1, y_sdf, y_ltM, y_Mlt, y_leM, y_Mle, y_eqM, y_Meq, s_e1, s_e2, s_e3, s_e4, s_e5, s_e6, gf_17_0, st_18, y_us, y_un, y_vs, y_vn, y_uu, y_vv, ne_eq, not_false_eq_true, not_true_eq_false]
    rw [show t * 40 + i = 40 * t + i by omega]
  · obtain ⟨g, rfl, hg⟩ := hs
    simp (disch := omega) only [f_X10_lay_17, if_true, if_false, Bool.false_eq_true, Bool.true_eq_false, y_lit, y_m1, nI_add, pk_mul, fa_and, fa_or, y_bs, if_pos, if_neg, y_shl, y_shr, y_le, y_lt, y_eq, y_sub, y_dv, y_rm, y_b0, y_b1, y_sdf, y_ltM, y_Mlt, y_leM, y_Mle, y_eqM, y_Meq, s_e1, s_e2, s_e3, s_e4, s_e5, s_e6]
theorem m_lay {t : Nat} (ht : t < 4) : ∃ g, f_X12_tray_69 xFU (HH A Z B Q P F q D c) 57 (nI t) (nI 0) = some (HH A Z (upA B 75 g) Q P F q D c) ∧ ∀ k, g k = clr (B 75) t 40 k := by
  have key := loop_J (F := fun n i (s : xH) => f_X12_tray_69 n s 57 (nI t) (nI i)) (N := 40) some (fun i s => ∃ g, s = HH A Z (upA B 75 g) Q P F q D c ∧ ∀ k, g k = clr (B 75) t i k) (fun n i s hi hs => ?_) (fun n s hs => ?_) (by omega) (s := HH A Z B Q P F q D c) ⟨B 75, by rw [y_ua], clr_0 _ _⟩
  · obtain ⟨s, e1, f, e2, hf⟩ := key
    exact ⟨f, by rw [← e2]; exact e1, hf⟩
  · obtain ⟨g, rfl, hg⟩ := hs
    refine ⟨_, ?_, _, rfl, clr_s hg⟩
    simp (disch := omega) only [f_X12_tray_69, if_true, if_false, Bool.false_eq_true, Bool.true_eq_false, y_lit, y_m1, nI_add, pk_mul, fa_and, fa_or, y_bs, if_pos, if_neg, y_shl, y_shr, y_le, y_lt, y_eq, y_sub, y_dv, y_rm, y_b0, y_b1, y_sdf, y_ltM, y_Mlt, y_leM, y_Mle, y_eqM, y_Meq, s_e1, s_e2, s_e3, s_e4, s_e5, s_e6, gf_57_31, st_75, y_us, y_un, y_vs, y_vn, y_uu, y_vv, ne_eq, not_false_eq_true, not_true_eq_false]
  · obtain ⟨g, rfl, hg⟩ := hs
    simp (disch := omega) only [f_X12_tray_69, if_true, if_false, Bool.false_eq_true, Bool.true_eq_false, y_lit, y_m1, nI_add, pk_mul, fa_and, fa_or, y_bs, if_pos, if_neg, y_shl, y_shr, y_le, y_lt, y_eq, y_sub, y_dv, y_rm, y_b0, y_b1, y_sdf, y_ltM, y_Mlt, y_leM, y_Mle, y_eqM, y_Meq, s_e1, s_e2, s_e3, s_e4, s_e5, s_e6]
theorem m_w41 (h : xH) (x : Int32) : f_X12_within h x.toInt64 (0 : Int64) (40 : Int64) = some (if rk x 41 = true then nI 1 else nI 0) := rk_withinL h x (by decide) (by decide)
/-- MV where the call throws -/
theorem MV_t {cl : xH → Option (Int32 × xH)} {mo : xH → Option xH} (hI : Inv K A Z B Q P F q D c tt lk lh R i) {Z' : Nat → Int32} {k : Nat} (e1 : cl (HH A Z B Q P F q D c) = some (nI k, HH A Z B Q P F q D (c.1 + 1, c.2 + 6))) (e2 : mo (HH A Z B Q P F q D (c.1 + 1, c.2 + 6)) = some (HH A Z' B Q P F q D (c.1 + 1, c.2 + 6))) (hZ : Only SZ Z Z') (h18 : Z' 18 = nI k) : MVR cl mo (HH A Z B Q P F q D c) i :=
  ⟨nI k, _, _, e1, ⟨_, _, _, _, _, _, _, _, _, rfl⟩, e2, by rw [gf_57_4, h18], JJ_q hI Only.rf hI.2.1.2.2.2 hZ Only.rf (Nat.le_add_right _ _) (Nat.add_le_add_left (by decide) _) (Nat.add_le_add_left (by decide) _)⟩
theorem MEJ_t {cl : xH → Option (Int32 × xH)} {mo : xH → Option (Int64 × xH)} (hI : Inv K A Z B Q P F q D c tt lk lh R i) {Z' : Nat → Int32} {k : Nat} {b : Int64} (hk : ¬ nI k = 0) (e1 : cl (HH A Z B Q P F q D c) = some (nI k, HH A Z B Q P F q D (c.1 + 1, c.2 + 6))) (e2 : mo (HH A Z B Q P F q D (c.1 + 1, c.2 + 6)) = some (b, HH A Z' B Q P F q D (c.1 + 1, c.2 + 6))) (hZ : Only SZ Z Z') (h18 : Z' 18 = nI k) : MEJR cl mo (HH A Z B Q P F q D c) i :=
  ⟨nI k, _, b, _, e1, ⟨_, _, _, _, _, _, _, _, _, rfl⟩, e2, by rw [gf_57_4, h18], fun e => absurd e hk, JJ_q hI Only.rf hI.2.1.2.2.2 hZ Only.rf (Nat.le_add_right _ _) (Nat.add_le_add_left (by decide) _) (Nat.add_le_add_left (by decide) _)⟩
theorem c_trayThrow {x y z : Int32} {t : Nat} (hx : rk x 4 = true) (h : rk y 4 = false ∨ rk z 41 = false) : f_L_tray (HH A Z B Q P F q D c) 0 x y z = some (nI 2, HH A Z B Q P F q D (c.1 + 1, c.2 + 6)) := by
  unfold f_L_tray f_X11_tray f_X11_tray_23
  cases hy : rk y 4
  · rcases rk_f (by decide) hy with h1 | ⟨k, k1, k2, rfl⟩
    · simp (disch := omega) only [if_true, if_false, Bool.false_eq_true, Bool.true_eq_false, y_lit, y_m1, nI_add, pk_mul, fa_and, fa_or, y_bs, if_pos, if_neg, y_shl, y_shr, y_le, y_lt, y_eq, y_sub, y_dv, y_rm, y_b0, y_b1, y_sdf, y_ltM, y_Mlt, y_leM, y_Mle, y_eqM, y_Meq, s_e1, s_e2, s_e3, s_e4, s_e5, s_e6, gO_0, c_checkTray, hx, h1, thr_HH]
    · simp (disch := omega) only [if_true, if_false, Bool.false_eq_true, Bool.true_eq_false, y_lit, y_m1, nI_add, pk_mul, fa_and, fa_or, y_bs, if_pos, if_neg, y_shl, y_shr, y_le, y_lt, y_eq, y_sub, y_dv, y_rm, y_b0, y_b1, y_sdf, y_ltM, y_Mlt, y_leM, y_Mle, y_eqM, y_Meq, s_e1, s_e2, s_e3, s_e4, s_e5, s_e6, gO_0, c_checkTray, hx, thr_HH]
  · have hz : rk z 41 = false := h.resolve_left (by rw [hy]; decide)
    obtain ⟨k, k1, rfl⟩ := rk_t (by decide) hy
    rcases rk_f (by decide) hz with h1 | ⟨j, j1, j2, rfl⟩
    · simp (disch := omega) only [if_true, if_false, Bool.false_eq_true, Bool.true_eq_false, y_lit, y_m1, nI_add, pk_mul, fa_and, fa_or, y_bs, if_pos, if_neg, y_shl, y_shr, y_le, y_lt, y_eq, y_sub, y_dv, y_rm, y_b0, y_b1, y_sdf, y_ltM, y_Mlt, y_leM, y_Mle, y_eqM, y_Meq, s_e1, s_e2, s_e3, s_e4, s_e5, s_e6, gO_0, c_checkTray, hx, h1, thr_HH]
    · simp (disch := omega) only [if_true, if_false, Bool.false_eq_true, Bool.true_eq_false, y_lit, y_m1, nI_add, pk_mul, fa_and, fa_or, y_bs, if_pos, if_neg, y_shl, y_shr, y_le, y_lt, y_eq, y_sub, y_dv, y_rm, y_b0, y_b1, y_sdf, y_ltM, y_Mlt, y_leM, y_Mle, y_eqM, y_Meq, s_e1, s_e2, s_e3, s_e4, s_e5, s_e6, gO_0, c_checkTray, hx, thr_HH]
theorem c_trayRet {t s m : Nat} (ht : t < 4) (hs : s < 4) (hm : m < 41) : ∃ g, f_L_tray (HH A Z B Q P F q D c) 0 (nI t) (nI s) (nI m) = some (nI 0, HH (upA (upA A 19 (va_up (A 19) t (nI m))) 20 (va_up (A 20) t (nI s))) Z (upA B 18 g) Q P F q D c) ∧ ∀ k, g k = clr (B 18) t 40 k := by
  obtain ⟨g, e1, hg⟩ := c_lay (A := upA (upA A 19 (va_up (A 19) t (nI m))) 20 (va_up (A 20) t (nI s))) (Z := Z) (B := B) (Q := Q) (P := P) (F := F) (q := q) (D := D) (c := c) ht
  have hx : rk (nI t) 4 = true := rk_k ht (by decide)
  refine ⟨g, ?_, hg⟩
  unfold f_L_tray f_X11_tray f_X11_tray_23 f_X10_lay
  generalize xFU = N at e1 ⊢
  simp (disch := omega) only [if_true, if_false, Bool.false_eq_true, Bool.true_eq_false, y_lit, y_m1, nI_add, pk_mul, fa_and, fa_or, y_bs, if_pos, if_neg, y_shl, y_shr, y_le, y_lt, y_eq, y_sub, y_dv, y_rm, y_b0, y_b1, y_sdf, y_ltM, y_Mlt, y_leM, y_Mle, y_eqM, y_Meq, s_e1, s_e2, s_e3, s_e4, s_e5, s_e6, gO_0, c_checkTray, hx, gf_0_10, gO_17, gf_17_1, gf_17_2, st_19, st_20, y_us, y_un, y_vs, y_vn, y_uu, y_vv, ne_eq, not_false_eq_true, not_true_eq_false, e1]
theorem m_trayRet {t s m : Nat} (ht : t < 4) (hs : s < 4) (hm : m < 41) : ∃ g, f_X12_tray (HH A Z B Q P F q D c) 57 (nI t) (nI s) (nI m) = some (HH (upA (upA A 73 (va_up (A 73) t (nI s))) 74 (va_up (A 74) t (nI m))) (upA Z 18 (nI 0)) (upA B 75 g) Q P F q D c) ∧ ∀ k, g k = clr (B 75) t 40 k := by
  obtain ⟨g, e2, hg⟩ := m_lay (A := upA (upA A 73 (va_up (A 73) t (nI s))) 74 (va_up (A 74) t (nI m))) (Z := upA Z 18 (nI 0)) (B := B) (Q := Q) (P := P) (F := F) (q := q) (D := D) (c := c) ht
  have hx : rk (nI t) 4 = true := rk_k ht (by decide)
  have hy : rk (nI s) 4 = true := rk_k hs (by decide)
  have hz : rk (nI m) 41 = true := rk_k hm (by decide)
  refine ⟨g, ?_, hg⟩
  unfold f_X12_tray f_X12_tray_41
  generalize xFU = N at e2 ⊢
  simp (disch := omega) only [if_true, if_false, Bool.false_eq_true, Bool.true_eq_false, y_lit, y_m1, nI_add, pk_mul, fa_and, fa_or, y_bs, if_pos, if_neg, y_shl, y_shr, y_le, y_lt, y_eq, y_sub, y_dv, y_rm, y_b0, y_b1, y_sdf, y_ltM, y_Mlt, y_leM, y_Mle, y_eqM, y_Meq, s_e1, s_e2, s_e3, s_e4, s_e5, s_e6, m_isTray, hx, m_w4, hy, m_w41, hz, pf_57_4, gf_57_4, gf_57_29, gf_57_30, st_73, st_74, y_us, y_un, y_vs, y_vn, y_uu, y_vv, ne_eq, not_false_eq_true, not_true_eq_false, e2]
theorem m_trayThrow {x y z : Int32} {k : Nat} (h : (rk x 4 = false ∧ k = 1) ∨ (rk x 4 = true ∧ (rk y 4 = false ∨ rk z 41 = false) ∧ k = 2)) : f_X12_tray (HH A Z B Q P F q D c) 57 x y z = some (HH A (upA Z 18 (nI k)) B Q P F q D c) := by
  unfold f_X12_tray f_X12_tray_36 f_X12_tray_41
  generalize xFU = N
  rcases h with ⟨hx, rfl⟩ | ⟨hx, hyz, rfl⟩
  · simp (disch := omega) only [if_true, if_false, Bool.false_eq_true, Bool.true_eq_false, y_lit, y_m1, nI_add, pk_mul, fa_and, fa_or, y_bs, if_pos, if_neg, y_shl, y_shr, y_le, y_lt, y_eq, y_sub, y_dv, y_rm, y_b0, y_b1, y_sdf, y_ltM, y_Mlt, y_leM, y_Mle, y_eqM, y_Meq, s_e1, s_e2, s_e3, s_e4, s_e5, s_e6, m_isTray, hx, pf_57_4, gf_57_4, y_us, y_un, y_vs, y_vn, y_uu, y_vv, ne_eq, not_false_eq_true, not_true_eq_false]
  · cases hy : rk y 4
    · simp (disch := omega) only [if_true, if_false, Bool.false_eq_true, Bool.true_eq_false, y_lit, y_m1, nI_add, pk_mul, fa_and, fa_or, y_bs, if_pos, if_neg, y_shl, y_shr, y_le, y_lt, y_eq, y_sub, y_dv, y_rm, y_b0, y_b1, y_sdf, y_ltM, y_Mlt, y_leM, y_Mle, y_eqM, y_Meq, s_e1, s_e2, s_e3, s_e4, s_e5, s_e6, m_isTray, hx, m_w4, hy, pf_57_4, gf_57_4, y_us, y_un, y_vs, y_vn, y_uu, y_vv, ne_eq, not_false_eq_true, not_true_eq_false]
    · have hz2 : rk z 41 = false := hyz.resolve_left (by rw [hy]; decide)
      simp (disch := omega) only [if_true, if_false, Bool.false_eq_true, Bool.true_eq_false, y_lit, y_m1, nI_add, pk_mul, fa_and, fa_or, y_bs, if_pos, if_neg, y_shl, y_shr, y_le, y_lt, y_eq, y_sub, y_dv, y_rm, y_b0, y_b1, y_sdf, y_ltM, y_Mlt, y_leM, y_Mle, y_eqM, y_Meq, s_e1, s_e2, s_e3, s_e4, s_e5, s_e6, m_isTray, hx, m_w4, hy, m_w41, hz2, pf_57_4, gf_57_4, y_us, y_un, y_vs, y_vn, y_uu, y_vv, ne_eq, not_false_eq_true, not_true_eq_false]
end Tray
theorem ok_tray : ∀ x0 x1 x2, MV (fun h => f_L_tray h 0 x0 x1 x2) (fun h => f_X12_tray h 57 x0 x1 x2) := by
  intro x y z h i hJ hi
  obtain ⟨K, A, Z, B, Q, P, F, q, D, c, tt, lk, lh, R, rfl, hI⟩ := hJ
  have hz := hI.2.1.2.2.2
  have hTape := hI.2.1.2.1
  obtain ⟨hY, hN⟩ := hI.2.1.2.2.1
  cases hx : rk x 4
  · refine MV_t hI (k := 1) ?_ (m_trayThrow (Or.inl ⟨hx, rfl⟩)) (oZ18 (nI 1)) rfl
    unfold f_L_tray f_X11_tray
    simp (disch := omega) only [if_true, if_false, Bool.false_eq_true, Bool.true_eq_false, y_lit, y_m1, nI_add, pk_mul, fa_and, fa_or, y_bs, if_pos, if_neg, y_shl, y_shr, y_le, y_lt, y_eq, y_sub, y_dv, y_rm, y_b0, y_b1, y_sdf, y_ltM, y_Mlt, y_leM, y_Mle, y_eqM, y_Meq, s_e1, s_e2, s_e3, s_e4, s_e5, s_e6, gO_0, c_checkTray, hx]
  · by_cases hyz : rk y 4 = false ∨ rk z 41 = false
    · exact MV_t hI (k := 2) (c_trayThrow (t := 0) hx hyz) (m_trayThrow (Or.inr ⟨hx, hyz, rfl⟩)) (oZ18 (nI 2)) rfl
    · have hy : rk y 4 = true := by
        cases h : rk y 4
        · exact absurd (Or.inl h) hyz
        · rfl
      have hz2 : rk z 41 = true := by
        cases h : rk z 41
        · exact absurd (Or.inr h) hyz
        · rfl
      obtain ⟨t, ht, rfl⟩ := rk_t (by decide) hx
      obtain ⟨s, hs, rfl⟩ := rk_t (by decide) hy
      obtain ⟨m, hm, rfl⟩ := rk_t (by decide) hz2
      obtain ⟨g, e1, hg⟩ := c_trayRet (A := A) (Z := Z) (B := B) (Q := Q) (P := P) (F := F) (q := q) (D := D) (c := c) ht hs hm
      obtain ⟨g2, e2, hg2⟩ := m_trayRet (A := upA (upA A 19 (va_up (A 19) t (nI m))) 20 (va_up (A 20) t (nI s))) (Z := Z) (B := upA B 18 g) (Q := Q) (P := P) (F := F) (q := q) (D := D) (c := c) ht hs hm
      refine ⟨nI 0, _, _, e1, ⟨_, _, _, _, _, _, _, _, _, rfl⟩, e2, gf_57_4, Inv_g hI (A' := upA (upA (upA (upA A 19 (va_up (A 19) t (nI m))) 20 (va_up (A 20) t (nI s))) 73 (va_up (A 73) t (nI s))) 74 (va_up (A 74) t (nI m))) (Z' := upA Z 18 (nI 0)) (B' := upA (upA B 18 g) 75 g2) ((((Only.rf.up (by decide)).up (by decide)).up (by decide)).up (by decide)) hz (Only.rf.up (by decide)) (TapeOK_only hTape rfl rfl rfl rfl) ⟨fun k hk => ?_, fun k hk => ?_⟩⟩
      · by_cases e : k = t
        · subst e
          right
          refine ⟨s, m, hs, by omega, ?_, ?_, ?_, ?_⟩ <;> exact if_pos rfl
        · rcases hY k hk with ⟨a1, a2⟩ | ⟨s', m', a1, a2, a3, a4, a5, a6⟩
          · left
            exact ⟨(y_vn e).trans a1, (y_vn e).trans a2⟩
          · right
            exact ⟨s', m', a1, a2, (y_vn e).trans a3, (y_vn e).trans a4, (y_vn e).trans a5, (y_vn e).trans a6⟩
      · show g k = g2 k
        rw [hg k, hg2 k]
        unfold clr
        rw [hN k hk]
        rfl
