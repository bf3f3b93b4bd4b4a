/-! ===== light: what shines, sums, dark rooms ===== -/
def wan (tt : Nat → Nat) (w h : Nat) : Prop := tt (256 + 5 * w + 3) ≤ h ∧ h ≤ tt (256 + 5 * w + 4)
/-- how bright the lamp in a room is -/
def brt (tt lk : Nat → Nat) (r : Nat) : Nat := if lk r = 0 then 0 else tt (248 + 2 * (lk r - 1))
def brn (lh : Nat → Nat) (h : Nat) : Nat := mk (fun r => (lh r).testBit h) 16
def shn (tt lk : Nat → Nat) (S : Nat) (r : Nat) : Nat := if S.testBit r then brt tt lk r else 0
theorem brn_lt (lh : Nat → Nat) (h : Nat) : brn lh h < 65536 := mk_lt _ 16
theorem brt_le {tt lk lh : Nat → Nat} (hW : HWf tt) (hL : LWf tt lk lh) (r : Nat) : brt tt lk r ≤ 999 := by
  unfold brt
  split
  · omega
  · have h1 := (hL r).1
    exact (hW.kind (i := lk r - 1) (by omega)).2.1
theorem shn_le {tt lk lh : Nat → Nat} (hW : HWf tt) (hL : LWf tt lk lh) (S r : Nat) : shn tt lk S r ≤ 999 := by
  unfold shn
  split
  · exact brt_le hW hL r
  · omega
theorem Lsm_le {tt sh : Nat → Nat} (hW : HWf tt) (hb : ∀ r, r < tt 1 → sh r ≤ 999) {i : Nat} (hi : i < tt 2) (r : Nat) : Lsm tt sh r i ≤ 1998 := by
  obtain ⟨b1, b2, b3, b4, b5, b6⟩ := hW.pane hi
  have m1 : sh (pF0 tt i) * pL0 tt i ≤ 999 * 100 := Nat.mul_le_mul (hb _ b1) b5
  have m2 : sh (pT0 tt i) * pL0 tt i ≤ 999 * 100 := Nat.mul_le_mul (hb _ b2) b5
  unfold Lsm
  split <;> split <;> omega
theorem Lsum_le {tt sh : Nat → Nat} (hW : HWf tt) (hb : ∀ r, r < tt 1 → sh r ≤ 999) (r : Nat) {n : Nat} (hn : n ≤ tt 2) : fb_sm (Lsm tt sh r) n ≤ 119880 := by
  have h1 := fb_sm_bound (f := Lsm tt sh r) (c := 1998) (n := n) (fun k hk => Lsm_le hW hb (by omega) r)
  have h2 := hW.pa
  have h3 : n * 1998 ≤ 60 * 1998 := Nat.mul_le_mul_right _ (by omega)
  omega
theorem Lsum_cong {tt s1 s2 : Nat → Nat} (hW : HWf tt) (h : ∀ r, r < tt 1 → s1 r = s2 r) (r : Nat) : Lsum tt s1 r = Lsum tt s2 r := fb_sm_cong (fun i hi => by
  obtain ⟨b1, b2, _⟩ := hW.pane hi
  unfold Lsm
  rw [h _ b1, h _ b2])
theorem drk_cong {tt L1 L2 : Nat → Nat} (hW : HWf tt) (h : ∀ r, r < tt 1 → L1 r = L2 r) (hr : Nat) : drk tt L1 hr = drk tt L2 hr := orf_cong (fun w hw => by
  rw [h _ (hW.want hw).1])
theorem drk_lt {tt L : Nat → Nat} (hW : HWf tt) (h : Nat) {n : Nat} (hn : n ≤ tt 4) : orf (fun w => if (tt (256 + 5 * w + 3) ≤ h ∧ h ≤ tt (256 + 5 * w + 4)) ∧ ¬ (tt (256 + 5 * w + 1) ≤ L (tt (256 + 5 * w)) ∧ L (tt (256 + 5 * w)) ≤ tt (256 + 5 * w + 2)) then 2 ^ tt (256 + 5 * w) else 0) n < 2 ^ tt 1 := orf_lt (fun w hw => by
  split
  · exact n_pw (hW.want (i := w) (by omega)).1
  · exact Nat.two_pow_pos _)
section Light
variable {A : Nat → Nat → Int32} {Z : Nat → Int32} {B : Nat → Nat → Int64} {Q : Nat → Int64} {P : Nat → Option Nat} {F : Nat → Nat → Option Nat} {q : Nat} {D : List xC} {c : Nat × Nat} {K : Nat → Nat} {tt lk lh : Nat → Nat} {R i : Nat}
theorem y_within (h : xH) {x a b : Nat} (hx : x < 2147483648) (ha : a < 2147483648) (hb : b < 2147483648) : f_X12_within h (nI x).toInt64 (nI a).toInt64 (nI b).toInt64 = some (if a ≤ x ∧ x ≤ b then nI 1 else nI 0) := by
  rw [within_spec]
  simp only [y_le ha hx, y_le hx hb]
  all_goals rfl
theorem m_isWanted (hT : Told (A 58) tt lk lh) (hW : HWf tt) {w t : Nat} (hw : w < tt 4) (ht : t < 24) : f_X12_isWanted (HH A Z B Q P F q D c) 57 (nI w) (nI t) = some (if tt (256 + 5 * w + 3) ≤ t ∧ t ≤ tt (256 + 5 * w + 4) then nI 1 else nI 0) := by
  have h4 := hW.wa
  have h5 := hW.b (256 + 5 * w + 3)
  have h6 := hW.b (256 + 5 * w + 4)
  unfold f_X12_isWanted
  simp (disch := omega) only [y_lit, nI_add, pk_mul, Option.bind_some, gf_57_0, ld_58, hT.1, y_within]
  exact if_pos (nb_ite _)
theorem c_wantedAt (H : Hs K D q tt) (hW : HWf tt) {q' w t : Nat} (hw : w < tt 4) (ht : t < 24) : f_X3_wantedAt (HH A Z B Q P F q' D c) q (nI w) (nI t) = some (if tt (256 + 5 * w + 3) ≤ t ∧ t ≤ tt (256 + 5 * w + 4) then nI 1 else nI 0) := by
  have h4 := hW.wa
  have h5 := hW.b (256 + 5 * w + 3)
  have h6 := hW.b (256 + 5 * w + 4)
  unfold f_X3_wantedAt
  by_cases e1 : tt (256 + 5 * w + 3) ≤ t <;> by_cases e2 : t ≤ tt (256 + 5 * w + 4) <;> simp (disch := omega) only [if_true, if_false, Bool.false_eq_true, Bool.true_eq_false, y_lit, y_m1, nI_add, pk_mul, fa_and, fa_or, y_bs, if_pos, if_neg, y_shl, y_shr, y_le, y_lt, y_eq, y_sub, y_dv, y_rm, y_b0, y_b1, y_sdf, y_ltM, y_Mlt, y_leM, y_Mle, y_eqM, y_Meq, s_e1, s_e2, s_e3, s_e4, s_e5, s_e6, hs_9 H, hs_w3 H, hs_w4 H]
theorem m_lightOf (hT : Told (A 58) tt lk lh) (hW : HWf tt) {sh : Nat → Nat} (hs : ∀ r, r < tt 1 → A 64 r = nI (sh r)) (hb : ∀ r, r < tt 1 → sh r ≤ 999) {r : Nat} (hr : r < 16) : f_X12_lightOf (HH A Z B Q P F q D c) 57 (nI r) = some (nI (Lsum tt sh r)) := by
  have hpa := hW.pa
  have hro := hW.ro
  refine loop0 (F := fun n i (s : Int32) => f_X12_lightOf_5 (HH A Z B Q P F q D c) n 57 (nI r) s (nI (8 + 4 * i))) (N := tt 2) (st := fun i => nI (fb_sm (Lsm tt sh r) i)) (fun n i hi => ?_) (fun n => ?_) (by omega)
  · obtain ⟨b1, b2, b3, b4, b5, b6⟩ := hW.pane hi
    have m1 : sh (pF0 tt i) * pL0 tt i ≤ 999 * 100 := Nat.mul_le_mul (hb _ b1) b5
    have m2 : sh (pT0 tt i) * pL0 tt i ≤ 999 * 100 := Nat.mul_le_mul (hb _ b2) b5
    have e : fb_sm (Lsm tt sh r) (i + 1) = fb_sm (Lsm tt sh r) i + Lsm tt sh r i := rfl
    simp only [pF0, pT0, pL0, pB0] at b1 b2 b3 b4 b5 b6
    have e1 : Lsm tt sh r i = (if tt (8 + 4 * i + 1) = r then sh (tt (8 + 4 * i)) * tt (8 + 4 * i + 2) / 100 else 0) + (if tt (8 + 4 * i + 3) = 1 ∧ tt (8 + 4 * i) = r then sh (tt (8 + 4 * i + 1)) * tt (8 + 4 * i + 2) / 100 else 0) := rfl
    rw [e, i84, e1]
    unfold pF0 pL0 at m1
    unfold pT0 pL0 at m2
    by_cases h1 : tt (8 + 4 * i + 1) = r <;> by_cases h2 : tt (8 + 4 * i + 3) = 1 <;> by_cases h3 : tt (8 + 4 * i) = r <;> first | (exfalso; omega) | (simp (disch := omega) only [f_X12_lightOf_5, f_X12_lightOf_58, if_true, if_false, Bool.false_eq_true, Bool.true_eq_false, y_lit, y_m1, nI_add, pk_mul, fa_and, fa_or, y_bs, if_pos, if_neg, y_shl, y_shr, y_le, y_lt, y_eq, y_sub, y_dv, y_rm, y_b0, y_b1, y_sdf, y_ltM, y_Mlt, y_leM, y_Mle, y_eqM, y_Meq, s_e1, s_e2, s_e3, s_e4, s_e5, s_e6, gf_57_0, gf_57_17, ld_58, ld_64, hs, hT.1, h2, true_and, false_and, Nat.add_zero, Nat.zero_add])
  · simp (disch := omega) only [f_X12_lightOf_5, if_true, if_false, Bool.false_eq_true, Bool.true_eq_false, y_lit, y_m1, nI_add, pk_mul, fa_and, fa_or, y_bs, if_pos, if_neg, y_shl, y_shr, y_le, y_lt, y_eq, y_sub, y_dv, y_rm, y_b0, y_b1, y_sdf, y_ltM, y_Mlt, y_leM, y_Mle, y_eqM, y_Meq, s_e1, s_e2, s_e3, s_e4, s_e5, s_e6, gf_57_0, ld_58, hT.1]
    all_goals rfl
theorem m_darkBy (hT : Told (A 58) tt lk lh) (hW : HWf tt) {sh : Nat → Nat} (hs : ∀ r, r < tt 1 → A 64 r = nI (sh r)) (hb : ∀ r, r < tt 1 → sh r ≤ 999) {t : Nat} (ht : t < 24) : f_X12_darkBy (HH A Z B Q P F q D c) 57 (nI t) = some (nI (drk tt (Lsum tt sh) t)) := by
  have hwa := hW.wa
  have hro := hW.ro
  refine loop0 (F := fun n i (s : Int32) => f_X12_darkBy_4 (HH A Z B Q P F q D c) n 57 (nI t) s (nI i)) (N := tt 4) (st := fun i => nI (orf (fun w => if (tt (256 + 5 * w + 3) ≤ t ∧ t ≤ tt (256 + 5 * w + 4)) ∧ ¬ (tt (256 + 5 * w + 1) ≤ Lsum tt sh (tt (256 + 5 * w)) ∧ Lsum tt sh (tt (256 + 5 * w)) ≤ tt (256 + 5 * w + 2)) then 2 ^ tt (256 + 5 * w) else 0) i)) (fun n i hi => ?_) (fun n => ?_) (by omega)
  · obtain ⟨b1, b2, b3, b4, b5, b6⟩ := hW.want hi
    have hl : Lsum tt sh (tt (256 + 5 * i)) ≤ 119880 := Lsum_le hW hb _ (Nat.le_refl _)
    rw [orf]
    by_cases h1 : tt (256 + 5 * i + 3) ≤ t ∧ t ≤ tt (256 + 5 * i + 4)
    · by_cases h2 : tt (256 + 5 * i + 1) ≤ Lsum tt sh (tt (256 + 5 * i)) ∧ Lsum tt sh (tt (256 + 5 * i)) ≤ tt (256 + 5 * i + 2)
      · simp (disch := omega) only [f_X12_darkBy_4, if_true, if_false, Bool.false_eq_true, Bool.true_eq_false, y_lit, y_m1, nI_add, pk_mul, fa_and, fa_or, y_bs, if_pos, if_neg, y_shl, y_shr, y_le, y_lt, y_eq, y_sub, y_dv, y_rm, y_b0, y_b1, y_sdf, y_ltM, y_Mlt, y_leM, y_Mle, y_eqM, y_Meq, s_e1, s_e2, s_e3, s_e4, s_e5, s_e6, gf_57_0, gO_57, ld_58, hT.1, m_isWanted hT hW, h1, h2, m_lightOf hT hW hs hb, y_within, and_self, not_true_eq_false, and_false, Nat.or_zero]
      · simp (disch := omega) only [f_X12_darkBy_4, if_true, if_false, Bool.false_eq_true, Bool.true_eq_false, y_lit, y_m1, nI_add, pk_mul, fa_and, fa_or, y_bs, if_pos, if_neg, y_shl, y_shr, y_le, y_lt, y_eq, y_sub, y_dv, y_rm, y_b0, y_b1, y_sdf, y_ltM, y_Mlt, y_leM, y_Mle, y_eqM, y_Meq, s_e1, s_e2, s_e3, s_e4, s_e5, s_e6, gf_57_0, gO_57, ld_58, hT.1, m_isWanted hT hW, h1, h2, m_lightOf hT hW hs hb, y_within, and_self, not_false_eq_true]
    · simp (disch := omega) only [f_X12_darkBy_4, if_true, if_false, Bool.false_eq_true, Bool.true_eq_false, y_lit, y_m1, nI_add, pk_mul, fa_and, fa_or, y_bs, if_pos, if_neg, y_shl, y_shr, y_le, y_lt, y_eq, y_sub, y_dv, y_rm, y_b0, y_b1, y_sdf, y_ltM, y_Mlt, y_leM, y_Mle, y_eqM, y_Meq, s_e1, s_e2, s_e3, s_e4, s_e5, s_e6, gf_57_0, gO_57, ld_58, hT.1, m_isWanted hT hW, h1, false_and, Nat.or_zero]
  · simp (disch := omega) only [f_X12_darkBy_4, if_true, if_false, Bool.false_eq_true, Bool.true_eq_false, y_lit, y_m1, nI_add, pk_mul, fa_and, fa_or, y_bs, if_pos, if_neg, y_shl, y_shr, y_le, y_lt, y_eq, y_sub, y_dv, y_rm, y_b0, y_b1, y_sdf, y_ltM, y_Mlt, y_leM, y_Mle, y_eqM, y_Meq, s_e1, s_e2, s_e3, s_e4, s_e5, s_e6, gf_57_0, ld_58, hT.1]
    all_goals rfl
theorem c_notRight (H : Hs K D q tt) (hW : HWf tt) {q' : Nat} {L : Nat → Nat} (hs : ∀ r, r < 16 → A 21 r = nI (L r)) (hb : ∀ r, L r ≤ 119880) {t : Nat} (ht : t < 24) : f_X3_notRight (HH A Z B Q P F q' D c) q (nI t) 21 = some (nI (drk tt L t)) := by
  have hwa := hW.wa
  have hro := hW.ro
  refine loop0 (F := fun n i (s : Int32) => f_X3_notRight_5 (HH A Z B Q P F q' D c) n q (nI t) 21 s (nI i)) (N := tt 4) (st := fun i => nI (orf (fun w => if (tt (256 + 5 * w + 3) ≤ t ∧ t ≤ tt (256 + 5 * w + 4)) ∧ ¬ (tt (256 + 5 * w + 1) ≤ L (tt (256 + 5 * w)) ∧ L (tt (256 + 5 * w)) ≤ tt (256 + 5 * w + 2)) then 2 ^ tt (256 + 5 * w) else 0) i)) (fun n i hi => ?_) (fun n => ?_) (by omega)
  · obtain ⟨b1, b2, b3, b4, b5, b6⟩ := hW.want hi
    have hl := hb (tt (256 + 5 * i))
    rw [orf]
    by_cases h1 : tt (256 + 5 * i + 3) ≤ t ∧ t ≤ tt (256 + 5 * i + 4)
    · by_cases h2 : tt (256 + 5 * i + 1) ≤ L (tt (256 + 5 * i))
      · by_cases h3 : L (tt (256 + 5 * i)) ≤ tt (256 + 5 * i + 2)
        · simp (disch := omega) only [f_X3_notRight_5, f_X3_notRight_65, f_X3_notRight_66, if_true, if_false, Bool.false_eq_true, Bool.true_eq_false, y_lit, y_m1, nI_add, pk_mul, fa_and, fa_or, y_bs, if_pos, if_neg, y_shl, y_shr, y_le, y_lt, y_eq, y_sub, y_dv, y_rm, y_b0, y_b1, y_sdf, y_ltM, y_Mlt, y_leM, y_Mle, y_eqM, y_Meq, s_e1, s_e2, s_e3, s_e4, s_e5, s_e6, hs_5 H, hs_9 H, hs_w0 H, hs_w1 H, hs_w2 H, hs_gO H, ld_21, hs, c_wantedAt H hW, h1, h2, h3, and_self, not_true_eq_false, and_false, Nat.or_zero]
        · simp (disch := omega) only [f_X3_notRight_5, f_X3_notRight_65, f_X3_notRight_66, if_true, if_false, Bool.false_eq_true, Bool.true_eq_false, y_lit, y_m1, nI_add, pk_mul, fa_and, fa_or, y_bs, if_pos, if_neg, y_shl, y_shr, y_le, y_lt, y_eq, y_sub, y_dv, y_rm, y_b0, y_b1, y_sdf, y_ltM, y_Mlt, y_leM, y_Mle, y_eqM, y_Meq, s_e1, s_e2, s_e3, s_e4, s_e5, s_e6, hs_5 H, hs_9 H, hs_w0 H, hs_w1 H, hs_w2 H, hs_gO H, ld_21, hs, c_wantedAt H hW, h1, h2, h3, and_self, and_false, not_false_eq_true]
      · simp (disch := omega) only [f_X3_notRight_5, f_X3_notRight_65, f_X3_notRight_66, if_true, if_false, Bool.false_eq_true, Bool.true_eq_false, y_lit, y_m1, nI_add, pk_mul, fa_and, fa_or, y_bs, if_pos, if_neg, y_shl, y_shr, y_le, y_lt, y_eq, y_sub, y_dv, y_rm, y_b0, y_b1, y_sdf, y_ltM, y_Mlt, y_leM, y_Mle, y_eqM, y_Meq, s_e1, s_e2, s_e3, s_e4, s_e5, s_e6, hs_5 H, hs_9 H, hs_w0 H, hs_w1 H, hs_w2 H, hs_gO H, ld_21, hs, c_wantedAt H hW, h1, h2, and_self, false_and, not_false_eq_true]
    · by_cases h2 : tt (256 + 5 * i + 1) ≤ L (tt (256 + 5 * i))
      · by_cases h3 : L (tt (256 + 5 * i)) ≤ tt (256 + 5 * i + 2)
        · simp (disch := omega) only [f_X3_notRight_5, f_X3_notRight_65, f_X3_notRight_66, if_true, if_false, Bool.false_eq_true, Bool.true_eq_false, y_lit, y_m1, nI_add, pk_mul, fa_and, fa_or, y_bs, if_pos, if_neg, y_shl, y_shr, y_le, y_lt, y_eq, y_sub, y_dv, y_rm, y_b0, y_b1, y_sdf, y_ltM, y_Mlt, y_leM, y_Mle, y_eqM, y_Meq, s_e1, s_e2, s_e3, s_e4, s_e5, s_e6, hs_5 H, hs_9 H, hs_w0 H, hs_w1 H, hs_w2 H, hs_gO H, ld_21, hs, c_wantedAt H hW, h1, false_and, Nat.or_zero]
        · simp (disch := omega) only [f_X3_notRight_5, f_X3_notRight_65, f_X3_notRight_66, if_true, if_false, Bool.false_eq_true, Bool.true_eq_false, y_lit, y_m1, nI_add, pk_mul, fa_and, fa_or, y_bs, if_pos, if_neg, y_shl, y_shr, y_le, y_lt, y_eq, y_sub, y_dv, y_rm, y_b0, y_b1, y_sdf, y_ltM, y_Mlt, y_leM, y_Mle, y_eqM, y_Meq, s_e1, s_e2, s_e3, s_e4, s_e5, s_e6, hs_5 H, hs_9 H, hs_w0 H, hs_w1 H, hs_w2 H, hs_gO H, ld_21, hs, c_wantedAt H hW, h1, false_and, Nat.or_zero]
      · simp (disch := omega) only [f_X3_notRight_5, f_X3_notRight_65, f_X3_notRight_66, if_true, if_false, Bool.false_eq_true, Bool.true_eq_false, y_lit, y_m1, nI_add, pk_mul, fa_and, fa_or, y_bs, if_pos, if_neg, y_shl, y_shr, y_le, y_lt, y_eq, y_sub, y_dv, y_rm, y_b0, y_b1, y_sdf, y_ltM, y_Mlt, y_leM, y_Mle, y_eqM, y_Meq, s_e1, s_e2, s_e3, s_e4, s_e5, s_e6, hs_5 H, hs_9 H, hs_w0 H, hs_w1 H, hs_w2 H, hs_gO H, ld_21, hs, c_wantedAt H hW, h1, false_and, Nat.or_zero]
  · simp (disch := omega) only [f_X3_notRight_5, if_true, if_false, Bool.false_eq_true, Bool.true_eq_false, y_lit, y_m1, nI_add, pk_mul, fa_and, fa_or, y_bs, if_pos, if_neg, y_shl, y_shr, y_le, y_lt, y_eq, y_sub, y_dv, y_rm, y_b0, y_b1, y_sdf, y_ltM, y_Mlt, y_leM, y_Mle, y_eqM, y_Meq, s_e1, s_e2, s_e3, s_e4, s_e5, s_e6, hs_5 H]
    all_goals rfl
theorem y_shb {b : Bool} {k : Nat} (hk : k < 31) : nI (if b then 1 else 0) <<< nI (k &&& 31) = nI (if b then 2 ^ k else 0) := by
  cases b
  · rw [← fa_and]
    show nI 0 <<< _ = nI 0
    have := pk_shlN (n := 0) (nI k &&& 31) k (s_l k (by omega)) (by rw [Nat.zero_mul]; decide)
    rw [Nat.zero_mul] at this
    exact this
  · exact y_shl hk
theorem c_burning (hLm : Lam (A 13) (A 14) lk lh) (hL : LWf tt lk lh) {t : Nat} (ht : t < 24) : f_X5_burning (HH A Z B Q P F q D c) 12 (nI t) = some (nI (brn lh t)) := by
  refine loop0 (F := fun n i (s : Int32) => f_X5_burning_4 (HH A Z B Q P F q D c) n 12 (nI t) s (nI i)) (N := 16) (st := fun i => nI (mk (fun r => (lh r).testBit t) i)) (fun n i hi => ?_) (fun n => ?_) (by omega)
  · have h1 := (hL i).2.1
    rw [mk_step]
    simp (disch := omega) only [f_X5_burning_4, if_true, if_false, Bool.false_eq_true, Bool.true_eq_false, y_lit, y_m1, nI_add, pk_mul, fa_and, fa_or, y_bs, if_pos, if_neg, y_shl, y_shr, y_le, y_lt, y_eq, y_sub, y_dv, y_rm, y_b0, y_b1, y_sdf, y_ltM, y_Mlt, y_leM, y_Mle, y_eqM, y_Meq, s_e1, s_e2, s_e3, s_e4, s_e5, s_e6, gf_12_1, ld_14, (hLm i hi).2]
    rw [y_bv, y_shb (by omega), fa_or]
  · simp (disch := omega) only [f_X5_burning_4, if_true, if_false, Bool.false_eq_true, Bool.true_eq_false, y_lit, y_m1, nI_add, pk_mul, fa_and, fa_or, y_bs, if_pos, if_neg, y_shl, y_shr, y_le, y_lt, y_eq, y_sub, y_dv, y_rm, y_b0, y_b1, y_sdf, y_ltM, y_Mlt, y_leM, y_Mle, y_eqM, y_Meq, s_e1, s_e2, s_e3, s_e4, s_e5, s_e6]
    all_goals rfl
theorem c_brightOf (H : Hs K D q tt) (hW : HWf tt) (hL : LWf tt lk lh) {q' : Nat} (r : Nat) : f_X3_brightOf (HH A Z B Q P F q' D c) q (kv (lk r)) = some (nI (brt tt lk r)) := by
  have h1 := (hL r).1
  have h2 := hW.ki
  unfold brt
  cases hk : lk r with
  | zero =>
    unfold f_X3_brightOf
    rw [if_pos (by decide), if_pos rfl]
    all_goals rfl
  | succ k =>
    rw [kv_s, if_neg (by omega)]
    simp (disch := omega) only [f_X3_brightOf, if_true, if_false, Bool.false_eq_true, Bool.true_eq_false, y_lit, y_m1, nI_add, pk_mul, fa_and, fa_or, y_bs, if_pos, if_neg, y_shl, y_shr, y_le, y_lt, y_eq, y_sub, y_dv, y_rm, y_b0, y_b1, y_sdf, y_ltM, y_Mlt, y_leM, y_Mle, y_eqM, y_Meq, s_e1, s_e2, s_e3, s_e4, s_e5, s_e6, hs_4 H, hs_8 H, hs_k0 H, Nat.add_sub_cancel]
theorem c_shineInto (H : Hs K D q tt) (hW : HWf tt) (hL : LWf tt lk lh) (hLm : Lam (A 13) (A 14) lk lh) {q' S : Nat} (hS : S < 65536) : ∃ f, f_X3_shineInto (HH A Z B Q P F q' D c) q 21 13 (nI S) = some (HH (upA A 21 f) Z B Q P F q' D c) ∧ ∀ r, r < 16 → f r = nI (Lsum tt (shn tt lk S) r) := by
  have hpa := hW.pa
  have hro := hW.ro
  have hb := fun r (_ : r < tt 1) => shn_le hW hL S r
  unfold f_X3_shineInto
  rw [fill_spec (LLg_21 A Z B Q P F q' D) (by decide), Option.bind_some, LLs_21]
  have key := loop_J (F := fun n i (s : xH) => f_X3_shineInto_8 n s q 21 13 (nI S) (nI i)) (N := tt 2) some (fun i s => ∃ f, s = HH (upA A 21 f) Z B Q P F q' D c ∧ ∀ r, r < 16 → f r = nI (fb_sm (Lsm tt (shn tt lk S) r) i)) (fun n i s hi hs => ?_) (fun n s hs => ?_) (by omega) (s := HH (upA A 21 (fun j => if j < 16 then 0 else A 21 j)) Z B Q P F q' D c) ⟨_, rfl, fun r hr => if_pos hr⟩
  · obtain ⟨s, e1, f, e2, hf⟩ := key
    exact ⟨f, by rw [← e2]; exact e1, hf⟩
  · obtain ⟨f, rfl, hf⟩ := hs
    obtain ⟨b1, b2, b3, b4, b5, b6⟩ := hW.pane hi
    have s1 := hb _ b1
    have s2 := hb _ b2
    have t1 := brt_le hW hL (pF0 tt i)
    have t2 := brt_le hW hL (pT0 tt i)
    have m1 : brt tt lk (pF0 tt i) * pL0 tt i ≤ 999 * 100 := Nat.mul_le_mul t1 b5
    have m2 : brt tt lk (pT0 tt i) * pL0 tt i ≤ 999 * 100 := Nat.mul_le_mul t2 b5
    have k1 := (hLm (pF0 tt i) (by omega)).1
    have k2 := (hLm (pT0 tt i) (by omega)).1
    have e : ∀ r, fb_sm (Lsm tt (shn tt lk S) r) (i + 1) = fb_sm (Lsm tt (shn tt lk S) r) i + Lsm tt (shn tt lk S) r i := fun r => rfl
    have e1 : ∀ r, Lsm tt (shn tt lk S) r i = (if tt (8 + 4 * i + 1) = r then (if S.testBit (tt (8 + 4 * i)) then brt tt lk (tt (8 + 4 * i)) else 0) * tt (8 + 4 * i + 2) / 100 else 0) + (if tt (8 + 4 * i + 3) = 1 ∧ tt (8 + 4 * i) = r then (if S.testBit (tt (8 + 4 * i + 1)) then brt tt lk (tt (8 + 4 * i + 1)) else 0) * tt (8 + 4 * i + 2) / 100 else 0) := fun r => rfl
    simp only [pF0, pT0, pL0, pB0] at b1 b2 b3 b4 b5 b6
    unfold pF0 pL0 at m1
    unfold pT0 pL0 at m2
    unfold pF0 at k1
    unfold pT0 at k2
    cases h1 : S.testBit (tt (8 + 4 * i))
    · by_cases h2 : tt (8 + 4 * i + 3) = 1
      · cases h3 : S.testBit (tt (8 + 4 * i + 1))
        · refine ⟨HH (upA A 21 f) Z B Q P F q' D c, ?_, f, rfl, fun r hr => ?_⟩
          · simp (disch := omega) only [f_X3_shineInto_8, f_X3_shineInto_84, if_true, if_false, Bool.false_eq_true, Bool.true_eq_false, y_lit, y_m1, nI_add, pk_mul, fa_and, fa_or, y_bs, if_pos, if_neg, y_shl, y_shr, y_le, y_lt, y_eq, y_sub, y_dv, y_rm, y_b0, y_b1, y_sdf, y_ltM, y_Mlt, y_leM, y_Mle, y_eqM, y_Meq, s_e1, s_e2, s_e3, s_e4, s_e5, s_e6, hs_3 H, hs_7 H, hs_p0 H, hs_p1 H, hs_p2 H, hs_p3 H, h1, h2, h3]
          · rw [hf r hr, e, e1]
            simp [h1, h3]
        · refine ⟨HH (upA A 21 (va_up f (tt (8 + 4 * i)) (f (tt (8 + 4 * i)) + nI (brt tt lk (tt (8 + 4 * i + 1)) * tt (8 + 4 * i + 2) / 100)))) Z B Q P F q' D c, ?_, _, rfl, fun r hr => ?_⟩
          · simp (disch := omega) only [f_X3_shineInto_8, f_X3_shineInto_84, if_true, if_false, Bool.false_eq_true, Bool.true_eq_false, y_lit, y_m1, nI_add, pk_mul, fa_and, fa_or, y_bs, if_pos, if_neg, y_shl, y_shr, y_le, y_lt, y_eq, y_sub, y_dv, y_rm, y_b0, y_b1, y_sdf, y_ltM, y_Mlt, y_leM, y_Mle, y_eqM, y_Meq, s_e1, s_e2, s_e3, s_e4, s_e5, s_e6, hs_3 H, hs_7 H, hs_p0 H, hs_p1 H, hs_p2 H, hs_p3 H, h1, h2, h3, ld_21, ld_13, st_21, y_us, y_un, y_vs, y_vn, y_uu, y_vv, ne_eq, not_false_eq_true, not_true_eq_false, k1, k2, hs_gO H, c_brightOf H hW hL]
          · rw [e, e1]
            by_cases hr2 : r = tt (8 + 4 * i)
            · subst hr2
              rw [y_vs, hf _ hr, nI_add]
              simp [h1, h2, h3]
            · rw [y_vn hr2, hf r hr]
              have hr3 : ¬ tt (8 + 4 * i) = r := fun h => hr2 h.symm
              simp [h1, h2, h3, hr3]
      · refine ⟨HH (upA A 21 f) Z B Q P F q' D c, ?_, f, rfl, fun r hr => ?_⟩
        · simp (disch := omega) only [f_X3_shineInto_8, f_X3_shineInto_84, if_true, if_false, Bool.false_eq_true, Bool.true_eq_false, y_lit, y_m1, nI_add, pk_mul, fa_and, fa_or, y_bs, if_pos, if_neg, y_shl, y_shr, y_le, y_lt, y_eq, y_sub, y_dv, y_rm, y_b0, y_b1, y_sdf, y_ltM, y_Mlt, y_leM, y_Mle, y_eqM, y_Meq, s_e1, s_e2, s_e3, s_e4, s_e5, s_e6, hs_3 H, hs_7 H, hs_p0 H, hs_p1 H, hs_p2 H, hs_p3 H, h1, h2]
        · rw [hf r hr, e, e1]
          simp [h1, h2]
    · by_cases h2 : tt (8 + 4 * i + 3) = 1
      · cases h3 : S.testBit (tt (8 + 4 * i + 1))
        · refine ⟨HH (upA A 21 (va_up f (tt (8 + 4 * i + 1)) (f (tt (8 + 4 * i + 1)) + nI (brt tt lk (tt (8 + 4 * i)) * tt (8 + 4 * i + 2) / 100)))) Z B Q P F q' D c, ?_, _, rfl, fun r hr => ?_⟩
          · simp (disch := omega) only [f_X3_shineInto_8, f_X3_shineInto_84, if_true, if_false, Bool.false_eq_true, Bool.true_eq_false, y_lit, y_m1, nI_add, pk_mul, fa_and, fa_or, y_bs, if_pos, if_neg, y_shl, y_shr, y_le, y_lt, y_eq, y_sub, y_dv, y_rm, y_b0, y_b1, y_sdf, y_ltM, y_Mlt, y_leM, y_Mle, y_eqM, y_Meq, s_e1, s_e2, s_e3, s_e4, s_e5, s_e6, hs_3 H, hs_7 H, hs_p0 H, hs_p1 H, hs_p2 H, hs_p3 H, h1, h2, h3, ld_21, ld_13, st_21, y_us, y_un, y_vs, y_vn, y_uu, y_vv, ne_eq, not_false_eq_true, not_true_eq_false, k1, k2, hs_gO H, c_brightOf H hW hL]
          · rw [e, e1]
            by_cases hr2 : r = tt (8 + 4 * i + 1)
            · subst hr2
              rw [y_vs, hf _ hr, nI_add]
              simp [h1, h2, h3]
            · rw [y_vn hr2, hf r hr]
              have hr3 : ¬ tt (8 + 4 * i + 1) = r := fun h => hr2 h.symm
              simp [h1, h2, h3, hr3]
        · refine ⟨HH (upA A 21 (va_up (va_up f (tt (8 + 4 * i + 1)) (f (tt (8 + 4 * i + 1)) + nI (brt tt lk (tt (8 + 4 * i)) * tt (8 + 4 * i + 2) / 100))) (tt (8 + 4 * i)) (f (tt (8 + 4 * i)) + nI (brt tt lk (tt (8 + 4 * i + 1)) * tt (8 + 4 * i + 2) / 100)))) Z B Q P F q' D c, ?_, _, rfl, fun r hr => ?_⟩
          · simp (disch := omega) only [f_X3_shineInto_8, f_X3_shineInto_84, if_true, if_false, Bool.false_eq_true, Bool.true_eq_false, y_lit, y_m1, nI_add, pk_mul, fa_and, fa_or, y_bs, if_pos, if_neg, y_shl, y_shr, y_le, y_lt, y_eq, y_sub, y_dv, y_rm, y_b0, y_b1, y_sdf, y_ltM, y_Mlt, y_leM, y_Mle, y_eqM, y_Meq, s_e1, s_e2, s_e3, s_e4, s_e5, s_e6, hs_3 H, hs_7 H, hs_p0 H, hs_p1 H, hs_p2 H, hs_p3 H, h1, h2, h3, ld_21, ld_13, st_21, y_us, y_un, y_vs, y_vn, y_uu, y_vv, ne_eq, not_false_eq_true, not_true_eq_false, k1, k2, hs_gO H, c_brightOf H hW hL]
          · rw [e, e1]
            by_cases hr2 : r = tt (8 + 4 * i)
            · subst hr2
              rw [y_vs, hf _ hr, nI_add]
              have hr3 : ¬ tt (8 + 4 * i + 1) = tt (8 + 4 * i) := fun h => b3 h.symm
              simp [h1, h2, h3, hr3]
            · rw [y_vn hr2]
              have hr3 : ¬ tt (8 + 4 * i) = r := fun h => hr2 h.symm
              by_cases hr4 : r = tt (8 + 4 * i + 1)
              · subst hr4
                rw [y_vs, hf _ hr, nI_add]
                simp [h1, h2, h3, hr3]
              · rw [y_vn hr4, hf r hr]
                have hr5 : ¬ tt (8 + 4 * i + 1) = r := fun h => hr4 h.symm
                simp [h1, h2, h3, hr3, hr5]
      · refine ⟨HH (upA A 21 (va_up f (tt (8 + 4 * i + 1)) (f (tt (8 + 4 * i + 1)) + nI (brt tt lk (tt (8 + 4 * i)) * tt (8 + 4 * i + 2) / 100)))) Z B Q P F q' D c, ?_, _, rfl, fun r hr => ?_⟩
        · simp (disch := omega) only [f_X3_shineInto_8, f_X3_shineInto_84, if_true, if_false, Bool.false_eq_true, Bool.true_eq_false, y_lit, y_m1, nI_add, pk_mul, fa_and, fa_or, y_bs, if_pos, if_neg, y_shl, y_shr, y_le, y_lt, y_eq, y_sub, y_dv, y_rm, y_b0, y_b1, y_sdf, y_ltM, y_Mlt, y_leM, y_Mle, y_eqM, y_Meq, s_e1, s_e2, s_e3, s_e4, s_e5, s_e6, hs_3 H, hs_7 H, hs_p0 H, hs_p1 H, hs_p2 H, hs_p3 H, h1, h2, ld_21, ld_13, st_21, y_us, y_un, y_vs, y_vn, y_uu, y_vv, ne_eq, not_false_eq_true, not_true_eq_false, k1, k2, hs_gO H, c_brightOf H hW hL]
        · rw [e, e1]
          by_cases hr2 : r = tt (8 + 4 * i + 1)
          · subst hr2
            rw [y_vs, hf _ hr, nI_add]
            simp [h1, h2]
          · rw [y_vn hr2, hf r hr]
            have hr3 : ¬ tt (8 + 4 * i + 1) = r := fun h => hr2 h.symm
            simp [h1, h2, hr3]
  · obtain ⟨f, rfl, hf⟩ := hs
    simp (disch := omega) only [f_X3_shineInto_8, if_true, if_false, Bool.false_eq_true, Bool.true_eq_false, y_lit, y_m1, nI_add, pk_mul, fa_and, fa_or, y_bs, if_pos, if_neg, y_shl, y_shr, y_le, y_lt, y_eq, y_sub, y_dv, y_rm, y_b0, y_b1, y_sdf, y_ltM, y_Mlt, y_leM, y_Mle, y_eqM, y_Meq, s_e1, s_e2, s_e3, s_e4, s_e5, s_e6, hs_3 H]
end Light
