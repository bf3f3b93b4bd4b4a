/-! ===== out, spare, angry ===== -/
def dkb (tt lk lh : Nat → Nat) (r t : Nat) : Nat := sdf (drk tt (Lsum tt (shn tt lk (sdf (brn lh t) (2 ^ r)))) t) (drk tt (Lsum tt (shn tt lk (brn lh t))) t)
theorem sdf_self (a : Nat) : sdf a a = 0 := n_zero (fun i => by rw [sdf_bit]; cases a.testBit i <;> rfl)
theorem sdf_two {a r : Nat} (h : a.testBit r = false) : sdf a (2 ^ r) = a := n_ext (fun i => by
  rw [sdf_bit, n_two]
  by_cases e : r = i
  · subst e; simp [h]
  · simp [e])
section Out
variable {A : Nat → Nat → Int32} {Z : Nat → Int32} {B : Nat → Nat → Int64} {Q : Nat → Int64} {P : Nat → Option Nat} {F : Nat → Nat → Option Nat} {q : Nat} {D : List xC} {c : Nat × Nat} {K : Nat → Nat} {tt lk lh : Nat → Nat} {R i : Nat}
theorem dkb_lt (hW : HWf tt) (r t : Nat) : dkb tt lk lh r t < 65536 := sdf_lt (k := 16) (drk_lt16 hW t)
theorem c_darkenedBy (H : Hs K D q tt) (hW : HWf tt) (hL : LWf tt lk lh) (hLm : Lam (A 13) (A 14) lk lh) {r t : Nat} (hr : r < 16) (ht : t < 24) : ∃ f, f_X11_darkenedBy (HH A Z B Q P F q D c) 0 (nI (2 ^ r)) (nI t) = some (nI (dkb tt lk lh r t), HH (upA A 21 f) Z B Q P F q D c) := by
  have hS := brn_lt lh t
  have hS2 : sdf (brn lh t) (2 ^ r) < 65536 := sdf_lt (k := 16) hS
  obtain ⟨f, e1⟩ := c_darkRooms (A := A) (Z := Z) (B := B) (Q := Q) (P := P) (F := F) (c := c) H hW hL hLm hS2 ht
  obtain ⟨g, e2⟩ := c_darkRooms (A := upA A 21 f) (Z := Z) (B := B) (Q := Q) (P := P) (F := F) (c := c) H hW hL hLm hS ht
  rw [y_uu] at e2
  have hl : drk tt (Lsum tt (shn tt lk (sdf (brn lh t) (2 ^ r)))) t < 65536 := drk_lt16 hW t
  unfold f_X11_darkenedBy
  rw [gf_0_5, Option.bind_some, gO_12, Option.bind_some, c_burning hLm hL ht, Option.bind_some, ← nI_0]
  cases hb : (brn lh t).testBit r
  · refine ⟨A 21, ?_⟩
    rw [if_pos (by rw [nI_0]; exact (fa_bit (by omega)).mpr hb), y_ua]
    unfold dkb
    rw [sdf_two hb, sdf_self]
  · refine ⟨g, ?_⟩
    rw [if_neg (fun e => by rw [nI_0, fa_bit (by omega), hb] at e; cases e), gO_0, Option.bind_some, show (-1 : Int32) = nM from rfl, y_sdf (by omega), e1, Option.bind_some, gO_0, Option.bind_some, e2, Option.bind_some, y_sdf (by omega)]
    rfl
theorem m_outBy (hT : Told (A 58) tt lk lh) (hW : HWf tt) (hL : LWf tt lk lh) {r t : Nat} (hr : r < 16) (ht : t < 24) : ∃ f, f_X12_outBy (HH A Z B Q P F q D c) 57 (nI r) (nI t) = some (nI (dkb tt lk lh r t), HH (upA A 64 f) Z B Q P F q D c) := by
  have hro := hW.ro
  obtain ⟨f, e1, hf⟩ := m_darkIn (A := A) (Z := Z) (B := B) (Q := Q) (P := P) (F := F) (q := q) (D := D) (c := c) hT hW hL ht
  have e2 := m_darkBy (A := upA A 64 (va_up f r (nI 0))) (Z := Z) (B := B) (Q := Q) (P := P) (F := F) (q := q) (D := D) (c := c) hT hW (sh := shn tt lk (sdf (brn lh t) (2 ^ r))) (fun x hx => by
    rw [y_us]
    unfold shn
    rw [sdf_bit, n_two]
    by_cases e : x = r
    · subst e
      rw [y_vs]
      simp
    · rw [y_vn e, hf x hx]
      have e3 : ¬ r = x := fun h => e h.symm
      unfold shn
      simp [e3]) (fun x _ => shn_le hW hL _ x) ht
  have hl : drk tt (Lsum tt (shn tt lk (sdf (brn lh t) (2 ^ r)))) t < 65536 := drk_lt16 hW t
  refine ⟨va_up f r (nI 0), ?_⟩
  unfold f_X12_outBy
  simp (disch := omega) only [if_true, if_false, Bool.false_eq_true, Bool.true_eq_false, y_lit, y_m1, nI_add, pk_mul, fa_and, fa_or, y_bs, if_pos, if_neg, y_shl, y_shr, y_le, y_lt, y_eq, y_sub, y_dv, y_rm, y_b0, y_b1, y_sdf, y_ltM, y_Mlt, y_leM, y_Mle, y_eqM, y_Meq, s_e1, s_e2, s_e3, s_e4, s_e5, s_e6, gO_57, e1, gf_57_17, st_64, y_us, y_un, y_vs, y_vn, y_uu, y_vv, ne_eq, not_false_eq_true, not_true_eq_false, e2]
  rfl
end Out
theorem ok_out : ∀ x0 x1, ME (fun h => f_L_out h 0 x0 x1 76) (fun h => f_X12_out h 57 x0 x1) := by
  intro x y h i hJ hi
  obtain ⟨K, A, Z, B, Q, P, F, q, D, c, tt, lk, lh, R, rfl, hI⟩ := hJ
  have hz := hI.2.1.2.2.2
  obtain ⟨H, hW, hL, hT, hLm⟩ := hI.1
  have hro := hW.ro
  cases hr : rk x (tt 1)
  · refine ME_t hI (k := 1) (b := nI 0) (by decide) ?_ ?_ (oZ18 (nI 1)) rfl
    · simp (disch := omega) only [f_L_out, f_X11_out, if_true, if_false, Bool.false_eq_true, Bool.true_eq_false, y_lit, y_m1, nI_add, pk_mul, fa_and, fa_or, y_bs, if_pos, if_neg, y_shl, y_shr, y_le, y_lt, y_eq, y_sub, y_dv, y_rm, y_b0, y_b1, y_sdf, y_ltM, y_Mlt, y_leM, y_Mle, y_eqM, y_Meq, s_e1, s_e2, s_e3, s_e4, s_e5, s_e6, gO_0, c_checkRoom H, hr]
    · simp (disch := omega) only [f_X12_out, if_true, if_false, Bool.false_eq_true, Bool.true_eq_false, y_lit, y_m1, nI_add, pk_mul, fa_and, fa_or, y_bs, if_pos, if_neg, y_shl, y_shr, y_le, y_lt, y_eq, y_sub, y_dv, y_rm, y_b0, y_b1, y_sdf, y_ltM, y_Mlt, y_leM, y_Mle, y_eqM, y_Meq, s_e1, s_e2, s_e3, s_e4, s_e5, s_e6, pf_57_4, gf_57_4, gO_57, m_roomHour hT hW, hr, y_us, y_un, y_vs, y_vn, y_uu, y_vv, ne_eq, not_false_eq_true, not_true_eq_false]
  · obtain ⟨r, hr1, rfl⟩ := rk_t (by omega) hr
    cases hy : rk y 24
    · refine ME_t hI (k := 2) (b := nI 0) (by decide) ?_ ?_ (oZ18 (nI 2)) rfl
      · simp (disch := omega) only [f_L_out, f_X11_out, if_true, if_false, Bool.false_eq_true, Bool.true_eq_false, y_lit, y_m1, nI_add, pk_mul, fa_and, fa_or, y_bs, if_pos, if_neg, y_shl, y_shr, y_le, y_lt, y_eq, y_sub, y_dv, y_rm, y_b0, y_b1, y_sdf, y_ltM, y_Mlt, y_leM, y_Mle, y_eqM, y_Meq, s_e1, s_e2, s_e3, s_e4, s_e5, s_e6, gO_0, c_checkRoom H, hr, c_checkHour, hy]
      · simp (disch := omega) only [f_X12_out, if_true, if_false, Bool.false_eq_true, Bool.true_eq_false, y_lit, y_m1, nI_add, pk_mul, fa_and, fa_or, y_bs, if_pos, if_neg, y_shl, y_shr, y_le, y_lt, y_eq, y_sub, y_dv, y_rm, y_b0, y_b1, y_sdf, y_ltM, y_Mlt, y_leM, y_Mle, y_eqM, y_Meq, s_e1, s_e2, s_e3, s_e4, s_e5, s_e6, pf_57_4, gf_57_4, gO_57, m_roomHour hT hW, hr, hy, y_us, y_un, y_vs, y_vn, y_uu, y_vv, ne_eq, not_false_eq_true, not_true_eq_false]
    · obtain ⟨t, ht, rfl⟩ := rk_t (by omega) hy
      obtain ⟨f, e1⟩ := c_darkenedBy (r := r) (A := A) (Z := Z) (B := B) (Q := Q) (P := P) (F := F) (c := c) H hW hL hLm (by omega) ht
      obtain ⟨g, e2⟩ := m_outBy (r := r) (A := upA A 21 f) (Z := upA Z 18 (nI 0)) (B := oB B (Int32.toInt64 (nI (dkb tt lk lh r t)))) (Q := Q) (P := P) (F := F) (q := q) (D := D) (c := c) hT hW hL (by omega) ht
      refine ME_r hI (v := nI (dkb tt lk lh r t)) (A1 := upA A 21 f) (Z1 := Z) (A2 := upA (upA A 21 f) 64 g) (Z2 := upA Z 18 (nI 0)) ?_ ?_ (oA2164 f g) hz (oZ18 _) rfl
      · simp (disch := omega) only [f_L_out, f_X11_out, if_true, if_false, Bool.false_eq_true, Bool.true_eq_false, y_lit, y_m1, nI_add, pk_mul, fa_and, fa_or, y_bs, if_pos, if_neg, y_shl, y_shr, y_le, y_lt, y_eq, y_sub, y_dv, y_rm, y_b0, y_b1, y_sdf, y_ltM, y_Mlt, y_leM, y_Mle, y_eqM, y_Meq, s_e1, s_e2, s_e3, s_e4, s_e5, s_e6, gO_0, c_checkRoom H, hr, c_checkHour, hy, e1, oB_st]
      · simp (disch := omega) only [f_X12_out, if_true, if_false, Bool.false_eq_true, Bool.true_eq_false, y_lit, y_m1, nI_add, pk_mul, fa_and, fa_or, y_bs, if_pos, if_neg, y_shl, y_shr, y_le, y_lt, y_eq, y_sub, y_dv, y_rm, y_b0, y_b1, y_sdf, y_ltM, y_Mlt, y_leM, y_Mle, y_eqM, y_Meq, s_e1, s_e2, s_e3, s_e4, s_e5, s_e6, pf_57_4, gf_57_4, gO_57, m_roomHour (A := upA A 21 f) hT hW, hr, hy, e2, y_us, y_un, y_vs, y_vn, y_uu, y_vv, ne_eq, not_false_eq_true, not_true_eq_false]
section Spare
variable {A : Nat → Nat → Int32} {Z : Nat → Int32} {B : Nat → Nat → Int64} {Q : Nat → Int64} {P : Nat → Option Nat} {F : Nat → Nat → Option Nat} {q : Nat} {D : List xC} {c : Nat × Nat} {K : Nat → Nat} {tt lk lh : Nat → Nat} {R i : Nat}
def spr (tt lk lh : Nat → Nat) (t : Nat) (n : Nat) : Nat := mk (fun r => (brn lh t).testBit r && decide (dkb tt lk lh r t = 0)) n
theorem c_spare (H : Hs K D q tt) (hW : HWf tt) (hL : LWf tt lk lh) (hLm : Lam (A 13) (A 14) lk lh) {t : Nat} (ht : t < 24) : ∃ f, f_X11_spare_18 xFU (HH A Z B Q P F q D c) 0 (nI t) (nI (brn lh t)) (nI 0) (nI 0) = some (.inr (nI (spr tt lk lh t (tt 1)), HH (upA A 21 f) Z B Q P F q D c)) := by
  have hro := hW.ro
  have hS := brn_lt lh t
  have key := loop_J (F := fun n i (s : Int32 × xH) => f_X11_spare_18 n s.2 0 (nI t) (nI (brn lh t)) s.1 (nI i)) (N := tt 1) (fun s => some (.inr s)) (fun i s => ∃ f, s = (nI (spr tt lk lh t i), HH (upA A 21 f) Z B Q P F q D c)) (fun n i s hi hs => ?_) (fun n s hs => ?_) (by omega) (s := (nI 0, HH A Z B Q P F q D c)) ⟨A 21, by rw [y_ua]; rfl⟩
  · obtain ⟨r, e1, f, rfl⟩ := key
    exact ⟨f, e1⟩
  · obtain ⟨f, rfl⟩ := hs
    obtain ⟨g, e1⟩ := c_darkenedBy (r := i) (A := upA A 21 f) (Z := Z) (B := B) (Q := Q) (P := P) (F := F) (c := c) H hW hL hLm (by omega) ht
    rw [y_uu] at e1
    have e2 : spr tt lk lh t (i + 1) = spr tt lk lh t i ||| (if (brn lh t).testBit i && decide (dkb tt lk lh i t = 0) then 2 ^ i else 0) := rfl
    have hd : dkb tt lk lh i t < 65536 := dkb_lt hW i t
    rw [e2]
    cases hb : (brn lh t).testBit i
    · refine ⟨_, ?_, f, rfl⟩
      simp (disch := omega) only [f_X11_spare_18, if_true, if_false, Bool.false_eq_true, Bool.true_eq_false, y_lit, y_m1, nI_add, pk_mul, fa_and, fa_or, y_bs, if_pos, if_neg, y_shl, y_shr, y_le, y_lt, y_eq, y_sub, y_dv, y_rm, y_b0, y_b1, y_sdf, y_ltM, y_Mlt, y_leM, y_Mle, y_eqM, y_Meq, s_e1, s_e2, s_e3, s_e4, s_e5, s_e6, gf_0_4, hs_1 H, y_bit2, hb, Bool.false_and, Nat.or_zero]
    · by_cases hd2 : dkb tt lk lh i t = 0
      · refine ⟨_, ?_, g, rfl⟩
        simp (disch := omega) only [f_X11_spare_18, if_true, if_false, Bool.false_eq_true, Bool.true_eq_false, y_lit, y_m1, nI_add, pk_mul, fa_and, fa_or, y_bs, if_pos, if_neg, y_shl, y_shr, y_le, y_lt, y_eq, y_sub, y_dv, y_rm, y_b0, y_b1, y_sdf, y_ltM, y_Mlt, y_leM, y_Mle, y_eqM, y_Meq, s_e1, s_e2, s_e3, s_e4, s_e5, s_e6, gf_0_4, gO_0, hs_1 H, y_bit2, hb, Bool.true_and, e1, hd2, decide_true]
      · refine ⟨_, ?_, g, rfl⟩
        simp (disch := omega) only [f_X11_spare_18, if_true, if_false, Bool.false_eq_true, Bool.true_eq_false, y_lit, y_m1, nI_add, pk_mul, fa_and, fa_or, y_bs, if_pos, if_neg, y_shl, y_shr, y_le, y_lt, y_eq, y_sub, y_dv, y_rm, y_b0, y_b1, y_sdf, y_ltM, y_Mlt, y_leM, y_Mle, y_eqM, y_Meq, s_e1, s_e2, s_e3, s_e4, s_e5, s_e6, gf_0_4, gO_0, hs_1 H, y_bit2, hb, Bool.true_and, e1, hd2, decide_false, Nat.or_zero]
  · obtain ⟨f, rfl⟩ := hs
    simp (disch := omega) only [f_X11_spare_18, if_true, if_false, Bool.false_eq_true, Bool.true_eq_false, y_lit, y_m1, nI_add, pk_mul, fa_and, fa_or, y_bs, if_pos, if_neg, y_shl, y_shr, y_le, y_lt, y_eq, y_sub, y_dv, y_rm, y_b0, y_b1, y_sdf, y_ltM, y_Mlt, y_leM, y_Mle, y_eqM, y_Meq, s_e1, s_e2, s_e3, s_e4, s_e5, s_e6, gf_0_4, hs_1 H]
theorem m_spare (hT : Told (A 58) tt lk lh) (hW : HWf tt) (hL : LWf tt lk lh) {t : Nat} (ht : t < 24) : ∃ f, f_X12_spare_33 xFU (HH A Z B Q P F q D c) 57 (nI t) (nI 0) (nI (brn lh t)) (nI 0) = some (nI (spr tt lk lh t (tt 1)), HH (upA A 64 f) Z B Q P F q D c) := by
  have hro := hW.ro
  have hS := brn_lt lh t
  have key := loop_J (F := fun n i (s : Int32 × xH) => f_X12_spare_33 n s.2 57 (nI t) s.1 (nI (brn lh t)) (nI i)) (N := tt 1) some (fun i s => ∃ f, s = (nI (spr tt lk lh t i), HH (upA A 64 f) Z B Q P F q D c)) (fun n i s hi hs => ?_) (fun n s hs => ?_) (by omega) (s := (nI 0, HH A Z B Q P F q D c)) ⟨A 64, by rw [y_ua]; rfl⟩
  · obtain ⟨r, e1, f, rfl⟩ := key
    exact ⟨f, e1⟩
  · obtain ⟨f, rfl⟩ := hs
    have hT2 : Told (upA A 64 f 58) tt lk lh := hT
    obtain ⟨g, e1⟩ := m_outBy (r := i) (A := upA A 64 f) (Z := Z) (B := B) (Q := Q) (P := P) (F := F) (q := q) (D := D) (c := c) hT hW hL (by omega) ht
    rw [y_uu] at e1
    have e2 : spr tt lk lh t (i + 1) = spr tt lk lh t i ||| (if (brn lh t).testBit i && decide (dkb tt lk lh i t = 0) then 2 ^ i else 0) := rfl
    have hd : dkb tt lk lh i t < 65536 := dkb_lt hW i t
    rw [e2]
    cases hb : (brn lh t).testBit i
    · refine ⟨_, ?_, f, rfl⟩
      simp (disch := omega) only [f_X12_spare_33, f_X12_spare_69, f_X12_spare_70, if_true, if_false, Bool.false_eq_true, Bool.true_eq_false, y_lit, y_m1, nI_add, pk_mul, fa_and, fa_or, y_bs, if_pos, if_neg, y_shl, y_shr, y_le, y_lt, y_eq, y_sub, y_dv, y_rm, y_b0, y_b1, y_sdf, y_ltM, y_Mlt, y_leM, y_Mle, y_eqM, y_Meq, s_e1, s_e2, s_e3, s_e4, s_e5, s_e6, gO_57, m_rooms hT2, has_spec, hb, Bool.false_and, Nat.or_zero]
    · by_cases hd2 : dkb tt lk lh i t = 0
      · refine ⟨_, ?_, g, rfl⟩
        simp (disch := omega) only [f_X12_spare_33, f_X12_spare_69, f_X12_spare_70, if_true, if_false, Bool.false_eq_true, Bool.true_eq_false, y_lit, y_m1, nI_add, pk_mul, fa_and, fa_or, y_bs, if_pos, if_neg, y_shl, y_shr, y_le, y_lt, y_eq, y_sub, y_dv, y_rm, y_b0, y_b1, y_sdf, y_ltM, y_Mlt, y_leM, y_Mle, y_eqM, y_Meq, s_e1, s_e2, s_e3, s_e4, s_e5, s_e6, gO_57, m_rooms hT2, has_spec, hb, e1, hd2, Bool.true_and, decide_true]
      · refine ⟨_, ?_, g, rfl⟩
        simp (disch := omega) only [f_X12_spare_33, f_X12_spare_69, f_X12_spare_70, if_true, if_false, Bool.false_eq_true, Bool.true_eq_false, y_lit, y_m1, nI_add, pk_mul, fa_and, fa_or, y_bs, if_pos, if_neg, y_shl, y_shr, y_le, y_lt, y_eq, y_sub, y_dv, y_rm, y_b0, y_b1, y_sdf, y_ltM, y_Mlt, y_leM, y_Mle, y_eqM, y_Meq, s_e1, s_e2, s_e3, s_e4, s_e5, s_e6, gO_57, m_rooms hT2, has_spec, hb, e1, hd2, Bool.true_and, decide_false, Nat.or_zero]
  · obtain ⟨f, rfl⟩ := hs
    have hT2 : Told (upA A 64 f 58) tt lk lh := hT
    simp (disch := omega) only [f_X12_spare_33, if_true, if_false, Bool.false_eq_true, Bool.true_eq_false, y_lit, y_m1, nI_add, pk_mul, fa_and, fa_or, y_bs, if_pos, if_neg, y_shl, y_shr, y_le, y_lt, y_eq, y_sub, y_dv, y_rm, y_b0, y_b1, y_sdf, y_ltM, y_Mlt, y_leM, y_Mle, y_eqM, y_Meq, s_e1, s_e2, s_e3, s_e4, s_e5, s_e6, gO_57, m_rooms hT2]
def ang (tt lh : Nat → Nat) (t : Nat) (n : Nat) : Nat := mk (fun r => decide (brn lh t &&& nxt tt r &&& tt (432 + r) ≠ 0)) n
theorem and3_lt {a b d : Nat} (h : a < 65536) : a &&& b &&& d < 65536 := n_and_ltl (k := 16) (n_and_ltl (k := 16) h)
theorem c_angry (H : Hs K D q tt) (hW : HWf tt) (t : Nat) : f_X11_angry_18 (HH A Z B Q P F q D c) xFU 0 (nI (brn lh t)) (nI 0) (nI 0) = some (.inr (nI (ang tt lh t (tt 1)))) := by
  have hro := hW.ro
  refine loop0 (F := fun n i (s : Int32) => f_X11_angry_18 (HH A Z B Q P F q D c) n 0 (nI (brn lh t)) s (nI i)) (N := tt 1) (st := fun i => nI (ang tt lh t i)) (fun n i hi => ?_) (fun n => ?_) (by omega)
  · have hS := and3_lt (b := nxt tt i) (d := tt (432 + i)) (brn_lt lh t)
    have e : ang tt lh t (i + 1) = ang tt lh t i ||| (if decide (brn lh t &&& nxt tt i &&& tt (432 + i) ≠ 0) then 2 ^ i else 0) := rfl
    rw [e]
    by_cases h1 : brn lh t &&& nxt tt i &&& tt (432 + i) = 0 <;> simp (disch := omega) only [f_X11_angry_18, if_true, if_false, Bool.false_eq_true, Bool.true_eq_false, y_lit, y_m1, nI_add, pk_mul, fa_and, fa_or, y_bs, if_pos, if_neg, y_shl, y_shr, y_le, y_lt, y_eq, y_sub, y_dv, y_rm, y_b0, y_b1, y_sdf, y_ltM, y_Mlt, y_leM, y_Mle, y_eqM, y_Meq, s_e1, s_e2, s_e3, s_e4, s_e5, s_e6, gf_0_4, hs_1 H, hs_12 H, hs_13 H, hs_ne H, hs_ha H, h1, ne_eq, not_true_eq_false, not_false_eq_true, decide_true, decide_false, Nat.or_zero]
  · simp (disch := omega) only [f_X11_angry_18, if_true, if_false, Bool.false_eq_true, Bool.true_eq_false, y_lit, y_m1, nI_add, pk_mul, fa_and, fa_or, y_bs, if_pos, if_neg, y_shl, y_shr, y_le, y_lt, y_eq, y_sub, y_dv, y_rm, y_b0, y_b1, y_sdf, y_ltM, y_Mlt, y_leM, y_Mle, y_eqM, y_Meq, s_e1, s_e2, s_e3, s_e4, s_e5, s_e6, gf_0_4, hs_1 H]
theorem m_angry (hT : Told (A 58) tt lk lh) (hW : HWf tt) (hL : LWf tt lk lh) {t : Nat} (hs : ∀ r, r < tt 1 → A 64 r = nI (shn tt lk (brn lh t) r)) : f_X12_angry_27 xFU (HH A Z B Q P F q D c) 57 (nI 0) (nI 0) = some (nI (ang tt lh t (tt 1)), HH A Z B Q P F q D c) := by
  have hro := hW.ro
  have e3 := m_shining (A := A) (Z := Z) (B := B) (Q := Q) (P := P) (F := F) (q := q) (D := D) (c := c) hT hW hs (fun r _ => shn_le hW hL _ r)
  rw [shn_pos hW hL] at e3
  refine loop0 (F := fun n i (s : Int32) => f_X12_angry_27 n (HH A Z B Q P F q D c) 57 s (nI i)) (N := tt 1) (st := fun i => nI (ang tt lh t i)) (fun n i hi => ?_) (fun n => ?_) (by omega)
  · have hS := and3_lt (b := nxt tt i) (d := tt (432 + i)) (brn_lt lh t)
    have e : ang tt lh t (i + 1) = ang tt lh t i ||| (if decide (brn lh t &&& nxt tt i &&& tt (432 + i) ≠ 0) then 2 ^ i else 0) := rfl
    have e4 : nxt tt i &&& brn lh t &&& tt (432 + i) = brn lh t &&& nxt tt i &&& tt (432 + i) := by rw [Nat.and_comm (nxt tt i)]
    rw [e]
    by_cases h1 : brn lh t &&& nxt tt i &&& tt (432 + i) = 0 <;> simp (disch := omega) only [f_X12_angry_27, f_X12_angry_67, if_true, if_false, Bool.false_eq_true, Bool.true_eq_false, y_lit, y_m1, nI_add, pk_mul, fa_and, fa_or, y_bs, if_pos, if_neg, y_shl, y_shr, y_le, y_lt, y_eq, y_sub, y_dv, y_rm, y_b0, y_b1, y_sdf, y_ltM, y_Mlt, y_leM, y_Mle, y_eqM, y_Meq, s_e1, s_e2, s_e3, s_e4, s_e5, s_e6, gO_57, m_rooms hT, m_nextOf hT hW, e3, gf_57_0, ld_58, hT.1, e4, h1, ne_eq, not_true_eq_false, not_false_eq_true, decide_true, decide_false, Nat.or_zero]
  · simp (disch := omega) only [f_X12_angry_27, if_true, if_false, Bool.false_eq_true, Bool.true_eq_false, y_lit, y_m1, nI_add, pk_mul, fa_and, fa_or, y_bs, if_pos, if_neg, y_shl, y_shr, y_le, y_lt, y_eq, y_sub, y_dv, y_rm, y_b0, y_b1, y_sdf, y_ltM, y_Mlt, y_leM, y_Mle, y_eqM, y_Meq, s_e1, s_e2, s_e3, s_e4, s_e5, s_e6, gO_57, m_rooms hT]
end Spare
theorem ok_spare : ∀ x0, ME (fun h => f_L_spare h 0 x0 76) (fun h => f_X12_spare h 57 x0) := by
  intro y h i hJ hi
  obtain ⟨K, A, Z, B, Q, P, F, q, D, c, tt, lk, lh, R, rfl, hI⟩ := hJ
  have hz := hI.2.1.2.2.2
  obtain ⟨H, hW, hL, hT, hLm⟩ := hI.1
  have hro := hW.ro
  cases hy : rk y 24
  · refine ME_t hI (k := 1) (b := nI 0) (by decide) ?_ ?_ (oZ182 (nI 0) (nI 1)) rfl
    · unfold f_L_spare f_X11_spare
      generalize xFU = N
      simp (disch := omega) only [if_true, if_false, Bool.false_eq_true, Bool.true_eq_false, y_lit, y_m1, nI_add, pk_mul, fa_and, fa_or, y_bs, if_pos, if_neg, y_shl, y_shr, y_le, y_lt, y_eq, y_sub, y_dv, y_rm, y_b0, y_b1, y_sdf, y_ltM, y_Mlt, y_leM, y_Mle, y_eqM, y_Meq, s_e1, s_e2, s_e3, s_e4, s_e5, s_e6, gO_0, c_checkHour, hy]
    · unfold f_X12_spare
      generalize xFU = N
      simp (disch := omega) only [if_true, if_false, Bool.false_eq_true, Bool.true_eq_false, y_lit, y_m1, nI_add, pk_mul, fa_and, fa_or, y_bs, if_pos, if_neg, y_shl, y_shr, y_le, y_lt, y_eq, y_sub, y_dv, y_rm, y_b0, y_b1, y_sdf, y_ltM, y_Mlt, y_leM, y_Mle, y_eqM, y_Meq, s_e1, s_e2, s_e3, s_e4, s_e5, s_e6, pf_57_4, gO_57, m_isHour, hy, m_fails]
  · obtain ⟨t, ht, rfl⟩ := rk_t (by omega) hy
    obtain ⟨f, e1⟩ := c_spare (A := A) (Z := Z) (B := B) (Q := Q) (P := P) (F := F) (c := c) H hW hL hLm ht
    obtain ⟨g, e2, hg⟩ := m_layShine (A := upA A 21 f) (Z := upA Z 18 (nI 0)) (B := oB B (Int32.toInt64 (nI (spr tt lk lh t (tt 1))))) (Q := Q) (P := P) (F := F) (q := q) (D := D) (c := c) hT hW hL ht
    have e3 := m_shining (A := upA (upA A 21 f) 64 g) (Z := upA Z 18 (nI 0)) (B := oB B (Int32.toInt64 (nI (spr tt lk lh t (tt 1))))) (Q := Q) (P := P) (F := F) (q := q) (D := D) (c := c) hT hW (sh := shn tt lk (brn lh t)) hg (fun r _ => shn_le hW hL _ r)
    rw [shn_pos hW hL] at e3
    obtain ⟨g2, e4⟩ := m_spare (A := upA (upA A 21 f) 64 g) (Z := upA Z 18 (nI 0)) (B := oB B (Int32.toInt64 (nI (spr tt lk lh t (tt 1))))) (Q := Q) (P := P) (F := F) (q := q) (D := D) (c := c) hT hW hL ht
    rw [y_uu] at e4
    refine ME_r hI (v := nI (spr tt lk lh t (tt 1))) (A1 := upA A 21 f) (Z1 := Z) (A2 := upA (upA A 21 f) 64 g2) (Z2 := upA Z 18 (nI 0)) ?_ ?_ (oA2164 f g2) hz (oZ18 _) rfl
    · unfold f_L_spare f_X11_spare
      generalize xFU = N at e1 ⊢
      simp (disch := omega) only [if_true, if_false, Bool.false_eq_true, Bool.true_eq_false, y_lit, y_m1, nI_add, pk_mul, fa_and, fa_or, y_bs, if_pos, if_neg, y_shl, y_shr, y_le, y_lt, y_eq, y_sub, y_dv, y_rm, y_b0, y_b1, y_sdf, y_ltM, y_Mlt, y_leM, y_Mle, y_eqM, y_Meq, s_e1, s_e2, s_e3, s_e4, s_e5, s_e6, gO_0, c_checkHour, hy, gf_0_5, gO_12, c_burning hLm hL, e1, oB_st]
    · unfold f_X12_spare
      generalize xFU = N at e4 ⊢
      simp (disch := omega) only [if_true, if_false, Bool.false_eq_true, Bool.true_eq_false, y_lit, y_m1, nI_add, pk_mul, fa_and, fa_or, y_bs, if_pos, if_neg, y_shl, y_shr, y_le, y_lt, y_eq, y_sub, y_dv, y_rm, y_b0, y_b1, y_sdf, y_ltM, y_Mlt, y_leM, y_Mle, y_eqM, y_Meq, s_e1, s_e2, s_e3, s_e4, s_e5, s_e6, pf_57_4, gO_57, m_isHour, hy, e2, e3, e4]
theorem ok_angry : ∀ x0, ME (fun h => f_L_angry h 0 x0 76) (fun h => f_X12_angry h 57 x0) := by
  intro y h i hJ hi
  obtain ⟨K, A, Z, B, Q, P, F, q, D, c, tt, lk, lh, R, rfl, hI⟩ := hJ
  have hz := hI.2.1.2.2.2
  obtain ⟨H, hW, hL, hT, hLm⟩ := hI.1
  have hro := hW.ro
  cases hy : rk y 24
  · refine ME_t hI (k := 1) (b := nI 0) (by decide) ?_ ?_ (oZ182 (nI 0) (nI 1)) rfl
    · unfold f_L_angry f_X11_angry
      generalize xFU = N
      simp (disch := omega) only [if_true, if_false, Bool.false_eq_true, Bool.true_eq_false, y_lit, y_m1, nI_add, pk_mul, fa_and, fa_or, y_bs, if_pos, if_neg, y_shl, y_shr, y_le, y_lt, y_eq, y_sub, y_dv, y_rm, y_b0, y_b1, y_sdf, y_ltM, y_Mlt, y_leM, y_Mle, y_eqM, y_Meq, s_e1, s_e2, s_e3, s_e4, s_e5, s_e6, gO_0, c_checkHour, hy]
    · unfold f_X12_angry
      generalize xFU = N
      simp (disch := omega) only [if_true, if_false, Bool.false_eq_true, Bool.true_eq_false, y_lit, y_m1, nI_add, pk_mul, fa_and, fa_or, y_bs, if_pos, if_neg, y_shl, y_shr, y_le, y_lt, y_eq, y_sub, y_dv, y_rm, y_b0, y_b1, y_sdf, y_ltM, y_Mlt, y_leM, y_Mle, y_eqM, y_Meq, s_e1, s_e2, s_e3, s_e4, s_e5, s_e6, pf_57_4, gO_57, m_isHour, hy, m_fails]
  · obtain ⟨t, ht, rfl⟩ := rk_t (by omega) hy
    have e1 := c_angry (A := A) (Z := Z) (B := B) (Q := Q) (P := P) (F := F) (c := c) (lh := lh) H hW t
    obtain ⟨g, e2, hg⟩ := m_layShine (A := A) (Z := upA Z 18 (nI 0)) (B := oB B (Int32.toInt64 (nI (ang tt lh t (tt 1))))) (Q := Q) (P := P) (F := F) (q := q) (D := D) (c := c) hT hW hL ht
    have e4 := m_angry (A := upA A 64 g) (Z := upA Z 18 (nI 0)) (B := oB B (Int32.toInt64 (nI (ang tt lh t (tt 1))))) (Q := Q) (P := P) (F := F) (q := q) (D := D) (c := c) hT hW hL hg
    refine ME_r hI (v := nI (ang tt lh t (tt 1))) (A1 := A) (Z1 := Z) (A2 := upA A 64 g) (Z2 := upA Z 18 (nI 0)) ?_ ?_ (oA64 g) hz (oZ18 _) rfl
    · unfold f_L_angry f_X11_angry
      generalize xFU = N at e1 ⊢
      simp (disch := omega) only [if_true, if_false, Bool.false_eq_true, Bool.true_eq_false, y_lit, y_m1, nI_add, pk_mul, fa_and, fa_or, y_bs, if_pos, if_neg, y_shl, y_shr, y_le, y_lt, y_eq, y_sub, y_dv, y_rm, y_b0, y_b1, y_sdf, y_ltM, y_Mlt, y_leM, y_Mle, y_eqM, y_Meq, s_e1, s_e2, s_e3, s_e4, s_e5, s_e6, gO_0, c_checkHour, hy, gf_0_5, gO_12, c_burning hLm hL, e1, oB_st]
    · unfold f_X12_angry
      generalize xFU = N at e4 ⊢
      simp (disch := omega) only [if_true, if_false, Bool.false_eq_true, Bool.true_eq_false, y_lit, y_m1, nI_add, pk_mul, fa_and, fa_or, y_bs, if_pos, if_neg, y_shl, y_shr, y_le, y_lt, y_eq, y_sub, y_dv, y_rm, y_b0, y_b1, y_sdf, y_ltM, y_Mlt, y_leM, y_Mle, y_eqM, y_Meq, s_e1, s_e2, s_e3, s_e4, s_e5, s_e6, pf_57_4, gO_57, m_isHour, hy, e2, e4]
