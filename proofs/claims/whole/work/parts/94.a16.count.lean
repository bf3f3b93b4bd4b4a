/-! ===== count, oil ===== -/
section Cnt
variable {A : Nat → Nat → Int32} {Z : Nat → Int32} {B : Nat → Nat → Int64} {Q : Nat → Int64} {P : Nat → Option Nat} {F : Nat → Nat → Option Nat} {q : Nat} {D : List xC} {c : Nat × Nat} {K : Nat → Nat} {tt lk lh : Nat → Nat} {R i : Nat}
def hng (lk : Nat → Nat) (n : Nat) : Nat := fb_ct (fun r => decide (lk r ≠ 0)) n
theorem kv_M {l : Nat} (h : l < 1000) : (kv l = nM) = (l = 0) := propext (kv_none h)
theorem c_hanging (hW : HWf tt) (hL : LWf tt lk lh) (hLm : Lam (A 13) (A 14) lk lh) : f_X5_hanging (HH A Z B Q P F q D c) 12 = some (nI (hng lk 16)) := by
  have hki := hW.ki
  refine loop0 (F := fun n i (s : Int32) => f_X5_hanging_4 (HH A Z B Q P F q D c) n 12 s (nI i)) (N := 16) (st := fun i => nI (hng lk i)) (fun n i hi => ?_) (fun n => ?_) (by omega)
  · have h1 := (hL i).1
    have e : hng lk (i + 1) = hng lk i + (if decide (lk i ≠ 0) then 1 else 0) := rfl
    rw [e]
    by_cases h2 : lk i = 0 <;> simp (disch := omega) only [f_X5_hanging_4, f_X5_hanging_26, if_true, if_false, Bool.false_eq_true, Bool.true_eq_false, y_lit, y_m1, nI_add, pk_mul, fa_and, fa_or, y_bs, if_pos, if_neg, y_shl, y_shr, y_le, y_lt, y_eq, y_sub, y_dv, y_rm, y_b0, y_b1, y_sdf, y_ltM, y_Mlt, y_leM, y_Mle, y_eqM, y_Meq, s_e1, s_e2, s_e3, s_e4, s_e5, s_e6, gf_12_0, ld_13, (hLm i hi).1, kv_M, h2, ne_eq, not_true_eq_false, not_false_eq_true, decide_true, decide_false]
  · simp (disch := omega) only [f_X5_hanging_4, if_true, if_false, Bool.false_eq_true, Bool.true_eq_false, y_lit, y_m1, nI_add, pk_mul, fa_and, fa_or, y_bs, if_pos, if_neg, y_shl, y_shr, y_le, y_lt, y_eq, y_sub, y_dv, y_rm, y_b0, y_b1, y_sdf, y_ltM, y_Mlt, y_leM, y_Mle, y_eqM, y_Meq, s_e1, s_e2, s_e3, s_e4, s_e5, s_e6]
theorem hng_16 (hW : HWf tt) (hL : LWf tt lk lh) : hng lk 16 = hng lk (tt 1) := fb_ct_top hW.ro (fun r h1 _ => decide_eq_false (fun h => h ((hL r).2.2.2 h1)))
theorem m_count_9 (hT : Told (A 58) tt lk lh) (hW : HWf tt) (hL : LWf tt lk lh) (x : Int32) : f_X12_count_9 xFU (HH A Z B Q P F q D c) 57 x (nI 0) (nI 0) = some (if rk x 7 = true then nI (tt x.toNatClampNeg) else if x = nI 7 then nI (hng lk (tt 1)) else if x = nI 8 then Z 19 else nM, HH A Z B Q P F q D c) := by
  have hro := hW.ro
  have hki := hW.ki
  refine loop0 (F := fun n i (s : Int32) => f_X12_count_9 n (HH A Z B Q P F q D c) 57 x s (nI i)) (N := tt 1) (st := fun i => nI (hng lk i)) (fun n i hi => ?_) (fun n => ?_) (by omega)
  · have h1 := (hL i).1
    have e : hng lk (i + 1) = hng lk i + (if decide (lk i ≠ 0) then 1 else 0) := rfl
    rw [e]
    by_cases h2 : lk i = 0 <;> simp (disch := omega) only [f_X12_count_9, f_X12_count_39, if_true, if_false, Bool.false_eq_true, Bool.true_eq_false, y_lit, y_m1, nI_add, pk_mul, fa_and, fa_or, y_bs, if_pos, if_neg, y_shl, y_shr, y_le, y_lt, y_eq, y_sub, y_dv, y_rm, y_b0, y_b1, y_sdf, y_ltM, y_Mlt, y_leM, y_Mle, y_eqM, y_Meq, s_e1, s_e2, s_e3, s_e4, s_e5, s_e6, gO_57, m_rooms hT, gf_57_0, ld_58, hT.2.1, kv_M, h2, ne_eq, not_true_eq_false, not_false_eq_true, decide_true, decide_false]
  · cases hr : rk x 7
    · by_cases h7 : x = nI 7
      · subst h7
        simp (disch := omega) only [f_X12_count_9, y_lit, y_m1, Option.bind_some, if_true, if_false, if_pos, y_le, y_eq, gO_57, m_rooms hT, m_w7, hr, Bool.false_eq_true]
      · by_cases h8 : x = nI 8
        · subst h8
          simp (disch := omega) only [f_X12_count_9, y_lit, y_m1, Option.bind_some, if_true, if_false, if_pos, y_le, y_eq, gO_57, m_rooms hT, m_w7, hr, Bool.false_eq_true, gf_57_6, if_neg]
        · simp (disch := omega) only [f_X12_count_9, y_lit, y_m1, Option.bind_some, if_true, if_false, if_pos, y_le, y_eq, gO_57, m_rooms hT, m_w7, hr, Bool.false_eq_true, h7, h8]
    · obtain ⟨k, hk, rfl⟩ := rk_t (by omega) hr
      simp (disch := omega) only [f_X12_count_9, if_true, if_false, Bool.false_eq_true, Bool.true_eq_false, y_lit, y_m1, nI_add, pk_mul, fa_and, fa_or, y_bs, if_pos, if_neg, y_shl, y_shr, y_le, y_lt, y_eq, y_sub, y_dv, y_rm, y_b0, y_b1, y_sdf, y_ltM, y_Mlt, y_leM, y_Mle, y_eqM, y_Meq, s_e1, s_e2, s_e3, s_e4, s_e5, s_e6, gO_57, m_rooms hT, m_w7, hr, gf_57_0, ld_58, hT.1, nI_clamp]
def oilv (tt lk : Nat → Nat) (r : Nat) : Nat := if lk r = 0 then 0 else tt (248 + 2 * (lk r - 1) + 1)
def oils (tt lk lh : Nat → Nat) (n : Nat) : Nat := fb_sm (fun r => oilv tt lk r * pc (lh r)) n
theorem c_oilOf (H : Hs K D q tt) (hW : HWf tt) (hL : LWf tt lk lh) {q' : Nat} (r : Nat) : f_X3_oilOf (HH A Z B Q P F q' D c) q (kv (lk r)) = some (nI (oilv tt lk r)) := by
  have h1 := (hL r).1
  have h2 := hW.ki
  unfold oilv
  cases hk : lk r with
  | zero =>
    unfold f_X3_oilOf
    rw [if_pos (by decide), if_pos rfl]
    rfl
  | succ k =>
    rw [kv_s, if_neg (by omega)]
    simp (disch := omega) only [f_X3_oilOf, if_true, if_false, Bool.false_eq_true, Bool.true_eq_false, y_lit, y_m1, nI_add, pk_mul, fa_and, fa_or, y_bs, if_pos, if_neg, y_shl, y_shr, y_le, y_lt, y_eq, y_sub, y_dv, y_rm, y_b0, y_b1, y_sdf, y_ltM, y_Mlt, y_leM, y_Mle, y_eqM, y_Meq, s_e1, s_e2, s_e3, s_e4, s_e5, s_e6, hs_4 H, hs_8 H, hs_k1 H, Nat.add_sub_cancel]
theorem c_oil (H : Hs K D q tt) (hW : HWf tt) (hL : LWf tt lk lh) (hLm : Lam (A 13) (A 14) lk lh) : f_X11_oil (HH A Z B Q P F q D c) 0 = some (nI (oils tt lk lh (tt 1))) := by
  have hro := hW.ro
  refine loop0 (F := fun n i (s : Int32) => f_X11_oil_4 (HH A Z B Q P F q D c) n 0 s (nI i)) (N := tt 1) (st := fun i => nI (oils tt lk lh i)) (fun n i hi => ?_) (fun n => ?_) (by omega)
  · have h1 := (hL i).2.1
    have e : oils tt lk lh (i + 1) = oils tt lk lh i + oilv tt lk i * pc (lh i) := rfl
    rw [e]
    simp (disch := omega) only [f_X11_oil_4, if_true, if_false, Bool.false_eq_true, Bool.true_eq_false, y_lit, y_m1, nI_add, pk_mul, fa_and, fa_or, y_bs, if_pos, if_neg, y_shl, y_shr, y_le, y_lt, y_eq, y_sub, y_dv, y_rm, y_b0, y_b1, y_sdf, y_ltM, y_Mlt, y_leM, y_Mle, y_eqM, y_Meq, s_e1, s_e2, s_e3, s_e4, s_e5, s_e6, gf_0_4, gf_0_5, gf_12_0, gf_12_1, hs_1 H, hs_gO H, ld_13, ld_14, (hLm i (by omega)).1, (hLm i (by omega)).2, c_oilOf H hW hL, bitCount_spec]
  · simp (disch := omega) only [f_X11_oil_4, if_true, if_false, Bool.false_eq_true, Bool.true_eq_false, y_lit, y_m1, nI_add, pk_mul, fa_and, fa_or, y_bs, if_pos, if_neg, y_shl, y_shr, y_le, y_lt, y_eq, y_sub, y_dv, y_rm, y_b0, y_b1, y_sdf, y_ltM, y_Mlt, y_leM, y_Mle, y_eqM, y_Meq, s_e1, s_e2, s_e3, s_e4, s_e5, s_e6, gf_0_4, hs_1 H]
theorem m_oil (hT : Told (A 58) tt lk lh) (hW : HWf tt) (hL : LWf tt lk lh) : f_X12_oil (HH A Z B Q P F q D c) 57 = some (nI (oils tt lk lh (tt 1)), HH A (upA Z 18 (nI 0)) B Q P F q D c) := by
  have hro := hW.ro
  have hki := hW.ki
  unfold f_X12_oil
  rw [pf_57_4, Option.bind_some]
  refine loop0 (F := fun n i (s : Int32) => f_X12_oil_9 n (HH A (upA Z 18 (nI 0)) B Q P F q D c) 57 s (nI i)) (N := tt 1) (st := fun i => nI (oils tt lk lh i)) (fun n i hi => ?_) (fun n => ?_) (by omega)
  · obtain ⟨l1, l2, l3, l4⟩ := hL i
    have e : oils tt lk lh (i + 1) = oils tt lk lh i + oilv tt lk i * pc (lh i) := rfl
    have eh : A 58 (448 + 2 * i + 1) = nI (lh i) := hT.2.2 i (by omega)
    rw [e]
    unfold oilv
    cases hk : lk i with
    | zero =>
      have e0 : A 58 (448 + 2 * i) = nM := by rw [hT.2.1 i (by omega), hk]; rfl
      simp (disch := omega) only [f_X12_oil_9, if_true, if_false, Bool.false_eq_true, Bool.true_eq_false, y_lit, y_m1, nI_add, pk_mul, fa_and, fa_or, y_bs, if_pos, if_neg, y_shl, y_shr, y_le, y_lt, y_eq, y_sub, y_dv, y_rm, y_b0, y_b1, y_sdf, y_ltM, y_Mlt, y_leM, y_Mle, y_eqM, y_Meq, s_e1, s_e2, s_e3, s_e4, s_e5, s_e6, gO_57, m_rooms hT, gf_57_0, ld_58, e0, Nat.zero_mul, Nat.add_zero]
    | succ k =>
      have e0 : A 58 (448 + 2 * i) = nI k := by rw [hT.2.1 i (by omega), hk, kv_s]
      simp (disch := omega) only [f_X12_oil_9, if_true, if_false, Bool.false_eq_true, Bool.true_eq_false, y_lit, y_m1, nI_add, pk_mul, fa_and, fa_or, y_bs, if_pos, if_neg, y_shl, y_shr, y_le, y_lt, y_eq, y_sub, y_dv, y_rm, y_b0, y_b1, y_sdf, y_ltM, y_Mlt, y_leM, y_Mle, y_eqM, y_Meq, s_e1, s_e2, s_e3, s_e4, s_e5, s_e6, gO_57, m_rooms hT, gf_57_0, ld_58, e0, eh, hT.1, ones_spec, Nat.add_sub_cancel]
  · simp (disch := omega) only [f_X12_oil_9, if_true, if_false, Bool.false_eq_true, Bool.true_eq_false, y_lit, y_m1, nI_add, pk_mul, fa_and, fa_or, y_bs, if_pos, if_neg, y_shl, y_shr, y_le, y_lt, y_eq, y_sub, y_dv, y_rm, y_b0, y_b1, y_sdf, y_ltM, y_Mlt, y_leM, y_Mle, y_eqM, y_Meq, s_e1, s_e2, s_e3, s_e4, s_e5, s_e6, gO_57, m_rooms hT]
end Cnt
theorem ok_oil : MP (fun h => f_X11_oil h 0) (fun h => f_X12_oil h 57) := by
  intro h i hJ hi
  obtain ⟨K, A, Z, B, Q, P, F, q, D, c, tt, lk, lh, R, rfl, hI⟩ := hJ
  obtain ⟨H, hW, hL, hT, hLm⟩ := hI.1
  exact ⟨_, _, c_oil H hW hL hLm, m_oil hT hW hL, JJ_q hI Only.rf hI.2.1.2.2.2 (oZ18 _) Only.rf (Nat.le_refl _) (by omega) (by omega)⟩
theorem ok_count : ∀ x0, MP (fun h => f_X11_count h 0 x0) (fun h => f_X12_count h 57 x0) := by
  intro x h i hJ hi
  obtain ⟨K, A, Z, B, Q, P, F, q, D, c, tt, lk, lh, R, rfl, hI⟩ := hJ
  obtain ⟨H, hW, hL, hT, hLm⟩ := hI.1
  obtain ⟨n, hn, t1, t2, t3⟩ := hI.2.1.2.1
  have e1 := m_count_9 (A := A) (Z := upA Z 18 (nI 0)) (B := B) (Q := Q) (P := P) (F := F) (q := q) (D := D) (c := c) hT hW hL x
  refine ⟨if rk x 7 = true then nI (tt x.toNatClampNeg) else if x = nI 7 then nI (hng lk (tt 1)) else if x = nI 8 then upA Z 18 (nI 0) 19 else nM, _, ?_, ?_, JJ_q hI Only.rf hI.2.1.2.2.2 (oZ18 (nI 0)) Only.rf (Nat.le_refl _) (by omega) (by omega)⟩
  rotate_left
  · show f_X12_count (HH A Z B Q P F q D c) 57 x = _
    unfold f_X12_count
    rw [pf_57_4, Option.bind_some]
    exact e1
  · show f_X11_count (HH A Z B Q P F q D c) 0 x = _
    unfold f_X11_count
    by_cases hc : Int32.toInt x < 0 ∨ 8 < Int32.toInt x
    · rw [if_pos hc]
      have hr : rk x 7 = false := by
        cases h : rk x 7
        · rfl
        · obtain ⟨k, hk, rfl⟩ := rk_t (by omega) h
          rw [nI_toInt (by omega)] at hc
          omega
      have h7 : ¬ x = nI 7 := fun e => by rw [e] at hc; revert hc; decide
      have h8 : ¬ x = nI 8 := fun e => by rw [e] at hc; revert hc; decide
      rw [hr, if_neg (by decide), if_neg h7, if_neg h8]
      rfl
    · rw [if_neg hc]
      obtain ⟨k, hk, rfl⟩ := nI_of (x := x) (by rw [fa_lt]; intro h; exact hc (Or.inl h))
      have hk9 : k < 9 := by
        rw [nI_toInt hk] at hc
        omega
      have e7 := c_hanging (A := A) (Z := Z) (B := B) (Q := Q) (P := P) (F := F) (q := q) (D := D) (c := c) hW hL hLm
      rw [hng_16 hW hL] at e7
      by_cases hk7 : k < 7
      · rw [if_pos (rk_k hk7 (by decide)), nI_clamp hk]
        have hc : k = 0 ∨ k = 1 ∨ k = 2 ∨ k = 3 ∨ k = 4 ∨ k = 5 ∨ k = 6 := by omega
        rcases hc with rfl | rfl | rfl | rfl | rfl | rfl | rfl <;> simp (disch := omega) only [if_true, if_false, Bool.false_eq_true, Bool.true_eq_false, y_lit, y_m1, nI_add, pk_mul, fa_and, fa_or, y_bs, if_pos, if_neg, y_shl, y_shr, y_le, y_lt, y_eq, y_sub, y_dv, y_rm, y_b0, y_b1, y_sdf, y_ltM, y_Mlt, y_leM, y_Mle, y_eqM, y_Meq, s_e1, s_e2, s_e3, s_e4, s_e5, s_e6, gf_0_4, hs_0 H, hs_1 H, hs_2 H, hs_3 H, hs_4 H, hs_5 H, hs_6 H]
      · have hc : k = 7 ∨ k = 8 := by omega
        rcases hc with rfl | rfl
        · have h0 : rk (nI 7) 7 = false := by decide
          simp (disch := omega) only [if_true, if_false, Bool.false_eq_true, Bool.true_eq_false, y_lit, y_m1, nI_add, pk_mul, fa_and, fa_or, y_bs, if_pos, if_neg, y_shl, y_shr, y_le, y_lt, y_eq, y_sub, y_dv, y_rm, y_b0, y_b1, y_sdf, y_ltM, y_Mlt, y_leM, y_Mle, y_eqM, y_Meq, s_e1, s_e2, s_e3, s_e4, s_e5, s_e6, gf_0_5, gO_12, e7, h0]
        · have h0 : rk (nI 8) 7 = false := by decide
          have e9 : upA Z 18 (nI 0) 19 = nI n := t2
          simp (disch := omega) only [if_true, if_false, Bool.false_eq_true, Bool.true_eq_false, y_lit, y_m1, nI_add, pk_mul, fa_and, fa_or, y_bs, if_pos, if_neg, y_shl, y_shr, y_le, y_lt, y_eq, y_sub, y_dv, y_rm, y_b0, y_b1, y_sdf, y_ltM, y_Mlt, y_leM, y_Mle, y_eqM, y_Meq, s_e1, s_e2, s_e3, s_e4, s_e5, s_e6, gf_0_1, h0, e9, t1]
