/-! ===== light, by, dark, judge, out, spare, angry ===== -/
section Dark
variable {A : Nat → Nat → Int32} {Z : Nat → Int32} {B : Nat → Nat → Int64} {Q : Nat → Int64} {P : Nat → Option Nat} {F : Nat → Nat → Option Nat} {q : Nat} {D : List xC} {c : Nat × Nat} {K : Nat → Nat} {tt lk lh : Nat → Nat} {R i : Nat}
theorem brn_bit {lh : Nat → Nat} {t r : Nat} (hr : r < 16) : (brn lh t).testBit r = (lh r).testBit t := by
  unfold brn
  rw [mk_bit]
  simp [hr]
theorem m_layShine (hT : Told (A 58) tt lk lh) (hW : HWf tt) (hL : LWf tt lk lh) {t : Nat} (ht : t < 24) : ∃ f, f_X12_layShine (HH A Z B Q P F q D c) 57 (nI t) = some (HH (upA A 64 f) Z B Q P F q D c) ∧ ∀ r, r < tt 1 → f r = nI (shn tt lk (brn lh t) r) := by
  have hro := hW.ro
  have hki := hW.ki
  unfold f_X12_layShine
  have key := loop_J (F := fun n i (s : xH) => f_X12_layShine_2 n s 57 (nI t) (nI i)) (N := tt 1) some (fun i s => ∃ f, s = HH (upA A 64 f) Z B Q P F q D c ∧ ∀ r, r < i → f r = nI (shn tt lk (brn lh t) r)) (fun n i s hi hs => ?_) (fun n s hs => ?_) (by omega) (s := HH A Z B Q P F q D c) ⟨A 64, by rw [y_ua], fun r hr => by omega⟩
  · obtain ⟨s, e1, f, e2, hf⟩ := key
    exact ⟨f, by rw [← e2]; exact e1, hf⟩
  · obtain ⟨f, rfl, hf⟩ := hs
    have hT2 : Told (upA A 64 f 58) tt lk lh := hT
    obtain ⟨l1, l2, l3, l4⟩ := hL i
    refine ⟨HH (upA A 64 (va_up f i (nI (shn tt lk (brn lh t) i)))) Z B Q P F q D c, ?_, _, rfl, fun r hr => ?_⟩
    · unfold shn brt
      rw [brn_bit (by omega)]
      cases hk : lk i with
      | zero =>
        have e0 : A 58 (448 + 2 * i) = nM := by rw [hT.2.1 i (by omega), hk]; rfl
        simp (disch := omega) only [f_X12_layShine_2, f_X12_layShine_69, f_X12_layShine_70, if_true, if_false, Bool.false_eq_true, Bool.true_eq_false, y_lit, y_m1, nI_add, pk_mul, fa_and, fa_or, y_bs, if_pos, if_neg, y_shl, y_shr, y_le, y_lt, y_eq, y_sub, y_dv, y_rm, y_b0, y_b1, y_sdf, y_ltM, y_Mlt, y_leM, y_Mle, y_eqM, y_Meq, s_e1, s_e2, s_e3, s_e4, s_e5, s_e6, gO_57, m_rooms hT2, gf_57_0, gf_57_17, ld_58, e0, st_64, y_us, y_un, y_vs, y_vn, y_uu, y_vv, ne_eq, not_false_eq_true, not_true_eq_false, ite_self]
      | succ k =>
        have e0 : A 58 (448 + 2 * i) = nI k := by rw [hT.2.1 i (by omega), hk, kv_s]
        have e1 : A 58 (448 + 2 * i + 1) = nI (lh i) := hT.2.2 i (by omega)
        cases hb : (lh i).testBit t
        · simp (disch := omega) only [f_X12_layShine_2, f_X12_layShine_69, f_X12_layShine_70, if_true, if_false, Bool.false_eq_true, Bool.true_eq_false, y_lit, y_m1, nI_add, pk_mul, fa_and, fa_or, y_bs, if_pos, if_neg, y_shl, y_shr, y_le, y_lt, y_eq, y_sub, y_dv, y_rm, y_b0, y_b1, y_sdf, y_ltM, y_Mlt, y_leM, y_Mle, y_eqM, y_Meq, s_e1, s_e2, s_e3, s_e4, s_e5, s_e6, gO_57, m_rooms hT2, gf_57_0, gf_57_17, ld_58, e0, e1, has_spec, hb, st_64, y_us, y_un, y_vs, y_vn, y_uu, y_vv, ne_eq, not_false_eq_true, not_true_eq_false]
        · simp (disch := omega) only [f_X12_layShine_2, f_X12_layShine_69, f_X12_layShine_70, if_true, if_false, Bool.false_eq_true, Bool.true_eq_false, y_lit, y_m1, nI_add, pk_mul, fa_and, fa_or, y_bs, if_pos, if_neg, y_shl, y_shr, y_le, y_lt, y_eq, y_sub, y_dv, y_rm, y_b0, y_b1, y_sdf, y_ltM, y_Mlt, y_leM, y_Mle, y_eqM, y_Meq, s_e1, s_e2, s_e3, s_e4, s_e5, s_e6, gO_57, m_rooms hT2, gf_57_0, gf_57_17, ld_58, e0, e1, has_spec, hb, st_64, y_us, y_un, y_vs, y_vn, y_uu, y_vv, ne_eq, not_false_eq_true, not_true_eq_false, hT.1, Nat.add_sub_cancel]
    · by_cases e : r = i
      · subst e
        rw [y_vs]
      · rw [y_vn e]
        exact hf r (by omega)
  · obtain ⟨f, rfl, hf⟩ := hs
    have hT2 : Told (upA A 64 f 58) tt lk lh := hT
    simp (disch := omega) only [f_X12_layShine_2, if_true, if_false, Bool.false_eq_true, Bool.true_eq_false, y_lit, y_m1, nI_add, pk_mul, fa_and, fa_or, y_bs, if_pos, if_neg, y_shl, y_shr, y_le, y_lt, y_eq, y_sub, y_dv, y_rm, y_b0, y_b1, y_sdf, y_ltM, y_Mlt, y_leM, y_Mle, y_eqM, y_Meq, s_e1, s_e2, s_e3, s_e4, s_e5, s_e6, gO_57, m_rooms hT2]
theorem m_shining (hT : Told (A 58) tt lk lh) (hW : HWf tt) {sh : Nat → Nat} (hs : ∀ r, r < tt 1 → A 64 r = nI (sh r)) (hb : ∀ r, r < tt 1 → sh r ≤ 999) : f_X12_shining (HH A Z B Q P F q D c) 57 = some (nI (mk (fun r => decide (0 < sh r)) (tt 1))) := by
  have hro := hW.ro
  refine loop0 (F := fun n i (s : Int32) => f_X12_shining_4 (HH A Z B Q P F q D c) n 57 s (nI i)) (N := tt 1) (st := fun i => nI (mk (fun r => decide (0 < sh r)) i)) (fun n i hi => ?_) (fun n => ?_) (by omega)
  · have h2 := hb i hi
    rw [mk_step]
    by_cases h1 : 0 < sh i <;> simp (disch := omega) only [f_X12_shining_4, f_X12_shining_29, if_true, if_false, Bool.false_eq_true, Bool.true_eq_false, y_lit, y_m1, nI_add, pk_mul, fa_and, fa_or, y_bs, if_pos, if_neg, y_shl, y_shr, y_le, y_lt, y_eq, y_sub, y_dv, y_rm, y_b0, y_b1, y_sdf, y_ltM, y_Mlt, y_leM, y_Mle, y_eqM, y_Meq, s_e1, s_e2, s_e3, s_e4, s_e5, s_e6, gO_57, m_rooms hT, gf_57_17, ld_64, hs, h1, decide_true, decide_false, Nat.or_zero]
  · simp (disch := omega) only [f_X12_shining_4, if_true, if_false, Bool.false_eq_true, Bool.true_eq_false, y_lit, y_m1, nI_add, pk_mul, fa_and, fa_or, y_bs, if_pos, if_neg, y_shl, y_shr, y_le, y_lt, y_eq, y_sub, y_dv, y_rm, y_b0, y_b1, y_sdf, y_ltM, y_Mlt, y_leM, y_Mle, y_eqM, y_Meq, s_e1, s_e2, s_e3, s_e4, s_e5, s_e6, gO_57, m_rooms hT]
/-- burning, as the reference sees it -/
theorem shn_pos (hW : HWf tt) (hL : LWf tt lk lh) (t : Nat) : mk (fun r => decide (0 < shn tt lk (brn lh t) r)) (tt 1) = brn lh t := by
  have hro := hW.ro
  apply n_ext
  intro r
  unfold brn
  rw [mk_bit, mk_bit]
  obtain ⟨l1, l2, l3, l4⟩ := hL r
  by_cases hr : r < tt 1
  · have hr2 : r < 16 := by omega
    simp only [hr, hr2, decide_true, Bool.true_and]
    unfold shn brt
    rw [mk_bit]
    simp only [hr2, decide_true, Bool.true_and]
    cases hb : (lh r).testBit t
    · simp
    · have hk : lk r ≠ 0 := fun e => by rw [l3 e, Nat.zero_testBit] at hb; cases hb
      have := (hW.kind (i := lk r - 1) (by omega)).1
      simp [hk]
      omega
  · have e1 : lh r = 0 := l3 (l4 (by omega))
    simp [hr, e1]
theorem c_darkRooms (H : Hs K D q tt) (hW : HWf tt) (hL : LWf tt lk lh) (hLm : Lam (A 13) (A 14) lk lh) {S t : Nat} (hS : S < 65536) (ht : t < 24) : ∃ f, f_X11_darkRooms (HH A Z B Q P F q D c) 0 (nI t) (nI S) = some (nI (drk tt (Lsum tt (shn tt lk S)) t), HH (upA A 21 f) Z B Q P F q D c) := by
  obtain ⟨f, e1, hf⟩ := c_shineInto (q' := q) (A := A) (Z := Z) (B := B) (Q := Q) (P := P) (F := F) (c := c) H hW hL hLm hS
  have hb := fun r => Lsum_le hW (fun r (_ : r < tt 1) => shn_le hW hL S r) r (Nat.le_refl (tt 2))
  have e2 := c_notRight (A := upA A 21 f) (Z := Z) (B := B) (Q := Q) (P := P) (F := F) (q' := q) (c := c) H hW (L := Lsum tt (shn tt lk S)) hf hb ht
  refine ⟨f, ?_⟩
  unfold f_X11_darkRooms
  rw [gf_0_4, Option.bind_some, gf_0_11, Option.bind_some, gf_0_5, Option.bind_some, gf_12_0, Option.bind_some, hs_gO H, Option.bind_some, e1, Option.bind_some, gf_0_4, Option.bind_some, gf_0_11, Option.bind_some, hs_gO H, Option.bind_some, e2, Option.bind_some]
theorem m_darkIn (hT : Told (A 58) tt lk lh) (hW : HWf tt) (hL : LWf tt lk lh) {t : Nat} (ht : t < 24) : ∃ f, f_X12_darkIn (HH A Z B Q P F q D c) 57 (nI t) = some (nI (drk tt (Lsum tt (shn tt lk (brn lh t))) t), HH (upA A 64 f) Z B Q P F q D c) ∧ ∀ r, r < tt 1 → f r = nI (shn tt lk (brn lh t) r) := by
  obtain ⟨f, e1, hf⟩ := m_layShine (A := A) (Z := Z) (B := B) (Q := Q) (P := P) (F := F) (q := q) (D := D) (c := c) hT hW hL ht
  have e2 := m_darkBy (A := upA A 64 f) (Z := Z) (B := B) (Q := Q) (P := P) (F := F) (q := q) (D := D) (c := c) hT hW (sh := shn tt lk (brn lh t)) hf (fun r _ => shn_le hW hL _ r) ht
  refine ⟨f, ?_, hf⟩
  unfold f_X12_darkIn
  rw [gO_57, Option.bind_some, e1, Option.bind_some, gO_57, Option.bind_some, e2, Option.bind_some]
end Dark
