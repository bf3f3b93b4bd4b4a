/-! ===== cost ===== -/
theorem y_lts {b x y : Nat} (hb : b < 1000000) (hx : x < 1000000) (hy : y < 1000000) : (nI b < nI x - nI y) = (b < x - y) := by
  by_cases h : y ≤ x
  · rw [y_sub h, y_lt (by omega) (by omega)]
  · refine propext ⟨fun hl => ?_, fun hl => by omega⟩
    have e1 : (nI x).toInt = x := nI_toInt (by omega)
    have e2 : (nI y).toInt = y := nI_toInt (by omega)
    have e4 : (nI b).toInt = b := nI_toInt (by omega)
    have e3 := Int32.lt_iff_toInt_lt.mp hl
    rw [fb_subI (by rw [e1, e2]; omega) (by rw [e1, e2]; omega), e1, e2, e4] at e3
    omega
theorem y_mxs {b x y : Nat} : (if b < x - y then nI x - nI y else nI b) = nI (max b (x - y)) := by
  by_cases h : b < x - y
  · rw [if_pos h, y_sub (by omega), Nat.max_eq_right (by omega)]
  · rw [if_neg h, Nat.max_eq_left (by omega)]
theorem sub_next : ∀ (l s l' : Nat), l &&& s = l → l' &&& s = l' → l' < l → l' ≤ (l - 1) &&& s := by
  intro l
  induction l using Nat.strongRecOn with
  | _ l ih =>
    intro s l' h1 h2 h
    have d1 : (l / 2) &&& (s / 2) = l / 2 := by rw [← Nat.and_div_two, h1]
    have d2 : (l' / 2) &&& (s / 2) = l' / 2 := by rw [← Nat.and_div_two, h2]
    have m2 : (l' % 2) &&& (s % 2) = l' % 2 := by
      have := Nat.and_mod_two_pow (a := l') (b := s) (n := 1)
      rw [h2] at this
      exact this.symm
    have q1 : ((l - 1) &&& s) / 2 = ((l - 1) / 2) &&& (s / 2) := Nat.and_div_two
    have q2 : ((l - 1) &&& s) % 2 = ((l - 1) % 2) &&& (s % 2) := Nat.and_mod_two_pow (a := l - 1) (b := s) (n := 1)
    rcases Nat.mod_two_eq_zero_or_one l with e | e
    · have e1 : (l - 1) / 2 = l / 2 - 1 := by omega
      have e2 : (l - 1) % 2 = 1 := by omega
      have hm : l' % 2 ≤ 1 &&& (s % 2) := by
        rw [← m2]
        rcases Nat.mod_two_eq_zero_or_one s with u | u <;> rcases Nat.mod_two_eq_zero_or_one l' with v | v <;> rw [u, v] <;> decide
      rw [e1] at q1
      rw [e2] at q2
      have := ih (l / 2) (by omega) (s / 2) (l' / 2) d1 d2 (by omega)
      omega
    · have e1 : (l - 1) / 2 = l / 2 := by omega
      rw [e1, d1] at q1
      omega
theorem oT_0 (g : Nat → Nat) : ∀ i, oT g 0 i = 0
  | 0 => rfl
  | i + 1 => by rw [oT_s, oT_0 g i, Nat.zero_testBit]; simp
theorem cva_0 {tt : Nat → Nat} (hW : HWf tt) {s : Nat} (hs : s < 2 ^ tt 1) : tt 6 * pc s ≤ cva tt s 0 := by
  have := cva_eq hW (l := 0) hs (Nat.zero_and s)
  rw [oT_0, pc_0] at this
  omega
theorem cst_eq {tt : Nat → Nat} (hW : HWf tt) {s r : Nat} (hs : s < 2 ^ tt 1) (h1 : r ≤ tt 6 * pc s) (h2 : ∀ l', l' &&& s = l' → l' ≠ 0 → l' ≤ s → r ≤ cva tt s l') (h3 : r = tt 6 * pc s ∨ ∃ l', l' &&& s = l' ∧ l' ≤ s ∧ r = cva tt s l') : r = cst tt s := by
  unfold cst
  apply Nat.le_antisymm
  · rcases minf_get (f := fun l => if l &&& s = l then cva tt s l else tt 6 * pc s) (top := tt 6 * pc s) (2 ^ tt 1) with h | ⟨l, hl, h⟩
    · rw [h]; exact h1
    · rw [h]
      by_cases e : l &&& s = l
      · rw [if_pos e]
        by_cases e0 : l = 0
        · subst e0
          exact Nat.le_trans h1 (cva_0 hW hs)
        · exact h2 l e e0 (by rw [← e]; exact Nat.and_le_right)
      · rw [if_neg e]; exact h1
  · rcases h3 with h | ⟨l, e, hl, h⟩
    · rw [h]; exact minf_top _
    · have := minf_le (f := fun l => if l &&& s = l then cva tt s l else tt 6 * pc s) (top := tt 6 * pc s) (i := l) (n := 2 ^ tt 1) (by omega)
      rw [if_pos e] at this
      rw [h]
      exact this
section Cost
variable {A : Nat → Nat → Int32} {Z : Nat → Int32} {B : Nat → Nat → Int64} {Q : Nat → Int64} {P : Nat → Option Nat} {F : Nat → Nat → Option Nat} {q : Nat} {D : List xC} {c : Nat × Nat} {K : Nat → Nat} {tt lk lh : Nat → Nat} {R i : Nat}
def cvt (tt : Nat → Nat) (s l r : Nat) : Nat := (if l.testBit r then tt (416 + r) else 0) + (if s.testBit r ∧ nxt tt r &&& l = 0 then tt 6 else 0)
theorem cvt_le (hW : HWf tt) {s l n : Nat} (hn : n ≤ 16) : fb_sm (cvt tt s l) n ≤ 20000 := by
  have := fb_sm_bound (f := cvt tt s l) (c := 1098) (n := n) (fun k hk => by
    have h1 := hW.burn (r := k) (by omega)
    have h2 := hW.de
    unfold cvt
    split <;> split <;> omega)
  omega
theorem mc_25 (hT : Told (A 58) tt lk lh) (hW : HWf tt) (hn : ∀ r, r < tt 1 → A 63 r = nI (nxt tt r)) (k15 : Nat → Int32 → Int32 → Int32 → Option Int32) {s l best : Nat} (hs : s < 65536) (hl : l < 65536) (h0 : 0 < l) (hb : best < 100000) : f_X12_costOf_25 (HH A Z B Q P F q D c) k15 xFU 57 (nI s) (nI best) (nI l) (nI 0) (nI 0) = k15 57 (nI s) (nI (min best (cva tt s l))) (nI ((l - 1) &&& s)) := by
  have hro := hW.ro
  refine loop0 (F := fun m j (x : Nat) => f_X12_costOf_25 (HH A Z B Q P F q D c) k15 m 57 (nI s) (nI best) (nI l) (nI x) (nI j)) (N := tt 1) (st := fun j => fb_sm (cvt tt s l) j) (fun m j hj => ?_) (fun m => ?_) (by omega)
  · have l1 : nxt tt j &&& l < 65536 := n_and_ltl (k := 16) (nxt_lt16 hW j)
    have b1 := cvt_le hW (s := s) (l := l) (n := j) (by omega)
    have hnj := hn j hj
    rw [fb_sm_succ]
    generalize fb_sm (cvt tt s l) j = x at *
    unfold cvt
    cases e1 : l.testBit j <;> cases e2 : s.testBit j
    · simp (disch := omega) only [f_X12_costOf_25, f_X12_costOf_59, if_true, if_false, Bool.false_eq_true, Bool.true_eq_false, y_lit, y_m1, nI_add, pk_mul, fa_and, fa_or, y_bs, if_pos, if_neg, y_shl, y_shr, y_le, y_lt, y_eq, y_sub, y_dv, y_rm, y_b0, y_b1, y_sdf, y_ltM, y_Mlt, y_leM, y_Mle, y_eqM, y_Meq, s_e1, s_e2, s_e3, s_e4, s_e5, s_e6, gO_57, m_rooms hT, has_spec, e1, e2, false_and, Nat.add_zero, Nat.zero_add]
    · by_cases e3 : nxt tt j &&& l = 0
      · simp (disch := omega) only [f_X12_costOf_25, f_X12_costOf_59, if_true, if_false, Bool.false_eq_true, Bool.true_eq_false, y_lit, y_m1, nI_add, pk_mul, fa_and, fa_or, y_bs, if_pos, if_neg, y_shl, y_shr, y_le, y_lt, y_eq, y_sub, y_dv, y_rm, y_b0, y_b1, y_sdf, y_ltM, y_Mlt, y_leM, y_Mle, y_eqM, y_Meq, s_e1, s_e2, s_e3, s_e4, s_e5, s_e6, gO_57, m_rooms hT, has_spec, e1, e2, gf_57_16, ld_63, hnj, e3, gf_57_0, ld_58, hT.1, true_and, Nat.add_zero, Nat.zero_add]
      · simp (disch := omega) only [f_X12_costOf_25, f_X12_costOf_59, if_true, if_false, Bool.false_eq_true, Bool.true_eq_false, y_lit, y_m1, nI_add, pk_mul, fa_and, fa_or, y_bs, if_pos, if_neg, y_shl, y_shr, y_le, y_lt, y_eq, y_sub, y_dv, y_rm, y_b0, y_b1, y_sdf, y_ltM, y_Mlt, y_leM, y_Mle, y_eqM, y_Meq, s_e1, s_e2, s_e3, s_e4, s_e5, s_e6, gO_57, m_rooms hT, has_spec, e1, e2, gf_57_16, ld_63, hnj, e3, gf_57_0, ld_58, hT.1, true_and, Nat.add_zero, Nat.zero_add]
    · simp (disch := omega) only [f_X12_costOf_25, f_X12_costOf_59, if_true, if_false, Bool.false_eq_true, Bool.true_eq_false, y_lit, y_m1, nI_add, pk_mul, fa_and, fa_or, y_bs, if_pos, if_neg, y_shl, y_shr, y_le, y_lt, y_eq, y_sub, y_dv, y_rm, y_b0, y_b1, y_sdf, y_ltM, y_Mlt, y_leM, y_Mle, y_eqM, y_Meq, s_e1, s_e2, s_e3, s_e4, s_e5, s_e6, gO_57, m_rooms hT, has_spec, e1, e2, gf_57_0, ld_58, hT.1, false_and, Nat.add_zero, Nat.zero_add]
    · by_cases e3 : nxt tt j &&& l = 0
      · simp (disch := omega) only [f_X12_costOf_25, f_X12_costOf_59, if_true, if_false, Bool.false_eq_true, Bool.true_eq_false, y_lit, y_m1, nI_add, pk_mul, fa_and, fa_or, y_bs, if_pos, if_neg, y_shl, y_shr, y_le, y_lt, y_eq, y_sub, y_dv, y_rm, y_b0, y_b1, y_sdf, y_ltM, y_Mlt, y_leM, y_Mle, y_eqM, y_Meq, s_e1, s_e2, s_e3, s_e4, s_e5, s_e6, gO_57, m_rooms hT, has_spec, e1, e2, gf_57_16, ld_63, hnj, e3, gf_57_0, ld_58, hT.1, true_and, Nat.add_zero, Nat.zero_add, Nat.add_assoc]
      · simp (disch := omega) only [f_X12_costOf_25, f_X12_costOf_59, if_true, if_false, Bool.false_eq_true, Bool.true_eq_false, y_lit, y_m1, nI_add, pk_mul, fa_and, fa_or, y_bs, if_pos, if_neg, y_shl, y_shr, y_le, y_lt, y_eq, y_sub, y_dv, y_rm, y_b0, y_b1, y_sdf, y_ltM, y_Mlt, y_leM, y_Mle, y_eqM, y_Meq, s_e1, s_e2, s_e3, s_e4, s_e5, s_e6, gO_57, m_rooms hT, has_spec, e1, e2, gf_57_16, ld_63, hnj, e3, gf_57_0, ld_58, hT.1, true_and, Nat.add_zero, Nat.zero_add]
  · have b1 := cvt_le hW (s := s) (l := l) (n := tt 1) hro
    have ec : cva tt s l = fb_sm (cvt tt s l) (tt 1) := rfl
    rw [ec]
    generalize fb_sm (cvt tt s l) (tt 1) = x at *
    simp (disch := omega) only [f_X12_costOf_25, if_true, if_false, Bool.false_eq_true, Bool.true_eq_false, y_lit, y_m1, nI_add, pk_mul, fa_and, fa_or, y_bs, if_pos, if_neg, y_shl, y_shr, y_le, y_lt, y_eq, y_sub, y_dv, y_rm, y_b0, y_b1, y_sdf, y_ltM, y_Mlt, y_leM, y_Mle, y_eqM, y_Meq, s_e1, s_e2, s_e3, s_e4, s_e5, s_e6, gO_57, m_rooms hT, y_min]
theorem mc_15 (hT : Told (A 58) tt lk lh) (hW : HWf tt) (hn : ∀ r, r < tt 1 → A 63 r = nI (nxt tt r)) {s : Nat} (hs : s < 65536) : ∀ (l m best : Nat), l < m → l &&& s = l → best < 100000 → ∃ r, f_X12_costOf_15 (HH A Z B Q P F q D c) m 57 (nI s) (nI best) (nI l) = some (nI r) ∧ r ≤ best ∧ (∀ l', l' &&& s = l' → l' ≠ 0 → l' ≤ l → r ≤ cva tt s l') ∧ (r = best ∨ ∃ l', l' &&& s = l' ∧ l' ≤ l ∧ r = cva tt s l') := by
  intro l
  induction l using Nat.strongRecOn with
  | _ l ih =>
    intro m best hm hl hb
    obtain ⟨m, rfl⟩ : ∃ k, m = k + 1 := ⟨m - 1, by omega⟩
    have hl2 : l ≤ s := by rw [← hl]; exact Nat.and_le_right
    by_cases e : l = 0
    · subst e
      refine ⟨best, ?_, Nat.le_refl _, fun l' _ h1 h2 => absurd (Nat.le_zero.mp h2) h1, Or.inl rfl⟩
      rw [f_X12_costOf_15, if_pos (by decide)]
    · have hx : (l - 1) &&& s ≤ l - 1 := Nat.and_le_left
      obtain ⟨r, e1, h1, h2, h3⟩ := ih ((l - 1) &&& s) (by omega) m (min best (cva tt s l)) (by omega) (by rw [Nat.and_assoc, Nat.and_self]) (by omega)
      refine ⟨r, ?_, by omega, fun l' a1 a2 a3 => ?_, ?_⟩
      · rw [f_X12_costOf_15, if_neg (by show ¬ nI l ≤ nI 0; rw [y_le (by omega) (by omega)]; omega)]
        exact (mc_25 hT hW hn _ hs (by omega) (by omega) hb).trans e1
      · by_cases el : l' = l
        · subst el; omega
        · exact h2 l' a1 a2 (sub_next l s l' hl a1 (by omega))
      · rcases h3 with h3 | ⟨l', a1, a2, a3⟩
        · by_cases hle : best ≤ cva tt s l
          · left; omega
          · exact Or.inr ⟨l, hl, Nat.le_refl _, by omega⟩
        · exact Or.inr ⟨l', a1, by omega, a3⟩
theorem m_costOf (hT : Told (A 58) tt lk lh) (hW : HWf tt) (hn : ∀ r, r < tt 1 → A 63 r = nI (nxt tt r)) {s : Nat} (hs : s < 2 ^ tt 1) : f_X12_costOf (HH A Z B Q P F q D c) 57 (nI s) = some (nI (cst tt s)) := by
  have hro := hW.ro
  have hpw := pw16 hro
  have hde := hW.de
  have hp := pc_le s
  have hd : tt 6 * pc s ≤ 999 * 64 := Nat.mul_le_mul hde hp
  obtain ⟨r, e1, h1, h2, h3⟩ := mc_15 (Z := Z) (B := B) (Q := Q) (P := P) (F := F) (q := q) (D := D) (c := c) hT hW hn (s := s) (by omega) s xFU (tt 6 * pc s) (by unfold xFU; omega) (Nat.and_self s) (by omega)
  rw [← cst_eq hW hs h1 h2 h3]
  unfold f_X12_costOf
  rw [gf_57_0, Option.bind_some, show (6 : Int32) = nI 6 from rfl, ld_58 (by omega), Option.bind_some, hT.1 6 (by omega), ones_spec _ (by omega), Option.bind_some, pk_mul]
  exact e1
end Cost
