section Cost2
variable {A : Nat → Nat → Int32} {Z : Nat → Int32} {B : Nat → Nat → Int64} {Q : Nat → Int64} {P : Nat → Option Nat} {F : Nat → Nat → Option Nat} {q : Nat} {D : List xC} {c : Nat × Nat} {K : Nat → Nat} {tt lk lh : Nat → Nat} {R i : Nat}
theorem sq_le {g bn : Nat → Nat} {d i lit bu best : Nat} (hd : d ≤ 999) (hb : best ≤ 64000) : sq g bn d i lit bu best ≤ 64000 := by
  rw [sq_ok]
  have h1 := opt_hi (g := g) (bn := bn) (d := d) i lit bu
  have h2 : d * pc (lit ||| orf g i) ≤ 999 * 64 := Nat.mul_le_mul hd (pc_le _)
  omega
theorem c_tseek (H : Hs K D q tt) (hW : HWf tt) {g : Nat → Nat} (hg : ∀ r, g r < 65536) (h54 : ∀ r, r < tt 1 → A 54 r = nI (g r)) (h55 : ∀ r, r ≤ tt 1 → A 55 r = nI (orf g r)) : ∀ (i m lit bu best : Nat), i ≤ tt 1 → i < m → lit < 65536 → bu + 100 * i ≤ 1700 → best ≤ 64000 → f_X9_seek m (HH A (upA Z 17 (nI best)) B Q P F q D c) 53 q (nI i) (nI lit) (nI bu) = some (HH A (upA Z 17 (nI (sq g (bur tt) (tt 6) i lit bu best))) B Q P F q D c) := by
  intro i
  have hro := hW.ro
  have hde := hW.de
  have hd : ∀ x, tt 6 * pc x ≤ 999 * 64 := fun x => Nat.mul_le_mul hde (pc_le x)
  induction i with
  | zero =>
    intro m lit bu best hi hm hlit hbu hb
    obtain ⟨m, rfl⟩ : ∃ k, m = k + 1 := ⟨m - 1, by omega⟩
    have d1 := hd lit
    rw [sq]
    simp (disch := omega) only [f_X9_seek, if_true, if_false, Bool.false_eq_true, Bool.true_eq_false, y_lit, y_m1, nI_add, pk_mul, fa_and, fa_or, y_bs, if_pos, if_neg, y_shl, y_shr, y_le, y_lt, y_eq, y_sub, y_dv, y_rm, y_b0, y_b1, y_sdf, y_ltM, y_Mlt, y_leM, y_Mle, y_eqM, y_Meq, s_e1, s_e2, s_e3, s_e4, s_e5, s_e6, hs_2 H, gf_53_2, bitCount_spec, pf_53_2, y_us, y_un, y_vs, y_vn, y_uu, y_vv, ne_eq, not_false_eq_true, not_true_eq_false, y_lts, y_max, Nat.le_refl]
  | succ i ih =>
    intro m lit bu best hi hm hlit hbu hb
    obtain ⟨m, rfl⟩ : ∃ k, m = k + 1 := ⟨m - 1, by omega⟩
    have d1 := hd lit
    have d2 := hd (lit ||| orf g (i + 1))
    have d3 := hd (sdf (g i) lit)
    have ho : orf g (i + 1) < 65536 := orf_lt16 hg _
    have l2 : lit ||| orf g (i + 1) < 65536 := n_or_lt (k := 16) hlit ho
    have l3 : sdf (g i) lit < 65536 := sdf_lt (k := 16) (hg i)
    have l4 : lit ||| sdf (g i) lit < 65536 := n_or_lt (k := 16) hlit l3
    have hgi := hg i
    have a1 := h54 i (by omega)
    have a2 := h55 (i + 1) hi
    have hbi := hW.burn (r := i) (by omega)
    have ebi : bur tt i = tt (416 + i) := rfl
    rw [sq]
    generalize hb1 : max best (tt 6 * pc lit - bu) = b1
    have hb1' : b1 ≤ 64000 := by omega
    by_cases e : tt 6 * pc (lit ||| orf g (i + 1)) - bu ≤ b1
    · rw [if_pos e]
      simp (disch := omega) only [f_X9_seek, if_true, if_false, Bool.false_eq_true, Bool.true_eq_false, y_lit, y_m1, nI_add, pk_mul, fa_and, fa_or, y_bs, if_pos, if_neg, y_shl, y_shr, y_le, y_lt, y_eq, y_sub, y_dv, y_rm, y_b0, y_b1, y_sdf, y_ltM, y_Mlt, y_leM, y_Mle, y_eqM, y_Meq, s_e1, s_e2, s_e3, s_e4, s_e5, s_e6, hs_2 H, gf_53_2, bitCount_spec, pf_53_2, y_us, y_un, y_vs, y_vn, y_uu, y_vv, ne_eq, not_false_eq_true, not_true_eq_false, y_lts, y_max, hb1, gf_53_1, ld_55, a2]
    · rw [if_neg e]
      by_cases e2 : bur tt i < tt 6 * pc (sdf (g i) lit)
      · rw [if_pos e2]
        have hi1 := ih m (lit ||| sdf (g i) lit) (bu + bur tt i) b1 (by omega) (by omega) l4 (by omega) hb1'
        have hi2 := ih m lit bu (sq g (bur tt) (tt 6) i (lit ||| sdf (g i) lit) (bu + bur tt i) b1) (by omega) (by omega) hlit (by omega) (sq_le hde hb1')
        rw [ebi] at e2 hi1 hi2 ⊢
        simp (disch := omega) only [f_X9_seek, f_X9_seek_112, if_true, if_false, Bool.false_eq_true, Bool.true_eq_false, y_lit, y_m1, nI_add, pk_mul, fa_and, fa_or, y_bs, if_pos, if_neg, y_shl, y_shr, y_le, y_lt, y_eq, y_sub, y_dv, y_rm, y_b0, y_b1, y_sdf, y_ltM, y_Mlt, y_leM, y_Mle, y_eqM, y_Meq, s_e1, s_e2, s_e3, s_e4, s_e5, s_e6, hs_2 H, gf_53_2, bitCount_spec, pf_53_2, y_us, y_un, y_vs, y_vn, y_uu, y_vv, ne_eq, not_false_eq_true, not_true_eq_false, y_lts, y_max, hb1, gf_53_1, ld_55, a2, gf_53_0, ld_54, a1, hs_11 H, hs_bu H, Nat.add_sub_cancel, hi1, hi2]
      · rw [if_neg e2]
        have hi2 := ih m lit bu b1 (by omega) (by omega) hlit (by omega) hb1'
        rw [ebi] at e2
        simp (disch := omega) only [f_X9_seek, f_X9_seek_112, if_true, if_false, Bool.false_eq_true, Bool.true_eq_false, y_lit, y_m1, nI_add, pk_mul, fa_and, fa_or, y_bs, if_pos, if_neg, y_shl, y_shr, y_le, y_lt, y_eq, y_sub, y_dv, y_rm, y_b0, y_b1, y_sdf, y_ltM, y_Mlt, y_leM, y_Mle, y_eqM, y_Meq, s_e1, s_e2, s_e3, s_e4, s_e5, s_e6, hs_2 H, gf_53_2, bitCount_spec, pf_53_2, y_us, y_un, y_vs, y_vn, y_uu, y_vv, ne_eq, not_false_eq_true, not_true_eq_false, y_lts, y_max, hb1, gf_53_1, ld_55, a2, gf_53_0, ld_54, a1, hs_11 H, hs_bu H, Nat.add_sub_cancel, hi2]
theorem gvs_lt (hW : HWf tt) (s r : Nat) : gvs tt s r < 65536 := by
  unfold gvs
  split
  · exact n_and_ltl (k := 16) (ltt_lt16 hW r)
  · decide
theorem c_savingOf (H : Hs K D q tt) (hW : HWf tt) (hz : A 55 0 = 0) {s : Nat} (hs : s < 2 ^ tt 1) : ∃ A', f_X9_savingOf (HH A Z B Q P F q D c) 53 q (nI s) = some (nI (sav tt s), HH A' (upA Z 17 (nI (sav tt s))) B Q P F q D c) ∧ Only [54, 55] A A' ∧ A' 55 0 = 0 := by
  have hro := hW.ro
  have hpw := pw16 hro
  have key := loop_I (F := fun n j (h : xH) => f_X9_savingOf_7 n h 53 q (nI s) (nI j)) (N := tt 1) some (fun j h => ∃ A', h = HH A' (upA Z 17 (nI 0)) B Q P F q D c ∧ Only [54, 55] A A' ∧ (∀ r, r < j → A' 54 r = nI (gvs tt s r)) ∧ ∀ r, r ≤ j → A' 55 r = nI (orf (gvs tt s) r)) (fun r => ∃ A', r = (nI (sav tt s), HH A' (upA Z 17 (nI (sav tt s))) B Q P F q D c) ∧ Only [54, 55] A A' ∧ A' 55 0 = 0) (fun n j h hj hh => Or.inl ?_) (fun n h hh => ?_) (by omega) (s := HH A (upA Z 17 (nI 0)) B Q P F q D c) ⟨A, rfl, Only.rf, fun r hr => by omega, fun r hr => by
    have : r = 0 := by omega
    subst this
    exact hz⟩
  · obtain ⟨r, e1, A', rfl, h1, h2⟩ := key
    refine ⟨A', ?_, h1, h2⟩
    unfold f_X9_savingOf
    rw [show (0 : Int32) = nI 0 from rfl, pf_53_2, Option.bind_some]
    exact e1
  · obtain ⟨A', rfl, h1, h2, h3⟩ := hh
    have a1 := h3 j (Nat.le_refl _)
    refine ⟨_, ?_, upA (upA A' 54 (va_up (A' 54) j (nI (gvs tt s j)))) 55 (va_up (A' 55) (j + 1) (nI (orf (gvs tt s) (j + 1)))), rfl, (h1.up (by decide)).up (by decide), fun r hr => ?_, fun r hr => ?_⟩
    · rw [orf]
      unfold gvs at *
      cases hb : s.testBit j
      · simp (disch := omega) only [f_X9_savingOf_7, f_X9_savingOf_40, if_true, if_false, Bool.false_eq_true, Bool.true_eq_false, y_lit, y_m1, nI_add, pk_mul, fa_and, fa_or, y_bs, if_pos, if_neg, y_shl, y_shr, y_le, y_lt, y_eq, y_sub, y_dv, y_rm, y_b0, y_b1, y_sdf, y_ltM, y_Mlt, y_leM, y_Mle, y_eqM, y_Meq, s_e1, s_e2, s_e3, s_e4, s_e5, s_e6, hs_1 H, gf_53_0, gf_53_1, hb, st_54, ld_55, ld_54, st_55, y_us, y_un, y_vs, y_vn, y_uu, y_vv, ne_eq, not_false_eq_true, not_true_eq_false, a1]
      · simp (disch := omega) only [f_X9_savingOf_7, f_X9_savingOf_40, if_true, if_false, Bool.false_eq_true, Bool.true_eq_false, y_lit, y_m1, nI_add, pk_mul, fa_and, fa_or, y_bs, if_pos, if_neg, y_shl, y_shr, y_le, y_lt, y_eq, y_sub, y_dv, y_rm, y_b0, y_b1, y_sdf, y_ltM, y_Mlt, y_leM, y_Mle, y_eqM, y_Meq, s_e1, s_e2, s_e3, s_e4, s_e5, s_e6, hs_1 H, gf_53_0, gf_53_1, hb, hs_14 H, hs_li H, st_54, ld_55, ld_54, st_55, y_us, y_un, y_vs, y_vn, y_uu, y_vv, ne_eq, not_false_eq_true, not_true_eq_false, a1]
    · rw [y_un (by decide), y_us]
      by_cases e : r = j
      · subst e; rw [y_vs]
      · rw [y_vn e]; exact h2 r (by omega)
    · rw [y_us]
      by_cases e : r = j + 1
      · subst e; rw [y_vs]
      · rw [y_vn e]; exact h3 r (by omega)
  · obtain ⟨A', rfl, h1, h2, h3⟩ := hh
    have e1 := c_tseek (A := A') (Z := Z) (B := B) (Q := Q) (P := P) (F := F) (c := c) H hW (gvs_lt hW s) h2 h3 (tt 1) 40 0 0 0 (Nat.le_refl _) (by omega) (by decide) (by omega) (by decide)
    rw [sq_ok, Nat.zero_max, sav_opt hW hs] at e1
    refine ⟨_, ?_, A', rfl, h1, h3 0 (Nat.zero_le _)⟩
    rw [f_X9_savingOf_7, hs_1 H, Option.bind_some, if_pos (by rw [y_le (by omega) (by omega)]; exact Nat.le_refl _), Option.bind_some, show (0 : Int32) = nI 0 from rfl, e1, Option.bind_some, gf_53_2, Option.bind_some, y_us]
end Cost2
theorem Zro_ten {A A' : Nat → Nat → Int32} (hz : Zro A) (h : Only [54, 55] A A') (h0 : A' 55 0 = 0) : Zro A' := by
  obtain ⟨v1, v2, v3, v4, v5, v6⟩ := hz
  refine ⟨?_, ?_, ?_, ?_, h0, fun k hk => ?_⟩
  · rw [h 24 (by decide)]; exact v1
  · rw [h 25 (by decide)]; exact v2
  · rw [h 26 (by decide)]; exact v3
  · rw [h 36 (by decide)]; exact v4
  · rw [h 35 (by decide)]; exact v6 k hk
theorem oTen {A A' : Nat → Nat → Int32} (h : Only [54, 55] A A') (f : Nat → Int32) : Only SA A (upA A' 63 f) := (h.mono (by decide)).up (by decide)
theorem oZ17 {Z : Nat → Int32} (x y : Int32) : Only SZ Z (upA (upA Z 17 x) 18 y) := (Only.rf.up (by decide)).up (by decide)
theorem cst_le {tt : Nat → Nat} (s : Nat) : cst tt s ≤ tt 6 * pc s := minf_top _
theorem ok_cost : ∀ x0, ME (fun h => f_L_cost h 0 x0 76) (fun h => f_X12_cost h 57 x0) := by
  intro x h i hJ hi
  obtain ⟨K, A, Z, B, Q, P, F, q, D, c, tt, lk, lh, R, rfl, hI⟩ := hJ
  have hz := hI.2.1.2.2.2
  obtain ⟨H, hW, hL, hT, hLm⟩ := hI.1
  have hro := hW.ro
  have hpw := pw16 hro
  cases hr : rk x (2 ^ tt 1)
  · refine ME_t hI (k := 1) (b := nI 0) (by decide) ?_ ?_ (oZ18 (nI 1)) rfl
    · simp (disch := omega) only [f_L_cost, f_X11_cost, if_true, if_false, Bool.false_eq_true, Bool.true_eq_false, y_lit, y_m1, nI_add, pk_mul, fa_and, fa_or, y_bs, if_pos, if_neg, y_shl, y_shr, y_le, y_lt, y_eq, y_sub, y_dv, y_rm, y_b0, y_b1, y_sdf, y_ltM, y_Mlt, y_leM, y_Mle, y_eqM, y_Meq, s_e1, s_e2, s_e3, s_e4, s_e5, s_e6, gO_0, c_checkSet H hW, hr]
    · simp (disch := omega) only [f_X12_cost, f_X12_cost_14, if_true, if_false, Bool.false_eq_true, Bool.true_eq_false, y_lit, y_m1, nI_add, pk_mul, fa_and, fa_or, y_bs, if_pos, if_neg, y_shl, y_shr, y_le, y_lt, y_eq, y_sub, y_dv, y_rm, y_b0, y_b1, y_sdf, y_ltM, y_Mlt, y_leM, y_Mle, y_eqM, y_Meq, s_e1, s_e2, s_e3, s_e4, s_e5, s_e6, pf_57_4, gf_57_4, gO_57, m_isSet hT hW, hr, y_us, y_un, y_vs, y_vn, y_uu, y_vv, ne_eq, not_false_eq_true, not_true_eq_false]
  · obtain ⟨s, hs, rfl⟩ := rk_t (by omega) hr
    obtain ⟨A', e1, h1, h2⟩ := c_savingOf (A := A) (Z := Z) (B := B) (Q := Q) (P := P) (F := F) (c := c) H hW hz.2.2.2.2.1 hs
    have hT' : Told (A' 58) tt lk lh := by rw [h1 58 (by decide)]; exact hT
    obtain ⟨f, e2, hf⟩ := m_layNexts (A := A') (Z := upA (upA Z 17 (nI (sav tt s))) 18 (nI 0)) (B := oB B (Int32.toInt64 (nI (cst tt s)))) (Q := Q) (P := P) (F := F) (q := q) (D := D) (c := c) hT' hW
    have e3 := m_costOf (A := upA A' 63 f) (Z := upA (upA Z 17 (nI (sav tt s))) 18 (nI 0)) (B := oB B (Int32.toInt64 (nI (cst tt s)))) (Q := Q) (P := P) (F := F) (q := q) (D := D) (c := c) hT' hW hf hs
    have hcs := cst_le (tt := tt) s
    have hsv : tt 6 * pc s - sav tt s = cst tt s := by unfold sav; omega
    have hsl : sav tt s ≤ tt 6 * pc s := by unfold sav; omega
    refine ME_r hI (v := nI (cst tt s)) (A1 := A') (Z1 := upA Z 17 (nI (sav tt s))) (A2 := upA A' 63 f) (Z2 := upA (upA Z 17 (nI (sav tt s))) 18 (nI 0)) ?_ ?_ (oTen h1 f) (show Zro A' from Zro_ten hz h1 h2) (oZ17 _ _) rfl
    · show f_L_cost (HH A Z B Q P F q D c) 0 (nI s) 76 = _
      unfold f_L_cost f_X11_cost
      rw [gO_0, Option.bind_some, Option.bind_some, c_checkSet H hW, Option.bind_some, hr, if_pos rfl]
      dsimp only
      rw [gf_0_4, Option.bind_some, hs_2 H, Option.bind_some, bitCount_spec _ (by omega), Option.bind_some, gf_0_16, Option.bind_some, Option.bind_some, gO_53, Option.bind_some, e1, Option.bind_some, Option.bind_some]
      dsimp only
      rw [pk_mul, y_sub hsl, hsv, show (0 : Int32) = nI 0 from rfl, oB_st, Option.bind_some]
    · simp (disch := omega) only [f_X12_cost, f_X12_cost_14, if_true, if_false, Bool.false_eq_true, Bool.true_eq_false, y_lit, y_m1, nI_add, pk_mul, fa_and, fa_or, y_bs, if_pos, if_neg, y_shl, y_shr, y_le, y_lt, y_eq, y_sub, y_dv, y_rm, y_b0, y_b1, y_sdf, y_ltM, y_Mlt, y_leM, y_Mle, y_eqM, y_Meq, s_e1, s_e2, s_e3, s_e4, s_e5, s_e6, pf_57_4, gf_57_4, gO_57, m_isSet hT' hW, hr, y_us, y_un, y_vs, y_vn, y_uu, y_vv, ne_eq, not_false_eq_true, not_true_eq_false, e2, e3]
