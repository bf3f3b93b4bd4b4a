/-! ===== hole, which ===== -/
def lth (tt : Nat → Nat) (i r : Nat) : Nat := (ltt tt r ||| (if r = tt (376 + 5 * i) then 2 ^ tt (376 + 5 * i + 1) else 0)) ||| (if tt (376 + 5 * i + 4) = 1 ∧ r = tt (376 + 5 * i + 1) then 2 ^ tt (376 + 5 * i) else 0)
def nxh (tt : Nat → Nat) (i r : Nat) : Nat := (nxt tt r ||| (if r = tt (376 + 5 * i + 1) then 2 ^ tt (376 + 5 * i) else 0)) ||| (if tt (376 + 5 * i + 4) = 1 ∧ r = tt (376 + 5 * i) then 2 ^ tt (376 + 5 * i + 1) else 0)
theorem lth_lt {tt : Nat → Nat} (hW : HWf tt) {i : Nat} (hi : i < tt 5) (r : Nat) : lth tt i r < 65536 := by
  obtain ⟨h1, h2, _⟩ := hW.hole hi
  have hro := hW.ro
  unfold lth
  refine n_or_lt (k := 16) (n_or_lt (k := 16) (ltt_lt16 hW r) ?_) ?_
  · split
    · exact n_pw (by omega)
    · decide
  · split
    · exact n_pw (by omega)
    · decide
theorem nxh_lt {tt : Nat → Nat} (hW : HWf tt) {i : Nat} (hi : i < tt 5) (r : Nat) : nxh tt i r < 2 ^ tt 1 := by
  obtain ⟨h1, h2, _⟩ := hW.hole hi
  unfold nxh
  refine n_or_lt (n_or_lt (nxt_lt hW r) ?_) ?_
  · split
    · exact n_pw h1
    · exact Nat.two_pow_pos _
  · split
    · exact n_pw h2
    · exact Nat.two_pow_pos _
theorem dual_hole {tt : Nat → Nat} (hW : HWf tt) {i : Nat} (hi : i < tt 5) : Dual (tt 1) (lth tt i) (nxh tt i) := by
  refine ⟨fun r x _ _ => ?_, fun x _ => nxh_lt hW hi x⟩
  unfold lth nxh
  rw [Nat.testBit_or, Nat.testBit_or, Nat.testBit_or, Nat.testBit_or, nxt_ltt, ite_bit, ite_bit, ite_bit, ite_bit]
  congr 1
  · congr 1
    exact decide_eq_decide.mpr ⟨fun h => ⟨h.2.symm, h.1.symm⟩, fun h => ⟨h.2.symm, h.1.symm⟩⟩
  · exact decide_eq_decide.mpr ⟨fun h => ⟨⟨h.1.1, h.2.symm⟩, h.1.2.symm⟩, fun h => ⟨⟨h.1.1, h.2.symm⟩, h.1.2.symm⟩⟩
/-- SAVES, as a number of the machine -/
def svs (now thn : Option Nat) : Int32 := match thn with
  | none => nI 0
  | some T => match now with
    | none => nI 100
    | some S => nI (pc S) - nI (pc T)
section Hole
variable {A : Nat → Nat → Int32} {Z : Nat → Int32} {B : Nat → Nat → Int64} {Q : Nat → Int64} {P : Nat → Option Nat} {F : Nat → Nat → Option Nat} {q : Nat} {D : List xC} {c : Nat × Nat} {K : Nat → Nat} {tt lk lh : Nat → Nat} {R i : Nat}
theorem nw_ld {g : Nat → Int32} {q' k n : Nat} (hk : k < n) (hn : n < 2147483648) : ldI (HH A Z B Q P F q' (D ++ [.inl (.int, n, .inl g)]) c) .int (77 + D.length) (nI k) = some (g k) := by
  have h : HC (D ++ [.inl (.int, n, .inl g)]) (77 + D.length) = some (.inl (.int, n, .inl g)) := HC_new (j := 0)
  exact ldI_nI (h := HH A Z B Q P F q' (D ++ [.inl (.int, n, .inl g)]) c) (HC_get h) hn hk
theorem nw_st {g : Nat → Int32} {q' k n : Nat} {v : Int32} (hk : k < n) (hn : n < 2147483648) : stI (HH A Z B Q P F q' (D ++ [.inl (.int, n, .inl g)]) c) .int (77 + D.length) (nI k) v = some (HH A Z B Q P F q' (D ++ [.inl (.int, n, .inl (va_up g k v))]) c) := by
  have h : HC (D ++ [.inl (.int, n, .inl g)]) (77 + D.length) = some (.inl (.int, n, .inl g)) := HC_new (j := 0)
  have h' := HC_get (A := A) (Z := Z) (B := B) (Q := Q) (P := P) (F := F) (q := q') h
  have e := stI_nI (h := HH A Z B Q P F q' (D ++ [Sum.inl (FieldType.int, n, Sum.inl g)]) c) (x := v) h' hn hk
  rw [e, LL_set (by omega), Nat.add_sub_cancel_left, List.set_append_right _ _ (by omega), Nat.sub_self]
  rfl
theorem c_litWithHole (H : Hs K D q tt) (hW : HWf tt) (hlen : 77 + D.length < 900000000) {i : Nat} (hi : i < tt 5) : ∃ g, f_X3_litWithHole (HH A Z B Q P F q D c) q (nI i) = some (77 + D.length, HH A Z B Q P F q (D ++ [.inl (.int, 16, .inl g)]) (c.1 + 1, c.2 + 16)) ∧ ∀ r, r < 16 → g r = nI (lth tt i r) := by
  have hro := hW.ro
  have hho := hW.ho
  obtain ⟨b1, b2, b3, b4, b5⟩ := hW.hole hi
  obtain ⟨f, hf, hf2⟩ := H.2.2.2.2.2.2.2.2.2.1
  have hl : (HH A Z B Q P F q D c).1.length = 77 + D.length := by
    show (LL A Z B Q P F q ++ D).length = _
    rw [List.length_append, LL_len]
  have ecl : clI (HH A Z B Q P F q D c) (q + 8) = some (HH A Z B Q P F q (D ++ [.inl (.int, 16, .inl f)]) (c.1 + 1, c.2 + 16)) := by
    unfold clI
    rw [gA_of (h := HH A Z B Q P F q D c) (HC_get hf)]
    show (if _ then _ else _) = _
    rw [if_pos ⟨rfl, by rw [hl]; show 77 + D.length < 1000000000; omega⟩]
    show some (_, _, _) = some (_, _, _)
    rw [List.append_assoc]
  have H2 : ∀ g, Hs K (D ++ [.inl (.int, 16, .inl g)]) q tt := fun g => Hs_app H
  unfold f_X3_litWithHole
  rw [hs_14 H, Option.bind_some, ecl, Option.bind_some, hs_10 (H2 f), Option.bind_some, show (5 : Int32) = nI 5 from rfl, pk_mul, hs_h0 (H2 f) (by omega), Option.bind_some, Option.bind_some, show (1 : Int32) = nI 1 from rfl, nI_add, hs_h1 (H2 f) (by omega), Option.bind_some, hl, nw_ld (by omega) (by decide), Option.bind_some, show (31 : Int32) = nI 31 from rfl, fa_and, y_shl (by omega), nw_st (by omega) (by decide), Option.bind_some, hs_10 (H2 _), Option.bind_some, show (4 : Int32) = nI 4 from rfl, nI_add, hs_h4 (H2 _) (by omega), Option.bind_some]
  by_cases hb : tt (376 + 5 * i + 4) = 1
  · refine ⟨va_up (va_up f (tt (376 + 5 * i)) (f (tt (376 + 5 * i)) ||| nI (2 ^ tt (376 + 5 * i + 1)))) (tt (376 + 5 * i + 1)) (f (tt (376 + 5 * i + 1)) ||| nI (2 ^ tt (376 + 5 * i))), ?_, fun r hr => ?_⟩
    · rw [if_pos (by rw [hb]), nw_ld (by omega) (by decide), Option.bind_some, fa_and, y_shl (by omega), nw_st (by omega) (by decide), Option.bind_some, y_vn (fun e => b3 e.symm)]
    · unfold lth
      by_cases e1 : r = tt (376 + 5 * i + 1)
      · subst e1
        rw [y_vs, hf2 _ hr, fa_or]
        have : ¬ tt (376 + 5 * i + 1) = tt (376 + 5 * i) := fun e => b3 e.symm
        simp [this, hb]
      · rw [y_vn e1]
        by_cases e2 : r = tt (376 + 5 * i)
        · subst e2
          rw [y_vs, hf2 _ hr, fa_or]
          simp [e1]
        · rw [y_vn e2, hf2 _ hr]
          simp [e1, e2]
  · refine ⟨va_up f (tt (376 + 5 * i)) (f (tt (376 + 5 * i)) ||| nI (2 ^ tt (376 + 5 * i + 1))), ?_, fun r hr => ?_⟩
    · rw [if_neg (by rw [y_eq (by omega) (by omega)]; exact hb)]
    · unfold lth
      by_cases e2 : r = tt (376 + 5 * i)
      · subst e2
        rw [y_vs, hf2 _ hr, fa_or]
        simp [hb]
      · rw [y_vn e2, hf2 _ hr]
        simp [hb, e2]
theorem c_savesByHole (H : Hs K D q tt) (hW : HWf tt) (hz : Zro A) (hlen : 77 + D.length < 900000000) {i : Nat} (hi : i < tt 5) {now : Option Nat} (hnow : ∀ S, now = some S → S < 65536) : ∃ A' x, f_X11_savesByHole (HH A Z B Q P F q D c) 0 (nI i) (eo now) = some (svs now (bst (fun S => litB (nxh tt i) (tt 1) S (2 ^ tt 1 - 1)) (2 ^ tt 1)), HH A' (upA Z 3 (nI (tt 1))) B Q P F q (D ++ [x]) (c.1 + 1, c.2 + 16)) ∧ Only [23, 24, 25, 26] A A' ∧ Zro A' := by
  have hro := hW.ro
  have hpw := pw16 hro
  have hpp := Nat.two_pow_pos (tt 1)
  obtain ⟨g, e1, hg⟩ := c_litWithHole (A := A) (Z := Z) (B := B) (Q := Q) (P := P) (F := F) (c := c) H hW hlen hi
  have H2 : Hs K (D ++ [.inl (.int, 16, .inl g)]) q tt := Hs_app H
  obtain ⟨A', e2, h1, h2⟩ := c_lay8 (A := A) (Z := Z) (B := B) (Q := Q) (P := P) (F := F) (q := q) (D := D ++ [.inl (.int, 16, .inl g)]) (c := (c.1 + 1, c.2 + 16)) (a := 77 + D.length) (al := 2 ^ tt 1 - 1) (lit := lth tt i) hro (by omega) (lth_lt hW hi) (fun A' Z' r hr => by rw [nw_ld (by omega) (by decide), hg r (by omega)]) hz.1 hz.2.1 hz.2.2.1
  obtain ⟨o, e3, h4⟩ := c_fewest (A := A') (Z := upA Z 3 (nI (tt 1))) (B := B) (Q := Q) (P := P) (F := F) (q := q) (D := D ++ [.inl (.int, 16, .inl g)]) (c := (c.1 + 1, c.2 + 16)) (one := 2 ^ tt 1 - 1) (two := 0) hro (msk_lt (lth_lt hW hi) _) h2 rfl (by omega) (by omega) (Nat.and_zero _)
  have ho : o = bst (fun S => litB (nxh tt i) (tt 1) S (2 ^ tt 1 - 1)) (2 ^ tt 1) := BestF_one (few_all (dual_hole hW hi) (by omega) h4) bst_best
  have hz' : Zro A' := by
    obtain ⟨u1, u2, u3⟩ := h2.2 0 (Nat.zero_le _)
    obtain ⟨v1, v2, v3, v4, v5, v6⟩ := hz
    refine ⟨u1, u2, u3, ?_, ?_, fun k hk => ?_⟩
    · rw [h1 36 (by decide)]; exact v4
    · rw [h1 55 (by decide)]; exact v5
    · rw [h1 35 (by decide)]; exact v6 k hk
  refine ⟨A', .inl (.int, 16, .inl g), ?_, h1, hz'⟩
  rw [← ho]
  unfold f_X11_savesByHole
  rw [gf_0_12, Option.bind_some, gf_0_4, Option.bind_some, hs_1 H, Option.bind_some, Option.bind_some, hs_gO H, Option.bind_some, e1, Option.bind_some, gf_0_4, Option.bind_some, hs_gO H2, Option.bind_some, c_allRooms H2 hW, Option.bind_some, gO_22, Option.bind_some, e2, Option.bind_some, gf_0_12, Option.bind_some, gf_0_4, Option.bind_some, hs_gO H2, Option.bind_some, c_allRooms H2 hW, Option.bind_some, gO_22, Option.bind_some, show (0 : Int32) = nI 0 from rfl, e3, Option.bind_some]
  cases o with
  | none => rw [if_pos (show eo none = -1 from rfl)]; rfl
  | some T =>
    have hT : T < 65536 := eo_lt hro h4 rfl
    rw [if_neg (by show ¬ nI T = nM; rw [y_eqM (by omega)]; exact id)]
    cases now with
    | none => rw [if_pos (show eo none = -1 from rfl)]; rfl
    | some S =>
      have hS := hnow S rfl
      rw [if_neg (by show ¬ nI S = nM; rw [y_eqM (by omega)]; exact id)]
      show ((f_J6_bitCount_0f7a4 _ (nI S)).bind fun r20 => (f_J6_bitCount_0f7a4 _ (nI T)).bind fun r21 => _) = _
      rw [bitCount_spec _ (by omega), Option.bind_some, bitCount_spec _ (by omega), Option.bind_some]
      rfl
theorem m_savesOf (hT : Told (A 58) tt lk lh) (hW : HWf tt) {i : Nat} (hi : i < tt 5) : ∃ f, f_X12_savesOf (HH A Z B Q P F q D c) 57 (nI i) = some (svs (bst (fun S => litB (nxt tt) (tt 1) S (2 ^ tt 1 - 1)) (2 ^ tt 1)) (bst (fun S => litB (nxh tt i) (tt 1) S (2 ^ tt 1 - 1)) (2 ^ tt 1)), HH (upA A 63 f) Z B Q P F q D c) := by
  have hro := hW.ro
  have hpw := pw16 hro
  have hho := hW.ho
  obtain ⟨b1, b2, b3, b4, b5⟩ := hW.hole hi
  obtain ⟨f, e1, hf⟩ := m_layNexts (A := A) (Z := Z) (B := B) (Q := Q) (P := P) (F := F) (q := q) (D := D) (c := c) hT hW
  have e2 := m_bestOf (A := upA A 63 f) (Z := Z) (B := B) (Q := Q) (P := P) (F := F) (q := q) (D := D) (c := c) hT hW hf (nxt_lt16 hW) (w := 0) (by decide)
  have hT2 : ∀ f, Told (upA A 63 f 58) tt lk lh := fun f => hT
  have hend : ∀ g, (∀ r, r < tt 1 → g r = nI (nxh tt i r)) → f_X12_savesOf_78 (HH (upA A 63 g) Z B Q P F q D c) 57 (eo (bst (isoB tt (nxt tt) 0) (2 ^ tt 1))) = some (svs (bst (fun S => litB (nxt tt) (tt 1) S (2 ^ tt 1 - 1)) (2 ^ tt 1)) (bst (fun S => litB (nxh tt i) (tt 1) S (2 ^ tt 1 - 1)) (2 ^ tt 1)), HH (upA A 63 g) Z B Q P F q D c) := fun g hg => by
    have e3 := m_bestOf (A := upA A 63 g) (Z := Z) (B := B) (Q := Q) (P := P) (F := F) (q := q) (D := D) (c := c) hT hW hg (fun r => Nat.lt_of_lt_of_le (nxh_lt hW hi r) hpw) (w := 0) (by decide)
    unfold f_X12_savesOf_78
    rw [gO_57, Option.bind_some, show (0 : Int32) = nI 0 from rfl, e3, Option.bind_some]
    rw [show isoB tt (nxt tt) 0 = fun S => litB (nxt tt) (tt 1) S (2 ^ tt 1 - 1) from rfl, show isoB tt (nxh tt i) 0 = fun S => litB (nxh tt i) (tt 1) S (2 ^ tt 1 - 1) from rfl]
    cases h1 : bst (fun S => litB (nxh tt i) (tt 1) S (2 ^ tt 1 - 1)) (2 ^ tt 1) with
    | none => rw [if_pos (show eo none = -1 from rfl)]; rfl
    | some T =>
      have hT := bst_lt h1
      rw [if_neg (by show ¬ nI T = nM; rw [y_eqM (by omega)]; exact id)]
      cases h2 : bst (fun S => litB (nxt tt) (tt 1) S (2 ^ tt 1 - 1)) (2 ^ tt 1) with
      | none => rw [if_pos (show eo none = -1 from rfl)]; rfl
      | some S =>
        have hS := bst_lt h2
        rw [if_neg (by show ¬ nI S = nM; rw [y_eqM (by omega)]; exact id)]
        show ((f_X12_ones _ (nI S)).bind fun r20 => (f_X12_ones _ (nI T)).bind fun r21 => _) = _
        rw [ones_spec _ (by omega), Option.bind_some, ones_spec _ (by omega), Option.bind_some]
        rfl
  unfold f_X12_savesOf
  have f1 := hf _ b1
  have f2 := hf _ b2
  by_cases hb : tt (376 + 5 * i + 4) = 1
  · have e9 := hend (va_up (va_up f (tt (376 + 5 * i + 1)) (nI (nxt tt (tt (376 + 5 * i + 1)) ||| 2 ^ tt (376 + 5 * i)))) (tt (376 + 5 * i)) (nI (nxt tt (tt (376 + 5 * i)) ||| 2 ^ tt (376 + 5 * i + 1)))) (fun r hr => by
      unfold nxh
      by_cases u1 : r = tt (376 + 5 * i)
      · subst u1
        rw [y_vs]
        simp [b3, hb]
      · rw [y_vn u1]
        by_cases u2 : r = tt (376 + 5 * i + 1)
        · subst u2
          rw [y_vs]
          simp [u1]
        · rw [y_vn u2, hf r hr]
          simp [u1, u2])
    refine ⟨va_up (va_up f (tt (376 + 5 * i + 1)) (nI (nxt tt (tt (376 + 5 * i + 1)) ||| 2 ^ tt (376 + 5 * i)))) (tt (376 + 5 * i)) (nI (nxt tt (tt (376 + 5 * i)) ||| 2 ^ tt (376 + 5 * i + 1))), ?_⟩
    · simp (disch := omega) only [if_true, if_false, Bool.false_eq_true, Bool.true_eq_false, y_lit, y_m1, nI_add, pk_mul, fa_and, fa_or, y_bs, if_pos, if_neg, y_shl, y_shr, y_le, y_lt, y_eq, y_sub, y_dv, y_rm, y_b0, y_b1, y_sdf, y_ltM, y_Mlt, y_leM, y_Mle, y_eqM, y_Meq, s_e1, s_e2, s_e3, s_e4, s_e5, s_e6, gO_57, e1, e2, gf_57_16, gf_57_0, ld_58, ld_63, st_63, y_us, y_un, y_vs, y_vn, y_uu, y_vv, ne_eq, not_false_eq_true, not_true_eq_false, hT.1, f1, f2, hb, e9]
  · have e9 := hend (va_up f (tt (376 + 5 * i + 1)) (nI (nxt tt (tt (376 + 5 * i + 1)) ||| 2 ^ tt (376 + 5 * i)))) (fun r hr => by
      unfold nxh
      by_cases u2 : r = tt (376 + 5 * i + 1)
      · subst u2
        rw [y_vs]
        simp [hb]
      · rw [y_vn u2, hf r hr]
        simp [hb, u2])
    refine ⟨va_up f (tt (376 + 5 * i + 1)) (nI (nxt tt (tt (376 + 5 * i + 1)) ||| 2 ^ tt (376 + 5 * i))), ?_⟩
    · simp (disch := omega) only [if_true, if_false, Bool.false_eq_true, Bool.true_eq_false, y_lit, y_m1, nI_add, pk_mul, fa_and, fa_or, y_bs, if_pos, if_neg, y_shl, y_shr, y_le, y_lt, y_eq, y_sub, y_dv, y_rm, y_b0, y_b1, y_sdf, y_ltM, y_Mlt, y_leM, y_Mle, y_eqM, y_Meq, s_e1, s_e2, s_e3, s_e4, s_e5, s_e6, gO_57, e1, e2, gf_57_16, gf_57_0, ld_58, ld_63, st_63, y_us, y_un, y_vs, y_vn, y_uu, y_vv, ne_eq, not_false_eq_true, not_true_eq_false, hT.1, f1, f2, hb, e9]
theorem ME_e {cl mo : xH → Option (Int32 × xH)} (hI : Inv K A Z B Q P F q D c tt lk lh R i) {E : List xC} {c' : Nat × Nat} {A1 A2 : Nat → Nat → Int32} {Z1 Z2 : Nat → Int32} {v : Int32} (e1 : cl (HH A Z B Q P F q D c) = some (nI 0, HH A1 Z1 (oB B v.toInt64) Q P F q (D ++ E) c')) (e2 : mo (HH A1 Z1 (oB B v.toInt64) Q P F q (D ++ E) c') = some (v, HH A2 Z2 (oB B v.toInt64) Q P F q (D ++ E) c')) (hA : Only SA A A2) (hz : Zro A2) (hZ : Only SZ Z Z2) (h18 : Z2 18 = nI 0) (h1 : c.1 + E.length ≤ c'.1) (h2 : c'.1 ≤ c.1 + 40) (h3 : c'.2 ≤ c.2 + 3000) : MER cl mo (HH A Z B Q P F q D c) i :=
  ⟨nI 0, _, v, _, e1, ⟨_, _, _, _, _, _, _, _, _, rfl⟩, e2, by rw [gf_57_4, h18], fun _ => oB_ld _, ⟨K, A2, Z2, oB B v.toInt64, Q, P, F, q, D ++ E, c', tt, lk, lh, R, rfl, Inv_q hI hA hz hZ (oB_o _) h1 h2 h3⟩⟩
end Hole
theorem ok_hole : ∀ x0 x1, ME (fun h => f_L_hole h 0 x0 x1 76) (fun h => f_X12_hole h 57 x0 x1) := by
  intro x y h i hJ hi
  obtain ⟨K, A, Z, B, Q, P, F, q, D, c, tt, lk, lh, R, rfl, hI⟩ := hJ
  have hz := hI.2.1.2.2.2
  obtain ⟨H, hW, hL, hT, hLm⟩ := hI.1
  have hcl := hI.2.2.2.2
  have hro := hW.ro
  have hpw := pw16 hro
  have hho := hW.ho
  have ew : ∀ A' Z' B' D' c', f_X12_within (HH A' Z' B' Q P F q D' c') x.toInt64 (0 : Int64) (nI (tt 5) - nI 1).toInt64 = some (if rk x (tt 5) = true then nI 1 else nI 0) := fun A' Z' B' D' c' => rk_withinL _ x (by omega) rfl
  cases hr : rk x (tt 5)
  · refine ME_t hI (k := 1) (b := nI 0) (by decide) ?_ ?_ (oZ182 (nI 0) (nI 1)) rfl
    · show f_L_hole (HH A Z B Q P F q D c) 0 x y 76 = _
      simp only [f_L_hole, f_X11_hole, f_X11_hole_15, gO_0, gf_0_4, hs_6 H, y_bs, thr_HH, rk_if, hr]
      rfl
    · show f_X12_hole (HH A Z B Q P F q D (c.1 + 1, c.2 + 6)) 57 x y = _
      simp (disch := omega) only [f_X12_hole, y_lit, y_bs, pf_57_4, gf_57_0, ld_58, hT.1, ew, hr, Bool.false_eq_true, if_false, if_true, gO_57, m_fails]
  · obtain ⟨r, hr1, rfl⟩ := rk_t (by omega) hr
    cases hy : rk y 5
    · refine ME_t hI (k := 2) (b := nI 0) (by decide) ?_ ?_ (oZ182 (nI 0) (nI 2)) rfl
      · simp (disch := omega) only [f_L_hole, f_X11_hole, f_X11_hole_15, if_true, if_false, Bool.false_eq_true, Bool.true_eq_false, y_lit, y_m1, nI_add, pk_mul, fa_and, fa_or, y_bs, if_pos, if_neg, y_shl, y_shr, y_le, y_lt, y_eq, y_sub, y_dv, y_rm, y_b0, y_b1, y_sdf, y_ltM, y_Mlt, y_leM, y_Mle, y_eqM, y_Meq, s_e1, s_e2, s_e3, s_e4, s_e5, s_e6, gO_0, gf_0_4, hs_6 H, c_checkWhat, hy]
      · show f_X12_hole (HH A Z B Q P F q D (c.1 + 1, c.2 + 6)) 57 (nI r) y = _
        simp (disch := omega) only [f_X12_hole, y_lit, y_bs, pf_57_4, gf_57_0, ld_58, hT.1, ew, hr, m_w5, hy, y_eq, if_neg, Bool.false_eq_true, if_false, if_true, gO_57, m_fails]
    · obtain ⟨w, hw1, rfl⟩ := rk_t (by omega) hy
      by_cases h4 : w = 4
      · subst h4
        obtain ⟨A', o, e1, h1, h2, h3, h5⟩ := c_fewestOf (A := A) (Z := Z) (B := B) (Q := Q) (P := P) (F := F) (c := c) H hW hz (al := 2 ^ tt 1 - 1) (by have := Nat.two_pow_pos (tt 1); omega)
        have ho := few_eq hW h5
        obtain ⟨A2, xx, e2, g1, g2⟩ := c_savesByHole (A := A') (Z := upA Z 3 (nI (tt 1))) (B := B) (Q := Q) (P := P) (F := F) (c := c) H hW h3 (by omega) hr1 (now := o) (fun S e => eo_lt hro h5 e)
        rw [y_uu] at e2
        have h12 := h1.tr g1 (fun _ h => h) (fun _ h => h)
        have hT' : Told (A2 58) tt lk lh := by rw [h12 58 (by decide)]; exact hT
        obtain ⟨f, e3⟩ := m_savesOf (A := A2) (Z := upA (upA Z 3 (nI (tt 1))) 18 (nI 0)) (B := oB B (Int32.toInt64 (svs o (bst (fun S => litB (nxh tt r) (tt 1) S (2 ^ tt 1 - 1)) (2 ^ tt 1))))) (Q := Q) (P := P) (F := F) (q := q) (D := D ++ [xx]) (c := (c.1 + 1, c.2 + 16)) hT' hW hr1
        rw [← ho] at e3
        refine ME_e hI (E := [xx]) (c' := (c.1 + 1, c.2 + 16)) (v := svs o (bst (fun S => litB (nxh tt r) (tt 1) S (2 ^ tt 1 - 1)) (2 ^ tt 1))) (A1 := A2) (Z1 := upA Z 3 (nI (tt 1))) (A2 := upA A2 63 f) (Z2 := upA (upA Z 3 (nI (tt 1))) 18 (nI 0)) ?_ ?_ (oCov h12 f) g2 (oZ3 _ _) rfl (Nat.le_refl _) (Nat.add_le_add_left (by decide) _) (Nat.add_le_add_left (by decide) _)
        · show f_L_hole (HH A Z B Q P F q D c) 0 (nI r) (nI 4) 76 = _
          simp (disch := omega) only [f_L_hole, f_X11_hole, f_X11_hole_15, if_true, if_false, Bool.false_eq_true, Bool.true_eq_false, y_lit, y_m1, nI_add, pk_mul, fa_and, fa_or, y_bs, if_pos, if_neg, y_shl, y_shr, y_le, y_lt, y_eq, y_sub, y_dv, y_rm, y_b0, y_b1, y_sdf, y_ltM, y_Mlt, y_leM, y_Mle, y_eqM, y_Meq, s_e1, s_e2, s_e3, s_e4, s_e5, s_e6, gO_0, gf_0_4, hs_6 H, c_checkWhat, hy, hs_gO H, c_allRooms H hW, e1, e2, oB_st]
        · show f_X12_hole (HH A2 (upA Z 3 (nI (tt 1))) _ Q P F q (D ++ [xx]) (c.1 + 1, c.2 + 16)) 57 (nI r) (nI 4) = _
          simp (disch := omega) only [f_X12_hole, y_lit, y_bs, pf_57_4, gf_57_0, ld_58, hT'.1, ew, hr, m_w5, hy, y_eq, if_neg, if_true, if_false, gO_57, e3]
      · refine ME_s hI (nI (tt (376 + 5 * r + w))) ?_ ?_
        · show f_L_hole (HH A Z B Q P F q D c) 0 (nI r) (nI w) 76 = _
          simp (disch := omega) only [f_L_hole, f_X11_hole, f_X11_hole_15, if_true, if_false, Bool.false_eq_true, Bool.true_eq_false, y_lit, y_m1, nI_add, pk_mul, fa_and, fa_or, y_bs, if_pos, if_neg, y_shl, y_shr, y_le, y_lt, y_eq, y_sub, y_dv, y_rm, y_b0, y_b1, y_sdf, y_ltM, y_Mlt, y_leM, y_Mle, y_eqM, y_Meq, s_e1, s_e2, s_e3, s_e4, s_e5, s_e6, gO_0, gf_0_4, hs_6 H, c_checkWhat, hy, hs_10 H, Ar_ld H.2.2.2.2.2.1]
          rw [show 376 + (r * 5 + w) = 376 + 5 * r + w by omega, oB_st, Option.bind_some]
        · show f_X12_hole (HH A Z _ Q P F q D c) 57 (nI r) (nI w) = _
          simp (disch := omega) only [f_X12_hole, y_lit, y_bs, nI_add, pk_mul, pf_57_4, gf_57_0, ld_58, hT.1, ew, hr, m_w5, hy, y_eq, if_neg, if_true, if_false, gO_57]
