section Grid2
variable {A : Nat → Nat → Int32} {Z : Nat → Int32} {B : Nat → Nat → Int64} {Q : Nat → Int64} {P : Nat → Option Nat} {F : Nat → Nat → Option Nat} {q : Nat} {D : List xC} {c : Nat × Nat} {K : Nat → Nat} {tt lk lh : Nat → Nat} {R i : Nat}
theorem hh_len : (HH A Z B Q P F q D c).1.length = 77 + D.length := by
  show (LL A Z B Q P F q ++ D).length = _
  rw [List.length_append, LL_len]
theorem g_81 (k49 : xH → Nat → Int32 → Int32 → Nat → Int32 → Option ((String × xH) ⊕ (Int32 × xH))) (h : xH) {w hh p x a : Nat} {s1 : Int32} {s2 : Nat} (hw : 0 < w) (hw2 : w ≤ 16) (hp : p < 16) : f_X11_grid_81 k49 h 0 (nI w) (nI hh) a (nI p) (nI (p % w)) (nI x) s1 s2 = f_X11_grid_99 k49 h 0 (nI w) (nI hh) a (nI p) (nI (if w - 1 ≤ p % w then 0 else 2 ^ (p + 1))) (nI x) s1 s2 := by
  have := Nat.mod_lt p hw
  unfold f_X11_grid_81
  by_cases e : w - 1 ≤ p % w
  · simp (disch := omega) only [if_true, if_false, Bool.false_eq_true, Bool.true_eq_false, y_lit, y_m1, nI_add, pk_mul, fa_and, fa_or, y_bs, if_pos, if_neg, y_shl, y_shr, y_le, y_lt, y_eq, y_sub, y_dv, y_rm, y_b0, y_b1, y_sdf, y_ltM, y_Mlt, y_leM, y_Mle, y_eqM, y_Meq, s_e1, s_e2, s_e3, s_e4, s_e5, s_e6, e]
  · simp (disch := omega) only [if_true, if_false, Bool.false_eq_true, Bool.true_eq_false, y_lit, y_m1, nI_add, pk_mul, fa_and, fa_or, y_bs, if_pos, if_neg, y_shl, y_shr, y_le, y_lt, y_eq, y_sub, y_dv, y_rm, y_b0, y_b1, y_sdf, y_ltM, y_Mlt, y_leM, y_Mle, y_eqM, y_Meq, s_e1, s_e2, s_e3, s_e4, s_e5, s_e6, e]
theorem g_99 (k49 : xH → Nat → Int32 → Int32 → Nat → Int32 → Option ((String × xH) ⊕ (Int32 × xH))) (h : xH) {w hh p x y a : Nat} {s1 : Int32} {s2 : Nat} (hw2 : w ≤ 16) (hp : p < 16) : f_X11_grid_99 k49 h 0 (nI w) (nI hh) a (nI p) (nI y) (nI x) s1 s2 = f_X11_grid_116 k49 h 0 (nI w) (nI hh) a (nI p) (nI (if p < w then 0 else 2 ^ (p - w))) (nI (x ||| y)) s1 s2 := by
  unfold f_X11_grid_99
  by_cases e : p < w
  · simp (disch := omega) only [if_true, if_false, Bool.false_eq_true, Bool.true_eq_false, y_lit, y_m1, nI_add, pk_mul, fa_and, fa_or, y_bs, if_pos, if_neg, y_shl, y_shr, y_le, y_lt, y_eq, y_sub, y_dv, y_rm, y_b0, y_b1, y_sdf, y_ltM, y_Mlt, y_leM, y_Mle, y_eqM, y_Meq, s_e1, s_e2, s_e3, s_e4, s_e5, s_e6, e]
  · simp (disch := omega) only [if_true, if_false, Bool.false_eq_true, Bool.true_eq_false, y_lit, y_m1, nI_add, pk_mul, fa_and, fa_or, y_bs, if_pos, if_neg, y_shl, y_shr, y_le, y_lt, y_eq, y_sub, y_dv, y_rm, y_b0, y_b1, y_sdf, y_ltM, y_Mlt, y_leM, y_Mle, y_eqM, y_Meq, s_e1, s_e2, s_e3, s_e4, s_e5, s_e6, e]
theorem g_116 (k49 : xH → Nat → Int32 → Int32 → Nat → Int32 → Option ((String × xH) ⊕ (Int32 × xH))) (h : xH) {w hh p x y a : Nat} {s1 : Int32} {s2 : Nat} (hw2 : w ≤ 16) (hwh : w * hh ≤ 16) (hp : p < 16) : f_X11_grid_116 k49 h 0 (nI w) (nI hh) a (nI p) (nI y) (nI x) s1 s2 = f_X11_grid_137 k49 h 0 (nI w) (nI hh) a (nI p) (nI (if w * hh ≤ p + w then 0 else 2 ^ (p + w))) (nI (x ||| y)) s1 s2 := by
  unfold f_X11_grid_116
  rw [pk_mul]
  generalize w * hh = n at *
  by_cases e : n ≤ p + w
  · simp (disch := omega) only [if_true, if_false, Bool.false_eq_true, Bool.true_eq_false, y_lit, y_m1, nI_add, pk_mul, fa_and, fa_or, y_bs, if_pos, if_neg, y_shl, y_shr, y_le, y_lt, y_eq, y_sub, y_dv, y_rm, y_b0, y_b1, y_sdf, y_ltM, y_Mlt, y_leM, y_Mle, y_eqM, y_Meq, s_e1, s_e2, s_e3, s_e4, s_e5, s_e6, e]
  · simp (disch := omega) only [if_true, if_false, Bool.false_eq_true, Bool.true_eq_false, y_lit, y_m1, nI_add, pk_mul, fa_and, fa_or, y_bs, if_pos, if_neg, y_shl, y_shr, y_le, y_lt, y_eq, y_sub, y_dv, y_rm, y_b0, y_b1, y_sdf, y_ltM, y_Mlt, y_leM, y_Mle, y_eqM, y_Meq, s_e1, s_e2, s_e3, s_e4, s_e5, s_e6, e]
theorem c_grid (hz : Zro A) (hlen : 77 + D.length < 900000000) {w hh : Nat} (hw : 0 < w) (hw2 : w ≤ 16) (hh1 : 0 < hh) (hh2 : hh ≤ 16) (hwh : w * hh ≤ 16) : ∃ A' x, f_X11_grid (HH A Z B Q P F q D c) 0 (nI w) (nI hh) = some (.inr (eo (bst (fun S => litB (nbr w (w * hh)) (w * hh) S (2 ^ (w * hh) - 1)) (2 ^ (w * hh))), HH A' (upA Z 3 (nI (w * hh))) B Q P F q (D ++ [x]) (c.1 + 1, c.2 + 16))) ∧ Only [23, 24, 25, 26] A A' ∧ Zro A' := by
  have hpw := pw16 hwh
  have hpp := Nat.two_pow_pos (w * hh)
  have emk : mkI (HH A Z B Q P F q D c) .int (nI 16) = some (HH A Z B Q P F q (D ++ [.inl (.int, 16, .inl (fun _ => 0))]) (c.1 + 1, c.2 + 16)) := by
    unfold mkI
    rw [if_pos ⟨by rw [hh_len]; show 77 + D.length < 1000000000; omega, by decide, by decide⟩]
    show some (_, _, _) = some (_, _, _)
    rw [List.append_assoc]
    rfl
  have key := loop_I (F := fun m j (s : xH) => f_X11_grid_49 m s 0 (nI w) (nI hh) (77 + D.length) (nI j)) (N := w * hh) some (fun j s => ∃ g, s = HH A Z B Q P F q (D ++ [.inl (.int, 16, .inl g)]) (c.1 + 1, c.2 + 16) ∧ ∀ r, r < j → g r = nI (nbr w (w * hh) r)) (fun r => ∃ A' x, r = .inr (eo (bst (fun S => litB (nbr w (w * hh)) (w * hh) S (2 ^ (w * hh) - 1)) (2 ^ (w * hh))), HH A' (upA Z 3 (nI (w * hh))) B Q P F q (D ++ [x]) (c.1 + 1, c.2 + 16)) ∧ Only [23, 24, 25, 26] A A' ∧ Zro A') (fun m j s hj hs => Or.inl ?_) (fun m s hs => ?_) (by omega) (s := HH A Z B Q P F q (D ++ [.inl (.int, 16, .inl (fun _ => 0))]) (c.1 + 1, c.2 + 16)) ⟨_, rfl, fun r hr => by omega⟩
  · obtain ⟨r, e1, A', x, rfl, h1, h2⟩ := key
    refine ⟨A', x, ?_, h1, h2⟩
    unfold f_X11_grid
    rw [if_neg (by show ¬ nI w < nI 1; rw [y_lt (by omega) (by omega)]; omega), if_neg (by show ¬ nI hh < nI 1; rw [y_lt (by omega) (by omega)]; omega), if_neg (by show ¬ nI 16 < nI w; rw [y_lt (by omega) (by omega)]; omega), if_neg (by show ¬ nI 16 < nI hh; rw [y_lt (by omega) (by omega)]; omega), if_pos (by show nI w * nI hh ≤ nI 16; rw [pk_mul, y_le (by omega) (by omega)]; exact hwh)]
    rw [show (16 : Int32) = nI 16 from rfl, emk, Option.bind_some, hh_len]
    exact e1
  · obtain ⟨g, rfl, hg⟩ := hs
    have hj16 : j < 16 := by omega
    have hb := bes_nbr hw2 hh2 hwh hj
    refine ⟨_, ?_, va_up g j (nI (nbr w (w * hh) j)), rfl, fun r hr => ?_⟩
    · rw [← hb]
      unfold bes
      rw [f_X11_grid_49, pk_mul, if_neg (by rw [y_le (by omega) (by omega)]; omega), y_rm (by omega) hw (by omega), Option.bind_some]
      have hml := Nat.mod_lt j hw
      by_cases e : j % w ≤ 0
      · rw [if_pos (by show nI (j % w) ≤ nI 0; rw [y_le (by omega) (by omega)]; exact e), if_pos e, show (0 : Int32) = nI 0 from rfl, g_81 _ _ hw hw2 hj16, g_99 _ _ hw2 hj16, g_116 _ _ hw2 hwh hj16, f_X11_grid_137, fa_or, nw_st (by omega) (by decide), Option.bind_some]
        rw [show (1 : Int32) = nI 1 from rfl, nI_add]
      · have hj0 : 1 ≤ j := by
          by_cases e0 : j = 0
          · subst e0; simp at e
          · omega
        rw [if_neg (by show ¬ nI (j % w) ≤ nI 0; rw [y_le (by omega) (by omega)]; exact e), if_neg e, show (1 : Int32) = nI 1 from rfl, y_sub hj0, show (31 : Int32) = nI 31 from rfl, fa_and, y_shl (by omega), g_81 _ _ hw hw2 hj16, g_99 _ _ hw2 hj16, g_116 _ _ hw2 hwh hj16, f_X11_grid_137, fa_or, nw_st (by omega) (by decide), Option.bind_some]
        rw [show (1 : Int32) = nI 1 from rfl, nI_add]
    · by_cases e : r = j
      · subst e; rw [y_vs]
      · rw [y_vn e]; exact hg r (by omega)
  · obtain ⟨g, rfl, hg⟩ := hs
    obtain ⟨A', e2, h1, h2⟩ := c_lay8 (A := A) (Z := Z) (B := B) (Q := Q) (P := P) (F := F) (q := q) (D := D ++ [.inl (.int, 16, .inl g)]) (c := (c.1 + 1, c.2 + 16)) (a := 77 + D.length) (n := w * hh) (al := 2 ^ (w * hh) - 1) (lit := nbr w (w * hh)) hwh (by omega) (fun r => Nat.lt_of_lt_of_le nbr_lt hpw) (fun A' Z' r hr => by rw [nw_ld (by omega) (by decide), hg r hr]) hz.1 hz.2.1 hz.2.2.1
    obtain ⟨o, e3, h4⟩ := c_fewest (A := A') (Z := upA Z 3 (nI (w * hh))) (B := B) (Q := Q) (P := P) (F := F) (q := q) (D := D ++ [.inl (.int, 16, .inl g)]) (c := (c.1 + 1, c.2 + 16)) (n := w * hh) (one := 2 ^ (w * hh) - 1) (two := 0) hwh (msk_lt (fun r => Nat.lt_of_lt_of_le nbr_lt hpw) _) h2 rfl (by omega) (by omega) (Nat.and_zero _)
    have ho : o = bst (fun S => litB (nbr w (w * hh)) (w * hh) S (2 ^ (w * hh) - 1)) (2 ^ (w * hh)) := BestF_one (few_all (dual_nbr w (w * hh)) (by omega) h4) bst_best
    have hz' : Zro A' := by
      obtain ⟨u1, u2, u3⟩ := h2.2 0 (Nat.zero_le _)
      obtain ⟨v1, v2, v3, v4, v5, v6⟩ := hz
      refine ⟨u1, u2, u3, ?_, ?_, fun k hk => ?_⟩
      · rw [h1 36 (by decide)]; exact v4
      · rw [h1 55 (by decide)]; exact v5
      · rw [h1 35 (by decide)]; exact v6 k hk
    rw [← ho]
    refine ⟨_, ?_, A', .inl (.int, 16, .inl g), rfl, h1, hz'⟩
    rw [f_X11_grid_49, pk_mul, if_pos (by rw [y_le (by omega) (by omega)]; omega), gf_0_12, Option.bind_some, gO_22, Option.bind_some, show (1 : Int32) = nI 1 from rfl, show (31 : Int32) = nI 31 from rfl, fa_and, y_shl (by omega), y_sub hpp, e2, Option.bind_some, gf_0_12, Option.bind_some, gO_22, Option.bind_some, show (0 : Int32) = nI 0 from rfl, e3, Option.bind_some]
def gok (x y : Int32) : Prop := (¬ x < 1 ∧ ¬ 16 < x) ∧ (¬ y < 1 ∧ ¬ 16 < y) ∧ ¬ 16 < x * y
theorem c_grid_bad {x y : Int32} (h : ¬ gok x y) : f_X11_grid (HH A Z B Q P F q D c) 0 x y = some (.inl ("java/lang/IllegalArgumentException", HH A Z B Q P F q D (c.1 + 1, c.2 + 6))) := by
  unfold f_X11_grid f_X11_grid_30
  rw [thr_HH]
  by_cases h1 : x < 1
  · rw [if_pos h1]
  · by_cases h2 : y < 1
    · rw [if_neg h1, if_pos h2]
    · by_cases h3 : 16 < x
      · rw [if_neg h1, if_neg h2, if_pos h3]
      · by_cases h4 : 16 < y
        · rw [if_neg h1, if_neg h2, if_neg h3, if_pos h4]
        · by_cases h5 : x * y ≤ 16
          · exact absurd ⟨⟨h1, h3⟩, ⟨h2, h4⟩, Int32.not_lt.mpr h5⟩ h
          · rw [if_neg h1, if_neg h2, if_neg h3, if_neg h4, if_neg h5]
theorem m_w16 (h : xH) (x : Int32) : f_X12_within h x.toInt64 (1 : Int64) (16 : Int64) = some (if ¬ x < 1 ∧ ¬ 16 < x then 1 else 0) := by
  have e := within_spec h x 1 16
  rw [show (1 : Int32).toInt64 = (1 : Int64) from rfl, show (16 : Int32).toInt64 = (16 : Int64) from rfl] at e
  rw [e]
  congr 1
  by_cases h1 : 1 ≤ x ∧ x ≤ 16
  · rw [if_pos h1, if_pos ⟨Int32.not_lt.mpr h1.1, Int32.not_lt.mpr h1.2⟩]
  · rw [if_neg h1, if_neg (fun hh => h1 ⟨Int32.not_lt.mp hh.1, Int32.not_lt.mp hh.2⟩)]
theorem m_grid_bad {x y : Int32} (h : ¬ gok x y) : f_X12_grid (HH A Z B Q P F q D c) 57 x y = some (nI 0, HH A (upA Z 18 (nI 1)) B Q P F q D c) := by
  have e : f_X12_grid_37 (HH A Z B Q P F q D c) 57 x y 57 = some (nI 0, HH A (upA Z 18 (nI 1)) B Q P F q D c) := by
    unfold f_X12_grid_37 f_X12_grid_38
    rw [pf_57_4, Option.bind_some, gf_57_4, Option.bind_some, y_us, if_neg (by decide)]
    rfl
  unfold f_X12_grid
  rw [m_w16, Option.bind_some]
  by_cases h1 : ¬ x < 1 ∧ ¬ 16 < x
  · rw [if_pos h1, if_neg (by decide), m_w16, Option.bind_some]
    by_cases h2 : ¬ y < 1 ∧ ¬ 16 < y
    · rw [if_pos h2, if_neg (by decide)]
      by_cases h3 : 16 < x * y
      · rw [if_pos h3]; exact e
      · exact absurd ⟨h1, h2, h3⟩ h
    · rw [if_neg h2, if_pos rfl]; exact e
  · rw [if_neg h1, if_pos rfl]; exact e
theorem gok_n {x y : Int32} (h : gok x y) : ∃ w hh, x = nI w ∧ y = nI hh ∧ 0 < w ∧ w ≤ 16 ∧ 0 < hh ∧ hh ≤ 16 ∧ w * hh ≤ 16 := by
  obtain ⟨⟨h1, h2⟩, ⟨h3, h4⟩, h5⟩ := h
  have one : ∀ x : Int32, ¬ x < 1 → ¬ 16 < x → ∃ w, x = nI w ∧ 0 < w ∧ w ≤ 16 := fun x h1 h2 => by
    have h0 : ¬ x < 0 := fun h => h1 (Int32.lt_trans h (by decide))
    obtain ⟨k, hk, rfl⟩ := nI_of h0
    refine ⟨k, rfl, ?_, ?_⟩
    · have h1 : ¬ nI k < nI 1 := h1
      rw [y_lt hk (by omega)] at h1
      omega
    · have h2 : ¬ nI 16 < nI k := h2
      rw [y_lt (by omega) hk] at h2
      omega
  obtain ⟨w, rfl, a1, a2⟩ := one x h1 h2
  obtain ⟨hh, rfl, a3, a4⟩ := one y h3 h4
  refine ⟨w, hh, rfl, rfl, a1, a2, a3, a4, ?_⟩
  have h5 : ¬ nI 16 < nI w * nI hh := h5
  have : w * hh ≤ 16 * 16 := Nat.mul_le_mul a2 a4
  rw [pk_mul, y_lt (by omega) (by omega)] at h5
  omega
theorem m_grid {w hh : Nat} (hg : gok (nI w) (nI hh)) (hw : 0 < w) (hw2 : w ≤ 16) (hwh : w * hh ≤ 16) : ∃ f, f_X12_grid (HH A Z B Q P F q D c) 57 (nI w) (nI hh) = some (eo (bst (fun S => litB (nbr w (w * hh)) (w * hh) S (2 ^ (w * hh) - 1)) (2 ^ (w * hh))), HH (upA A 67 f) (upA Z 18 (nI 0)) B Q P F q D c) := by
  obtain ⟨f, e⟩ := mg_57 (A := A) (Z := upA Z 18 (nI 0)) (B := B) (Q := Q) (P := P) (F := F) (q := q) (D := D) (c := c) hw hw2 hwh
  refine ⟨f, ?_⟩
  obtain ⟨h1, h2, h3⟩ := hg
  unfold f_X12_grid
  rw [m_w16, Option.bind_some, if_pos h1, if_neg (by decide), m_w16, Option.bind_some, if_pos h2, if_neg (by decide), if_neg h3]
  unfold f_X12_grid_38
  rw [show (0 : Int32) = nI 0 from rfl, pf_57_4, Option.bind_some, gf_57_4, Option.bind_some, y_us, if_pos (by decide), pk_mul]
  exact e
end Grid2
theorem oGrid {A A' : Nat → Nat → Int32} (h : Only [23, 24, 25, 26] A A') (f : Nat → Int32) : Only SA A (upA A' 67 f) := (h.mono (by decide)).up (by decide)
theorem ok_grid : ∀ x0 x1, ME (fun h => f_L_grid h 0 x0 x1 76) (fun h => f_X12_grid h 57 x0 x1) := by
  intro x y h i hJ hi
  obtain ⟨K, A, Z, B, Q, P, F, q, D, c, tt, lk, lh, R, rfl, hI⟩ := hJ
  have hz := hI.2.1.2.2.2
  have hcl := hI.2.2.2.2
  by_cases hg : gok x y
  · obtain ⟨w, hh, rfl, rfl, a1, a2, a3, a4, a5⟩ := gok_n hg
    obtain ⟨A', xx, e1, h1, h2⟩ := c_grid (A := A) (Z := Z) (B := B) (Q := Q) (P := P) (F := F) (q := q) (D := D) (c := c) hz (by omega) a1 a2 a3 a4 a5
    generalize hv : eo (bst (fun S => litB (nbr w (w * hh)) (w * hh) S (2 ^ (w * hh) - 1)) (2 ^ (w * hh))) = v at e1
    obtain ⟨f, e2⟩ := m_grid (A := A') (Z := upA Z 3 (nI (w * hh))) (B := oB B v.toInt64) (Q := Q) (P := P) (F := F) (q := q) (D := D ++ [xx]) (c := (c.1 + 1, c.2 + 16)) hg a1 a2 a5
    rw [hv] at e2
    refine ME_e hI (E := [xx]) (c' := (c.1 + 1, c.2 + 16)) (v := v) (A1 := A') (Z1 := upA Z 3 (nI (w * hh))) (A2 := upA A' 67 f) (Z2 := upA (upA Z 3 (nI (w * hh))) 18 (nI 0)) ?_ e2 (oGrid h1 f) h2 (oZ3 _ _) rfl (Nat.le_refl _) (Nat.add_le_add_left (by decide) _) (Nat.add_le_add_left (by decide) _)
    show f_L_grid (HH A Z B Q P F q D c) 0 (nI w) (nI hh) 76 = _
    unfold f_L_grid
    rw [gO_0, Option.bind_some, e1, Option.bind_some]
    dsimp only
    rw [show (0 : Int32) = nI 0 from rfl, oB_st, Option.bind_some]
  · refine ME_t hI (k := 1) (b := nI 0) (by decide) ?_ (m_grid_bad hg) (oZ18 (nI 1)) rfl
    show f_L_grid (HH A Z B Q P F q D c) 0 x y 76 = _
    unfold f_L_grid
    rw [gO_0, Option.bind_some, c_grid_bad hg, Option.bind_some]
    rfl
