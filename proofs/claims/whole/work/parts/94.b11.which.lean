/-! ===== which ===== -/
def whs (tt : Nat → Nat) (sv : Nat → Int32) : Nat → Int32 × Option Nat
  | 0 => (nI 0, none)
  | k + 1 => if (whs tt sv k).1 < sv k ∨ (∃ b, (whs tt sv k).2 = some b ∧ sv k = (whs tt sv k).1 ∧ tt (376 + 5 * k + 3) < tt (376 + 5 * b + 3)) then (sv k, some k) else whs tt sv k
theorem whs_lt {tt : Nat → Nat} {sv : Nat → Int32} : ∀ k b, (whs tt sv k).2 = some b → b < k
  | 0, b, h => by cases h
  | k + 1, b, h => by
    rw [whs] at h
    split at h
    · cases h; omega
    · have := whs_lt k b h
      omega
section Whi
variable {A : Nat → Nat → Int32} {Z : Nat → Int32} {B : Nat → Nat → Int64} {Q : Nat → Int64} {P : Nat → Option Nat} {F : Nat → Nat → Option Nat} {q : Nat} {D : List xC} {c : Nat × Nat} {K : Nat → Nat} {tt lk lh : Nat → Nat} {R i : Nat}
theorem c_holeCosts (H : Hs K D q tt) (hW : HWf tt) {q' i : Nat} (hi : i < tt 5) : f_X3_holeCosts (HH A Z B Q P F q' D c) q (nI i) = some (nI (tt (376 + 5 * i + 3))) := by
  have hho := hW.ho
  simp (disch := omega) only [f_X3_holeCosts, if_true, if_false, Bool.false_eq_true, Bool.true_eq_false, y_lit, y_m1, nI_add, pk_mul, fa_and, fa_or, y_bs, if_pos, if_neg, y_shl, y_shr, y_le, y_lt, y_eq, y_sub, y_dv, y_rm, y_b0, y_b1, y_sdf, y_ltM, y_Mlt, y_leM, y_Mle, y_eqM, y_Meq, s_e1, s_e2, s_e3, s_e4, s_e5, s_e6, hs_6 H, hs_10 H, hs_h3 H]
def svh (tt : Nat → Nat) (i : Nat) : Int32 := svs (bst (fun S => litB (nxt tt) (tt 1) S (2 ^ tt 1 - 1)) (2 ^ tt 1)) (bst (fun S => litB (nxh tt i) (tt 1) S (2 ^ tt 1 - 1)) (2 ^ tt 1))
theorem c_which19 (H : Hs K D q tt) (hW : HWf tt) (hz : Zro A) (hlen : 77 + D.length < 800000000) : ∃ A' E, f_X11_which_19 xFU (HH A (upA Z 3 (nI (tt 1))) B Q P F q D c) 0 (eo (bst (fun S => litB (nxt tt) (tt 1) S (2 ^ tt 1 - 1)) (2 ^ tt 1))) (nI 0) nM (nI 0) = some (eo (whs tt (svh tt) (tt 5)).2, HH A' (upA Z 3 (nI (tt 1))) B Q P F q (D ++ E) (c.1 + tt 5, c.2 + 16 * tt 5)) ∧ E.length = tt 5 ∧ Only [23, 24, 25, 26] A A' ∧ Zro A' := by
  have hro := hW.ro
  have hpw := pw16 hro
  have hho := hW.ho
  have key := loop_J (F := fun n i (s : xH) => f_X11_which_19 n s 0 (eo (bst (fun S => litB (nxt tt) (tt 1) S (2 ^ tt 1 - 1)) (2 ^ tt 1))) (whs tt (svh tt) i).1 (eo (whs tt (svh tt) i).2) (nI i)) (N := tt 5) (fun s => some (eo (whs tt (svh tt) (tt 5)).2, s)) (fun i s => ∃ A' E, s = HH A' (upA Z 3 (nI (tt 1))) B Q P F q (D ++ E) (c.1 + i, c.2 + 16 * i) ∧ E.length = i ∧ Only [23, 24, 25, 26] A A' ∧ Zro A') (fun n i s hi hs => ?_) (fun n s hs => ?_) (by omega) (s := HH A (upA Z 3 (nI (tt 1))) B Q P F q D c) ⟨A, [], by rw [List.append_nil]; rfl, rfl, Only.rf, hz⟩
  · obtain ⟨s, e1, A', E, rfl, h1, h2, h3⟩ := key
    exact ⟨A', E, e1, h1, h2, h3⟩
  · obtain ⟨A', E, rfl, h1, h2, h3⟩ := hs
    have H2 : Hs K (D ++ E) q tt := Hs_app H
    obtain ⟨A2, xx, e2, g1, g2⟩ := c_savesByHole (A := A') (Z := upA Z 3 (nI (tt 1))) (B := B) (Q := Q) (P := P) (F := F) (c := (c.1 + i, c.2 + 16 * i)) H2 hW h3 (by rw [List.length_append]; omega) hi (now := bst (fun S => litB (nxt tt) (tt 1) S (2 ^ tt 1 - 1)) (2 ^ tt 1)) (fun S e => Nat.lt_of_lt_of_le (bst_lt e) hpw)
    rw [y_uu] at e2
    have H3 : Hs K (D ++ E ++ [xx]) q tt := Hs_app H2
    have hco : ∀ j, j < tt 5 → f_X3_holeCosts (HH A2 (upA Z 3 (nI (tt 1))) B Q P F q (D ++ E ++ [xx]) (c.1 + i + 1, c.2 + 16 * i + 16)) q (nI j) = some (nI (tt (376 + 5 * j + 3))) := fun j hj => c_holeCosts H3 hW hj
    have hcost : ∀ j, tt (376 + 5 * j + 3) < 100000 := fun j => hW.b _
    refine ⟨HH A2 (upA Z 3 (nI (tt 1))) B Q P F q (D ++ (E ++ [xx])) (c.1 + (i + 1), c.2 + 16 * (i + 1)), ?_, A2, E ++ [xx], rfl, by rw [List.length_append, h1]; rfl, h2.tr g1 (fun _ h => h) (fun _ h => h), g2⟩
    rw [← List.append_assoc, show c.1 + (i + 1) = c.1 + i + 1 by omega, show c.2 + 16 * (i + 1) = c.2 + 16 * i + 16 by omega]
    show f_X11_which_19 (n + 1) _ _ _ _ _ _ = f_X11_which_19 n _ _ _ _ _ _
    rw [whs]
    have hwl := whs_lt (tt := tt) (sv := svh tt) i
    have esv : svs (bst (fun S => litB (nxt tt) (tt 1) S (2 ^ tt 1 - 1)) (2 ^ tt 1)) (bst (fun S => litB (nxh tt i) (tt 1) S (2 ^ tt 1 - 1)) (2 ^ tt 1)) = svh tt i := rfl
    rw [esv] at e2
    generalize whs tt (svh tt) i = p at hwl
    obtain ⟨pm, pf⟩ := p
    simp only at hwl ⊢
    rw [f_X11_which_19, gf_0_4, Option.bind_some, hs_6 H2, Option.bind_some, if_neg (by rw [y_le (by omega) (by omega)]; omega), gO_0, Option.bind_some, e2, Option.bind_some]
    dsimp only
    generalize svh tt i = v
    unfold f_X11_which_75 f_X11_which_76 f_X11_which_89
    cases pf with
    | none =>
      rw [if_pos (show eo none = -1 from rfl)]
      by_cases hlt : pm < v
      · rw [if_pos hlt, if_pos (Or.inl hlt), nI_1]
        rfl
      · rw [if_neg hlt, if_pos rfl, if_neg (by rintro (h | ⟨b, h, _⟩); exact hlt h; cases h), nI_1]
    | some b =>
      have hb := hwl b rfl
      have hc1 := hcost i
      have hc2 := hcost b
      rw [if_neg (by show ¬ nI b = nM; rw [y_eqM (by omega)]; exact id)]
      by_cases he : v = pm
      · rw [if_pos he, gf_0_4, Option.bind_some, hs_gO H3, Option.bind_some, hco i hi, Option.bind_some, Option.bind_some, hs_gO H3, Option.bind_some]
        show ((f_X3_holeCosts _ q (nI b)).bind _) = _
        rw [hco b (by omega), Option.bind_some]
        have hnl : ¬ pm < v := by rw [he, fa_lt]; omega
        by_cases hcc : tt (376 + 5 * b + 3) ≤ tt (376 + 5 * i + 3)
        · rw [if_pos (by rw [y_le (by omega) (by omega)]; exact hcc), if_neg hnl, if_pos rfl, if_neg (by rintro (h | ⟨b', h, _, h3⟩); exact hnl h; cases h; omega), nI_1]
        · rw [if_neg (by rw [y_le (by omega) (by omega)]; exact hcc), if_neg hnl, if_neg (by decide), if_pos (Or.inr ⟨b, rfl, he, by omega⟩), nI_1]
          rfl
      · rw [if_neg he]
        by_cases hlt : pm < v
        · rw [if_pos hlt, if_pos (Or.inl hlt), nI_1]
          rfl
        · rw [if_neg hlt, if_pos rfl, if_neg (by rintro (h | ⟨b', _, h, _⟩); exact hlt h; exact he h), nI_1]
  · obtain ⟨A', E, rfl, h1, h2, h3⟩ := hs
    have H2 : Hs K (D ++ E) q tt := Hs_app H
    show f_X11_which_19 (n + 1) _ _ _ _ _ _ = _
    rw [f_X11_which_19, gf_0_4, Option.bind_some, hs_6 H2, Option.bind_some, if_pos (by rw [y_le (by omega) (by omega)]; exact Nat.le_refl _)]
theorem m_which11 (hT : Told (A 58) tt lk lh) (hW : HWf tt) : ∃ f, f_X12_which_11 xFU (HH A Z B Q P F q D c) 57 nM (nI 0) (nI 0) = some (eo (whs tt (svh tt) (tt 5)).2, HH (upA A 63 f) Z B Q P F q D c) := by
  have hro := hW.ro
  have hho := hW.ho
  have key := loop_J (F := fun n i (s : xH) => f_X12_which_11 n s 57 (eo (whs tt (svh tt) i).2) (whs tt (svh tt) i).1 (nI i)) (N := tt 5) (fun s => some (eo (whs tt (svh tt) (tt 5)).2, s)) (fun i s => ∃ f, s = HH (upA A 63 f) Z B Q P F q D c) (fun n i s hi hs => ?_) (fun n s hs => ?_) (by omega) (s := HH A Z B Q P F q D c) ⟨A 63, by rw [y_ua]⟩
  · obtain ⟨s, e1, f, rfl⟩ := key
    exact ⟨f, e1⟩
  · obtain ⟨f, rfl⟩ := hs
    obtain ⟨g, e2⟩ := m_savesOf (A := upA A 63 f) (Z := Z) (B := B) (Q := Q) (P := P) (F := F) (q := q) (D := D) (c := c) hT hW hi
    rw [y_uu] at e2
    have hcost : ∀ j, tt (376 + 5 * j + 3) < 100000 := fun j => hW.b _
    have hld : ∀ f' j, j < tt 5 → ldI (HH (upA A 63 f') Z B Q P F q D c) .int 58 (((376 : Int32) + ((5 : Int32) * nI j)) + (3 : Int32)) = some (nI (tt (376 + 5 * j + 3))) := fun f' j hj => by
      rw [show (376 : Int32) = nI 376 from rfl, show (5 : Int32) = nI 5 from rfl, show (3 : Int32) = nI 3 from rfl, pk_mul, nI_add, nI_add, ld_58 (by omega)]
      exact congrArg some (hT.1 _ (by omega))
    have h5 : ldI (HH (upA A 63 f) Z B Q P F q D c) .int 58 (5 : Int32) = some (nI (tt 5)) := by
      rw [show (5 : Int32) = nI 5 from rfl, ld_58 (by omega)]
      exact congrArg some (hT.1 _ (by omega))
    refine ⟨HH (upA A 63 g) Z B Q P F q D c, ?_, g, rfl⟩
    show f_X12_which_11 (n + 1) _ _ _ _ _ = f_X12_which_11 n _ _ _ _ _
    rw [whs]
    have hwl := whs_lt (tt := tt) (sv := svh tt) i
    have esv : svs (bst (fun S => litB (nxt tt) (tt 1) S (2 ^ tt 1 - 1)) (2 ^ tt 1)) (bst (fun S => litB (nxh tt i) (tt 1) S (2 ^ tt 1 - 1)) (2 ^ tt 1)) = svh tt i := rfl
    rw [esv] at e2
    generalize whs tt (svh tt) i = p at hwl
    obtain ⟨pm, pf⟩ := p
    simp only at hwl ⊢
    rw [f_X12_which_11, gf_57_0, Option.bind_some, h5, Option.bind_some, if_neg (by rw [y_le (by omega) (by omega)]; omega), gO_57, Option.bind_some, e2, Option.bind_some]
    dsimp only
    generalize svh tt i = v
    unfold f_X12_which_74 f_X12_which_75 f_X12_which_91
    cases pf with
    | none =>
      rw [if_pos (show eo none = -1 from rfl)]
      by_cases hlt : pm < v
      · rw [if_pos hlt, if_pos (Or.inl hlt), nI_1]
        rfl
      · rw [if_neg hlt, if_pos rfl, if_neg (by rintro (h | ⟨b, h, _⟩); exact hlt h; cases h), nI_1]
    | some b =>
      have hb := hwl b rfl
      have hc1 := hcost i
      have hc2 := hcost b
      rw [if_neg (by show ¬ nI b = nM; rw [y_eqM (by omega)]; exact id)]
      by_cases he : v = pm
      · rw [if_pos he, gf_57_0, Option.bind_some, hld _ i hi, Option.bind_some, Option.bind_some]
        show ((ldI _ .int 58 (((376 : Int32) + ((5 : Int32) * nI b)) + (3 : Int32))).bind _) = _
        rw [hld _ b (by omega), Option.bind_some]
        have hnl : ¬ pm < v := by rw [he, fa_lt]; omega
        by_cases hcc : tt (376 + 5 * b + 3) ≤ tt (376 + 5 * i + 3)
        · rw [if_pos (by rw [y_le (by omega) (by omega)]; exact hcc), if_neg hnl, if_pos rfl, if_neg (by rintro (h | ⟨b', h, _, h3⟩); exact hnl h; cases h; omega), nI_1]
        · rw [if_neg (by rw [y_le (by omega) (by omega)]; exact hcc), if_neg hnl, if_neg (by decide), if_pos (Or.inr ⟨b, rfl, he, by omega⟩), nI_1]
          rfl
      · rw [if_neg he]
        by_cases hlt : pm < v
        · rw [if_pos hlt, if_pos (Or.inl hlt), nI_1]
          rfl
        · rw [if_neg hlt, if_pos rfl, if_neg (by rintro (h | ⟨b', _, h, _⟩); exact hlt h; exact he h), nI_1]
  · obtain ⟨f, rfl⟩ := hs
    have h5 : ldI (HH (upA A 63 f) Z B Q P F q D c) .int 58 (5 : Int32) = some (nI (tt 5)) := by
      rw [show (5 : Int32) = nI 5 from rfl, ld_58 (by omega)]
      exact congrArg some (hT.1 _ (by omega))
    show f_X12_which_11 (n + 1) _ _ _ _ _ = _
    rw [f_X12_which_11, gf_57_0, Option.bind_some, h5, Option.bind_some, if_pos (by rw [y_le (by omega) (by omega)]; exact Nat.le_refl _)]
end Whi
theorem ok_which : MHQ (fun h => f_X11_which h 0) (fun h => f_X12_which h 57) := by
  intro h i hJ hi
  obtain ⟨K, A, Z, B, Q, P, F, q, D, c, tt, lk, lh, R, rfl, hI⟩ := hJ
  have hz := hI.2.1.2.2.2
  obtain ⟨H, hW, hL, hT, hLm⟩ := hI.1
  have hcl := hI.2.2.2.2
  have hro := hW.ro
  have hpw := pw16 hro
  have hpp := Nat.two_pow_pos (tt 1)
  have hho := hW.ho
  obtain ⟨A', o, e1, h1, h2, h3, h4⟩ := c_fewestOf (A := A) (Z := Z) (B := B) (Q := Q) (P := P) (F := F) (c := c) H hW hz (al := 2 ^ tt 1 - 1) (by omega)
  have ho := few_eq hW h4
  rw [ho] at e1
  obtain ⟨A2, E, e2, hE, g1, g2⟩ := c_which19 (A := A') (Z := Z) (B := B) (Q := Q) (P := P) (F := F) (c := c) H hW h3 (by omega)
  have h12 := h1.tr g1 (fun _ h => h) (fun _ h => h)
  have hT' : Told (A2 58) tt lk lh := by rw [h12 58 (by decide)]; exact hT
  obtain ⟨f, e3⟩ := m_which11 (A := A2) (Z := upA (upA Z 3 (nI (tt 1))) 18 (nI 0)) (B := B) (Q := Q) (P := P) (F := F) (q := q) (D := D ++ E) (c := (c.1 + tt 5, c.2 + 16 * tt 5)) hT' hW
  refine ⟨eo (whs tt (svh tt) (tt 5)).2, HH A2 (upA Z 3 (nI (tt 1))) B Q P F q (D ++ E) (c.1 + tt 5, c.2 + 16 * tt 5), HH (upA A2 63 f) (upA (upA Z 3 (nI (tt 1))) 18 (nI 0)) B Q P F q (D ++ E) (c.1 + tt 5, c.2 + 16 * tt 5), ?_, ⟨_, _, _, _, _, _, _, _, _, rfl⟩, ?_, ⟨K, _, _, B, Q, P, F, q, D ++ E, _, tt, lk, lh, R, rfl, Inv_q hI (oCov h12 f) g2 (oZ3 _ _) Only.rf (by rw [hE]; exact Nat.le_refl _) (by show c.1 + tt 5 ≤ _; omega) (by show c.2 + 16 * tt 5 ≤ _; omega)⟩⟩
  · show f_X11_which (HH A Z B Q P F q D c) 0 = _
    unfold f_X11_which
    rw [gf_0_4, Option.bind_some, hs_gO H, Option.bind_some, c_allRooms H hW, Option.bind_some, gO_0, Option.bind_some, e1, Option.bind_some]
    exact e2
  · show f_X12_which (HH A2 (upA Z 3 (nI (tt 1))) B Q P F q (D ++ E) (c.1 + tt 5, c.2 + 16 * tt 5)) 57 = _
    unfold f_X12_which
    rw [pf_57_4, Option.bind_some]
    exact e3
