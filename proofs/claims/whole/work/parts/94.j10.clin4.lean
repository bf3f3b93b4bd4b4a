/-! ===== house: pane, hole, burns, hates, want by the class ===== -/
theorem upN_0 {row tf : Nat → Nat} {k : Nat} : upN row k 0 tf = row := by
  funext j
  exact if_neg (by omega)
theorem upN_s {row tf : Nat → Nat} {k m : Nat} : upN row k (m + 1) tf = va_up (upN row k m tf) (k + m) (tf m) := by
  funext j
  by_cases e : j = k + m
  · rw [e, y_vs]
    unfold upN
    rw [if_pos (by omega), Nat.add_sub_cancel_left]
  · rw [y_vn e]
    unfold upN
    by_cases e2 : k ≤ j ∧ j < k + m
    · rw [if_pos (by omega), if_pos e2]
    · rw [if_neg (by omega), if_neg e2]
theorem upN_4 {row tf : Nat → Nat} {k : Nat} : upN row k 4 tf = va_up (up3 row k (tf 0) (tf 1) (tf 2)) (k + 3) (tf 3) := by
  rw [upN_s, upN_s, upN_s, upN_s, upN_0]
  rfl
theorem upN_5 {row tf : Nat → Nat} {k : Nat} : upN row k 5 tf = va_up (va_up (up3 row k (tf 0) (tf 1) (tf 2)) (k + 3) (tf 3)) (k + 4) (tf 4) := by
  rw [upN_s, upN_4]
theorem upN_lo {row tf : Nat → Nat} {k m j : Nat} (h : j < k) : upN row k m tf j = row j := if_neg (by omega)
section CLin4
variable {A : Nat → Nat → Int32} {Z : Nat → Int32} {B : Nat → Nat → Int64} {Q : Nat → Int64} {P : Nat → Option Nat} {F : Nat → Nat → Option Nat} {q : Nat} {D0 : List xC} {c : Nat × Nat} {b : Nat → Nat} {n : Nat} {h : xH} {t : TK} {row tf : Nat → Nat} {tl : Nat}
theorem cr_l {α β : Type} {o : Option (Int32 × xH)} {w : Fl} {post : α → xH → Prop} {g : Int32 × xH → Option (Int32 × xH)} {post2 : β → xH → Prop} (H : CQ A Z B Q P F q D0 c o (.inl w) post) : CQ A Z B Q P F q D0 c (o.bind fun r2 => if r2.1 = 0 then some ((0 : Int32), r2.2) else g r2) (.inl w) post2 := by
  obtain ⟨h', e, g'⟩ := H
  exact ⟨h', by rw [e, Option.bind_some, if_pos n00]; rfl, g'⟩
theorem cg_pane57 {x y z w : Nat} (hl : row 2 < 60) (H : CG A Z B Q P F q D0 c b n h t row 3 (tf3 tf x y z)) : CQ A Z B Q P F q D0 c (f_X7_readPane_57 h (77 + D0.length) (nI w) (77 + D0.length)) (.inr (t, va_up (va_up (up3 row (8 + 4 * row 2) x y z) (8 + 4 * row 2 + 3) w) 2 (row 2 + 1))) (CL A Z B Q P F q D0 c b n) := by
  obtain ⟨_, ho⟩ := H.o
  obtain ⟨h1, e1, H1⟩ := cg_tell (v := w) (by decide) H
  obtain ⟨_, ho1⟩ := H1.o
  obtain ⟨h6, e6, H6⟩ := H1.kp (i := 1) (k := row 2 * 4) (m := 4) (by decide) (by decide) (by show row 2 * 4 + 4 ≤ 240; omega) (by decide)
  obtain ⟨h7, e7, H7⟩ := H6.ph (j := 3) (v := row 2 + 1) (by decide)
  have g6 := H6.gh (j := 3) (by decide)
  rw [show fr 3 = 2 from rfl, upN_lo (by show 2 < 8 + row 2 * 4; omega)] at g6
  have g5 := H1.gh (j := 3) (by decide)
  rw [show fr 3 = 2 from rfl] at g5
  unfold f_X7_readPane_57
  rw [ho, Option.bind_some, e1, Option.bind_some, H1.g8.1, Option.bind_some, H1.rh (by decide) (by decide), Option.bind_some, Option.bind_some, g5, Option.bind_some, ho1, Option.bind_some, show (4 : Int32) = nI 4 from rfl, pk_mul, e6, Option.bind_some, H6.g8.1, Option.bind_some, g6, Option.bind_some, show (1 : Int32) = nI 1 from rfl, nI_add, e7, Option.bind_some]
  refine ⟨h7, rfl, _, _, CG_row ?_ H7⟩
  rw [upN_4, show ab 1 + row 2 * 4 = 8 + 4 * row 2 by show 8 + row 2 * 4 = _; omega]
  rfl
theorem cg_pane (hn : n ≤ 800) (hb : ∀ k, k < n → A 1 k = sb (b k) ∧ b k < 256) (hW : HWf row) (hw : isW b 1 t = true) (H : CG A Z B Q P F q D0 c b n h t row 0 tf) : CQ A Z B Q P F q D0 c (f_X7_readPane h (77 + D0.length)) (if row 1 = 0 then .inl (flt t 2) else lPane b n t row) (CL A Z B Q P F q D0 c b n) := by
  have hpa := hW.pa
  have hro := hW.ro
  obtain ⟨_, ho⟩ := H.o
  have key : ∀ s0 : Int32, (s0 = 0 ↔ row 2 = 60) → CQ A Z B Q P F q D0 c (f_X7_readPane_18 h (77 + D0.length) s0 (77 + D0.length)) (if row 1 = 0 then .inl (flt t 2) else lPane b n t row) (CL A Z B Q P F q D0 c b n) := by
    intro s0 hs
    have hm := cg_may hn hb hro (l1 := s0) H
    unfold f_X7_readPane_18
    rw [ho, Option.bind_some]
    by_cases c0 : row 1 = 0
    · rw [if_pos c0] at hm ⊢
      exact cr_l hm
    · rw [if_neg c0] at hm ⊢
      unfold lPane
      by_cases c1 : row 2 = 60
      · rw [if_pos (hs.mpr c1)] at hm
        rw [if_pos c1]
        exact cr_l hm
      · rw [if_neg (fun e => c1 (hs.mp e))] at hm
        rw [if_neg c1]
        obtain ⟨h1, e1, H1⟩ := hm
        obtain ⟨_, ho1⟩ := H1.o
        obtain ⟨h2, e2, H2⟩ := cg_w hn hb (by decide) hw H1
        obtain ⟨_, ho2⟩ := H2.o
        rw [e1, Option.bind_some, if_neg n10]
        dsimp only
        rw [ho1, Option.bind_some, e2, Option.bind_some, if_neg n10]
        dsimp only
        rw [ho2, Option.bind_some]
        refine cr_b (cg_passage hn hb (by omega) hro H2) (fun x h3 H3 => ?_)
        dsimp only
        obtain ⟨_, ho3⟩ := H3.o
        obtain ⟨p1, p2⟩ := cg_passIf hn hb (i := 4) (by decide) H3
        rw [ho3, Option.bind_some]
        unfold pBoth
        by_cases c4 : isW b 4 x.2.2.2 = true
        · obtain ⟨h4, e4, H4⟩ := p1 c4
          rw [e4, Option.bind_some, if_neg n10, if_pos c4]
          exact cg_pane57 (w := 1) (by omega) H4
        · rw [p2 c4, Option.bind_some, if_pos n00, if_neg c4]
          exact cg_pane57 (w := 0) (by omega) H3
  unfold f_X7_readPane
  rw [H.g8.1, Option.bind_some, H.gh (by decide), Option.bind_some]
  show CQ A Z B Q P F q D0 c (if nI 60 ≤ nI (row 2) then _ else _) _ _
  by_cases c1 : row 2 = 60
  · rw [if_pos (by rw [y_le (by omega) (by omega)]; omega)]
    exact key 0 (by simp [c1])
  · rw [if_neg (by rw [y_le (by omega) (by omega)]; omega)]
    exact key 1 (by simp [c1])
theorem cg_hole76 {x y z u w : Nat} (hl : row 5 < 8) (H : CG A Z B Q P F q D0 c b n h t row 4 (va_up (tf3 tf x y z) 3 u)) : CQ A Z B Q P F q D0 c (f_X7_readHole_76 h (77 + D0.length) (nI w) (77 + D0.length)) (.inr (t, va_up (va_up (va_up (up3 row (376 + 5 * row 5) x y z) (376 + 5 * row 5 + 3) u) (376 + 5 * row 5 + 4) w) 5 (row 5 + 1))) (CL A Z B Q P F q D0 c b n) := by
  obtain ⟨_, ho⟩ := H.o
  obtain ⟨h1, e1, H1⟩ := cg_tell (v := w) (by decide) H
  obtain ⟨_, ho1⟩ := H1.o
  obtain ⟨h6, e6, H6⟩ := H1.kp (i := 4) (k := row 5 * 5) (m := 5) (by decide) (by decide) (by show row 5 * 5 + 5 ≤ 40; omega) (by decide)
  obtain ⟨h7, e7, H7⟩ := H6.ph (j := 6) (v := row 5 + 1) (by decide)
  have g6 := H6.gh (j := 6) (by decide)
  rw [show fr 6 = 5 from rfl, upN_lo (by show 5 < 376 + row 5 * 5; omega)] at g6
  have g5 := H1.gh (j := 6) (by decide)
  rw [show fr 6 = 5 from rfl] at g5
  unfold f_X7_readHole_76
  rw [ho, Option.bind_some, e1, Option.bind_some, H1.g8.1, Option.bind_some, H1.rh (by decide) (by decide), Option.bind_some, Option.bind_some, g5, Option.bind_some, ho1, Option.bind_some, show (5 : Int32) = nI 5 from rfl, pk_mul, e6, Option.bind_some, H6.g8.1, Option.bind_some, g6, Option.bind_some, show (1 : Int32) = nI 1 from rfl, nI_add, e7, Option.bind_some]
  refine ⟨h7, rfl, _, _, CG_row ?_ H7⟩
  rw [upN_5, show ab 4 + row 5 * 5 = 376 + 5 * row 5 by show 376 + row 5 * 5 = _; omega]
  rfl
theorem cg_hole (hn : n ≤ 800) (hb : ∀ k, k < n → A 1 k = sb (b k) ∧ b k < 256) (hW : HWf row) (hw : isW b 12 t = true) (H : CG A Z B Q P F q D0 c b n h t row 0 tf) : CQ A Z B Q P F q D0 c (f_X7_readHole h (77 + D0.length)) (if row 1 = 0 then .inl (flt t 2) else lHole b n t row) (CL A Z B Q P F q D0 c b n) := by
  have hpa := hW.ho
  have hro := hW.ro
  obtain ⟨_, ho⟩ := H.o
  have key : ∀ s0 : Int32, (s0 = 0 ↔ row 5 = 8) → CQ A Z B Q P F q D0 c (f_X7_readHole_18 h (77 + D0.length) s0 (77 + D0.length)) (if row 1 = 0 then .inl (flt t 2) else lHole b n t row) (CL A Z B Q P F q D0 c b n) := by
    intro s0 hs
    have hm := cg_may hn hb hro (l1 := s0) H
    unfold f_X7_readHole_18
    rw [ho, Option.bind_some]
    by_cases c0 : row 1 = 0
    · rw [if_pos c0] at hm ⊢
      exact cr_l hm
    · rw [if_neg c0] at hm ⊢
      unfold lHole
      by_cases c1 : row 5 = 8
      · rw [if_pos (hs.mpr c1)] at hm
        rw [if_pos c1]
        exact cr_l hm
      · rw [if_neg (fun e => c1 (hs.mp e))] at hm
        rw [if_neg c1]
        obtain ⟨h1, e1, H1⟩ := hm
        obtain ⟨_, ho1⟩ := H1.o
        obtain ⟨h2, e2, H2⟩ := cg_w hn hb (by decide) hw H1
        obtain ⟨_, ho2⟩ := H2.o
        rw [e1, Option.bind_some, if_neg n10]
        dsimp only
        rw [ho1, Option.bind_some, e2, Option.bind_some, if_neg n10]
        dsimp only
        rw [ho2, Option.bind_some]
        refine cr_b (cg_passage hn hb (by omega) hro H2) (fun x h3 H3 => ?_)
        dsimp only
        obtain ⟨_, ho3⟩ := H3.o
        unfold pTold
        rw [ho3, Option.bind_some, pb_as]
        refine cr_b (cg_pass hn hb (i := 13) (by decide) H3) (fun t4 h4 H4 => ?_)
        dsimp only
        obtain ⟨_, ho4⟩ := H4.o
        rw [ho4, Option.bind_some]
        refine cr_b (cg_number hn hb (lo := 0) (hi := 99) (by decide) (by decide) (by decide) H4) (fun y h5 H5 => ?_)
        dsimp only
        obtain ⟨_, ho5⟩ := H5.o
        obtain ⟨p1, p2⟩ := cg_passIf hn hb (i := 4) (by decide) H5
        rw [ho5, Option.bind_some]
        unfold pBoth
        by_cases c4 : isW b 4 y.2 = true
        · obtain ⟨h6, e6, H6⟩ := p1 c4
          rw [e6, Option.bind_some, if_neg n10, if_pos c4]
          exact cg_hole76 (w := 1) (by omega) H6
        · rw [p2 c4, Option.bind_some, if_pos n00, if_neg c4]
          exact cg_hole76 (w := 0) (by omega) H5
  unfold f_X7_readHole
  rw [H.g8.1, Option.bind_some, H.gh (by decide), Option.bind_some]
  show CQ A Z B Q P F q D0 c (if nI 8 ≤ nI (row 5) then _ else _) _ _
  by_cases c1 : row 5 = 8
  · rw [if_pos (by rw [y_le (by omega) (by omega)]; omega)]
    exact key 0 (by simp [c1])
  · rw [if_neg (by rw [y_le (by omega) (by omega)]; omega)]
    exact key 1 (by simp [c1])
theorem cg_burns (hn : n ≤ 800) (hb : ∀ k, k < n → A 1 k = sb (b k) ∧ b k < 256) (hW : HWf row) (hw : isW b 14 t = true) (H : CG A Z B Q P F q D0 c b n h t row 0 tf) : CQ A Z B Q P F q D0 c (f_X7_readBurns h (77 + D0.length)) (if row 1 = 0 then .inl (flt t 2) else lBurns b n t row) (CL A Z B Q P F q D0 c b n) := by
  have hro := hW.ro
  obtain ⟨_, ho⟩ := H.o
  have hm := cg_may hn hb hro (l1 := 1) H
  unfold f_X7_readBurns
  rw [ho, Option.bind_some]
  by_cases c0 : row 1 = 0
  · rw [if_pos c0] at hm ⊢
    exact cr_l hm
  · rw [if_neg c0] at hm ⊢
    rw [if_neg (by decide)] at hm
    unfold lBurns
    obtain ⟨h1, e1, H1⟩ := hm
    obtain ⟨_, ho1⟩ := H1.o
    obtain ⟨h2, e2, H2⟩ := cg_w hn hb (by decide) hw H1
    obtain ⟨_, ho2⟩ := H2.o
    rw [e1, Option.bind_some, if_neg n10]
    dsimp only
    rw [ho1, Option.bind_some, e2, Option.bind_some, if_neg n10]
    dsimp only
    rw [ho2, Option.bind_some]
    refine cr_b (cg_number hn hb (lo := 0) (hi := 99) (by decide) (by decide) (by decide) H2) (fun x h3 H3 => ?_)
    dsimp only
    obtain ⟨_, ho3⟩ := H3.o
    rw [ho3, Option.bind_some]
    refine cr_b (cg_pass hn hb (i := 15) (by decide) H3) (fun t4 h4 H4 => ?_)
    dsimp only
    obtain ⟨_, ho4⟩ := H4.o
    have g4 := H4.gh (j := 1) (by decide)
    rw [show fr 1 = 1 from rfl] at g4
    rw [H4.g8.1, Option.bind_some, g4, Option.bind_some, ho4, Option.bind_some, show nI (row 1) - (1 : Int32) = nI (row 1 - 1) from y_sub (a := row 1) (b := 1) (by omega)]
    refine cr_p (cg_number hn hb (lo := 0) (hi := row 1 - 1) (by decide) (by omega) (by decide) H4) (fun y h5 hy H5 => ?_)
    have hy := pNum_le hy
    dsimp only
    have t0 := H5.told (k := 0) (by decide)
    have t1 := H5.told (k := 1) (by decide)
    rw [show va_up (va_up tf 0 x.1) (0 + 1) y.1 0 = x.1 from rfl] at t0
    rw [show va_up (va_up tf 0 x.1) (0 + 1) y.1 1 = y.1 from rfl] at t1
    obtain ⟨h6, e6, H6⟩ := H5.sa (i := 5) (k := y.1) (v := x.1) (by decide) (by decide) (by show y.1 < 16; omega)
    rw [H5.g8.1, Option.bind_some, H5.rh (by decide) (by decide), Option.bind_some, H5.g8.2, Option.bind_some, show (1 : Int32) = nI 1 from rfl, t1, Option.bind_some, Option.bind_some, show (0 : Int32) = nI 0 from rfl, t0, Option.bind_some, e6, Option.bind_some]
    exact ⟨h6, rfl, _, _, H6⟩
theorem cg_hates (hn : n ≤ 800) (hb : ∀ k, k < n → A 1 k = sb (b k) ∧ b k < 256) (hW : HWf row) (hw : isW b 16 t = true) (H : CG A Z B Q P F q D0 c b n h t row 0 tf) : CQ A Z B Q P F q D0 c (f_X7_readHates h (77 + D0.length)) (if row 1 = 0 then .inl (flt t 2) else lHates b n t row) (CL A Z B Q P F q D0 c b n) := by
  have hro := hW.ro
  obtain ⟨_, ho⟩ := H.o
  have hm := cg_may hn hb hro (l1 := 1) H
  have g0 := H.gh (j := 1) (by decide)
  rw [show fr 1 = 1 from rfl] at g0
  unfold f_X7_readHates
  rw [H.g8.1, Option.bind_some, g0, Option.bind_some, ho, Option.bind_some]
  by_cases c0 : row 1 = 0
  · rw [if_pos c0] at hm ⊢
    exact cr_l hm
  · rw [if_neg c0] at hm ⊢
    rw [if_neg (by decide)] at hm
    unfold lHates
    obtain ⟨h1, e1, H1⟩ := hm
    obtain ⟨_, ho1⟩ := H1.o
    obtain ⟨h2, e2, H2⟩ := cg_w hn hb (by decide) hw H1
    obtain ⟨_, ho2⟩ := H2.o
    rw [show nI (row 1) - (1 : Int32) = nI (row 1 - 1) from y_sub (a := row 1) (b := 1) (by omega), e1, Option.bind_some, if_neg n10]
    dsimp only
    rw [ho1, Option.bind_some, e2, Option.bind_some, if_neg n10]
    dsimp only
    rw [ho2, Option.bind_some]
    refine cr_p (cg_number hn hb (lo := 0) (hi := row 1 - 1) (by decide) (by omega) (by decide) H2) (fun x h3 hx H3 => ?_)
    have hx := pNum_le hx
    dsimp only
    obtain ⟨_, ho3⟩ := H3.o
    have t5 := (H3.tk.sp hn).2.2.2.2
    have hv0 : va_up tf 0 x.1 0 = x.1 := y_vs
    rw [ho3, Option.bind_some, pNum_but t5, pb_as]
    have hdf := cg_differs hn hb (by decide) (by rw [hv0]; omega) H3
    rw [hv0] at hdf
    refine cr_b hdf (fun _ h4 H4 => ?_)
    dsimp only
    obtain ⟨_, ho4⟩ := H4.o
    rw [ho4, Option.bind_some]
    refine cr_p (cg_number hn hb (lo := 0) (hi := row 1 - 1) (by decide) (by omega) (by decide) H4) (fun y h5 hy H5 => ?_)
    have hy := pNum_le hy
    dsimp only
    have t0 := H5.told (k := 0) (by decide)
    have t1 := H5.told (k := 1) (by decide)
    rw [show va_up (va_up tf 0 x.1) (0 + 1) y.1 0 = x.1 from rfl] at t0
    rw [show va_up (va_up tf 0 x.1) (0 + 1) y.1 1 = y.1 from rfl] at t1
    have hla := H5.la (i := 6) (k := x.1) (by decide) (by decide) (by show x.1 < 16; omega)
    obtain ⟨h6, e6, H6⟩ := H5.sa (i := 6) (k := x.1) (v := row (432 + x.1) ||| 2 ^ y.1) (by decide) (by decide) (by show x.1 < 16; omega)
    rw [H5.g8.1, Option.bind_some, H5.rh (by decide) (by decide), Option.bind_some, H5.g8.2, Option.bind_some, show (0 : Int32) = nI 0 from rfl, t0, Option.bind_some, show 77 + D0.length + 1 + (12 - 6) = 77 + D0.length + 1 + 6 from rfl, hla, Option.bind_some, Option.bind_some, show ldI h5 .int (77 + D0.length + 11) 1 = _ from t1, Option.bind_some, show (1 : Int32) <<< (nI y.1 &&& 31) = nI (2 ^ y.1) from n_shl (by omega), show nI (row (ab 6 + x.1)) ||| nI (2 ^ y.1) = nI (row (432 + x.1) ||| 2 ^ y.1) from fa_or _ _, e6, Option.bind_some]
    exact ⟨h6, rfl, _, _, H6⟩
theorem cg_w167 (hl : row 4 < 24) (H : CG A Z B Q P F q D0 c b n h t row 5 tf) : CQ A Z B Q P F q D0 c (f_X7_readWant_167 h (77 + D0.length)) (.inr (t, va_up (va_up (va_up (up3 row (256 + 5 * row 4) (tf 0) (tf 1) (tf 2)) (256 + 5 * row 4 + 3) (tf 3)) (256 + 5 * row 4 + 4) (tf 4)) 4 (row 4 + 1))) (CL A Z B Q P F q D0 c b n) := by
  obtain ⟨_, ho⟩ := H.o
  obtain ⟨h6, e6, H6⟩ := H.kp (i := 3) (k := row 4 * 5) (m := 5) (by decide) (by decide) (by show row 4 * 5 + 5 ≤ 120; omega) (by decide)
  obtain ⟨h7, e7, H7⟩ := H6.ph (j := 5) (v := row 4 + 1) (by decide)
  have g6 := H6.gh (j := 5) (by decide)
  rw [show fr 5 = 4 from rfl, upN_lo (by show 4 < 256 + row 4 * 5; omega)] at g6
  have g5 := H.gh (j := 5) (by decide)
  rw [show fr 5 = 4 from rfl] at g5
  unfold f_X7_readWant_167
  rw [H.g8.1, Option.bind_some, H.rh (by decide) (by decide), Option.bind_some, Option.bind_some, g5, Option.bind_some, ho, Option.bind_some, show (5 : Int32) = nI 5 from rfl, pk_mul, e6, Option.bind_some, H6.g8.1, Option.bind_some, g6, Option.bind_some, show (1 : Int32) = nI 1 from rfl, nI_add, e7, Option.bind_some]
  refine ⟨h7, rfl, _, _, CG_row ?_ H7⟩
  rw [upN_5, show ab 3 + row 4 * 5 = 256 + 5 * row 4 by show 256 + row 4 * 5 = _; omega]
  rfl
theorem cg_w108 (hn : n ≤ 800) (hb : ∀ k, k < n → A 1 k = sb (b k) ∧ b k < 256) (hl : row 4 < 24) (H : CG A Z B Q P F q D0 c b n h t row 3 tf) : CQ A Z B Q P F q D0 c (f_X7_readWant_108 h (77 + D0.length)) (pb (pFrom b n t) fun w => .inr (w.2.2, va_up (va_up (va_up (up3 row (256 + 5 * row 4) (tf 0) (tf 1) (tf 2)) (256 + 5 * row 4 + 3) w.1) (256 + 5 * row 4 + 4) w.2.1) 4 (row 4 + 1))) (CL A Z B Q P F q D0 c b n) := by
  obtain ⟨_, ho⟩ := H.o
  obtain ⟨p1, p2⟩ := cg_passIf hn hb (i := 11) (by decide) H
  unfold f_X7_readWant_108 pFrom
  rw [ho, Option.bind_some]
  by_cases c1 : isW b 11 t = true
  · obtain ⟨h1, e1, H1⟩ := p1 c1
    obtain ⟨_, ho1⟩ := H1.o
    rw [e1, Option.bind_some, if_neg n10, if_pos c1]
    dsimp only
    rw [ho1, Option.bind_some, pb_as]
    refine cr_p (cg_number hn hb (lo := 0) (hi := 23) (by decide) (by decide) (by decide) H1) (fun x h2 hx H2 => ?_)
    have hx := pNum_le hx
    dsimp only
    obtain ⟨_, ho2⟩ := H2.o
    unfold pTold
    rw [ho2, Option.bind_some, pb_as, pb_as]
    refine cr_b (cg_pass hn hb (i := 2) (by decide) H2) (fun t3 h3 H3 => ?_)
    dsimp only
    obtain ⟨_, ho3⟩ := H3.o
    have t3 := H3.told (k := 3) (by decide)
    rw [show va_up tf 3 x.1 3 = x.1 from rfl] at t3
    rw [H3.g8.2, Option.bind_some, show ldI h3 .int (77 + D0.length + 11) 3 = _ from t3, Option.bind_some, ho3, Option.bind_some]
    refine cr_b (cg_number hn hb (lo := x.1) (hi := 23) (by omega) (by decide) (by decide) H3) (fun y h4 H4 => ?_)
    exact cg_w167 hl H4
  · obtain ⟨h1, e1, H1⟩ := cg_tell (v := 0) (by decide) H
    obtain ⟨_, ho1⟩ := H1.o
    obtain ⟨h2, e2, H2⟩ := cg_tell (v := 23) (by decide) H1
    rw [p2 c1, Option.bind_some, if_pos n00, if_neg c1]
    dsimp only
    rw [ho, Option.bind_some, show f_X7_tell h (77 + D0.length) 0 = _ from e1, Option.bind_some, ho1, Option.bind_some, show f_X7_tell h1 (77 + D0.length) 23 = _ from e2, Option.bind_some]
    exact cg_w167 hl H2
theorem cg_want (hn : n ≤ 800) (hb : ∀ k, k < n → A 1 k = sb (b k) ∧ b k < 256) (hW : HWf row) (hw : isW b 8 t = true) (H : CG A Z B Q P F q D0 c b n h t row 0 tf) : CQ A Z B Q P F q D0 c (f_X7_readWant h (77 + D0.length)) (if row 1 = 0 then .inl (flt t 2) else lWant b n t row) (CL A Z B Q P F q D0 c b n) := by
  have hpa := hW.wa
  have hro := hW.ro
  obtain ⟨_, ho⟩ := H.o
  have key : ∀ s0 : Int32, (s0 = 0 ↔ row 4 = 24) → CQ A Z B Q P F q D0 c (f_X7_readWant_18 h (77 + D0.length) s0 (77 + D0.length)) (if row 1 = 0 then .inl (flt t 2) else lWant b n t row) (CL A Z B Q P F q D0 c b n) := by
    intro s0 hs
    have hm := cg_may hn hb hro (l1 := s0) H
    unfold f_X7_readWant_18
    rw [ho, Option.bind_some]
    by_cases c0 : row 1 = 0
    · rw [if_pos c0] at hm ⊢
      exact cr_l hm
    · rw [if_neg c0] at hm ⊢
      unfold lWant
      by_cases c1 : row 4 = 24
      · rw [if_pos (hs.mpr c1)] at hm
        rw [if_pos c1]
        exact cr_l hm
      · rw [if_neg (fun e => c1 (hs.mp e))] at hm
        rw [if_neg c1]
        obtain ⟨h1, e1, H1⟩ := hm
        obtain ⟨_, ho1⟩ := H1.o
        obtain ⟨h2, e2, H2⟩ := cg_w hn hb (by decide) hw H1
        obtain ⟨_, ho2⟩ := H2.o
        have g2 := H2.gh (j := 1) (by decide)
        rw [show fr 1 = 1 from rfl] at g2
        rw [e1, Option.bind_some, if_neg n10]
        dsimp only
        rw [ho1, Option.bind_some, e2, Option.bind_some, if_neg n10]
        dsimp only
        rw [H2.g8.1, Option.bind_some, g2, Option.bind_some, ho2, Option.bind_some, show nI (row 1) - (1 : Int32) = nI (row 1 - 1) from y_sub (a := row 1) (b := 1) (by omega)]
        refine cr_b (cg_number hn hb (lo := 0) (hi := row 1 - 1) (by decide) (by omega) (by decide) H2) (fun x h3 H3 => ?_)
        dsimp only
        obtain ⟨_, ho3⟩ := H3.o
        unfold pTold
        rw [ho3, Option.bind_some, pb_as]
        refine cr_b (cg_pass hn hb (i := 9) (by decide) H3) (fun t4 h4 H4 => ?_)
        dsimp only
        obtain ⟨_, ho4⟩ := H4.o
        rw [ho4, Option.bind_some]
        refine cr_p (cg_number hn hb (lo := 0) (hi := 9999) (by decide) (by decide) (by decide) H4) (fun y h5 hy H5 => ?_)
        have hy := pNum_le hy
        dsimp only
        obtain ⟨_, ho5⟩ := H5.o
        obtain ⟨p1, p2⟩ := cg_passIf hn hb (i := 10) (by decide) H5
        rw [ho5, Option.bind_some]
        unfold pMost
        by_cases c4 : isW b 10 y.2 = true
        · obtain ⟨h6, e6, H6⟩ := p1 c4
          obtain ⟨_, ho6⟩ := H6.o
          have t1 := H6.told (k := 1) (by decide)
          rw [show va_up (va_up tf 0 x.1) (0 + 1) y.1 1 = y.1 from rfl] at t1
          rw [e6, Option.bind_some, if_neg n10, if_pos c4]
          dsimp only
          rw [H6.g8.2, Option.bind_some, show ldI h6 .int (77 + D0.length + 11) 1 = _ from t1, Option.bind_some, ho6, Option.bind_some]
          refine cr_b (cg_number hn hb (lo := y.1) (hi := 9999) (by omega) (by decide) (by decide) H6) (fun z h7 H7 => ?_)
          exact cg_w108 hn hb (by omega) H7
        · obtain ⟨h7, e7, H7⟩ := cg_tell (v := 99999) (by decide) H5
          rw [p2 c4, Option.bind_some, if_pos n00, if_neg c4]
          dsimp only
          rw [ho5, Option.bind_some, show f_X7_tell h5 (77 + D0.length) 99999 = _ from e7, Option.bind_some]
          exact cg_w108 hn hb (by omega) H7
  unfold f_X7_readWant
  rw [H.g8.1, Option.bind_some, H.gh (by decide), Option.bind_some]
  show CQ A Z B Q P F q D0 c (if nI 24 ≤ nI (row 4) then _ else _) _ _
  by_cases c1 : row 4 = 24
  · rw [if_pos (by rw [y_le (by omega) (by omega)]; omega)]
    exact key 0 (by simp [c1])
  · rw [if_neg (by rw [y_le (by omega) (by omega)]; omega)]
    exact key 1 (by simp [c1])
end CLin4
