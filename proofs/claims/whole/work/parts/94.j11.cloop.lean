/-! ===== house: a line, and all lines, by the class ===== -/
theorem wrd_in : ∀ i, i < 18 → ∀ j, j < 18 → wrd i = wrd j → i = j := by decide +kernel
theorem isW_ex {b : Nat → Nat} {t : TK} {i j : Nat} (hi : i < 18) (hj : j < 18) (hne : i ≠ j) (h : isW b i t = true) : ¬ isW b j t = true := by
  intro h2
  unfold isW at h h2
  rw [Bool.and_eq_true] at h h2
  have l1 := (of_decide_eq_true h.1).2
  have l2 := (of_decide_eq_true h2.1).2
  refine hne (wrd_in i hi j hj (List.ext_getElem (by omega) (fun k k1 k2 => ?_)))
  have e1 := of_decide_eq_true (allB_iff.mp h.2 k k1)
  have e2 := of_decide_eq_true (allB_iff.mp h2.2 k k2)
  rw [List.getD_eq_getElem?_getD, List.getElem?_eq_getElem k1] at e1
  rw [List.getD_eq_getElem?_getD, List.getElem?_eq_getElem k2] at e2
  exact e1.symm.trans e2
section CLoop
variable {A : Nat → Nat → Int32} {Z : Nat → Int32} {B : Nat → Nat → Int64} {Q : Nat → Int64} {P : Nat → Option Nat} {F : Nat → Nat → Option Nat} {q : Nat} {D0 : List xC} {c : Nat × Nat} {b : Nat → Nat} {n : Nat} {h : xH} {t : TK} {row tf : Nat → Nat} {tl : Nat}
theorem nb_1 : narrow .boolean (.int (nI 1)) = .int (nI 1) := by decide
theorem cr_n {α : Type} {o : Option (Int32 × xH)} {r : Fl ⊕ α} {post : α → xH → Prop} (H : CQ A Z B Q P F q D0 c o r post) : CQ A Z B Q P F q D0 c (o.bind fun r2 => if narrow .boolean (.int (r2.1)) = .int (r2.1) then some (r2.1, r2.2) else none) r post := by
  cases r with
  | inl w =>
    obtain ⟨h', e, g'⟩ := H
    exact ⟨h', by rw [e, Option.bind_some]; exact if_pos nb_0, g'⟩
  | inr x =>
    obtain ⟨h', e, g'⟩ := H
    exact ⟨h', by rw [e, Option.bind_some]; exact if_pos nb_1, g'⟩
theorem cg_line (hn : n ≤ 800) (hb : ∀ k, k < n → A 1 k = sb (b k) ∧ b k < 256) (hW : HWf row) (H : CG A Z B Q P F q D0 c b n h t row 0 tf) : CQ A Z B Q P F q D0 c (f_X7_readLine h (77 + D0.length)) (pLine0 b n t row) (CL A Z B Q P F q D0 c b n) := by
  obtain ⟨_, ho⟩ := H.o
  have w := fun i (hi : i < 18) => cg_isW hn hb hi H
  unfold f_X7_readLine
  rw [ho, Option.bind_some, w 0 (by decide), Option.bind_some, n_ite]
  by_cases w0 : isW b 0 t = true
  · have hp : pLine0 b n t row = lRooms b n t row := by unfold pLine0; rw [if_pos w0]
    rw [hp, if_pos w0, Option.bind_some]
    exact cr_n (cg_rooms hn hb hW w0 H)
  · rw [if_neg w0, Option.bind_some, w 1 (by decide), Option.bind_some, n_ite]
    by_cases w1 : isW b 1 t = true
    · have hp : pLine0 b n t row = if row 1 = 0 then .inl (flt t 2) else lPane b n t row := by
        unfold pLine0
        rw [if_neg w0, if_neg (isW_ex (j := 5) (by decide) (by decide) (by decide) w1), if_neg (isW_ex (j := 17) (by decide) (by decide) (by decide) w1), if_pos w1]
      rw [hp, if_pos w1, Option.bind_some]
      exact cr_n (cg_pane hn hb hW w1 H)
    · rw [if_neg w1, Option.bind_some, w 5 (by decide), Option.bind_some, n_ite]
      by_cases w5 : isW b 5 t = true
      · have hp : pLine0 b n t row = lLamp b n t row := by unfold pLine0; rw [if_neg w0, if_pos w5]
        rw [hp, if_pos w5, Option.bind_some]
        exact cr_n (cg_lamp hn hb hW w5 H)
      · rw [if_neg w5, Option.bind_some, w 8 (by decide), Option.bind_some, n_ite]
        by_cases w8 : isW b 8 t = true
        · have hp : pLine0 b n t row = if row 1 = 0 then .inl (flt t 2) else lWant b n t row := by
            unfold pLine0
            rw [if_neg w0, if_neg w5, if_neg (isW_ex (j := 17) (by decide) (by decide) (by decide) w8), if_neg w1, if_pos w8]
          rw [hp, if_pos w8, Option.bind_some]
          exact cr_n (cg_want hn hb hW w8 H)
        · rw [if_neg w8, Option.bind_some, w 12 (by decide), Option.bind_some, n_ite]
          by_cases w12 : isW b 12 t = true
          · have hp : pLine0 b n t row = if row 1 = 0 then .inl (flt t 2) else lHole b n t row := by
              unfold pLine0
              rw [if_neg w0, if_neg w5, if_neg (isW_ex (j := 17) (by decide) (by decide) (by decide) w12), if_neg w1, if_neg w8, if_pos w12]
            rw [hp, if_pos w12, Option.bind_some]
            exact cr_n (cg_hole hn hb hW w12 H)
          · rw [if_neg w12, Option.bind_some, w 14 (by decide), Option.bind_some, n_ite]
            by_cases w14 : isW b 14 t = true
            · have hp : pLine0 b n t row = if row 1 = 0 then .inl (flt t 2) else lBurns b n t row := by
                unfold pLine0
                rw [if_neg w0, if_neg w5, if_neg (isW_ex (j := 17) (by decide) (by decide) (by decide) w14), if_neg w1, if_neg w8, if_neg w12, if_pos w14]
              rw [hp, if_pos w14, Option.bind_some]
              exact cr_n (cg_burns hn hb hW w14 H)
            · rw [if_neg w14, Option.bind_some, w 16 (by decide), Option.bind_some, n_ite]
              by_cases w16 : isW b 16 t = true
              · have hp : pLine0 b n t row = if row 1 = 0 then .inl (flt t 2) else lHates b n t row := by
                  unfold pLine0
                  rw [if_neg w0, if_neg w5, if_neg (isW_ex (j := 17) (by decide) (by decide) (by decide) w16), if_neg w1, if_neg w8, if_neg w12, if_neg w14, if_pos w16]
                rw [hp, if_pos w16, Option.bind_some]
                exact cr_n (cg_hates hn hb hW w16 H)
              · rw [if_neg w16, Option.bind_some, w 17 (by decide), Option.bind_some, n_ite]
                by_cases w17 : isW b 17 t = true
                · have hp : pLine0 b n t row = lDear b n t row := by
                    unfold pLine0
                    rw [if_neg w0, if_neg w5, if_pos w17]
                  rw [hp, if_pos w17, Option.bind_some]
                  exact cr_n (cg_dear hn hb w17 H)
                · have hp : pLine0 b n t row = .inl (flt t 2) := by
                    unfold pLine0
                    rw [if_neg w0, if_neg w5, if_neg w17, if_neg w1, if_neg w8, if_neg w12, if_neg w14, if_neg w16, ite_self]
                  rw [hp, if_neg w17, Option.bind_some]
                  obtain ⟨h2, e2, H2⟩ := cg_refuse hn hb (k := 2) (by decide) (by decide) H
                  refine cr_n ⟨h2, e2, H2⟩
theorem cg_sign (hn : n ≤ 800) (hb : ∀ k, k < n → A 1 k = sb (b k) ∧ b k < 256) (H : CG A Z B Q P F q D0 c b n h t row tl tf) : CQ A Z B Q P F q D0 c (f_X7_passSign h (77 + D0.length)) (if t.1 = 3 then .inr (adv b n t) else .inl (flt t 2)) (fun t' h' => CG A Z B Q P F q D0 c b n h' t' row tl tf) := by
  obtain ⟨_, ho⟩ := H.o
  obtain ⟨t1, t2, t3, t4, t5⟩ := H.tk.sp hn
  unfold f_X7_passSign
  rw [H.g4, Option.bind_some]
  by_cases c1 : t.1 = 3
  · obtain ⟨h1, e1, H1⟩ := cg_adv hn hb H
    rw [if_pos (by rw [c1]; rfl), if_pos c1, ho, Option.bind_some, e1, Option.bind_some]
    exact ⟨h1, rfl, H1⟩
  · obtain ⟨h2, e2, H2⟩ := cg_refuse hn hb (k := 2) (by decide) (by decide) H
    rw [if_neg (by rw [show (3 : Int32) = nI 3 from rfl, y_eq (by omega) (by omega)]; exact c1), if_neg c1, ho, Option.bind_some, show (2 : Int32) = nI 2 from rfl, e2, Option.bind_some]
    exact ⟨h2, if_pos nb_0, H2⟩
theorem CG.p10 (H : CG A Z B Q P F q D0 c b n h t row tl tf) : ∃ h', pF h (77 + D0.length) 7 10 (.int (nI 0)) = some h' ∧ CG A Z B Q P F q D0 c b n h' t row 0 tf := by
  obtain ⟨D, f, rfl, hp, hr, f0, f1, f3, ft, f10, hT, hH, hL0, g, hg, hg2⟩ := H
  obtain ⟨D2, e2, d2, r2⟩ := ro_p (A := A) (Z := Z) (B := B) (Q := Q) (P := P) (F := F) (q := q) (c := c) hr (k := 10) (v := nI 0) (by decide)
  exact ⟨_, e2, D2, _, rfl, hp.dO (Nat.le_refl _) d2, r2, f0, f1, f3, ft, rfl, hT, hH.dO d2 (by omega), Nat.zero_le _, g, by rw [d2.2 _ (by omega)]; exact hg, fun k hk => by omega⟩
theorem CG.g0 (H : CG A Z B Q P F q D0 c b n h t row tl tf) : gI h (77 + D0.length) 7 0 = some (nI 0) := by
  obtain ⟨D, f, rfl, hp, hr, f0, f1, f3, ft, f10, hT, hH, hL⟩ := H
  rw [ro_g hr (by decide), f0]
theorem CB.g0 {w : Fl} (H : CB A Z B Q P F q D0 c h w) : gI h (77 + D0.length) 7 0 = some (nI w.1) ∧ ¬ nI w.1 = 0 := by
  obtain ⟨D, f, rfl, hp, hr, f0, f1, w0, w1⟩ := H
  exact ⟨by rw [ro_g hr (by decide), f0], by rw [show (0 : Int32) = nI 0 from rfl, y_eq (by omega) (by omega)]; omega⟩
theorem c_loop (hn : n ≤ 800) (hb : ∀ k, k < n → A 1 k = sb (b k) ∧ b k < 256) (H : CG A Z B Q P F q D0 c b n h (tok b n 0) brow tl tf) : ∃ h', f_X7_readHouse_6 xFU h (77 + D0.length) (nI 0) = f_X7_readHouse_65 h' (77 + D0.length) ∧ ((∃ x, pIt b n 801 = .inr x ∧ CL A Z B Q P F q D0 c b n x h') ∨ (∃ f, pIt b n 801 = .inl f ∧ CB A Z B Q P F q D0 c h' f)) := by
  have key := loop_I (F := fun m j (h : xH) => f_X7_readHouse_6 m h (77 + D0.length) (nI j)) (N := 800) (fun h => f_X7_readHouse_65 h (77 + D0.length)) (fun j h => (∃ x, pIt b n j = .inr x ∧ CL A Z B Q P F q D0 c b n x h) ∨ (∃ f, pIt b n j = .inl f ∧ CB A Z B Q P F q D0 c h f)) (fun h => (∃ x, pIt b n 801 = .inr x ∧ CL A Z B Q P F q D0 c b n x h) ∨ (∃ f, pIt b n 801 = .inl f ∧ CB A Z B Q P F q D0 c h f)) (fun m j h hj hh => ?_) (fun m h hh => ?_) (by decide) (s := h) (Or.inl ⟨_, rfl, _, _, H⟩)
  · obtain ⟨h', e, hp⟩ := key
    exact ⟨h', e, hp⟩
  · have hj8 : ¬ (800 : Int32) ≤ nI j := by rw [show (800 : Int32) = nI 800 from rfl, y_le (by omega) (by omega)]; omega
    rcases hh with ⟨x, hx, tl, tf, g⟩ | ⟨f, hf, g⟩
    · by_cases c1 : x.1.1 = 0
      · right
        have := pIt_good hx c1 (801 - j)
        rw [show j + (801 - j) = 801 by omega] at this
        refine ⟨h, ?_, Or.inl ⟨x, this, tl, tf, g⟩⟩
        show f_X7_readHouse_6 (m + 1) h (77 + D0.length) (nI j) = _
        rw [f_X7_readHouse_6, if_neg hj8, g.g0, Option.bind_some, if_pos n00, g.g4, Option.bind_some, c1, if_pos n00]
      · left
        obtain ⟨a1, a2, a3, a4⟩ := pIt_inv hn j x hx
        have s3 := (a1.sp hn).2.2.1
        obtain ⟨h6, e6, g6⟩ := g.p10
        obtain ⟨_, ho6⟩ := g6.o
        have h1 := cg_line hn hb a2 g6
        have hs : pIt b n (j + 1) = pLine b n x.1 x.2 := by
          rw [pIt, hx]
          show (if x.1.1 = 0 then _ else _) = _
          rw [if_neg c1]
        have es : ∀ r, f_X7_readLine h6 (77 + D0.length) = some r → f_X7_readHouse_6 (m + 1) h (77 + D0.length) (nI j) = if r.1 = 0 then (f_X7_readHouse_6 m r.2 (77 + D0.length) (nI (j + 1))) else ((gO r.2 (77 + D0.length) 7).bind fun q10 => (f_X7_passSign r.2 (77 + D0.length)).bind fun r11 => (if r11.1 = 0 then (f_X7_readHouse_6 m r11.2 (77 + D0.length) (nI (j + 1))) else ((gR r11.2 (77 + D0.length) 7 8).bind fun v13 => (gI r11.2 v13 3 0).bind fun v14 => (pF r11.2 v13 3 0 (.int (v14 + (1 : Int32)))).bind fun h15 => f_X7_readHouse_6 m h15 (77 + D0.length) (nI (j + 1))))) := by
          intro r e
          rw [f_X7_readHouse_6, if_neg hj8, g.g0, Option.bind_some, if_pos n00, g.g4, Option.bind_some, if_neg (by rw [show (0 : Int32) = nI 0 from rfl, y_eq (by omega) (by omega)]; exact c1), show pF h (77 + D0.length) 7 10 (.int (0 : Int32)) = _ from e6, Option.bind_some, ho6, Option.bind_some, e, Option.bind_some, nI_1]
        unfold pLine at hs
        cases hp : pLine0 b n x.1 x.2 with
        | inl f =>
          rw [hp] at h1 hs
          obtain ⟨h', e, g'⟩ := h1
          exact ⟨h', (es _ e).trans (if_pos n00), Or.inr ⟨f, hs, g'⟩⟩
        | inr y =>
          rw [hp] at h1 hs
          obtain ⟨h', e, tl', tf', g'⟩ := h1
          obtain ⟨_, ho'⟩ := g'.o
          have hsg := cg_sign hn hb g'
          have es2 := (es _ e).trans (if_neg n10)
          dsimp only at es2
          rw [ho', Option.bind_some] at es2
          have hs2 : pIt b n (j + 1) = if y.1.1 = 3 then .inr (adv b n y.1, va_up y.2 0 (y.2 0 + 1)) else .inl (flt y.1 2) := hs
          by_cases c3 : y.1.1 = 3
          · rw [if_pos c3] at hsg hs2
            obtain ⟨h7, e7, g7⟩ := hsg
            obtain ⟨h8, e8, g8⟩ := g7.ph (j := 0) (v := y.2 0 + 1) (by decide)
            have gg := g7.gh (j := 0) (by decide)
            rw [show fr 0 = 0 from rfl] at gg
            refine ⟨h8, ?_, Or.inl ⟨_, hs2, _, _, g8⟩⟩
            rw [e7, Option.bind_some, if_neg n10] at es2
            dsimp only at es2
            rw [g7.g8.1, Option.bind_some, gg, Option.bind_some, nI_1, e8, Option.bind_some] at es2
            exact es2
          · rw [if_neg c3] at hsg hs2
            obtain ⟨h7, e7, g7⟩ := hsg
            refine ⟨h7, ?_, Or.inr ⟨_, hs2, g7⟩⟩
            rw [e7, Option.bind_some, if_pos n00] at es2
            exact es2
    · right
      have := pIt_bad hf (801 - j)
      rw [show j + (801 - j) = 801 by omega] at this
      refine ⟨h, ?_, Or.inr ⟨f, this, g⟩⟩
      show f_X7_readHouse_6 (m + 1) h (77 + D0.length) (nI j) = _
      rw [f_X7_readHouse_6, if_neg hj8, g.g0.1, Option.bind_some, if_neg g.g0.2]
  · have hj8 : (800 : Int32) ≤ nI 800 := Int32.le_refl _
    have e8 : f_X7_readHouse_6 (m + 1) h (77 + D0.length) (nI 800) = f_X7_readHouse_65 h (77 + D0.length) := by rw [f_X7_readHouse_6, if_pos hj8]
    rcases hh with ⟨x, hx, tl, tf, g⟩ | ⟨f, hf, g⟩
    · exact ⟨h, e8, Or.inl ⟨x, pIt_good hx (pIt_end hn (by decide) hx) 1, tl, tf, g⟩⟩
    · exact ⟨h, e8, Or.inr ⟨f, pIt_bad hf 1, g⟩⟩
end CLoop
