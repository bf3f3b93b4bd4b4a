/-! ===== house: rooms, lamp, dear, pane by the class ===== -/
section CLin3
variable {A : Nat → Nat → Int32} {Z : Nat → Int32} {B : Nat → Nat → Int64} {Q : Nat → Int64} {P : Nat → Option Nat} {F : Nat → Nat → Option Nat} {q : Nat} {D0 : List xC} {c : Nat × Nat} {b : Nat → Nat} {n : Nat} {h : xH} {t : TK} {row tf : Nat → Nat} {tl : Nat}
def CL (A : Nat → Nat → Int32) (Z : Nat → Int32) (B : Nat → Nat → Int64) (Q : Nat → Int64) (P : Nat → Option Nat) (F : Nat → Nat → Option Nat) (q : Nat) (D0 : List xC) (c : Nat × Nat) (b : Nat → Nat) (n : Nat) (x : TK × (Nat → Nat)) (h : xH) : Prop := ∃ tl tf, CG A Z B Q P F q D0 c b n h x.1 x.2 tl tf
theorem cg_w (hn : n ≤ 800) (hb : ∀ k, k < n → A 1 k = sb (b k) ∧ b k < 256) {i : Nat} (hi : i < 18) (hw : isW b i t = true) (H : CG A Z B Q P F q D0 c b n h t row tl tf) : ∃ h', f_X7_pass h (77 + D0.length) (xS0 + 2 * i) = some (nI 1, h') ∧ CG A Z B Q P F q D0 c b n h' (adv b n t) row tl tf := by
  have h1 := cg_pass hn hb hi H
  rw [show pPass b n i t = .inr (adv b n t) from if_pos hw] at h1
  exact h1
theorem cg_rooms (hn : n ≤ 800) (hb : ∀ k, k < n → A 1 k = sb (b k) ∧ b k < 256) (hW : HWf row) (hw : isW b 0 t = true) (H : CG A Z B Q P F q D0 c b n h t row 0 tf) : CQ A Z B Q P F q D0 c (f_X7_readRooms h (77 + D0.length)) (lRooms b n t row) (CL A Z B Q P F q D0 c b n) := by
  have hro := hW.ro
  obtain ⟨_, ho⟩ := H.o
  unfold f_X7_readRooms lRooms
  rw [H.g8.1, Option.bind_some, H.gh (by decide), Option.bind_some]
  show CQ A Z B Q P F q D0 c (if nI (row 1) ≤ 0 then _ else _) _ _
  by_cases c1 : row 1 = 0
  · obtain ⟨h1, e1, H1⟩ := cg_w hn hb (by decide) hw H
    obtain ⟨_, ho1⟩ := H1.o
    rw [if_pos (by rw [c1]; exact Int32.le_refl _), if_pos c1, ho, Option.bind_some, e1, Option.bind_some, if_neg n10]
    dsimp only
    rw [ho1, Option.bind_some]
    refine cr_b (cg_number hn hb (lo := 1) (hi := 16) (by decide) (by decide) (by decide) H1) (fun x h2 H2 => ?_)
    dsimp only
    obtain ⟨h3, e3, H3⟩ := H2.ph (j := 1) (v := x.1) (by decide)
    have ht := H2.told (k := 0) (by decide)
    rw [show va_up tf 0 x.1 0 = x.1 from y_vs] at ht
    rw [H2.g8.1, Option.bind_some, H2.g8.2, Option.bind_some, show (0 : Int32) = nI 0 from rfl, ht, Option.bind_some, e3, Option.bind_some]
    exact ⟨h3, rfl, _, _, H3⟩
  · obtain ⟨h4, e4, H4⟩ := cg_refuse hn hb (k := 4) (by decide) (by decide) H
    rw [if_neg (by rw [show (0 : Int32) = nI 0 from rfl, y_le (by omega) (by omega)]; omega), if_neg c1, ho, Option.bind_some, show (4 : Int32) = nI 4 from rfl, e4, Option.bind_some]
    exact ⟨h4, if_pos nb_0, H4⟩
theorem cg_dear (hn : n ≤ 800) (hb : ∀ k, k < n → A 1 k = sb (b k) ∧ b k < 256) (hw : isW b 17 t = true) (H : CG A Z B Q P F q D0 c b n h t row 0 tf) : CQ A Z B Q P F q D0 c (f_X7_readDear h (77 + D0.length)) (lDear b n t row) (CL A Z B Q P F q D0 c b n) := by
  obtain ⟨_, ho⟩ := H.o
  obtain ⟨h1, e1, H1⟩ := cg_w hn hb (by decide) hw H
  obtain ⟨_, ho1⟩ := H1.o
  unfold f_X7_readDear lDear
  rw [ho, Option.bind_some, e1, Option.bind_some, if_neg n10]
  dsimp only
  rw [ho1, Option.bind_some]
  refine cr_b (cg_number hn hb (lo := 0) (hi := 999) (by decide) (by decide) (by decide) H1) (fun x h2 H2 => ?_)
  dsimp only
  obtain ⟨h3, e3, H3⟩ := H2.ph (j := 2) (v := x.1) (by decide)
  have ht := H2.told (k := 0) (by decide)
  rw [show va_up tf 0 x.1 0 = x.1 from y_vs] at ht
  rw [H2.g8.1, Option.bind_some, H2.g8.2, Option.bind_some, show (0 : Int32) = nI 0 from rfl, ht, Option.bind_some, e3, Option.bind_some]
  exact ⟨h3, rfl, _, _, H3⟩
theorem CG_row {row' : Nat → Nat} (e : row = row') (H : CG A Z B Q P F q D0 c b n h t row tl tf) : CG A Z B Q P F q D0 c b n h t row' tl tf := e ▸ H
theorem cg_lamp (hn : n ≤ 800) (hb : ∀ k, k < n → A 1 k = sb (b k) ∧ b k < 256) (hW : HWf row) (hw : isW b 5 t = true) (H : CG A Z B Q P F q D0 c b n h t row 0 tf) : CQ A Z B Q P F q D0 c (f_X7_readLamp h (77 + D0.length)) (lLamp b n t row) (CL A Z B Q P F q D0 c b n) := by
  have hki := hW.ki
  obtain ⟨_, ho⟩ := H.o
  unfold f_X7_readLamp lLamp
  rw [H.g8.1, Option.bind_some, H.gh (by decide), Option.bind_some]
  show CQ A Z B Q P F q D0 c (if nI (row 3) < (4 : Int32) then _ else _) _ _
  rw [show (4 : Int32) = nI 4 from rfl]
  by_cases c1 : row 3 = 4
  · obtain ⟨h4, e4, H4⟩ := cg_refuse hn hb (k := 4) (by decide) (by decide) H
    rw [if_neg (by rw [y_lt (by omega) (by omega)]; omega), if_pos c1, ho, Option.bind_some, e4, Option.bind_some]
    exact ⟨h4, if_pos nb_0, H4⟩
  · obtain ⟨h1, e1, H1⟩ := cg_w hn hb (by decide) hw H
    obtain ⟨_, ho1⟩ := H1.o
    rw [if_pos (by rw [y_lt (by omega) (by omega)]; omega), if_neg c1, ho, Option.bind_some, e1, Option.bind_some, if_neg n10]
    dsimp only
    unfold pTold
    rw [ho1, Option.bind_some, pb_as]
    refine cr_b (cg_pass hn hb (i := 6) (by decide) H1) (fun t2 h2 H2 => ?_)
    dsimp only
    obtain ⟨_, ho2⟩ := H2.o
    rw [ho2, Option.bind_some]
    refine cr_b (cg_number hn hb (lo := 1) (hi := 999) (by decide) (by decide) (by decide) H2) (fun x h3 H3 => ?_)
    dsimp only
    obtain ⟨_, ho3⟩ := H3.o
    rw [ho3, Option.bind_some, pb_as]
    refine cr_b (cg_pass hn hb (i := 7) (by decide) H3) (fun t4 h4 H4 => ?_)
    dsimp only
    obtain ⟨_, ho4⟩ := H4.o
    rw [ho4, Option.bind_some]
    refine cr_b (cg_number hn hb (lo := 0) (hi := 99) (by decide) (by decide) (by decide) H4) (fun y h5 H5 => ?_)
    dsimp only
    obtain ⟨_, ho5⟩ := H5.o
    obtain ⟨h6, e6, H6⟩ := H5.kp (i := 2) (k := row 3 * 2) (m := 2) (by decide) (by decide) (by show row 3 * 2 + 2 ≤ 8; omega) (by decide)
    obtain ⟨h7, e7, H7⟩ := H6.ph (j := 4) (v := row 3 + 1) (by decide)
    have hrow : upN row (ab 2 + row 3 * 2) 2 (va_up (va_up tf 0 x.1) (0 + 1) y.1) 3 = row 3 := by
      unfold upN
      rw [if_neg (by show ¬ (248 + row 3 * 2 ≤ 3 ∧ _); omega)]
    have g6 := H6.gh (j := 4) (by decide)
    rw [show fr 4 = 3 from rfl, hrow] at g6
    have g5 := H5.gh (j := 4) (by decide)
    rw [show fr 4 = 3 from rfl] at g5
    rw [H5.g8.1, Option.bind_some, H5.rh (by decide) (by decide), Option.bind_some, Option.bind_some, g5, Option.bind_some, ho5, Option.bind_some, show (2 : Int32) = nI 2 from rfl, pk_mul, e6, Option.bind_some, H6.g8.1, Option.bind_some, g6, Option.bind_some, show (1 : Int32) = nI 1 from rfl, nI_add, e7, Option.bind_some]
    refine ⟨h7, rfl, _, _, CG_row ?_ H7⟩
    funext j
    show va_up (upN row (248 + row 3 * 2) 2 (va_up (va_up tf 0 x.1) (0 + 1) y.1)) 3 (row 3 + 1) j = va_up (va_up (va_up row (248 + 2 * row 3) x.1) (248 + 2 * row 3 + 1) y.1) 3 (row 3 + 1) j
    by_cases e : j = 3
    · rw [e, y_vs, y_vs]
    · rw [y_vn e, y_vn e]
      unfold upN
      by_cases e2 : j = 248 + 2 * row 3 + 1
      · rw [e2, y_vs, if_pos (by omega), show 248 + 2 * row 3 + 1 - (248 + row 3 * 2) = 0 + 1 by omega, y_vs]
      · rw [y_vn e2]
        by_cases e3 : j = 248 + 2 * row 3
        · rw [e3, y_vs, if_pos (by omega), show 248 + 2 * row 3 - (248 + row 3 * 2) = 0 by omega, y_vn (by decide), y_vs]
        · rw [y_vn e3, if_neg (by omega)]
end CLin3
