/-! ===== house: the reference's lines ===== -/
section MKind
variable {A0 : Nat → Nat → Int32} {Z0 : Nat → Int32} {B : Nat → Nat → Int64} {Q : Nat → Int64} {P : Nat → Option Nat} {F : Nat → Nat → Option Nat} {q : Nat} {D : List xC} {c : Nat × Nat} {b : Nat → Nat} {n : Nat} {h : xH} {t : TK} {row : Nat → Nat} {f : Fl}
theorem mg_begins (hn : n ≤ 800) (h20 : Z0 20 = nI n) (hb : ∀ k, k < n → A0 62 k = nI (b k) ∧ b k < 256) {k mx : Nat} (hk : k < 448) (h1 : row k < 2147483648) (h2 : mx < 2147483648) (H : MG A0 Z0 B Q P F q D c b n h t row) : (row k = mx → ∃ h', f_X12_begins_ h 57 (nI k) (nI mx) = some h' ∧ MB A0 Z0 B Q P F q D c h' (flt t 4)) ∧ (row k ≠ mx → ∃ h', f_X12_begins_ h 57 (nI k) (nI mx) = some h' ∧ MG A0 Z0 B Q P F q D c b n h' (adv b n t) row) := by
  obtain ⟨_, ho⟩ := H.o
  unfold f_X12_begins_ f_X12_begins__15
  rw [H.g2, Option.bind_some, H.ld hk, Option.bind_some]
  constructor
  · intro e
    obtain ⟨h', e4, g⟩ := mg_blames (k := 4) (by decide) (by decide) hn H
    obtain ⟨_, g12, n12⟩ := g.g12
    refine ⟨h', ?_, g⟩
    rw [if_pos (by rw [e]), ho, Option.bind_some, show (4 : Int32) = nI 4 from rfl, e4, Option.bind_some, g12, Option.bind_some, if_neg n12]
  · intro e
    obtain ⟨hr, er, Hr⟩ := mg_reads hn h20 hb H
    refine ⟨hr, ?_, Hr⟩
    rw [if_neg (by rw [y_eq h1 h2]; exact e), H.g12, Option.bind_some, if_pos n00, ho, Option.bind_some, er, Option.bind_some]
theorem mg_rooms (hn : n ≤ 800) (h20 : Z0 20 = nI n) (hb : ∀ k, k < n → A0 62 k = nI (b k) ∧ b k < 256) (hW : HWf row) (H : MG A0 Z0 B Q P F q D c b n h t row) : MR A0 Z0 B Q P F q D c b n (f_X12_readRooms h 57) (lRooms b n t row) := by
  have hro := hW.ro
  obtain ⟨_, ho⟩ := H.o
  unfold lRooms f_X12_readRooms
  rw [H.g2, Option.bind_some, show (1 : Int32) = nI 1 from rfl, H.ld (by decide), Option.bind_some]
  by_cases c1 : row 1 = 0
  · rw [if_pos (by rw [c1]; exact Int32.le_refl _), if_pos c1]
    obtain ⟨hr, er, Hr⟩ := mg_reads hn h20 hb H
    obtain ⟨_, hor⟩ := Hr.o
    have h1 := mg_number hn h20 hb (lo := 1) (hi := 16) (by decide) (by decide) Hr
    unfold f_X12_readRooms_14 f_X12_readRooms_25
    rw [H.g12, Option.bind_some, if_pos n00, ho, Option.bind_some, er, Option.bind_some, hor, Option.bind_some, show (1 : Int32) = nI 1 from rfl, show (16 : Int32) = nI 16 from rfl]
    cases hp : pNum b n 1 16 NX (adv b n t) with
    | inl f =>
      rw [hp] at h1
      obtain ⟨w, h', e, g⟩ := h1
      obtain ⟨_, g12, n12⟩ := g.g12
      refine ⟨h', ?_, g⟩
      rw [e, Option.bind_some]
      dsimp only
      rw [g12, Option.bind_some, if_neg n12]
    | inr x =>
      rw [hp] at h1
      obtain ⟨h', e, g⟩ := h1
      obtain ⟨h2, e2, H2⟩ := g.st (k := 1) (v := x.1) (by decide)
      refine ⟨h2, ?_, H2⟩
      rw [e, Option.bind_some]
      dsimp only
      rw [g.g12, Option.bind_some, if_pos n00, g.g2, Option.bind_some, e2, Option.bind_some]
  · rw [if_neg (by rw [show (0 : Int32) = nI 0 from rfl, y_le (by omega) (by omega)]; omega), if_neg c1]
    obtain ⟨h', e4, g⟩ := mg_blames (k := 4) (by decide) (by decide) hn H
    obtain ⟨_, g12, n12⟩ := g.g12
    obtain ⟨_, ho'⟩ := g.o
    refine ⟨h', ?_, g⟩
    unfold f_X12_readRooms_14 f_X12_readRooms_25
    rw [ho, Option.bind_some, show (4 : Int32) = nI 4 from rfl, e4, Option.bind_some, g12, Option.bind_some, if_neg n12, ho', Option.bind_some, mb_number g, Option.bind_some]
    dsimp only
    rw [g12, Option.bind_some, if_neg n12]
theorem mg_lamp (hn : n ≤ 800) (h20 : Z0 20 = nI n) (hb : ∀ k, k < n → A0 62 k = nI (b k) ∧ b k < 256) (hW : HWf row) (H : MG A0 Z0 B Q P F q D c b n h t row) : MR A0 Z0 B Q P F q D c b n (f_X12_readLamp h 57) (lLamp b n t row) := by
  have hki := hW.ki
  obtain ⟨_, ho⟩ := H.o
  obtain ⟨b1, b2⟩ := mg_begins hn h20 hb (k := 3) (mx := 4) (by decide) (by omega) (by decide) H
  unfold lLamp f_X12_readLamp
  rw [ho, Option.bind_some, show (3 : Int32) = nI 3 from rfl, show (4 : Int32) = nI 4 from rfl]
  by_cases c1 : row 3 = 4
  · obtain ⟨h', e1, g⟩ := b1 c1
    obtain ⟨_, g12, n12⟩ := g.g12
    rw [if_pos c1]
    exact ⟨h', by rw [e1, Option.bind_some, g12, Option.bind_some, if_neg n12], g⟩
  · obtain ⟨h1, e1, H1⟩ := b2 c1
    obtain ⟨_, ho1⟩ := H1.o
    rw [if_neg c1, e1, Option.bind_some, H1.g12, Option.bind_some, if_pos n00, ho1, Option.bind_some, show (1 : Int32) = nI 1 from rfl, show (999 : Int32) = nI 999 from rfl]
    have h2 := mg_told hn h20 hb (i := 6) (lo := 1) (hi := 999) (by decide) (by decide) (by decide) H1
    cases hp : pTold b n 6 1 999 (adv b n t) with
    | inl f =>
      rw [hp] at h2
      obtain ⟨w, h', e, g⟩ := h2
      obtain ⟨_, g12, n12⟩ := g.g12
      obtain ⟨_, ho'⟩ := g.o
      refine ⟨h', ?_, g⟩
      rw [e, Option.bind_some]
      dsimp only
      rw [ho', Option.bind_some, mb_told (by decide) g, Option.bind_some]
      dsimp only
      rw [g12, Option.bind_some, if_neg n12]
    | inr x =>
      obtain ⟨x, t2⟩ := x
      rw [hp] at h2
      obtain ⟨h2, e2, H2⟩ := h2
      dsimp only at e2 H2
      obtain ⟨_, ho2⟩ := H2.o
      have h3 := mg_told hn h20 hb (i := 7) (lo := 0) (hi := 99) (by decide) (by decide) (by decide) H2
      rw [e2, Option.bind_some]
      dsimp only
      rw [ho2, Option.bind_some]
      show MR A0 Z0 B Q P F q D c b n _ (pb (pTold b n 7 0 99 t2) fun y => .inr (y.2, va_up (va_up (va_up row (248 + 2 * row 3) x) (248 + 2 * row 3 + 1) y.1) 3 (row 3 + 1)))
      cases hp3 : pTold b n 7 0 99 t2 with
      | inl f =>
        rw [hp3] at h3
        obtain ⟨w, h', e, g⟩ := h3
        obtain ⟨_, g12, n12⟩ := g.g12
        refine ⟨h', ?_, g⟩
        rw [show (0 : Int32) = nI 0 from rfl, show (99 : Int32) = nI 99 from rfl, e, Option.bind_some]
        dsimp only
        rw [g12, Option.bind_some, if_neg (show ¬ _ = nI 0 from n12)]
      | inr y =>
        obtain ⟨y, t3⟩ := y
        rw [hp3] at h3
        obtain ⟨h3, e3, H3⟩ := h3
        dsimp only at e3 H3
        obtain ⟨h5, e5, H5⟩ := H3.st (k := 248 + 2 * row 3) (v := x) (by omega)
        obtain ⟨h6, e6, H6⟩ := H5.st (k := 248 + 2 * row 3 + 1) (v := y) (by omega)
        obtain ⟨h7, e7, H7⟩ := H6.st (k := 3) (v := row 3 + 1) (by omega)
        have l5 := H5.ld (k := 3) (by decide)
        have l6 := H6.ld (k := 3) (by decide)
        rw [y_vn (by omega)] at l5
        rw [y_vn (by omega), y_vn (by omega)] at l6
        refine ⟨h7, ?_, H7⟩
        rw [show (0 : Int32) = nI 0 from rfl, show (99 : Int32) = nI 99 from rfl, e3, Option.bind_some]
        dsimp only
        rw [H3.g12, Option.bind_some, if_pos rfl, H3.g2, Option.bind_some, Option.bind_some, H3.ld (by decide), Option.bind_some, show (248 : Int32) = nI 248 from rfl, show (2 : Int32) = nI 2 from rfl, pk_mul, nI_add, e5, Option.bind_some, H5.g2, Option.bind_some, Option.bind_some, l5, Option.bind_some, pk_mul, nI_add, nI_add, e6, Option.bind_some, H6.g2, Option.bind_some, l6, Option.bind_some, nI_add, e7, Option.bind_some]
theorem mg_both (hn : n ≤ 800) (h20 : Z0 20 = nI n) (hb : ∀ k, k < n → A0 62 k = nI (b k) ∧ b k < 256) (H : MG A0 Z0 B Q P F q D c b n h t row) : ∃ h', f_X12_took h 57 (xS0 + 2 * 4) = some (nI (pBoth b n t).1, h') ∧ MG A0 Z0 B Q P F q D c b n h' (pBoth b n t).2 row ∧ (pBoth b n t).1 ≤ 1 := by
  obtain ⟨w1, w2⟩ := mg_took (i := 4) (by decide) hn h20 hb H
  unfold pBoth
  cases hw : isW b 4 t
  · rw [if_neg (by decide)]
    exact ⟨h, w2 hw, H, by show 0 ≤ 1; decide⟩
  · rw [if_pos rfl]
    obtain ⟨h', e, g⟩ := w1 hw
    exact ⟨h', e, g, by show 1 ≤ 1; decide⟩
theorem n01 {k : Nat} (hk : k ≤ 1) {α : Type} (x y : α) : (if nI k = (0 : Int32) then x else y) = if k = 0 then x else y := by
  by_cases e : k = 0
  · rw [e, if_pos n00, if_pos rfl]
  · rw [show k = 1 by omega, if_neg n10, if_neg (by decide)]
theorem mg_pane (hn : n ≤ 800) (h20 : Z0 20 = nI n) (hb : ∀ k, k < n → A0 62 k = nI (b k) ∧ b k < 256) (hW : HWf row) (hm : 0 < row 1) (H : MG A0 Z0 B Q P F q D c b n h t row) : MR A0 Z0 B Q P F q D c b n (f_X12_readPane h 57) (lPane b n t row) := by
  have hpa := hW.pa
  have hro := hW.ro
  obtain ⟨_, ho⟩ := H.o
  obtain ⟨b1, b2⟩ := mg_begins hn h20 hb (k := 2) (mx := 60) (by decide) (by omega) (by decide) H
  unfold lPane f_X12_readPane
  rw [ho, Option.bind_some, show (2 : Int32) = nI 2 from rfl, show (60 : Int32) = nI 60 from rfl]
  by_cases c1 : row 2 = 60
  · obtain ⟨h', e1, g⟩ := b1 c1
    obtain ⟨_, g12, n12⟩ := g.g12
    rw [if_pos c1]
    exact ⟨h', by rw [e1, Option.bind_some, g12, Option.bind_some, if_neg n12], g⟩
  · obtain ⟨h1, e1, H1⟩ := b2 c1
    obtain ⟨_, ho1⟩ := H1.o
    rw [if_neg c1, e1, Option.bind_some, H1.g12, Option.bind_some, if_pos n00, H1.g2, Option.bind_some, H1.ld (by decide), Option.bind_some, ho1, Option.bind_some, show (8 : Int32) = nI 8 from rfl, show (4 : Int32) = nI 4 from rfl, pk_mul, nI_add, show (3 : Int32) = nI 3 from rfl, nI_add]
    have h2 := mg_sides hn h20 hb hm hro (k := 8 + 4 * row 2) (by omega) (by omega) H1
    cases hp : pSides b n (row 1) (adv b n t) with
    | inl f =>
      rw [hp] at h2
      obtain ⟨h', e, g⟩ := h2
      obtain ⟨_, ho'⟩ := g.o
      obtain ⟨h3, e3, g3⟩ := g.st (k := 8 + 4 * row 2 + 3) (v := (0 : Int32)) (by omega)
      obtain ⟨_, g12, n12⟩ := g3.g12
      refine ⟨h3, ?_, g3⟩
      rw [e, Option.bind_some, g.gi.2.2, Option.bind_some, ho', Option.bind_some, mb_took (by decide) g, Option.bind_some, if_pos n00]
      dsimp only
      unfold f_X12_readPane_53
      rw [e3, Option.bind_some, g12, Option.bind_some, if_neg n12]
    | inr x =>
      rw [hp] at h2
      obtain ⟨h', e, g⟩ := h2
      obtain ⟨_, ho'⟩ := g.o
      obtain ⟨h3, e3, g3, l3⟩ := mg_both hn h20 hb g
      obtain ⟨h4, e4, H4⟩ := g3.st (k := 8 + 4 * row 2 + 3) (v := (pBoth b n x.2.2.2).1) (by omega)
      obtain ⟨h5, e5, H5⟩ := H4.st (k := 2) (v := row 2 + 1) (by omega)
      have l4 := H4.ld (k := 2) (by decide)
      unfold up3 at l4
      rw [y_vn (by omega), y_vn (by omega), y_vn (by omega), y_vn (by omega)] at l4
      refine ⟨h5, ?_, H5⟩
      rw [e, Option.bind_some, g.g2, Option.bind_some, ho', Option.bind_some, e3, Option.bind_some]
      dsimp only
      have e53 : f_X12_readPane_53 h3 57 (nI (pBoth b n x.2.2.2).1) (nI (8 + 4 * row 2 + 3)) 60 = some h5 := by
        unfold f_X12_readPane_53
        rw [e4, Option.bind_some, H4.g12, Option.bind_some, if_pos n00, H4.g2, Option.bind_some, show (2 : Int32) = nI 2 from rfl, l4, Option.bind_some, nI_1, e5, Option.bind_some]
      rw [n01 l3]
      by_cases c2 : (pBoth b n x.2.2.2).1 = 0
      · rw [if_pos c2]
        rw [c2] at e53
        exact e53
      · rw [if_neg c2]
        rw [show (pBoth b n x.2.2.2).1 = 1 by omega] at e53
        exact e53
theorem mg_hole (hn : n ≤ 800) (h20 : Z0 20 = nI n) (hb : ∀ k, k < n → A0 62 k = nI (b k) ∧ b k < 256) (hW : HWf row) (hm : 0 < row 1) (H : MG A0 Z0 B Q P F q D c b n h t row) : MR A0 Z0 B Q P F q D c b n (f_X12_readHole h 57) (lHole b n t row) := by
  have hho := hW.ho
  have hro := hW.ro
  obtain ⟨_, ho⟩ := H.o
  obtain ⟨b1, b2⟩ := mg_begins hn h20 hb (k := 5) (mx := 8) (by decide) (by omega) (by decide) H
  unfold lHole f_X12_readHole
  rw [ho, Option.bind_some, show (5 : Int32) = nI 5 from rfl, show (8 : Int32) = nI 8 from rfl]
  by_cases c1 : row 5 = 8
  · obtain ⟨h', e1, g⟩ := b1 c1
    obtain ⟨_, g12, n12⟩ := g.g12
    rw [if_pos c1]
    exact ⟨h', by rw [e1, Option.bind_some, g12, Option.bind_some, if_neg n12], g⟩
  · obtain ⟨h1, e1, H1⟩ := b2 c1
    obtain ⟨_, ho1⟩ := H1.o
    rw [if_neg c1, e1, Option.bind_some, H1.g12, Option.bind_some, if_pos n00, H1.g2, Option.bind_some, H1.ld (by decide), Option.bind_some, ho1, Option.bind_some, show (376 : Int32) = nI 376 from rfl, pk_mul, nI_add, show (3 : Int32) = nI 3 from rfl, show (4 : Int32) = nI 4 from rfl, nI_add, nI_add]
    have h2 := mg_sides hn h20 hb hm hro (k := 376 + 5 * row 5) (by omega) (by omega) H1
    cases hp : pSides b n (row 1) (adv b n t) with
    | inl f =>
      rw [hp] at h2
      obtain ⟨h', e, g⟩ := h2
      obtain ⟨_, ho'⟩ := g.o
      obtain ⟨_, g12, n12⟩ := g.g12
      refine ⟨h', ?_, g⟩
      rw [e, Option.bind_some, ho', Option.bind_some, mb_told (by decide) g, Option.bind_some]
      dsimp only
      rw [g12, Option.bind_some, if_neg n12]
    | inr x =>
      rw [hp] at h2
      obtain ⟨h', e, g⟩ := h2
      obtain ⟨_, ho'⟩ := g.o
      have h3 := mg_told hn h20 hb (i := 13) (lo := 0) (hi := 99) (by decide) (by decide) (by decide) g
      rw [e, Option.bind_some, ho', Option.bind_some]
      show MR A0 Z0 B Q P F q D c b n _ (pb (pTold b n 13 0 99 x.2.2.2) fun y => .inr ((pBoth b n y.2).2, va_up (va_up (va_up (up3 row (376 + 5 * row 5) x.1 x.2.1 x.2.2.1) (376 + 5 * row 5 + 3) y.1) (376 + 5 * row 5 + 4) (pBoth b n y.2).1) 5 (row 5 + 1)))
      cases hp3 : pTold b n 13 0 99 x.2.2.2 with
      | inl f =>
        rw [hp3] at h3
        obtain ⟨w, h', e, g⟩ := h3
        obtain ⟨_, g12, n12⟩ := g.g12
        refine ⟨h', ?_, g⟩
        rw [show (0 : Int32) = nI 0 from rfl, show (99 : Int32) = nI 99 from rfl, e, Option.bind_some]
        dsimp only
        rw [g12, Option.bind_some, if_neg (show ¬ _ = nI 0 from n12)]
      | inr y =>
        rw [hp3] at h3
        obtain ⟨h3, e3, H3⟩ := h3
        obtain ⟨h4, e4, H4⟩ := H3.st (k := 376 + 5 * row 5 + 3) (v := y.1) (by omega)
        obtain ⟨_, ho4⟩ := H4.o
        obtain ⟨h5, e5, H5, l5⟩ := mg_both hn h20 hb H4
        obtain ⟨h6, e6, H6⟩ := H5.st (k := 376 + 5 * row 5 + 4) (v := (pBoth b n y.2).1) (by omega)
        obtain ⟨h7, e7, H7⟩ := H6.st (k := 5) (v := row 5 + 1) (by omega)
        have l6 := H6.ld (k := 5) (by decide)
        unfold up3 at l6
        rw [y_vn (by omega), y_vn (by omega), y_vn (by omega), y_vn (by omega), y_vn (by omega)] at l6
        have e81 : f_X12_readHole_81 h5 57 (nI (pBoth b n y.2).1) (nI (376 + 5 * row 5 + 4)) 60 = some h7 := by
          unfold f_X12_readHole_81
          rw [e6, Option.bind_some, H6.g12, Option.bind_some, if_pos n00, H6.g2, Option.bind_some, show (5 : Int32) = nI 5 from rfl, l6, Option.bind_some, nI_1, e7, Option.bind_some]
        refine ⟨h7, ?_, H7⟩
        rw [show f_X12_told h' 57 (xS0 + 2 * 13) (0 : Int32) (99 : Int32) = f_X12_told h' 57 (xS0 + 2 * 13) (nI 0) (nI 99) from rfl, e3, Option.bind_some]
        dsimp only
        rw [H3.g12, Option.bind_some, if_pos n00, H3.g2, Option.bind_some, e4, Option.bind_some, H4.g2, Option.bind_some, ho4, Option.bind_some, e5, Option.bind_some]
        dsimp only
        rw [n01 l5]
        by_cases c2 : (pBoth b n y.2).1 = 0
        · rw [if_pos c2]
          rw [c2] at e81
          exact e81
        · rw [if_neg c2]
          rw [show (pBoth b n y.2).1 = 1 by omega] at e81
          exact e81
end MKind
