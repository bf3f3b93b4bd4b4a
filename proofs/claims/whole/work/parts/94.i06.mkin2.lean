/-! ===== house: the reference's lines, on ===== -/
section MKin2
variable {A0 : Nat → Nat → Int32} {Z0 : Nat → Int32} {B : Nat → Nat → Int64} {Q : Nat → Int64} {P : Nat → Option Nat} {F : Nat → Nat → Option Nat} {q : Nat} {D : List xC} {c : Nat × Nat} {b : Nat → Nat} {n : Nat} {h : xH} {t : TK} {row : Nat → Nat} {f : Fl}
theorem pNum_le {lo hi x : Nat} {y : Nat × TK} (hp : pNum b n lo hi x t = .inr y) : lo ≤ y.1 ∧ y.1 ≤ hi ∧ y.1 ≠ x := by
  unfold pNum at hp
  split at hp
  · split at hp
    · rename_i _ h
      cases hp
      exact ⟨h.1.1, h.1.2, h.2⟩
    · cases hp
  · cases hp
theorem pTold_le {i lo hi : Nat} {y : Nat × TK} (hp : pTold b n i lo hi t = .inr y) : lo ≤ y.1 ∧ y.1 ≤ hi := by
  unfold pTold at hp
  cases h1 : pPass b n i t with
  | inl f => rw [h1] at hp; cases hp
  | inr t2 =>
    rw [h1] at hp
    have := pNum_le (b := b) (n := n) (t := t2) hp
    exact ⟨this.1, this.2.1⟩
theorem mg_burns (hn : n ≤ 800) (h20 : Z0 20 = nI n) (hb : ∀ k, k < n → A0 62 k = nI (b k) ∧ b k < 256) (hW : HWf row) (hm : 0 < row 1) (H : MG A0 Z0 B Q P F q D c b n h t row) : MR A0 Z0 B Q P F q D c b n (f_X12_readBurns h 57) (lBurns b n t row) := by
  have hro := hW.ro
  obtain ⟨_, ho⟩ := H.o
  obtain ⟨h1, e1, H1⟩ := mg_reads hn h20 hb H
  obtain ⟨_, ho1⟩ := H1.o
  have h2 := mg_number hn h20 hb (lo := 0) (hi := 99) (by decide) (by decide) H1
  have mb26 : ∀ {h : xH} {f : Fl} {x : Int32}, MB A0 Z0 B Q P F q D c h f → f_X12_readBurns_26 h 57 x = some h := by
    intro h f x g
    obtain ⟨_, ho'⟩ := g.o
    obtain ⟨_, g12, n12⟩ := g.g12
    unfold f_X12_readBurns_26
    rw [ho', Option.bind_some, mb_room g, Option.bind_some]
    dsimp only
    rw [g12, Option.bind_some, if_neg n12]
  unfold lBurns f_X12_readBurns
  rw [ho, Option.bind_some, e1, Option.bind_some, ho1, Option.bind_some, show f_X12_number h1 57 (0 : Int32) (99 : Int32) = f_X12_number h1 57 (nI 0) (nI 99) from rfl]
  cases hp : pNum b n 0 99 NX (adv b n t) with
  | inl f =>
    rw [hp] at h2
    obtain ⟨w, h', e, g⟩ := h2
    obtain ⟨_, ho'⟩ := g.o
    refine ⟨h', ?_, g⟩
    rw [e, Option.bind_some]
    dsimp only
    rw [ho', Option.bind_some, mb_took (by decide) g, Option.bind_some, if_pos n00]
    dsimp only
    rw [ho', Option.bind_some, mb_blames g, Option.bind_some, mb26 g]
  | inr x =>
    obtain ⟨x, t2⟩ := x
    rw [hp] at h2
    obtain ⟨h2, e2, H2⟩ := h2
    dsimp only at e2 H2
    obtain ⟨_, ho2⟩ := H2.o
    obtain ⟨w1, w2⟩ := mg_took (i := 15) (by decide) hn h20 hb H2
    rw [e2, Option.bind_some]
    dsimp only
    rw [ho2, Option.bind_some]
    show MR A0 Z0 B Q P F q D c b n _ (pb (pPass b n 15 t2) fun t2 => pb (pNum b n 0 (row 1 - 1) NX t2) fun y => .inr (y.2, va_up row (416 + y.1) x))
    unfold pPass
    cases hw : isW b 15 t2
    · obtain ⟨h3, e3, H3⟩ := mg_blames (k := 2) (by decide) (by decide) hn H2
      rw [w2 hw, Option.bind_some, if_pos n00, if_neg (by decide)]
      refine ⟨h3, ?_, H3⟩
      dsimp only
      rw [ho2, Option.bind_some, show (2 : Int32) = nI 2 from rfl, e3, Option.bind_some, mb26 H3]
    · obtain ⟨h3, e3, H3⟩ := w1 hw
      obtain ⟨_, ho3⟩ := H3.o
      rw [e3, Option.bind_some, if_neg n10, if_pos rfl]
      dsimp only
      show MR A0 Z0 B Q P F q D c b n _ (pb (pNum b n 0 (row 1 - 1) NX (adv b n t2)) fun y => .inr (y.2, va_up row (416 + y.1) x))
      have h4 := mg_room hn h20 hb hm hro H3
      unfold f_X12_readBurns_26
      rw [ho3, Option.bind_some]
      cases hp4 : pNum b n 0 (row 1 - 1) NX (adv b n t2) with
      | inl f =>
        rw [hp4] at h4
        obtain ⟨w, h', e, g⟩ := h4
        obtain ⟨_, g12, n12⟩ := g.g12
        refine ⟨h', ?_, g⟩
        rw [e, Option.bind_some]
        dsimp only
        rw [g12, Option.bind_some, if_neg n12]
      | inr y =>
        have hy := pNum_le hp4
        rw [hp4] at h4
        obtain ⟨h', e, g⟩ := h4
        obtain ⟨h5, e5, H5⟩ := g.st (k := 416 + y.1) (v := x) (by omega)
        refine ⟨h5, ?_, H5⟩
        rw [e, Option.bind_some]
        dsimp only
        rw [g.g12, Option.bind_some, if_pos n00, g.g2, Option.bind_some, show (416 : Int32) = nI 416 from rfl, nI_add, e5, Option.bind_some]
theorem mg_hates (hn : n ≤ 800) (h20 : Z0 20 = nI n) (hb : ∀ k, k < n → A0 62 k = nI (b k) ∧ b k < 256) (hW : HWf row) (hm : 0 < row 1) (H : MG A0 Z0 B Q P F q D c b n h t row) : MR A0 Z0 B Q P F q D c b n (f_X12_readHates h 57) (lHates b n t row) := by
  have hro := hW.ro
  obtain ⟨_, ho⟩ := H.o
  obtain ⟨h1, e1, H1⟩ := mg_reads hn h20 hb H
  obtain ⟨_, ho1⟩ := H1.o
  have h2 := mg_room hn h20 hb hm hro H1
  unfold lHates f_X12_readHates
  rw [ho, Option.bind_some, e1, Option.bind_some, ho1, Option.bind_some]
  cases hp : pNum b n 0 (row 1 - 1) NX (adv b n t) with
  | inl f =>
    rw [hp] at h2
    obtain ⟨w, h', e, g⟩ := h2
    obtain ⟨_, ho'⟩ := g.o
    obtain ⟨_, g12, n12⟩ := g.g12
    obtain ⟨v, hl⟩ := g.ld (k := 1) (by decide)
    refine ⟨h', ?_, g⟩
    rw [e, Option.bind_some]
    dsimp only
    rw [g.gi.2.2, Option.bind_some, show ldI h' .int 60 (1 : Int32) = ldI h' .int 60 (nI 1) from rfl, hl, Option.bind_some, ho', Option.bind_some, mb_numBut g, Option.bind_some]
    dsimp only
    rw [g12, Option.bind_some, if_neg n12]
  | inr x =>
    have hx := pNum_le hp
    obtain ⟨x, t2⟩ := x
    dsimp only at hx
    rw [hp] at h2
    obtain ⟨h2, e2, H2⟩ := h2
    dsimp only at e2 H2
    obtain ⟨_, ho2⟩ := H2.o
    have h3 := mg_numBut hn h20 hb (lo := 0) (hi := row 1 - 1) (x := x) (xi := nI x) (by decide) (by omega) (fun v hv => by rw [y_eq (by omega) (by omega)]) H2
    rw [e2, Option.bind_some]
    dsimp only
    rw [H2.g2, Option.bind_some, show ldI h2 .int 60 (1 : Int32) = ldI h2 .int 60 (nI 1) from rfl, H2.ld (by decide), Option.bind_some, ho2, Option.bind_some, show nI (row 1) - (1 : Int32) = nI (row 1 - 1) from y_sub (a := row 1) (b := 1) hm]
    show MR A0 Z0 B Q P F q D c b n _ (pb (pNum b n 0 (row 1 - 1) x t2) fun y => .inr (y.2, va_up row (432 + x) (row (432 + x) ||| 2 ^ y.1)))
    cases hp3 : pNum b n 0 (row 1 - 1) x t2 with
    | inl f =>
      rw [hp3] at h3
      obtain ⟨w, h', e, g⟩ := h3
      obtain ⟨_, g12, n12⟩ := g.g12
      refine ⟨h', ?_, g⟩
      rw [show f_X12_numberBut h2 57 (0 : Int32) (nI (row 1 - 1)) (nI x) = f_X12_numberBut h2 57 (nI 0) (nI (row 1 - 1)) (nI x) from rfl, e, Option.bind_some]
      dsimp only
      rw [g12, Option.bind_some, if_neg n12]
    | inr y =>
      have hy := pNum_le hp3
      rw [hp3] at h3
      obtain ⟨h', e, g⟩ := h3
      obtain ⟨h5, e5, H5⟩ := g.st (k := 432 + x) (v := row (432 + x) ||| 2 ^ y.1) (by omega)
      refine ⟨h5, ?_, H5⟩
      rw [show f_X12_numberBut h2 57 (0 : Int32) (nI (row 1 - 1)) (nI x) = f_X12_numberBut h2 57 (nI 0) (nI (row 1 - 1)) (nI x) from rfl, e, Option.bind_some]
      dsimp only
      rw [g.g12, Option.bind_some, if_pos n00, g.g2, Option.bind_some, show (432 : Int32) = nI 432 from rfl, nI_add, g.ld (by omega), Option.bind_some, show (1 : Int32) <<< (nI y.1 &&& 31) = nI (2 ^ y.1) from n_shl (by omega), fa_or, e5, Option.bind_some]
theorem mb_w114 {l1 l2 l3 l4 l6 s0 : Int32} (g : MB A0 Z0 B Q P F q D c h f) : f_X12_readWant_114 h 57 l1 l2 l3 l4 l6 s0 = some h := by
  obtain ⟨_, g12, n12⟩ := g.g12
  unfold f_X12_readWant_114
  rw [g12, Option.bind_some, if_neg n12]
theorem mb_w92 {l1 l2 l3 l4 l5 s0 : Int32} (g : MB A0 Z0 B Q P F q D c h f) : f_X12_readWant_92 h 57 l1 l2 l3 l4 l5 s0 = some h := by
  obtain ⟨_, ho⟩ := g.o
  unfold f_X12_readWant_92
  rw [ho, Option.bind_some, mb_told (by decide) g, Option.bind_some, mb_w114 g, mb_w114 g]
  simp only [ite_self]
theorem mb_w66 {l1 l2 l3 s0 : Int32} (g : MB A0 Z0 B Q P F q D c h f) : f_X12_readWant_66 h 57 l1 l2 l3 s0 = some h := by
  obtain ⟨_, ho⟩ := g.o
  unfold f_X12_readWant_66
  rw [ho, Option.bind_some, mb_took (by decide) g, Option.bind_some, if_pos n00]
  exact mb_w92 g
/-- the end of a want -/
theorem mg_w114 {k x y z u v : Nat} (hk : k + 4 < 448) (hk4 : 4 < k) (H : MG A0 Z0 B Q P F q D c b n h t row) : ∃ h', f_X12_readWant_114 h 57 (nI k) (nI x) (nI y) (nI z) (nI u) (nI v) = some h' ∧ MG A0 Z0 B Q P F q D c b n h' t (va_up (va_up (va_up (up3 row k x y z) (k + 3) u) (k + 4) v) 4 (row 4 + 1)) := by
  obtain ⟨h1, e1, H1⟩ := H.st (k := k) (v := x) (by omega)
  obtain ⟨h2, e2, H2⟩ := H1.st (k := k + 1) (v := y) (by omega)
  obtain ⟨h3, e3, H3⟩ := H2.st (k := k + 2) (v := z) (by omega)
  obtain ⟨h4, e4, H4⟩ := H3.st (k := k + 3) (v := u) (by omega)
  obtain ⟨h5, e5, H5⟩ := H4.st (k := k + 4) (v := v) (by omega)
  obtain ⟨h6, e6, H6⟩ := H5.st (k := 4) (v := row 4 + 1) (by omega)
  have l5 := H5.ld (k := 4) (by decide)
  rw [y_vn (by omega), y_vn (by omega), y_vn (by omega), y_vn (by omega), y_vn (by omega)] at l5
  refine ⟨h6, ?_, H6⟩
  unfold f_X12_readWant_114
  rw [H.g12, Option.bind_some, if_pos n00, H.g2, Option.bind_some, e1, Option.bind_some, H1.g2, Option.bind_some, nI_1, e2, Option.bind_some, H2.g2, Option.bind_some, show (2 : Int32) = nI 2 from rfl, nI_add, e3, Option.bind_some, H3.g2, Option.bind_some, show (3 : Int32) = nI 3 from rfl, nI_add, e4, Option.bind_some, H4.g2, Option.bind_some, show (4 : Int32) = nI 4 from rfl, nI_add, e5, Option.bind_some, H5.g2, Option.bind_some, l5, Option.bind_some, nI_1, e6, Option.bind_some]
theorem mg_w66 (hn : n ≤ 800) (h20 : Z0 20 = nI n) (hb : ∀ k, k < n → A0 62 k = nI (b k) ∧ b k < 256) {k x y z : Nat} (hk : k + 4 < 448) (hk4 : 4 < k) (H : MG A0 Z0 B Q P F q D c b n h t row) : MR A0 Z0 B Q P F q D c b n (f_X12_readWant_66 h 57 (nI k) (nI x) (nI y) (nI z)) (pb (pFrom b n t) fun w => .inr (w.2.2, va_up (va_up (va_up (up3 row k x y z) (k + 3) w.1) (k + 4) w.2.1) 4 (row 4 + 1))) := by
  obtain ⟨_, ho⟩ := H.o
  obtain ⟨w1, w2⟩ := mg_took (i := 11) (by decide) hn h20 hb H
  unfold f_X12_readWant_66 pFrom
  rw [ho, Option.bind_some]
  cases hw : isW b 11 t
  · rw [w2 hw, Option.bind_some, if_pos n00, if_neg (by decide)]
    obtain ⟨h', e, g⟩ := mg_w114 (x := x) (y := y) (z := z) (u := 0) (v := 23) hk hk4 H
    refine ⟨h', ?_, g⟩
    dsimp only
    unfold f_X12_readWant_92
    rw [if_pos n00]
    exact e
  · obtain ⟨h1, e1, H1⟩ := w1 hw
    obtain ⟨_, ho1⟩ := H1.o
    have h2 := mg_number hn h20 hb (lo := 0) (hi := 23) (by decide) (by decide) H1
    rw [e1, Option.bind_some, if_neg n10, if_pos rfl]
    dsimp only
    rw [ho1, Option.bind_some, show f_X12_number h1 57 (0 : Int32) (23 : Int32) = f_X12_number h1 57 (nI 0) (nI 23) from rfl]
    cases hp : pNum b n 0 23 NX (adv b n t) with
    | inl f =>
      rw [hp] at h2
      obtain ⟨w, h', e, g⟩ := h2
      refine ⟨h', ?_, g⟩
      rw [e, Option.bind_some]
      exact mb_w92 g
    | inr u =>
      have hu := pNum_le hp
      obtain ⟨u, t2⟩ := u
      dsimp only at hu
      rw [hp] at h2
      obtain ⟨h2, e2, H2⟩ := h2
      dsimp only at e2 H2
      obtain ⟨_, ho2⟩ := H2.o
      have h3 := mg_told hn h20 hb (i := 2) (lo := u) (hi := 23) (by decide) (by omega) (by decide) H2
      rw [e2, Option.bind_some]
      unfold f_X12_readWant_92
      dsimp only
      rw [if_neg n10, ho2, Option.bind_some, show (23 : Int32) = nI 23 from rfl]
      show MR A0 Z0 B Q P F q D c b n _ (pb (pb (pTold b n 2 u 23 t2) fun y => .inr (u, y.1, y.2)) fun w => .inr (w.2.2, va_up (va_up (va_up (up3 row k x y z) (k + 3) w.1) (k + 4) w.2.1) 4 (row 4 + 1)))
      cases hp3 : pTold b n 2 u 23 t2 with
      | inl f =>
        rw [hp3] at h3
        obtain ⟨w, h', e, g⟩ := h3
        refine ⟨h', ?_, g⟩
        rw [e, Option.bind_some]
        exact mb_w114 g
      | inr v =>
        rw [hp3] at h3
        obtain ⟨h3, e3, H3⟩ := h3
        obtain ⟨h4, e4, H4⟩ := mg_w114 (x := x) (y := y) (z := z) (u := u) (v := v.1) hk hk4 H3
        refine ⟨h4, ?_, H4⟩
        rw [e3, Option.bind_some]
        exact e4
theorem mg_want (hn : n ≤ 800) (h20 : Z0 20 = nI n) (hb : ∀ k, k < n → A0 62 k = nI (b k) ∧ b k < 256) (hW : HWf row) (hm : 0 < row 1) (H : MG A0 Z0 B Q P F q D c b n h t row) : MR A0 Z0 B Q P F q D c b n (f_X12_readWant h 57) (lWant b n t row) := by
  have hwa := hW.wa
  have hro := hW.ro
  obtain ⟨_, ho⟩ := H.o
  obtain ⟨b1, b2⟩ := mg_begins hn h20 hb (k := 4) (mx := 24) (by decide) (by omega) (by decide) H
  unfold lWant f_X12_readWant
  rw [ho, Option.bind_some, show (4 : Int32) = nI 4 from rfl, show (24 : Int32) = nI 24 from rfl]
  by_cases c1 : row 4 = 24
  · obtain ⟨h', e1, g⟩ := b1 c1
    obtain ⟨_, g12, n12⟩ := g.g12
    rw [if_pos c1]
    exact ⟨h', by rw [e1, Option.bind_some, g12, Option.bind_some, if_neg n12], g⟩
  · obtain ⟨h1, e1, H1⟩ := b2 c1
    obtain ⟨_, ho1⟩ := H1.o
    rw [if_neg c1, e1, Option.bind_some, H1.g12, Option.bind_some, if_pos n00, H1.g2, Option.bind_some, H1.ld (by decide), Option.bind_some, ho1, Option.bind_some, show (256 : Int32) = nI 256 from rfl, show (5 : Int32) = nI 5 from rfl, pk_mul, nI_add]
    have h2 := mg_room hn h20 hb hm hro H1
    cases hp : pNum b n 0 (row 1 - 1) NX (adv b n t) with
    | inl f =>
      rw [hp] at h2
      obtain ⟨w, h', e, g⟩ := h2
      obtain ⟨_, ho'⟩ := g.o
      refine ⟨h', ?_, g⟩
      rw [e, Option.bind_some]
      dsimp only
      rw [ho', Option.bind_some, mb_told (by decide) g, Option.bind_some]
      dsimp only
      rw [ho', Option.bind_some, mb_took (by decide) g, Option.bind_some, if_pos n00]
      exact mb_w66 g
    | inr x =>
      obtain ⟨x, t2⟩ := x
      rw [hp] at h2
      obtain ⟨h2, e2, H2⟩ := h2
      dsimp only at e2 H2
      obtain ⟨_, ho2⟩ := H2.o
      have h3 := mg_told hn h20 hb (i := 9) (lo := 0) (hi := 9999) (by decide) (by decide) (by decide) H2
      rw [e2, Option.bind_some]
      dsimp only
      rw [ho2, Option.bind_some, show f_X12_told h2 57 (xS0 + 2 * 9) (0 : Int32) (9999 : Int32) = f_X12_told h2 57 (xS0 + 2 * 9) (nI 0) (nI 9999) from rfl]
      show MR A0 Z0 B Q P F q D c b n _ (pb (pTold b n 9 0 9999 t2) fun y => pb (pMost b n y.1 y.2) fun z => pb (pFrom b n z.2) fun w => .inr (w.2.2, va_up (va_up (va_up (up3 row (256 + 5 * row 4) x y.1 z.1) (256 + 5 * row 4 + 3) w.1) (256 + 5 * row 4 + 4) w.2.1) 4 (row 4 + 1)))
      cases hp3 : pTold b n 9 0 9999 t2 with
      | inl f =>
        rw [hp3] at h3
        obtain ⟨w, h', e, g⟩ := h3
        obtain ⟨_, ho'⟩ := g.o
        refine ⟨h', ?_, g⟩
        rw [e, Option.bind_some]
        dsimp only
        rw [ho', Option.bind_some, mb_took (by decide) g, Option.bind_some, if_pos n00]
        exact mb_w66 g
      | inr y =>
        have hy := pTold_le hp3
        obtain ⟨y, t3⟩ := y
        dsimp only at hy
        rw [hp3] at h3
        obtain ⟨h3, e3, H3⟩ := h3
        dsimp only at e3 H3
        obtain ⟨_, ho3⟩ := H3.o
        obtain ⟨w1, w2⟩ := mg_took (i := 10) (by decide) hn h20 hb H3
        rw [e3, Option.bind_some]
        dsimp only
        rw [ho3, Option.bind_some]
        show MR A0 Z0 B Q P F q D c b n _ (pb (pMost b n y t3) fun z => pb (pFrom b n z.2) fun w => .inr (w.2.2, va_up (va_up (va_up (up3 row (256 + 5 * row 4) x y z.1) (256 + 5 * row 4 + 3) w.1) (256 + 5 * row 4 + 4) w.2.1) 4 (row 4 + 1)))
        unfold pMost
        cases hw : isW b 10 t3
        · rw [w2 hw, Option.bind_some, if_pos n00, if_neg (by decide)]
          exact mg_w66 hn h20 hb (k := 256 + 5 * row 4) (x := x) (y := y) (z := 99999) (by omega) (by omega) H3
        · obtain ⟨h4, e4, H4⟩ := w1 hw
          obtain ⟨_, ho4⟩ := H4.o
          have h5 := mg_number hn h20 hb (lo := y) (hi := 9999) (by omega) (by decide) H4
          rw [e4, Option.bind_some, if_neg n10, if_pos rfl]
          dsimp only
          rw [ho4, Option.bind_some, show (9999 : Int32) = nI 9999 from rfl]
          cases hp5 : pNum b n y 9999 NX (adv b n t3) with
          | inl f =>
            rw [hp5] at h5
            obtain ⟨w, h', e, g⟩ := h5
            refine ⟨h', ?_, g⟩
            rw [e, Option.bind_some]
            exact mb_w66 g
          | inr z =>
            rw [hp5] at h5
            obtain ⟨h5, e5, H5⟩ := h5
            rw [e5, Option.bind_some]
            exact mg_w66 hn h20 hb (k := 256 + 5 * row 4) (x := x) (y := y) (z := z.1) (by omega) (by omega) H5
end MKin2
