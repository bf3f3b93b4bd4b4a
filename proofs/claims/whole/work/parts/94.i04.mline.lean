/-! ===== house: the lines, and how the reference reads them ===== -/
section PLine
variable (b : Nat → Nat) (n : Nat)
abbrev PR := Fl ⊕ (TK × (Nat → Nat))
def up3 (row : Nat → Nat) (k x y z : Nat) : Nat → Nat := va_up (va_up (va_up row k x) (k + 1) y) (k + 2) z
/-- "both", if it is there -/
def pBoth (t : TK) : Nat × TK := if isW b 4 t = true then (1, adv b n t) else (0, t)
def lRooms (t : TK) (row : Nat → Nat) : PR := if row 1 = 0 then pb (pNum b n 1 16 NX (adv b n t)) fun x => .inr (x.2, va_up row 1 x.1) else .inl (flt t 4)
def lLamp (t : TK) (row : Nat → Nat) : PR := if row 3 = 4 then .inl (flt t 4) else pb (pTold b n 6 1 999 (adv b n t)) fun x => pb (pTold b n 7 0 99 x.2) fun y => .inr (y.2, va_up (va_up (va_up row (248 + 2 * row 3) x.1) (248 + 2 * row 3 + 1) y.1) 3 (row 3 + 1))
def lDear (t : TK) (row : Nat → Nat) : PR := pb (pNum b n 0 999 NX (adv b n t)) fun x => .inr (x.2, va_up row 6 x.1)
def lPane (t : TK) (row : Nat → Nat) : PR := if row 2 = 60 then .inl (flt t 4) else pb (pSides b n (row 1) (adv b n t)) fun x => .inr ((pBoth b n x.2.2.2).2, va_up (va_up (up3 row (8 + 4 * row 2) x.1 x.2.1 x.2.2.1) (8 + 4 * row 2 + 3) (pBoth b n x.2.2.2).1) 2 (row 2 + 1))
def lHole (t : TK) (row : Nat → Nat) : PR := if row 5 = 8 then .inl (flt t 4) else pb (pSides b n (row 1) (adv b n t)) fun x => pb (pTold b n 13 0 99 x.2.2.2) fun y => .inr ((pBoth b n y.2).2, va_up (va_up (va_up (up3 row (376 + 5 * row 5) x.1 x.2.1 x.2.2.1) (376 + 5 * row 5 + 3) y.1) (376 + 5 * row 5 + 4) (pBoth b n y.2).1) 5 (row 5 + 1))
def lBurns (t : TK) (row : Nat → Nat) : PR := pb (pNum b n 0 99 NX (adv b n t)) fun x => pb (pPass b n 15 x.2) fun t2 => pb (pNum b n 0 (row 1 - 1) NX t2) fun y => .inr (y.2, va_up row (416 + y.1) x.1)
def lHates (t : TK) (row : Nat → Nat) : PR := pb (pNum b n 0 (row 1 - 1) NX (adv b n t)) fun x => pb (pNum b n 0 (row 1 - 1) x.1 x.2) fun y => .inr (y.2, va_up row (432 + x.1) (row (432 + x.1) ||| 2 ^ y.1))
def pMost (lo : Nat) (t : TK) : Fl ⊕ (Nat × TK) := if isW b 10 t = true then pNum b n lo 9999 NX (adv b n t) else .inr (99999, t)
def pFrom (t : TK) : Fl ⊕ (Nat × Nat × TK) := if isW b 11 t = true then pb (pNum b n 0 23 NX (adv b n t)) fun x => pb (pTold b n 2 x.1 23 x.2) fun y => .inr (x.1, y.1, y.2) else .inr (0, 23, t)
def lWant (t : TK) (row : Nat → Nat) : PR := if row 4 = 24 then .inl (flt t 4) else pb (pNum b n 0 (row 1 - 1) NX (adv b n t)) fun x => pb (pTold b n 9 0 9999 x.2) fun y => pb (pMost b n y.1 y.2) fun z => pb (pFrom b n z.2) fun w => .inr (w.2.2, va_up (va_up (va_up (up3 row (256 + 5 * row 4) x.1 y.1 z.1) (256 + 5 * row 4 + 3) w.1) (256 + 5 * row 4 + 4) w.2.1) 4 (row 4 + 1))
/-- a line without its sign -/
def pLine0 (t : TK) (row : Nat → Nat) : PR := if isW b 0 t = true then lRooms b n t row else if isW b 5 t = true then lLamp b n t row else if isW b 17 t = true then lDear b n t row else if row 1 = 0 then .inl (flt t 2) else if isW b 1 t = true then lPane b n t row else if isW b 8 t = true then lWant b n t row else if isW b 12 t = true then lHole b n t row else if isW b 14 t = true then lBurns b n t row else if isW b 16 t = true then lHates b n t row else .inl (flt t 2)
def pLine (t : TK) (row : Nat → Nat) : PR := pb (pLine0 b n t row) fun x => if x.1.1 = 3 then .inr (adv b n x.1, va_up x.2 0 (x.2 0 + 1)) else .inl (flt x.1 2)
end PLine
section MLine
variable {A0 : Nat → Nat → Int32} {Z0 : Nat → Int32} {B : Nat → Nat → Int64} {Q : Nat → Int64} {P : Nat → Option Nat} {F : Nat → Nat → Option Nat} {q : Nat} {D : List xC} {c : Nat × Nat} {b : Nat → Nat} {n : Nat} {h : xH} {t : TK} {row : Nat → Nat} {f : Fl}
theorem mb_161 (H : MB A0 Z0 B Q P F q D c h f) : f_X12_readLine_161 h 57 = some h := by
  obtain ⟨_, ho⟩ := H.o
  obtain ⟨⟨_, g10⟩, _, _⟩ := H.gi
  obtain ⟨_, g12, n12⟩ := H.g12
  unfold f_X12_readLine_161 f_X12_readLine_174
  rw [g10, Option.bind_some, g12, Option.bind_some, if_neg n12, ho, Option.bind_some, mb_blames H, Option.bind_some, g12, Option.bind_some, if_neg n12]
  simp only [ite_self]
theorem mg_161 (hn : n ≤ 800) (h20 : Z0 20 = nI n) (hb : ∀ k, k < n → A0 62 k = nI (b k) ∧ b k < 256) (H : MG A0 Z0 B Q P F q D c b n h t row) : MR A0 Z0 B Q P F q D c b n (f_X12_readLine_161 h 57) (if t.1 = 3 then .inr (adv b n t, va_up row 0 (row 0 + 1)) else .inl (flt t 2)) := by
  obtain ⟨_, ho⟩ := H.o
  have g12 := H.g12
  have g10 := H.g10
  obtain ⟨h2, e2, H2⟩ := mg_blames (k := 2) (by decide) (by decide) hn H
  obtain ⟨hr, er, Hr⟩ := mg_reads hn h20 hb H
  have hT : IsT b n t := by
    obtain ⟨g, Z, rfl, o1, z0, z1, hT, hR⟩ := H
    exact hT
  have hsp := (hT.sp hn).2.2.1
  unfold f_X12_readLine_161
  rw [g10, Option.bind_some]
  by_cases c1 : t.1 = 3
  · rw [if_pos (by rw [c1]; rfl), if_pos c1]
    obtain ⟨h3, e3, H3⟩ := Hr.st (k := 0) (v := row 0 + 1) (by decide)
    refine ⟨h3, ?_, H3⟩
    unfold f_X12_readLine_174
    rw [g12, Option.bind_some, if_pos n00, ho, Option.bind_some, er, Option.bind_some, Hr.g2, Option.bind_some, show (0 : Int32) = nI 0 from rfl, Hr.ld (by decide), Option.bind_some, nI_1, e3, Option.bind_some]
  · rw [if_neg (by rw [show (3 : Int32) = nI 3 from rfl, y_eq (by omega) (by omega)]; exact c1), if_neg c1, ho, Option.bind_some, show (2 : Int32) = nI 2 from rfl, e2, Option.bind_some]
    obtain ⟨_, g122, n12⟩ := H2.g12
    refine ⟨h2, ?_, H2⟩
    unfold f_X12_readLine_174
    rw [g122, Option.bind_some, if_neg n12]
theorem mb_sides19 {l1 l2 : Int32} (H : MB A0 Z0 B Q P F q D c h f) : f_X12_readSides_19 h 57 l1 l2 = some h := by
  obtain ⟨_, ho⟩ := H.o
  obtain ⟨v, hl⟩ := H.ld (k := 1) (by decide)
  obtain ⟨_, g12, n12⟩ := H.g12
  unfold f_X12_readSides_19
  rw [H.gi.2.2, Option.bind_some, show (1 : Int32) = nI 1 from rfl, hl, Option.bind_some, ho, Option.bind_some, mb_numBut H, Option.bind_some]
  dsimp only
  rw [ho, Option.bind_some, mb_told (by decide) H, Option.bind_some]
  dsimp only
  rw [g12, Option.bind_some, if_neg n12]
theorem mg_sides (hn : n ≤ 800) (h20 : Z0 20 = nI n) (hb : ∀ k, k < n → A0 62 k = nI (b k) ∧ b k < 256) (hm : 0 < row 1) (hm2 : row 1 ≤ 16) {k : Nat} (hk : k + 2 < 448) (hk1 : 1 < k) (H : MG A0 Z0 B Q P F q D c b n h t row) : match pSides b n (row 1) t with
    | .inl f => ∃ h', f_X12_readSides h 57 (nI k) = some h' ∧ MB A0 Z0 B Q P F q D c h' f
    | .inr x => ∃ h', f_X12_readSides h 57 (nI k) = some h' ∧ MG A0 Z0 B Q P F q D c b n h' x.2.2.2 (up3 row k x.1 x.2.1 x.2.2.1) := by
  obtain ⟨_, ho⟩ := H.o
  have h1 := mg_room hn h20 hb hm hm2 H
  unfold pSides f_X12_readSides
  rw [ho, Option.bind_some]
  cases hp : pNum b n 0 (row 1 - 1) NX t with
  | inl f =>
    rw [hp] at h1
    obtain ⟨w, h', e, g⟩ := h1
    obtain ⟨_, ho'⟩ := g.o
    refine ⟨h', ?_, g⟩
    rw [e, Option.bind_some]
    dsimp only
    rw [ho', Option.bind_some, mb_took (by decide) g, Option.bind_some, if_pos n00]
    dsimp only
    rw [ho', Option.bind_some, mb_blames g, Option.bind_some, mb_sides19 g]
  | inr x =>
    obtain ⟨x, t1⟩ := x
    rw [hp] at h1
    obtain ⟨ha, ea, Ha⟩ := h1
    dsimp only at ea Ha
    obtain ⟨_, hoa⟩ := Ha.o
    obtain ⟨w1, w2⟩ := mg_took (i := 2) (by decide) hn h20 hb Ha
    have hx5 : x < 100000 := by
      unfold pNum at hp
      obtain ⟨g, Z, rfl, o1, z0, z1, hT, hR⟩ := H
      have := (hT.sp hn).2.2.2.2
      split at hp
      · split at hp
        · cases hp; exact this
        · cases hp
      · cases hp
    show match pb (pPass b n 2 t1) (fun t2 => pb (pNum b n 0 (row 1 - 1) x t2) fun y => pb (pTold b n 3 1 100 y.2) fun l => .inr (x, y.1, l.1, l.2)) with
      | .inl f => _
      | .inr x => _
    rw [ea, Option.bind_some]
    dsimp only
    rw [hoa, Option.bind_some]
    unfold pPass
    cases hw : isW b 2 t1
    · obtain ⟨h2, e2, H2⟩ := mg_blames (k := 2) (by decide) (by decide) hn Ha
      rw [w2 hw, Option.bind_some, if_pos n00, if_neg (by decide)]
      refine ⟨h2, ?_, H2⟩
      dsimp only
      rw [hoa, Option.bind_some, show (2 : Int32) = nI 2 from rfl, e2, Option.bind_some, mb_sides19 H2]
    · obtain ⟨hc, ec, Hc⟩ := w1 hw
      obtain ⟨_, hoc⟩ := Hc.o
      rw [ec, Option.bind_some, if_neg n10, if_pos rfl]
      dsimp only
      show match pb (pNum b n 0 (row 1 - 1) x (adv b n t1)) (fun y => pb (pTold b n 3 1 100 y.2) fun l => .inr (x, y.1, l.1, l.2)) with
        | .inl f => _
        | .inr x => _
      have h3 := mg_numBut hn h20 hb (lo := 0) (hi := row 1 - 1) (x := x) (xi := nI x) (by decide) (by omega) (fun v hv => by rw [y_eq (by omega) (by omega)]) Hc
      unfold f_X12_readSides_19
      rw [Hc.g2, Option.bind_some, show (1 : Int32) = nI 1 from rfl, Hc.ld (by decide), Option.bind_some, hoc, Option.bind_some, y_sub (by omega), show (0 : Int32) = nI 0 from rfl]
      cases hp3 : pNum b n 0 (row 1 - 1) x (adv b n t1) with
      | inl f =>
        rw [hp3] at h3
        obtain ⟨w, h', e, g⟩ := h3
        obtain ⟨_, ho'⟩ := g.o
        obtain ⟨_, g12, n12⟩ := g.g12
        refine ⟨h', ?_, g⟩
        rw [e, Option.bind_some]
        dsimp only
        rw [ho', Option.bind_some, mb_told (by decide) g, Option.bind_some]
        dsimp only
        rw [g12, Option.bind_some, if_neg (show ¬ _ = nI 0 from n12)]
      | inr y =>
        obtain ⟨y, t3⟩ := y
        rw [hp3] at h3
        obtain ⟨hd, ed, Hd⟩ := h3
        dsimp only at ed Hd
        obtain ⟨_, hod⟩ := Hd.o
        have h4 := mg_told hn h20 hb (i := 3) (lo := 1) (hi := 100) (by decide) (by decide) (by decide) Hd
        rw [ed, Option.bind_some]
        dsimp only
        rw [hod, Option.bind_some, show (100 : Int32) = nI 100 from rfl]
        show match pb (pTold b n 3 1 100 t3) (fun l => .inr (x, y, l.1, l.2)) with
          | .inl f => _
          | .inr x => _
        cases hp4 : pTold b n 3 1 100 t3 with
        | inl f =>
          rw [hp4] at h4
          obtain ⟨w, h', e, g⟩ := h4
          obtain ⟨_, g12, n12⟩ := g.g12
          refine ⟨h', ?_, g⟩
          rw [e, Option.bind_some]
          dsimp only
          rw [g12, Option.bind_some, if_neg (show ¬ _ = nI 0 from n12)]
        | inr l =>
          obtain ⟨l, t4⟩ := l
          rw [hp4] at h4
          obtain ⟨he, ee, He⟩ := h4
          dsimp only at ee He
          obtain ⟨h5, e5, H5⟩ := He.st (k := k) (v := x) (by omega)
          obtain ⟨h6, e6, H6⟩ := H5.st (k := k + 1) (v := y) (by omega)
          obtain ⟨h7, e7, H7⟩ := H6.st (k := k + 2) (v := l) (by omega)
          refine ⟨h7, ?_, H7⟩
          rw [ee, Option.bind_some]
          dsimp only
          rw [He.g12, Option.bind_some, if_pos rfl, He.g2, Option.bind_some, e5, Option.bind_some, H5.g2, Option.bind_some, nI_add, e6, Option.bind_some, H6.g2, Option.bind_some, show (2 : Int32) = nI 2 from rfl, nI_add, e7, Option.bind_some]
end MLine
