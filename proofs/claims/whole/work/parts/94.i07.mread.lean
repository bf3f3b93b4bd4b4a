/-! ===== house: a whole line, by the reference ===== -/
section MRead
variable {A0 : Nat → Nat → Int32} {Z0 : Nat → Int32} {B : Nat → Nat → Int64} {Q : Nat → Int64} {P : Nat → Option Nat} {F : Nat → Nat → Option Nat} {q : Nat} {D : List xC} {c : Nat × Nat} {b : Nat → Nat} {n : Nat} {h : xH} {t : TK} {row : Nat → Nat} {f : Fl}
theorem mr_161 (hn : n ≤ 800) (h20 : Z0 20 = nI n) (hb : ∀ k, k < n → A0 62 k = nI (b k) ∧ b k < 256) {o : Option xH} {r : PR} (H : MR A0 Z0 B Q P F q D c b n o r) : MR A0 Z0 B Q P F q D c b n (o.bind fun h => f_X12_readLine_161 h 57) (pb r fun x => if x.1.1 = 3 then .inr (adv b n x.1, va_up x.2 0 (x.2 0 + 1)) else .inl (flt x.1 2)) := by
  cases r with
  | inl f =>
    obtain ⟨h', e, g⟩ := H
    exact ⟨h', by rw [e, Option.bind_some, mb_161 g], g⟩
  | inr x =>
    obtain ⟨h', e, g⟩ := H
    rw [e, Option.bind_some]
    exact mg_161 hn h20 hb g
theorem mg_dear (hn : n ≤ 800) (h20 : Z0 20 = nI n) (hb : ∀ k, k < n → A0 62 k = nI (b k) ∧ b k < 256) (H : MG A0 Z0 B Q P F q D c b n h (adv b n t) row) : MR A0 Z0 B Q P F q D c b n ((f_X12_number h 57 (0 : Int32) (999 : Int32)).bind fun r44 => stI r44.2 .int 60 (6 : Int32) r44.1) (lDear b n t row) := by
  have h1 := mg_number hn h20 hb (lo := 0) (hi := 999) (by decide) (by decide) H
  unfold lDear
  rw [show f_X12_number h 57 (0 : Int32) (999 : Int32) = f_X12_number h 57 (nI 0) (nI 999) from rfl]
  cases hp : pNum b n 0 999 NX (adv b n t) with
  | inl f =>
    rw [hp] at h1
    obtain ⟨w, h', e, g⟩ := h1
    obtain ⟨h2, e2, g2⟩ := g.st (k := 6) (v := w) (by decide)
    exact ⟨h2, by rw [e, Option.bind_some]; exact e2, g2⟩
  | inr x =>
    rw [hp] at h1
    obtain ⟨h', e, g⟩ := h1
    obtain ⟨h2, e2, g2⟩ := g.st (k := 6) (v := x.1) (by decide)
    exact ⟨h2, by rw [e, Option.bind_some]; exact e2, g2⟩
theorem n_ite {p : Prop} [Decidable p] {α : Type} (x y : α) : (if (if p then nI 1 else nI 0) = (0 : Int32) then x else y) = if p then y else x := by
  by_cases hp : p
  · rw [if_pos hp, if_pos hp, if_neg n10]
  · rw [if_neg hp, if_neg hp, if_pos n00]
theorem mg_line (hn : n ≤ 800) (h20 : Z0 20 = nI n) (hb : ∀ k, k < n → A0 62 k = nI (b k) ∧ b k < 256) (hW : HWf row) (H : MG A0 Z0 B Q P F q D c b n h t row) : MR A0 Z0 B Q P F q D c b n (f_X12_readLine h 57) (pLine b n t row) := by
  have hro := hW.ro
  obtain ⟨_, ho⟩ := H.o
  obtain ⟨w1, w2⟩ := mg_took (i := 17) (by decide) hn h20 hb H
  obtain ⟨h2, e2, H2⟩ := mg_blames (k := 2) (by decide) (by decide) hn H
  have hbl : MR A0 Z0 B Q P F q D c b n (f_X12_blames h 57 (2 : Int32)) (.inl (flt t 2)) := ⟨h2, e2, H2⟩
  unfold f_X12_readLine pLine pLine0
  rw [ho, Option.bind_some, mg_isW (by decide) hn hb H, Option.bind_some, n_ite]
  by_cases c0 : isW b 0 t = true
  · rw [if_pos c0, if_pos c0, Option.bind_some]
    exact mr_161 hn h20 hb (mg_rooms hn h20 hb hW H)
  · rw [if_neg c0, if_neg c0, Option.bind_some, mg_isW (by decide) hn hb H, Option.bind_some, n_ite]
    by_cases c5 : isW b 5 t = true
    · rw [if_pos c5, if_pos c5, Option.bind_some]
      exact mr_161 hn h20 hb (mg_lamp hn h20 hb hW H)
    · rw [if_neg c5, if_neg c5, Option.bind_some]
      by_cases c17 : isW b 17 t = true
      · obtain ⟨h1, e1, H1⟩ := w1 c17
        obtain ⟨_, ho1⟩ := H1.o
        rw [if_pos c17, e1, Option.bind_some, if_neg n10]
        dsimp only
        rw [H1.g2, Option.bind_some, ho1, Option.bind_some]
        have := mr_161 hn h20 hb (mg_dear hn h20 hb H1)
        rw [Option.bind_assoc] at this
        exact this
      · rw [if_neg c17, w2 (by cases hx : isW b 17 t; rfl; exact absurd hx c17), Option.bind_some, if_pos n00]
        dsimp only
        rw [H.g2, Option.bind_some, show (1 : Int32) = nI 1 from rfl, H.ld (by decide), Option.bind_some]
        by_cases cm : row 1 = 0
        · rw [if_pos cm, if_pos (by rw [cm]; exact n00), ho, Option.bind_some]
          exact mr_161 hn h20 hb hbl
        · rw [if_neg cm, if_neg (by rw [show (0 : Int32) = nI 0 from rfl, y_eq (by omega) (by omega)]; exact cm), ho, Option.bind_some, mg_isW (by decide) hn hb H, Option.bind_some, n_ite]
          by_cases c1 : isW b 1 t = true
          · rw [if_pos c1, if_pos c1, Option.bind_some]
            exact mr_161 hn h20 hb (mg_pane hn h20 hb hW (by omega) H)
          · rw [if_neg c1, if_neg c1, Option.bind_some, mg_isW (by decide) hn hb H, Option.bind_some, n_ite]
            by_cases c8 : isW b 8 t = true
            · rw [if_pos c8, if_pos c8, Option.bind_some]
              exact mr_161 hn h20 hb (mg_want hn h20 hb hW (by omega) H)
            · rw [if_neg c8, if_neg c8, Option.bind_some, mg_isW (by decide) hn hb H, Option.bind_some, n_ite]
              by_cases c12 : isW b 12 t = true
              · rw [if_pos c12, if_pos c12, Option.bind_some]
                exact mr_161 hn h20 hb (mg_hole hn h20 hb hW (by omega) H)
              · rw [if_neg c12, if_neg c12, Option.bind_some, mg_isW (by decide) hn hb H, Option.bind_some, n_ite]
                by_cases c14 : isW b 14 t = true
                · rw [if_pos c14, if_pos c14, Option.bind_some]
                  exact mr_161 hn h20 hb (mg_burns hn h20 hb hW (by omega) H)
                · rw [if_neg c14, if_neg c14, Option.bind_some, mg_isW (by decide) hn hb H, Option.bind_some, n_ite]
                  by_cases c16 : isW b 16 t = true
                  · rw [if_pos c16, if_pos c16, Option.bind_some]
                    exact mr_161 hn h20 hb (mg_hates hn h20 hb hW (by omega) H)
                  · rw [if_neg c16, if_neg c16, Option.bind_some]
                    exact mr_161 hn h20 hb hbl
end MRead
