/-! ===== house: the class's words and numbers ===== -/
theorem nb_0 : narrow .boolean (.int (nI 0)) = .int (nI 0) := by decide
section CNum
variable {A : Nat → Nat → Int32} {Z : Nat → Int32} {B : Nat → Nat → Int64} {Q : Nat → Int64} {P : Nat → Option Nat} {F : Nat → Nat → Option Nat} {q : Nat} {D0 : List xC} {c : Nat × Nat} {b : Nat → Nat} {n : Nat} {h : xH} {t : TK} {row tf : Nat → Nat} {tl : Nat}
/-- 0 and refused, or 1 and what holds then -/
def CQ (A : Nat → Nat → Int32) (Z : Nat → Int32) (B : Nat → Nat → Int64) (Q : Nat → Int64) (P : Nat → Option Nat) (F : Nat → Nat → Option Nat) (q : Nat) (D0 : List xC) (c : Nat × Nat) {α : Type} (o : Option (Int32 × xH)) (r : Fl ⊕ α) (post : α → xH → Prop) : Prop := match r with
  | .inl w => ∃ h', o = some (nI 0, h') ∧ CB A Z B Q P F q D0 c h' w
  | .inr x => ∃ h', o = some (nI 1, h') ∧ post x h'
theorem cr_bind {α β : Type} {o : Option (Int32 × xH)} {r : Fl ⊕ α} {post : α → xH → Prop} {g : xH → Option (Int32 × xH)} {k : α → Fl ⊕ β} {post2 : β → xH → Prop} (H : CQ A Z B Q P F q D0 c o r post) (H2 : ∀ x h', post x h' → CQ A Z B Q P F q D0 c (g h') (k x) post2) : CQ A Z B Q P F q D0 c (o.bind fun r2 => if r2.1 = 0 then some ((0 : Int32), r2.2) else g r2.2) (pb r k) post2 := by
  cases r with
  | inl w =>
    obtain ⟨h', e, g'⟩ := H
    exact ⟨h', by rw [e, Option.bind_some, if_pos n00]; rfl, g'⟩
  | inr x =>
    obtain ⟨h', e, g'⟩ := H
    rw [e, Option.bind_some, if_neg n10]
    exact H2 x h' g'
theorem cg_pass (hn : n ≤ 800) (hb : ∀ k, k < n → A 1 k = sb (b k) ∧ b k < 256) {i : Nat} (hi : i < 18) (H : CG A Z B Q P F q D0 c b n h t row tl tf) : CQ A Z B Q P F q D0 c (f_X7_pass h (77 + D0.length) (xS0 + 2 * i)) (pPass b n i t) (fun t' h' => CG A Z B Q P F q D0 c b n h' t' row tl tf) := by
  obtain ⟨_, ho⟩ := H.o
  obtain ⟨h2, e2, H2⟩ := cg_refuse hn hb (k := 2) (by decide) (by decide) H
  obtain ⟨h1, e1, H1⟩ := cg_adv hn hb H
  unfold f_X7_pass pPass
  rw [ho, Option.bind_some, cg_isW hn hb hi H, Option.bind_some, n_ite, Option.bind_some, Option.bind_some, show (2 : Int32) = nI 2 from rfl, e2, e1, Option.bind_some, Option.bind_some]
  by_cases c1 : isW b i t = true
  · rw [if_pos c1, if_pos c1]
    exact ⟨h1, rfl, H1⟩
  · rw [if_neg c1, if_neg c1]
    exact ⟨h2, if_pos nb_0, H2⟩
theorem cg_passIf (hn : n ≤ 800) (hb : ∀ k, k < n → A 1 k = sb (b k) ∧ b k < 256) {i : Nat} (hi : i < 18) (H : CG A Z B Q P F q D0 c b n h t row tl tf) : (isW b i t = true → ∃ h', f_X7_passIf h (77 + D0.length) (xS0 + 2 * i) = some (nI 1, h') ∧ CG A Z B Q P F q D0 c b n h' (adv b n t) row tl tf) ∧ (¬ isW b i t = true → f_X7_passIf h (77 + D0.length) (xS0 + 2 * i) = some (nI 0, h)) := by
  obtain ⟨_, ho⟩ := H.o
  obtain ⟨h1, e1, H1⟩ := cg_adv hn hb H
  unfold f_X7_passIf
  rw [ho, Option.bind_some, cg_isW hn hb hi H, Option.bind_some, n_ite, Option.bind_some, e1, Option.bind_some]
  exact ⟨fun c1 => ⟨h1, by rw [if_pos c1]; rfl, H1⟩, fun c1 => by rw [if_neg c1]; rfl⟩
theorem cg_tell {v : Nat} (hl : tl < 5) (H : CG A Z B Q P F q D0 c b n h t row tl tf) : ∃ h', f_X7_tell h (77 + D0.length) (nI v) = some h' ∧ CG A Z B Q P F q D0 c b n h' t row (tl + 1) (va_up tf tl v) := by
  obtain ⟨D, f, rfl, hp, hr, f0, f1, f3, ft, f10, hT, hH, hL0, g, hg, hg2⟩ := H
  have d1 : DO (77 + D0.length + 11) D (D.set (77 + D0.length + 11 - 77) (.inl (.int, 5, .inl (va_up g tl (nI v))))) := ⟨List.length_set, fun j hj => HC_ne (by omega) hj⟩
  have r1 : RO (D.set (77 + D0.length + 11 - 77) (.inl (.int, 5, .inl (va_up g tl (nI v))))) (77 + D0.length) f := ⟨hr.1, by rw [d1.2 _ (by omega)]; exact hr.2⟩
  obtain ⟨D2, e2, d2, r2⟩ := ro_p (A := A) (Z := Z) (B := B) (Q := Q) (P := P) (F := F) (q := q) (c := c) r1 (k := 10) (v := nI (tl + 1)) (by decide)
  have hg3 : HC (D.set (77 + D0.length + 11 - 77) (.inl (.int, 5, .inl (va_up g tl (nI v))))) (77 + D0.length + 11) = some (.inl (.int, 5, .inl (va_up g tl (nI v)))) := HC_se (by omega) hg
  refine ⟨_, ?_, D2, _, rfl, (hp.dO (by omega) d1).dO (Nat.le_refl _) d2, r2, f0, f1, f3, ft, rfl, hT, (hH.dO d1 (by omega)).dO d2 (by omega), by omega, va_up g tl (nI v), by rw [d2.2 _ (by omega)]; exact hg3, fun k hk => ?_⟩
  · unfold f_X7_tell
    rw [ro_g hr (by decide), Option.bind_some, ro_9 hr, Option.bind_some, aln_of (h := HH A Z B Q P F q D c) (HC_get hg), Option.bind_some, f10, if_neg (by show ¬ nI 5 ≤ nI tl; rw [y_le (by omega) (by omega)]; omega), Option.bind_some, Option.bind_some, stI_nI (h := HH A Z B Q P F q D c) (HC_get hg) (by decide) hl, Option.bind_some, LL_set (by omega)]
    show ((gI (HH A Z B Q P F q (D.set (77 + D0.length + 11 - 77) (.inl (.int, 5, .inl (va_up g tl (nI v))))) c) (77 + D0.length) 7 10).bind fun v8 => _) = _
    rw [ro_g r1 (by decide), Option.bind_some, f10, show (1 : Int32) = nI 1 from rfl, nI_add]
    show ((pF (HH A Z B Q P F q (D.set (77 + D0.length + 11 - 77) (.inl (.int, 5, .inl (va_up g tl (nI v))))) c) (77 + D0.length) 7 10 (.int (nI (tl + 1)))).bind fun h9 => _) = _
    rw [e2, Option.bind_some]
  · by_cases e : k = tl
    · rw [e, y_vs, y_vs]
    · rw [y_vn e, y_vn e]; exact hg2 k (by omega)
theorem CG.g4 (H : CG A Z B Q P F q D0 c b n h t row tl tf) : gI h (77 + D0.length) 7 4 = some (nI t.1) := by
  obtain ⟨D, f, rfl, hp, hr, f0, f1, f3, ft, f10, hT, hH, hL⟩ := H
  rw [ro_g hr (by decide), ft.1]
theorem CG.g7 (H : CG A Z B Q P F q D0 c b n h t row tl tf) (h2 : t.1 = 2) : gI h (77 + D0.length) 7 7 = some (nI t.2.2.2) := by
  obtain ⟨D, f, rfl, hp, hr, f0, f1, f3, ft, f10, hT, hH, hL⟩ := H
  rw [ro_g hr (by decide), ft.2.2.2 h2]
theorem CG.tk (H : CG A Z B Q P F q D0 c b n h t row tl tf) : IsT b n t := by
  obtain ⟨D, f, rfl, hp, hr, f0, f1, f3, ft, f10, hT, hH, hL⟩ := H
  exact hT
theorem cg_number (hn : n ≤ 800) (hb : ∀ k, k < n → A 1 k = sb (b k) ∧ b k < 256) {lo hi : Nat} (hlo : lo < 2147483648) (hhi : hi < 2147483648) (hl : tl < 5) (H : CG A Z B Q P F q D0 c b n h t row tl tf) : CQ A Z B Q P F q D0 c (f_X7_number h (77 + D0.length) (nI lo) (nI hi)) (pNum b n lo hi NX t) (fun y h' => CG A Z B Q P F q D0 c b n h' y.2 row (tl + 1) (va_up tf tl y.1)) := by
  obtain ⟨_, ho⟩ := H.o
  obtain ⟨t1, t2, t3, t4, t5⟩ := H.tk.sp hn
  obtain ⟨h2, e2, H2⟩ := cg_refuse hn hb (k := 2) (by decide) (by decide) H
  obtain ⟨h3, e3, H3⟩ := cg_refuse hn hb (k := 3) (by decide) (by decide) H
  have e30 : f_X7_number_30 h (77 + D0.length) = some (nI 0, h3) := by
    unfold f_X7_number_30
    rw [ho, Option.bind_some, show (3 : Int32) = nI 3 from rfl, e3, Option.bind_some]
    exact if_pos nb_0
  unfold f_X7_number pNum
  rw [H.g4, Option.bind_some]
  by_cases c1 : t.1 = 2
  · rw [if_pos (by rw [c1]; rfl), if_pos c1, H.g7 c1, Option.bind_some, e30]
    by_cases c2 : t.2.2.2 < lo
    · rw [if_pos (by rw [y_lt (by omega) hlo]; exact c2), if_neg (by omega)]
      exact ⟨h3, rfl, H3⟩
    · rw [if_neg (by rw [y_lt (by omega) hlo]; exact c2), Option.bind_some]
      by_cases c3 : t.2.2.2 ≤ hi
      · obtain ⟨h4, e4, H4⟩ := cg_tell (v := t.2.2.2) hl H
        obtain ⟨_, ho4⟩ := H4.o
        obtain ⟨h5, e5, H5⟩ := cg_adv hn hb H4
        have hNX : NX = 100000 := rfl
        rw [if_pos (by rw [y_le (by omega) hhi]; exact c3), if_pos ⟨⟨by omega, c3⟩, by omega⟩, Option.bind_some, ho, Option.bind_some, e4, Option.bind_some, ho4, Option.bind_some, e5, Option.bind_some]
        exact ⟨h5, rfl, H5⟩
      · rw [if_neg (by rw [y_le (by omega) hhi]; exact c3), if_neg (by omega)]
        exact ⟨h3, rfl, H3⟩
  · rw [if_neg (by rw [show (2 : Int32) = nI 2 from rfl, y_eq (by omega) (by omega)]; exact c1), if_neg c1, ho, Option.bind_some, show (2 : Int32) = nI 2 from rfl, e2, Option.bind_some]
    exact ⟨h2, if_pos nb_0, H2⟩
end CNum
