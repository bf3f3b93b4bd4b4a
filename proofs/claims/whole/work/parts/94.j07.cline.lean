/-! ===== house: the class's lines ===== -/
section CLine
variable {A : Nat → Nat → Int32} {Z : Nat → Int32} {B : Nat → Nat → Int64} {Q : Nat → Int64} {P : Nat → Option Nat} {F : Nat → Nat → Option Nat} {q : Nat} {D0 : List xC} {c : Nat × Nat} {b : Nat → Nat} {n : Nat} {h : xH} {t : TK} {row tf : Nat → Nat} {tl : Nat}
theorem cr_b {α β : Type} {o : Option (Int32 × xH)} {r : Fl ⊕ α} {post : α → xH → Prop} {g : Int32 × xH → Option (Int32 × xH)} {k : α → Fl ⊕ β} {post2 : β → xH → Prop} (H : CQ A Z B Q P F q D0 c o r post) (H2 : ∀ x h', post x h' → CQ A Z B Q P F q D0 c (g (nI 1, h')) (k x) post2) : CQ A Z B Q P F q D0 c (o.bind fun r2 => if r2.1 = 0 then some ((0 : Int32), r2.2) else g r2) (pb r k) post2 := by
  cases r with
  | inl w =>
    obtain ⟨h', e, g'⟩ := H
    exact ⟨h', by rw [e, Option.bind_some, if_pos n00]; rfl, g'⟩
  | inr x =>
    obtain ⟨h', e, g'⟩ := H
    rw [e, Option.bind_some, if_neg n10]
    exact H2 x h' g'
theorem cg_may (hn : n ≤ 800) (hb : ∀ k, k < n → A 1 k = sb (b k) ∧ b k < 256) (hro : row 1 ≤ 16) {l1 : Int32} (H : CG A Z B Q P F q D0 c b n h t row tl tf) : CQ A Z B Q P F q D0 c (f_X7_mayBegin h (77 + D0.length) l1) (if row 1 = 0 then .inl (flt t 2) else if l1 = 0 then .inl (flt t 4) else .inr ()) (fun _ h' => CG A Z B Q P F q D0 c b n h' t row tl tf) := by
  obtain ⟨_, ho⟩ := H.o
  obtain ⟨h2, e2, H2⟩ := cg_refuse hn hb (k := 2) (by decide) (by decide) H
  obtain ⟨h4, e4, H4⟩ := cg_refuse hn hb (k := 4) (by decide) (by decide) H
  unfold f_X7_mayBegin
  rw [H.g8.1, Option.bind_some, H.gh (by decide), Option.bind_some]
  show CQ A Z B Q P F q D0 c (if nI (row 1) = 0 then _ else _) _ _
  by_cases c1 : row 1 = 0
  · rw [if_pos (by rw [c1]; rfl), if_pos c1, ho, Option.bind_some, show (2 : Int32) = nI 2 from rfl, e2, Option.bind_some]
    exact ⟨h2, if_pos nb_0, H2⟩
  · rw [if_neg (by rw [show (0 : Int32) = nI 0 from rfl, y_eq (by omega) (by omega)]; exact c1), if_neg c1]
    by_cases c2 : l1 = 0
    · rw [if_pos c2, if_pos c2, ho, Option.bind_some, show (4 : Int32) = nI 4 from rfl, e4, Option.bind_some, if_pos n00]
      exact ⟨h4, rfl, H4⟩
    · rw [if_neg c2, if_neg c2]
      exact ⟨h, rfl, H⟩
theorem cg_differs (hn : n ≤ 800) (hb : ∀ k, k < n → A 1 k = sb (b k) ∧ b k < 256) (hl : 0 < tl) (hx : tf 0 < 100000) (H : CG A Z B Q P F q D0 c b n h t row tl tf) : CQ A Z B Q P F q D0 c (f_X7_differs h (77 + D0.length)) (if t.1 = 2 ∧ t.2.2.2 = tf 0 then .inl (flt t 3) else .inr ()) (fun _ h' => CG A Z B Q P F q D0 c b n h' t row tl tf) := by
  obtain ⟨_, ho⟩ := H.o
  obtain ⟨t1, t2, t3, t4, t5⟩ := H.tk.sp hn
  obtain ⟨h3, e3, H3⟩ := cg_refuse hn hb (k := 3) (by decide) (by decide) H
  unfold f_X7_differs
  rw [H.g4, Option.bind_some]
  by_cases c1 : t.1 = 2
  · rw [if_pos (by rw [c1]; rfl), H.g7 c1, Option.bind_some, H.g8.2, Option.bind_some, show (0 : Int32) = nI 0 from rfl, H.told hl, Option.bind_some]
    by_cases c2 : t.2.2.2 = tf 0
    · rw [if_pos (by rw [c2]), if_pos ⟨c1, c2⟩, ho, Option.bind_some, show (3 : Int32) = nI 3 from rfl, e3, Option.bind_some, if_pos rfl]
      exact ⟨h3, rfl, H3⟩
    · rw [if_neg (by rw [y_eq (by omega) (by omega)]; exact c2), if_neg (fun h => c2 h.2)]
      exact ⟨h, rfl, H⟩
  · rw [if_neg (by rw [show (2 : Int32) = nI 2 from rfl, y_eq (by omega) (by omega)]; exact c1), if_neg (fun h => c1 h.1)]
    exact ⟨h, rfl, H⟩
/-- differs, then a number -/
theorem pNum_but {lo hi x : Nat} (t5 : t.2.2.2 < 100000) : pNum b n lo hi x t = pb (if t.1 = 2 ∧ t.2.2.2 = x then .inl (flt t 3) else .inr ()) (fun _ => pNum b n lo hi NX t) := by
  have hNX : NX = 100000 := rfl
  unfold pNum
  by_cases c1 : t.1 = 2
  · rw [if_pos c1]
    by_cases c2 : t.2.2.2 = x
    · rw [if_neg (fun h => h.2 c2), if_pos ⟨c1, c2⟩]
      rfl
    · rw [if_neg (c := t.1 = 2 ∧ t.2.2.2 = x) (fun h => c2 h.2)]
      show _ = if t.1 = 2 then _ else _
      rw [if_pos c1]
      by_cases c3 : lo ≤ t.2.2.2 ∧ t.2.2.2 ≤ hi
      · rw [if_pos ⟨c3, c2⟩, if_pos ⟨c3, by omega⟩]
      · rw [if_neg (fun h => c3 h.1), if_neg (fun h => c3 h.1)]
  · rw [if_neg c1, if_neg (fun h => c1 h.1)]
    show _ = if t.1 = 2 then _ else _
    rw [if_neg c1]
end CLine
