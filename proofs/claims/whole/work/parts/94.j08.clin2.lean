/-! ===== house: the class's lines, on ===== -/
section CLin2
variable {A : Nat → Nat → Int32} {Z : Nat → Int32} {B : Nat → Nat → Int64} {Q : Nat → Int64} {P : Nat → Option Nat} {F : Nat → Nat → Option Nat} {q : Nat} {D0 : List xC} {c : Nat × Nat} {b : Nat → Nat} {n : Nat} {h : xH} {t : TK} {row tf : Nat → Nat} {tl : Nat}
theorem cr_end {α : Type} {o : Option (Int32 × xH)} {r : Fl ⊕ α} {post : α → xH → Prop} (H : CQ A Z B Q P F q D0 c o r post) : CQ A Z B Q P F q D0 c (o.bind fun r2 => if r2.1 = 0 then some ((0 : Int32), r2.2) else some ((1 : Int32), r2.2)) r post := by
  cases r with
  | inl w =>
    obtain ⟨h', e, g'⟩ := H
    exact ⟨h', by rw [e, Option.bind_some, if_pos n00]; rfl, g'⟩
  | inr x =>
    obtain ⟨h', e, g'⟩ := H
    exact ⟨h', by rw [e, Option.bind_some, if_neg n10]; rfl, g'⟩
/-- a result is changed only in what it says -/
theorem cr_map {α β : Type} {o : Option (Int32 × xH)} {r : Fl ⊕ α} {post : α → xH → Prop} {post2 : β → xH → Prop} {u : α → β} (H : CQ A Z B Q P F q D0 c o r post) (H2 : ∀ x h', post x h' → post2 (u x) h') : CQ A Z B Q P F q D0 c o (pb r fun x => .inr (u x)) post2 := by
  cases r with
  | inl w => exact H
  | inr x =>
    obtain ⟨h', e, g'⟩ := H
    exact ⟨h', e, H2 x h' g'⟩
theorem cr_p {α β : Type} {o : Option (Int32 × xH)} {r : Fl ⊕ α} {post : α → xH → Prop} {g : Int32 × xH → Option (Int32 × xH)} {k : α → Fl ⊕ β} {post2 : β → xH → Prop} (H : CQ A Z B Q P F q D0 c o r post) (H2 : ∀ x h', r = .inr x → post x h' → CQ A Z B Q P F q D0 c (g (nI 1, h')) (k x) post2) : CQ A Z B Q P F q D0 c (o.bind fun r2 => if r2.1 = 0 then some ((0 : Int32), r2.2) else g r2) (pb r k) post2 := by
  cases r with
  | inl w =>
    obtain ⟨h', e, g'⟩ := H
    exact ⟨h', by rw [e, Option.bind_some, if_pos n00]; rfl, g'⟩
  | inr x =>
    obtain ⟨h', e, g'⟩ := H
    rw [e, Option.bind_some, if_neg n10]
    exact H2 x h' rfl g'
theorem pb_as {α β γ : Type} {r : Fl ⊕ α} {k : α → Fl ⊕ β} {m : β → Fl ⊕ γ} : pb (pb r k) m = pb r (fun x => pb (k x) m) := by
  cases r <;> rfl
def tf3 (tf : Nat → Nat) (x y z : Nat) : Nat → Nat := va_up (va_up (va_up tf 0 x) 1 y) 2 z
theorem cg_passage (hn : n ≤ 800) (hb : ∀ k, k < n → A 1 k = sb (b k) ∧ b k < 256) (hm : 0 < row 1) (hro : row 1 ≤ 16) (H : CG A Z B Q P F q D0 c b n h t row 0 tf) : CQ A Z B Q P F q D0 c (f_X7_passage h (77 + D0.length)) (pSides b n (row 1) t) (fun y h' => CG A Z B Q P F q D0 c b n h' y.2.2.2 row 3 (tf3 tf y.1 y.2.1 y.2.2.1)) := by
  obtain ⟨_, ho⟩ := H.o
  unfold f_X7_passage pSides
  rw [H.g8.1, Option.bind_some, H.gh (by decide), Option.bind_some, ho, Option.bind_some]
  show CQ A Z B Q P F q D0 c ((f_X7_number h (77 + D0.length) (nI 0) (nI (row 1) - nI 1)).bind fun r4 => _) _ _
  rw [show nI (row (fr 1)) - (1 : Int32) = nI (row 1 - 1) from y_sub (a := row 1) (b := 1) hm, y_sub (show 1 ≤ row 1 from hm)]
  refine cr_p (cg_number hn hb (by decide) (by omega) (by decide) H) (fun x h1 hx H1 => ?_)
  have hx := pNum_le hx
  obtain ⟨x, t1⟩ := x
  dsimp only at hx H1 ⊢
  obtain ⟨_, ho1⟩ := H1.o
  rw [ho1, Option.bind_some]
  refine cr_b (cg_pass hn hb (i := 2) (by decide) H1) (fun t2 h2 H2 => ?_)
  dsimp only
  obtain ⟨_, ho2⟩ := H2.o
  have t5 := (H2.tk.sp hn).2.2.2.2
  have hv0 : va_up tf 0 x 0 = x := y_vs
  rw [ho2, Option.bind_some, pNum_but t5, pb_as]
  have hdf := cg_differs hn hb (by decide) (by rw [hv0]; omega) H2
  rw [hv0] at hdf
  refine cr_b hdf (fun _ h3 H3 => ?_)
  dsimp only
  obtain ⟨_, ho3⟩ := H3.o
  rw [ho3, Option.bind_some]
  refine cr_b (cg_number hn hb (lo := 0) (by decide) (by omega) (by decide) H3) (fun y h4 H4 => ?_)
  dsimp only
  obtain ⟨_, ho4⟩ := H4.o
  unfold pTold
  rw [ho4, Option.bind_some, pb_as]
  refine cr_b (cg_pass hn hb (i := 3) (by decide) H4) (fun t3 h5 H5 => ?_)
  dsimp only
  obtain ⟨_, ho5⟩ := H5.o
  rw [ho5, Option.bind_some]
  refine cr_end (cr_map (cg_number hn hb (lo := 1) (hi := 100) (by decide) (by decide) (by decide) H5) (fun z h6 H6 => ?_))
  exact H6
end CLin2
