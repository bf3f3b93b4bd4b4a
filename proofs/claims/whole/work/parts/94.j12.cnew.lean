/-! ===== house: the class's Reader and House, made new ===== -/
section CNew
variable {A : Nat → Nat → Int32} {Z : Nat → Int32} {B : Nat → Nat → Int64} {Q : Nat → Int64} {P : Nat → Option Nat} {F : Nat → Nat → Option Nat} {q : Nat} {D : List xC} {c : Nat × Nat} {b : Nat → Nat} {n : Nat}
theorem gR_D {ci k r : Nat} {fs : List Value} {E : List xC} (hk : fs[k]? = some (.ref r)) : gR (HH A Z B Q P F q (D ++ (.inr (ci, fs) :: E)) c) (77 + D.length) ci k = some r := by
  have h3 : HC (D ++ (.inr (ci, fs) :: E)) (77 + D.length) = some (.inr (ci, fs)) := HC_new (D := D) (E := .inr (ci, fs) :: E) (j := 0)
  exact gR_of (h := HH A Z B Q P F q (D ++ (.inr (ci, fs) :: E)) c) (HC_get h3) hk
/-- the cells of a house at a, just made -/
def HCs (a : Nat) (g5 g9 : Nat → Int32) : List xC := [.inr (3, [.int 0, .int 0, .int 50, .int 0, .int 0, .int 0, .int 0, .ref (a + 1), .ref (a + 2), .ref (a + 3), .ref (a + 4), .ref (a + 5), .ref (a + 6), .ref (a + 7), .ref (a + 8), .ref (a + 9)]), .inl (.int, 240, .inl (fun _ => 0)), .inl (.int, 8, .inl (fun _ => 0)), .inl (.int, 120, .inl (fun _ => 0)), .inl (.int, 40, .inl (fun _ => 0)), .inl (.int, 16, .inl g5), .inl (.int, 16, .inl (fun _ => 0)), .inl (.int, 16, .inl (fun _ => 0)), .inl (.int, 16, .inl (fun _ => 0)), .inl (.int, 256, .inl g9)]
def f10 : Nat → Int32 := fun j => if j < 16 then 10 else 0
def fM1 : Nat → Int32 := fun j => if j < 256 then -1 else 0
theorem fil_D {E : List xC} {j m : Nat} {f : Nat → Int32} {v : Int32} (h : E[j]? = some (.inl (.int, m, .inl f))) (hm : m < 1000000) : f_J7_fill_53178 (HH A Z B Q P F q (D ++ E) c) (77 + D.length + j) v = some (HH A Z B Q P F q (D ++ E.set j (.inl (.int, m, .inl (fun j => if j < m then v else f j)))) c) := by
  have h5 : HC (D ++ E) (77 + D.length + j) = some (.inl (.int, m, .inl f)) := HC_new.trans h
  show f_J7_fill_53178 (LL A Z B Q P F q ++ (D ++ E), c) (77 + D.length + j) v = some (LL A Z B Q P F q ++ (D ++ E.set j (.inl (.int, m, .inl (fun j => if j < m then v else f j)))), c)
  rw [fill_spec (HC_get h5) hm, LL_set (by omega), show 77 + D.length + j - 77 = D.length + j by omega, List.set_append_right _ _ (by omega), Nat.add_sub_cancel_left]
theorem c_init3 (hlen : 77 + D.length < 800000000) : f_X3_init (HH A Z B Q P F q (D ++ [.inr (3, [.int 0, .int 0, .int 0, .int 0, .int 0, .int 0, .int 0, .null, .null, .null, .null, .null, .null, .null, .null, .null])]) c) (77 + D.length) = some (HH A Z B Q P F q (D ++ HCs (77 + D.length) f10 fM1) (c.1 + 9, c.2 + 728)) := by
  unfold f_X3_init
  rw [show (240 : Int32) = nI 240 from rfl, show (8 : Int32) = nI 8 from rfl, show (120 : Int32) = nI 120 from rfl, show (40 : Int32) = nI 40 from rfl, show (16 : Int32) = nI 16 from rfl, show (256 : Int32) = nI 256 from rfl]
  rw [pF_D (by decide), Option.bind_some, pF_D (by simp), Option.bind_some, pF_D (by simp), Option.bind_some, pF_D (by simp), Option.bind_some, pF_D (by simp), Option.bind_some, pF_D (by simp), Option.bind_some, pF_D (by simp), Option.bind_some]
  rw [mkI_E (by simp; omega) (by omega), Option.bind_some, pF_D (by simp), Option.bind_some]
  rw [mkI_E (by simp; omega) (by omega), Option.bind_some, pF_D (by simp), Option.bind_some]
  rw [mkI_E (by simp; omega) (by omega), Option.bind_some, pF_D (by simp), Option.bind_some]
  rw [mkI_E (by simp; omega) (by omega), Option.bind_some, pF_D (by simp), Option.bind_some]
  rw [mkI_E (by simp; omega) (by omega), Option.bind_some, pF_D (by simp), Option.bind_some]
  rw [mkI_E (by simp; omega) (by omega), Option.bind_some, pF_D (by simp), Option.bind_some]
  rw [mkI_E (by simp; omega) (by omega), Option.bind_some, pF_D (by simp), Option.bind_some]
  rw [mkI_E (by simp; omega) (by omega), Option.bind_some, pF_D (by simp), Option.bind_some]
  rw [mkI_E (by simp; omega) (by omega), Option.bind_some, pF_D (by simp), Option.bind_some]
  rw [len_E, len_E, len_E, len_E, len_E, len_E, len_E, len_E, len_E]
  have e1 : (gR (HH A Z B Q P F q (D ++ HCs (77 + D.length) (fun _ => 0) (fun _ => 0)) (c.1 + 9, c.2 + 728)) (77 + D.length) 3 11) = some (77 + D.length + 5) := gR_D rfl
  have e2 : f_J7_fill_53178 (HH A Z B Q P F q (D ++ HCs (77 + D.length) (fun _ => 0) (fun _ => 0)) (c.1 + 9, c.2 + 728)) (77 + D.length + 5) (10 : Int32) = some (HH A Z B Q P F q (D ++ HCs (77 + D.length) f10 (fun _ => 0)) (c.1 + 9, c.2 + 728)) := fil_D rfl (by decide)
  have e3 : (gR (HH A Z B Q P F q (D ++ HCs (77 + D.length) f10 (fun _ => 0)) (c.1 + 9, c.2 + 728)) (77 + D.length) 3 15) = some (77 + D.length + 9) := gR_D rfl
  have e4 : f_J7_fill_53178 (HH A Z B Q P F q (D ++ HCs (77 + D.length) f10 (fun _ => 0)) (c.1 + 9, c.2 + 728)) (77 + D.length + 9) (-1 : Int32) = some (HH A Z B Q P F q (D ++ HCs (77 + D.length) f10 fM1) (c.1 + 9, c.2 + 728)) := fil_D rfl (by decide)
  show ((gR (HH A Z B Q P F q (D ++ HCs (77 + D.length) (fun _ => 0) (fun _ => 0)) (c.1 + 9, c.2 + 728)) (77 + D.length) 3 11).bind fun v26 => (f_J7_fill_53178 (HH A Z B Q P F q (D ++ HCs (77 + D.length) (fun _ => 0) (fun _ => 0)) (c.1 + 9, c.2 + 728)) v26 (10 : Int32)).bind fun r27 => (gR r27 (77 + D.length) 3 15).bind fun v28 => (f_J7_fill_53178 r27 v28 (-1 : Int32)).bind fun r29 => some (r29)) = _
  rw [e1, Option.bind_some, e2, Option.bind_some, e3, Option.bind_some, e4, Option.bind_some]
/-- the cells of a reader at a, just made -/
def RCs (a n : Nat) : List xC := .inr (7, [.int 0, .int nM, .ref 1, .int (nI n), .int 0, .int 0, .int 0, .int 0, .ref (a + 1), .ref (a + 11), .int 0]) :: (HCs (a + 1) f10 fM1 ++ [.inl (.int, 5, .inl (fun _ => 0))])
theorem c_init7 (hlen : 77 + D.length < 700000000) (hn : n ≤ 800) : f_X7_init (HH A Z B Q P F q (D ++ [.inr (7, [.int 0, .int 0, .null, .int 0, .int 0, .int 0, .int 0, .int 0, .null, .null, .int 0])]) c) (77 + D.length) 1 (nI n) = some (HH A Z B Q P F q (D ++ RCs (77 + D.length) n) (c.1 + 11, c.2 + 749)) := by
  have hmin : (if nI 800 < nI n then nI 800 else nI n) = nI n := if_neg (by rw [y_lt (by omega) (by omega)]; omega)
  have hl : ∀ x : xC, 77 + (D ++ [x]).length = 77 + D.length + 1 := fun x => by rw [List.length_append]; rfl
  unfold f_X7_init
  rw [pF_D (by decide), Option.bind_some, pF_D (by simp), Option.bind_some, pF_D (by simp), Option.bind_some, pF_D (by simp), Option.bind_some, pF_D (by simp), Option.bind_some, pF_D (by simp), Option.bind_some]
  rw [mkO_D (by simp; omega), Option.bind_some, HH_len]
  rw [c_init3 (by simp; omega), Option.bind_some, List.append_assoc, List.singleton_append, pF_D (by simp), Option.bind_some, show (5 : Int32) = nI 5 from rfl, mkI_E (by simp [HCs]; omega) (by omega), Option.bind_some, pF_D (by simp), Option.bind_some, pF_D (by simp), Option.bind_some, pF_D (by simp), Option.bind_some, al_1, Option.bind_some, hmin, pF_D (by simp), Option.bind_some, len_E]
  rw [hl]
  rfl
theorem brow_z (k : Nat) (h1 : k ≠ 6) (h2 : k < 416 ∨ 432 ≤ k) : nI (brow k) = 0 := by
  unfold brow
  rw [if_neg h1, if_neg (by omega)]
  rfl
/-- the reader, when its first token is read -/
theorem c_ready (hn : n ≤ 800) (hb : ∀ k, k < n → A 1 k = sb (b k) ∧ b k < 256) : ∃ h', f_X7_advance (HH A Z B Q P F q (D ++ RCs (77 + D.length) n) c) (77 + D.length) = some h' ∧ CG A Z B Q P F q D c b n h' (tok b n 0) brow 0 (fun _ => 0) := by
  have hc : ∀ j, HC (D ++ RCs (77 + D.length) n) (77 + D.length + j) = (RCs (77 + D.length) n)[j]? := fun j => HC_new
  have hr : RO (D ++ RCs (77 + D.length) n) (77 + D.length) (fun k => if k = 1 then nM else if k = 3 then nI n else nI 0) := ⟨by omega, hc 0⟩
  obtain ⟨D', f', e, d, r, o, t'⟩ := c_adv (A := A) (Z := Z) (B := B) (Q := Q) (P := P) (F := F) (q := q) (c := c) (p := 0) hn hb hr rfl rfl (Nat.zero_le _)
  have hp : Pre D (D ++ RCs (77 + D.length) n) := by
    refine ⟨by rw [List.length_append]; rfl, fun k hk => ?_⟩
    unfold HC
    split
    · rfl
    · rw [List.getElem?_append_left (by omega)]
  have hH : CH (D ++ RCs (77 + D.length) n) (77 + D.length + 1) brow := by
    refine ⟨hc 1, ⟨fun _ => 0, hc 2, fun k hk => ?_⟩, ⟨fun _ => 0, hc 3, fun k hk => ?_⟩, ⟨fun _ => 0, hc 4, fun k hk => ?_⟩, ⟨fun _ => 0, hc 5, fun k hk => ?_⟩, ⟨f10, hc 6, fun k hk => ?_⟩, ⟨fun _ => 0, hc 7, fun k hk => ?_⟩, ⟨fun _ => 0, hc 8, fun k hk => rfl⟩, ⟨fun _ => 0, hc 9, fun k hk => rfl⟩, ⟨fM1, hc 10, fun k hk => ?_⟩⟩
    · exact (brow_z (8 + k) (by omega) (by omega)).symm
    · exact (brow_z (248 + k) (by omega) (by omega)).symm
    · exact (brow_z (256 + k) (by omega) (by omega)).symm
    · exact (brow_z (376 + k) (by omega) (by omega)).symm
    · show f10 k = nI (brow (416 + k))
      unfold f10 brow
      rw [if_pos hk, if_neg (by omega), if_pos (by omega)]
      rfl
    · exact (brow_z (432 + k) (by omega) (by omega)).symm
    · show fM1 k = nM
      unfold fM1
      rw [if_pos hk]
      rfl
  have hL : TL (D ++ RCs (77 + D.length) n) (77 + D.length + 11) 0 (fun _ => 0) := ⟨Nat.zero_le _, fun _ => 0, hc 11, fun k hk => by omega⟩
  exact ⟨_, e, D', f', rfl, hp.dO (Nat.le_refl _) d, r, by rw [o 0 (by decide)]; rfl, by rw [o 1 (by decide)]; rfl, by rw [o 3 (by decide)]; rfl, t', by rw [o 10 (by decide)]; rfl, ⟨0, Nat.zero_le _, rfl⟩, hH.dO d (by omega), hL.dO d (by omega)⟩
end CNew
