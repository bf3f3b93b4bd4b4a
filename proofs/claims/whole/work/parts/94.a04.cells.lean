/-! ===== cells that calls make; a house among them ===== -/
def ini : List xC := [.inr (3, [.int 0, .int 0, .int 50, .int 0, .int 0, .int 0, .int 0, .ref 3, .ref 4, .ref 5, .ref 6, .ref 7, .ref 8, .ref 9, .ref 10, .ref 11]),
  .inl (.int, 240, .inl (fun _ => 0)), .inl (.int, 8, .inl (fun _ => 0)), .inl (.int, 120, .inl (fun _ => 0)), .inl (.int, 40, .inl (fun _ => 0)), .inl (.int, 16, .inl (fun j => if j < 16 then (10) else 0)), .inl (.int, 16, .inl (fun _ => 0)), .inl (.int, 16, .inl (fun _ => 0)), .inl (.int, 16, .inl (fun _ => 0)), .inl (.int, 256, .inl (fun j => if j < 256 then (-1) else 0))]
def HC (D : List xC) (k : Nat) : Option xC := if k < 77 then (if 2 ≤ k then ini[k - 2]? else none) else D[k - 77]?
theorem HC_get {A : Nat → Nat → Int32} {Z : Nat → Int32} {B : Nat → Nat → Int64} {Q : Nat → Int64} {P : Nat → Option Nat} {F : Nat → Nat → Option Nat} {q : Nat} {D : List xC} {k : Nat} {x : xC} (H : HC D k = some x) : (LL A Z B Q P F q ++ D)[k]? = some x := by
  unfold HC at H
  split at H
  · rename_i h1
    split at H
    · rename_i h2
      have h3 : k - 2 < 10 := by
        have := (List.getElem?_eq_some_iff.mp H).1
        exact this
      rw [← H]
      obtain ⟨j, hj, rfl⟩ : ∃ j, j < 10 ∧ k = j + 2 := ⟨k - 2, h3, by omega⟩
      rw [Nat.add_sub_cancel]
      match j, hj with
      | 0, _ => rfl
      | 1, _ => rfl
      | 2, _ => rfl
      | 3, _ => rfl
      | 4, _ => rfl
      | 5, _ => rfl
      | 6, _ => rfl
      | 7, _ => rfl
      | 8, _ => rfl
      | 9, _ => rfl
      | j + 10, hj => omega
    · cases H
  · rename_i h1
    rw [List.getElem?_append_right (by rw [LL_len]; omega), LL_len]
    exact H
theorem HC_lt {D : List xC} {k : Nat} {x : xC} (H : HC D k = some x) : k < 77 + D.length := by
  unfold HC at H
  split at H
  · omega
  · have := (List.getElem?_eq_some_iff.mp H).1
    omega
theorem HC_app {D E : List xC} {k : Nat} {x : xC} (H : HC D k = some x) : HC (D ++ E) k = some x := by
  have hl := HC_lt H
  unfold HC at H ⊢
  split
  · rename_i h1
    rw [if_pos h1] at H
    exact H
  · rename_i h1
    rw [if_neg h1] at H
    rw [List.getElem?_append_left (by omega)]
    exact H
theorem HC_new {D E : List xC} {j : Nat} : HC (D ++ E) (77 + D.length + j) = E[j]? := by
  unfold HC
  rw [if_neg (by omega), List.getElem?_append_right (by omega)]
  congr 1
  omega
theorem HC_ne {D : List xC} {k j : Nat} {y : xC} (hj : 77 ≤ j) (h : k ≠ j) : HC (D.set (j - 77) y) k = HC D k := by
  unfold HC
  split
  · rfl
  · rw [List.getElem?_set_ne (by omega)]
theorem HC_se {D : List xC} {j : Nat} {x y : xC} (hj : 77 ≤ j) (H : HC D j = some x) : HC (D.set (j - 77) y) j = some y := by
  have hl := HC_lt H
  unfold HC
  rw [if_neg (by omega), List.getElem?_set_self (by omega)]
theorem LL_set {A : Nat → Nat → Int32} {Z : Nat → Int32} {B : Nat → Nat → Int64} {Q : Nat → Int64} {P : Nat → Option Nat} {F : Nat → Nat → Option Nat} {q : Nat} {D : List xC} {k : Nat} {x : xC} (hk : 77 ≤ k) : (LL A Z B Q P F q ++ D).set k x = LL A Z B Q P F q ++ D.set (k - 77) x := by
  rw [List.set_append_right _ _ (by rw [LL_len]; omega), LL_len]
/-- rooms within n steps of a, whatever way panes lead -/
def rch (tt : Nat → Nat) (a : Nat) : Nat → Nat
  | 0 => 2 ^ a
  | n + 1 => rch tt a n ||| orf (fun r => if (rch tt a n).testBit r then nxt tt r ||| ltt tt r else 0) (tt 1)
/-- how many steps from a to b; 16 without a way -/
def dst (tt : Nat → Nat) (a b : Nat) : Nat := fa_first (fun n => (rch tt a n).testBit b) 16
def wv (tt : Nat → Nat) (k : Nat) : Int32 := if k / 16 < tt 1 ∧ dst tt (k / 16) (k % 16) < 16 then nI (dst tt (k / 16) (k % 16)) else nM
def Ar (D : List xC) (a n : Nat) (g : Nat → Int32) : Prop := ∃ f, HC D a = some (.inl (.int, n, .inl f)) ∧ ∀ k, k < n → f k = g k
/-- a house told by tt lies at q; K says whose a cell is, 0: it never changes -/
def Hs (K : Nat → Nat) (D : List xC) (q : Nat) (tt : Nat → Nat) : Prop :=
  (∀ j, j < 10 → K (q + j) = 0) ∧ HC D q = some (.inr (3, [.int (nI (tt 0)), .int (nI (tt 1)), .int (nI (tt 6)), .int (nI (tt 2)), .int (nI (tt 3)), .int (nI (tt 4)), .int (nI (tt 5)), .ref (q + 1), .ref (q + 2), .ref (q + 3), .ref (q + 4), .ref (q + 5), .ref (q + 6), .ref (q + 7), .ref (q + 8), .ref (q + 9)])) ∧
  Ar D (q + 1) 240 (fun k => nI (tt (8 + k))) ∧ Ar D (q + 2) 8 (fun k => nI (tt (248 + k))) ∧ Ar D (q + 3) 120 (fun k => nI (tt (256 + k))) ∧ Ar D (q + 4) 40 (fun k => nI (tt (376 + k))) ∧ Ar D (q + 5) 16 (fun k => nI (tt (416 + k))) ∧ Ar D (q + 6) 16 (fun k => nI (tt (432 + k))) ∧ Ar D (q + 7) 16 (fun k => nI (nxt tt k)) ∧ Ar D (q + 8) 16 (fun k => nI (ltt tt k)) ∧ Ar D (q + 9) 256 (wv tt)
theorem Ar_app {D E : List xC} {a n : Nat} {g : Nat → Int32} (H : Ar D a n g) : Ar (D ++ E) a n g := by
  obtain ⟨f, h1, h2⟩ := H
  exact ⟨f, HC_app h1, h2⟩
theorem Ar_ne {D : List xC} {a n j : Nat} {g : Nat → Int32} {y : xC} (hj : 77 ≤ j) (h : a ≠ j) (H : Ar D a n g) : Ar (D.set (j - 77) y) a n g := by
  obtain ⟨f, h1, h2⟩ := H
  exact ⟨f, by rw [HC_ne hj h]; exact h1, h2⟩
theorem Hs_app {K : Nat → Nat} {D E : List xC} {q : Nat} {tt : Nat → Nat} (H : Hs K D q tt) : Hs K (D ++ E) q tt := by
  obtain ⟨h0, h1, a1, a2, a3, a4, a5, a6, a7, a8, a9⟩ := H
  exact ⟨h0, HC_app h1, Ar_app a1, Ar_app a2, Ar_app a3, Ar_app a4, Ar_app a5, Ar_app a6, Ar_app a7, Ar_app a8, Ar_app a9⟩
theorem Hs_ne {K : Nat → Nat} {D : List xC} {q j : Nat} {tt : Nat → Nat} {y : xC} (hj : 77 ≤ j) (hK : K j ≠ 0) (H : Hs K D q tt) : Hs K (D.set (j - 77) y) q tt := by
  obtain ⟨h0, h1, a1, a2, a3, a4, a5, a6, a7, a8, a9⟩ := H
  have n : ∀ i, i < 10 → q + i ≠ j := fun i hi e => hK (e ▸ h0 i hi)
  exact ⟨h0, by rw [HC_ne hj (show q ≠ j from n 0 (by decide))]; exact h1, Ar_ne hj (n 1 (by decide)) a1, Ar_ne hj (n 2 (by decide)) a2, Ar_ne hj (n 3 (by decide)) a3, Ar_ne hj (n 4 (by decide)) a4, Ar_ne hj (n 5 (by decide)) a5, Ar_ne hj (n 6 (by decide)) a6, Ar_ne hj (n 7 (by decide)) a7, Ar_ne hj (n 8 (by decide)) a8, Ar_ne hj (n 9 (by decide)) a9⟩
theorem Hs_K {K K' : Nat → Nat} {D : List xC} {q : Nat} {tt : Nat → Nat} (hK : ∀ k, k < 77 + D.length → K' k = K k) (H : Hs K D q tt) : Hs K' D q tt := by
  obtain ⟨h0, h1, a1, a2, a3, a4, a5, a6, a7, a8, a9⟩ := H
  have l9 : q + 9 < 77 + D.length := by
    obtain ⟨f, e, _⟩ := a9
    exact HC_lt e
  exact ⟨fun j hj => by rw [hK _ (by omega)]; exact h0 j hj, h1, a1, a2, a3, a4, a5, a6, a7, a8, a9⟩
section HsAcc
variable {A : Nat → Nat → Int32} {Z : Nat → Int32} {B : Nat → Nat → Int64} {Q : Nat → Int64} {P : Nat → Option Nat} {F : Nat → Nat → Option Nat} {q q' : Nat} {D : List xC} {c : Nat × Nat} {K : Nat → Nat} {tt : Nat → Nat}
theorem Ar_ld {a n k : Nat} {g : Nat → Int32} (H : Ar D a n g) (hk : k < n) (hn : n < 2147483648) : ldI (HH A Z B Q P F q' D c) .int a (nI k) = some (g k) := by
  obtain ⟨f, h1, h2⟩ := H
  rw [ldI_nI (h := (HH A Z B Q P F q' D c)) (HC_get h1) hn hk, h2 k hk]
theorem hs_gO (H : Hs K D q tt) : gO (HH A Z B Q P F q' D c) q 3 = some [.int (nI (tt 0)), .int (nI (tt 1)), .int (nI (tt 6)), .int (nI (tt 2)), .int (nI (tt 3)), .int (nI (tt 4)), .int (nI (tt 5)), .ref (q + 1), .ref (q + 2), .ref (q + 3), .ref (q + 4), .ref (q + 5), .ref (q + 6), .ref (q + 7), .ref (q + 8), .ref (q + 9)] := gO_of (h := (HH A Z B Q P F q' D c)) (HC_get H.2.1)
theorem hs_0 (H : Hs K D q tt) : gI (HH A Z B Q P F q' D c) q 3 0 = some (nI (tt 0)) := gI_of (h := (HH A Z B Q P F q' D c)) (HC_get H.2.1) rfl
theorem hs_1 (H : Hs K D q tt) : gI (HH A Z B Q P F q' D c) q 3 1 = some (nI (tt 1)) := gI_of (h := (HH A Z B Q P F q' D c)) (HC_get H.2.1) rfl
theorem hs_2 (H : Hs K D q tt) : gI (HH A Z B Q P F q' D c) q 3 2 = some (nI (tt 6)) := gI_of (h := (HH A Z B Q P F q' D c)) (HC_get H.2.1) rfl
theorem hs_3 (H : Hs K D q tt) : gI (HH A Z B Q P F q' D c) q 3 3 = some (nI (tt 2)) := gI_of (h := (HH A Z B Q P F q' D c)) (HC_get H.2.1) rfl
theorem hs_4 (H : Hs K D q tt) : gI (HH A Z B Q P F q' D c) q 3 4 = some (nI (tt 3)) := gI_of (h := (HH A Z B Q P F q' D c)) (HC_get H.2.1) rfl
theorem hs_5 (H : Hs K D q tt) : gI (HH A Z B Q P F q' D c) q 3 5 = some (nI (tt 4)) := gI_of (h := (HH A Z B Q P F q' D c)) (HC_get H.2.1) rfl
theorem hs_6 (H : Hs K D q tt) : gI (HH A Z B Q P F q' D c) q 3 6 = some (nI (tt 5)) := gI_of (h := (HH A Z B Q P F q' D c)) (HC_get H.2.1) rfl
theorem hs_7 (H : Hs K D q tt) : gR (HH A Z B Q P F q' D c) q 3 7 = some (q + 1) := gR_of (h := (HH A Z B Q P F q' D c)) (HC_get H.2.1) rfl
theorem hs_8 (H : Hs K D q tt) : gR (HH A Z B Q P F q' D c) q 3 8 = some (q + 2) := gR_of (h := (HH A Z B Q P F q' D c)) (HC_get H.2.1) rfl
theorem hs_9 (H : Hs K D q tt) : gR (HH A Z B Q P F q' D c) q 3 9 = some (q + 3) := gR_of (h := (HH A Z B Q P F q' D c)) (HC_get H.2.1) rfl
theorem hs_10 (H : Hs K D q tt) : gR (HH A Z B Q P F q' D c) q 3 10 = some (q + 4) := gR_of (h := (HH A Z B Q P F q' D c)) (HC_get H.2.1) rfl
theorem hs_11 (H : Hs K D q tt) : gR (HH A Z B Q P F q' D c) q 3 11 = some (q + 5) := gR_of (h := (HH A Z B Q P F q' D c)) (HC_get H.2.1) rfl
theorem hs_12 (H : Hs K D q tt) : gR (HH A Z B Q P F q' D c) q 3 12 = some (q + 6) := gR_of (h := (HH A Z B Q P F q' D c)) (HC_get H.2.1) rfl
theorem hs_13 (H : Hs K D q tt) : gR (HH A Z B Q P F q' D c) q 3 13 = some (q + 7) := gR_of (h := (HH A Z B Q P F q' D c)) (HC_get H.2.1) rfl
theorem hs_14 (H : Hs K D q tt) : gR (HH A Z B Q P F q' D c) q 3 14 = some (q + 8) := gR_of (h := (HH A Z B Q P F q' D c)) (HC_get H.2.1) rfl
theorem hs_15 (H : Hs K D q tt) : gR (HH A Z B Q P F q' D c) q 3 15 = some (q + 9) := gR_of (h := (HH A Z B Q P F q' D c)) (HC_get H.2.1) rfl
theorem hs_p0 (H : Hs K D q tt) {i : Nat} (hi : i < 60) : ldI (HH A Z B Q P F q' D c) .int (q + 1) (nI (i * 4)) = some (nI (tt (8 + 4 * i))) := by
  rw [Ar_ld H.2.2.1 (by omega) (by decide)]
  exact congrArg (fun k => some (nI (tt k))) (by omega)
theorem hs_p1 (H : Hs K D q tt) {i : Nat} (hi : i < 60) : ldI (HH A Z B Q P F q' D c) .int (q + 1) (nI (i * 4 + 1)) = some (nI (tt (8 + 4 * i + 1))) := by
  rw [Ar_ld H.2.2.1 (by omega) (by decide)]
  exact congrArg (fun k => some (nI (tt k))) (by omega)
theorem hs_p2 (H : Hs K D q tt) {i : Nat} (hi : i < 60) : ldI (HH A Z B Q P F q' D c) .int (q + 1) (nI (i * 4 + 2)) = some (nI (tt (8 + 4 * i + 2))) := by
  rw [Ar_ld H.2.2.1 (by omega) (by decide)]
  exact congrArg (fun k => some (nI (tt k))) (by omega)
theorem hs_p3 (H : Hs K D q tt) {i : Nat} (hi : i < 60) : ldI (HH A Z B Q P F q' D c) .int (q + 1) (nI (i * 4 + 3)) = some (nI (tt (8 + 4 * i + 3))) := by
  rw [Ar_ld H.2.2.1 (by omega) (by decide)]
  exact congrArg (fun k => some (nI (tt k))) (by omega)
theorem hs_k0 (H : Hs K D q tt) {i : Nat} (hi : i < 4) : ldI (HH A Z B Q P F q' D c) .int (q + 2) (nI (i * 2)) = some (nI (tt (248 + 2 * i))) := by
  rw [Ar_ld H.2.2.2.1 (by omega) (by decide)]
  exact congrArg (fun k => some (nI (tt k))) (by omega)
theorem hs_k1 (H : Hs K D q tt) {i : Nat} (hi : i < 4) : ldI (HH A Z B Q P F q' D c) .int (q + 2) (nI (i * 2 + 1)) = some (nI (tt (248 + 2 * i + 1))) := by
  rw [Ar_ld H.2.2.2.1 (by omega) (by decide)]
  exact congrArg (fun k => some (nI (tt k))) (by omega)
theorem hs_w0 (H : Hs K D q tt) {i : Nat} (hi : i < 24) : ldI (HH A Z B Q P F q' D c) .int (q + 3) (nI (i * 5)) = some (nI (tt (256 + 5 * i))) := by
  rw [Ar_ld H.2.2.2.2.1 (by omega) (by decide)]
  exact congrArg (fun k => some (nI (tt k))) (by omega)
theorem hs_w1 (H : Hs K D q tt) {i : Nat} (hi : i < 24) : ldI (HH A Z B Q P F q' D c) .int (q + 3) (nI (i * 5 + 1)) = some (nI (tt (256 + 5 * i + 1))) := by
  rw [Ar_ld H.2.2.2.2.1 (by omega) (by decide)]
  exact congrArg (fun k => some (nI (tt k))) (by omega)
theorem hs_w2 (H : Hs K D q tt) {i : Nat} (hi : i < 24) : ldI (HH A Z B Q P F q' D c) .int (q + 3) (nI (i * 5 + 2)) = some (nI (tt (256 + 5 * i + 2))) := by
  rw [Ar_ld H.2.2.2.2.1 (by omega) (by decide)]
  exact congrArg (fun k => some (nI (tt k))) (by omega)
theorem hs_w3 (H : Hs K D q tt) {i : Nat} (hi : i < 24) : ldI (HH A Z B Q P F q' D c) .int (q + 3) (nI (i * 5 + 3)) = some (nI (tt (256 + 5 * i + 3))) := by
  rw [Ar_ld H.2.2.2.2.1 (by omega) (by decide)]
  exact congrArg (fun k => some (nI (tt k))) (by omega)
theorem hs_w4 (H : Hs K D q tt) {i : Nat} (hi : i < 24) : ldI (HH A Z B Q P F q' D c) .int (q + 3) (nI (i * 5 + 4)) = some (nI (tt (256 + 5 * i + 4))) := by
  rw [Ar_ld H.2.2.2.2.1 (by omega) (by decide)]
  exact congrArg (fun k => some (nI (tt k))) (by omega)
theorem hs_h0 (H : Hs K D q tt) {i : Nat} (hi : i < 8) : ldI (HH A Z B Q P F q' D c) .int (q + 4) (nI (i * 5)) = some (nI (tt (376 + 5 * i))) := by
  rw [Ar_ld H.2.2.2.2.2.1 (by omega) (by decide)]
  exact congrArg (fun k => some (nI (tt k))) (by omega)
theorem hs_h1 (H : Hs K D q tt) {i : Nat} (hi : i < 8) : ldI (HH A Z B Q P F q' D c) .int (q + 4) (nI (i * 5 + 1)) = some (nI (tt (376 + 5 * i + 1))) := by
  rw [Ar_ld H.2.2.2.2.2.1 (by omega) (by decide)]
  exact congrArg (fun k => some (nI (tt k))) (by omega)
theorem hs_h2 (H : Hs K D q tt) {i : Nat} (hi : i < 8) : ldI (HH A Z B Q P F q' D c) .int (q + 4) (nI (i * 5 + 2)) = some (nI (tt (376 + 5 * i + 2))) := by
  rw [Ar_ld H.2.2.2.2.2.1 (by omega) (by decide)]
  exact congrArg (fun k => some (nI (tt k))) (by omega)
theorem hs_h3 (H : Hs K D q tt) {i : Nat} (hi : i < 8) : ldI (HH A Z B Q P F q' D c) .int (q + 4) (nI (i * 5 + 3)) = some (nI (tt (376 + 5 * i + 3))) := by
  rw [Ar_ld H.2.2.2.2.2.1 (by omega) (by decide)]
  exact congrArg (fun k => some (nI (tt k))) (by omega)
theorem hs_h4 (H : Hs K D q tt) {i : Nat} (hi : i < 8) : ldI (HH A Z B Q P F q' D c) .int (q + 4) (nI (i * 5 + 4)) = some (nI (tt (376 + 5 * i + 4))) := by
  rw [Ar_ld H.2.2.2.2.2.1 (by omega) (by decide)]
  exact congrArg (fun k => some (nI (tt k))) (by omega)
theorem hs_bu (H : Hs K D q tt) {i : Nat} (hi : i < 16) : ldI (HH A Z B Q P F q' D c) .int (q + 5) (nI i) = some (nI (tt (416 + i))) := Ar_ld H.2.2.2.2.2.2.1 hi (by decide)
theorem hs_ha (H : Hs K D q tt) {i : Nat} (hi : i < 16) : ldI (HH A Z B Q P F q' D c) .int (q + 6) (nI i) = some (nI (tt (432 + i))) := Ar_ld H.2.2.2.2.2.2.2.1 hi (by decide)
theorem hs_ne (H : Hs K D q tt) {i : Nat} (hi : i < 16) : ldI (HH A Z B Q P F q' D c) .int (q + 7) (nI i) = some (nI (nxt tt i)) := Ar_ld H.2.2.2.2.2.2.2.2.1 hi (by decide)
theorem hs_li (H : Hs K D q tt) {i : Nat} (hi : i < 16) : ldI (HH A Z B Q P F q' D c) .int (q + 8) (nI i) = some (nI (ltt tt i)) := Ar_ld H.2.2.2.2.2.2.2.2.2.1 hi (by decide)
theorem hs_wa (H : Hs K D q tt) {i : Nat} (hi : i < 256) : ldI (HH A Z B Q P F q' D c) .int (q + 9) (nI i) = some (wv tt i) := Ar_ld H.2.2.2.2.2.2.2.2.2.2 hi (by decide)
end HsAcc
