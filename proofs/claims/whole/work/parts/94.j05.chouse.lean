/-! ===== house: the class's house while it is told ===== -/
/-- where a house's field lies in a row -/
def fr (j : Nat) : Nat := if j = 2 then 6 else if 3 ≤ j then j - 1 else j
section CHou
variable {A : Nat → Nat → Int32} {Z : Nat → Int32} {B : Nat → Nat → Int64} {Q : Nat → Int64} {P : Nat → Option Nat} {F : Nat → Nat → Option Nat} {q : Nat} {D0 : List xC} {c : Nat × Nat} {b : Nat → Nat} {n : Nat} {h : xH} {t : TK} {row tf : Nat → Nat} {tl : Nat}
theorem CG.g8 (H : CG A Z B Q P F q D0 c b n h t row tl tf) : gR h (77 + D0.length) 7 8 = some (77 + D0.length + 1) ∧ gR h (77 + D0.length) 7 9 = some (77 + D0.length + 11) := by
  obtain ⟨D, f, rfl, hp, hr, _⟩ := H
  exact ⟨ro_8 hr, ro_9 hr⟩
theorem CG.gh (H : CG A Z B Q P F q D0 c b n h t row tl tf) {j : Nat} (hj : j < 7) : gI h (77 + D0.length + 1) 3 j = some (nI (row (fr j))) := by
  obtain ⟨D, f, rfl, hp, hr, f0, f1, f3, ft, f10, hT, ⟨h1, _⟩, hL⟩ := H
  have : j = 0 ∨ j = 1 ∨ j = 2 ∨ j = 3 ∨ j = 4 ∨ j = 5 ∨ j = 6 := by omega
  rcases this with rfl | rfl | rfl | rfl | rfl | rfl | rfl <;> exact gI_of (h := HH A Z B Q P F q D c) (HC_get h1) rfl
theorem CG.rh (H : CG A Z B Q P F q D0 c b n h t row tl tf) {j : Nat} (h7 : 7 ≤ j) (hj : j < 16) : gR h (77 + D0.length + 1) 3 j = some (77 + D0.length + 1 + (j - 6)) := by
  obtain ⟨D, f, rfl, hp, hr, f0, f1, f3, ft, f10, hT, ⟨h1, _⟩, hL⟩ := H
  have : j = 7 ∨ j = 8 ∨ j = 9 ∨ j = 10 ∨ j = 11 ∨ j = 12 ∨ j = 13 ∨ j = 14 ∨ j = 15 := by omega
  rcases this with rfl | rfl | rfl | rfl | rfl | rfl | rfl | rfl | rfl <;> exact gR_of (h := HH A Z B Q P F q D c) (HC_get h1) rfl
theorem CG.told (H : CG A Z B Q P F q D0 c b n h t row tl tf) {k : Nat} (hk : k < tl) : ldI h .int (77 + D0.length + 11) (nI k) = some (nI (tf k)) := by
  obtain ⟨D, f, rfl, hp, hr, f0, f1, f3, ft, f10, hT, hH, hL0, g, hg, hg2⟩ := H
  rw [ldI_nI (h := HH A Z B Q P F q D c) (HC_get hg) (by decide) (by omega), hg2 k hk]
theorem CG.ph (H : CG A Z B Q P F q D0 c b n h t row tl tf) {j v : Nat} (hj : j < 7) : ∃ h', pF h (77 + D0.length + 1) 3 j (.int (nI v)) = some h' ∧ CG A Z B Q P F q D0 c b n h' t (va_up row (fr j) v) tl tf := by
  obtain ⟨D, f, rfl, hp, hr, f0, f1, f3, ft, f10, hT, ⟨h1, a1, a2, a3, a4, a5, a6, a7, a8, a9⟩, hL⟩ := H
  have hset : ∀ y, DO (77 + D0.length + 1) D (D.set (77 + D0.length + 1 - 77) y) := fun y => ⟨List.length_set, fun j hj => HC_ne (by omega) hj⟩
  have hk : fr j < 7 := by unfold fr; split; omega; split <;> omega
  have ev : ∀ k, 8 ≤ k → va_up row (fr j) v k = row k := fun k hk2 => y_vn (by omega)
  have ar : ∀ {y i n o : Nat} {x : xC}, i ≠ 77 + D0.length + 1 → 8 ≤ o → Ar D i n (fun k => nI (row (o + k))) → Ar (D.set (77 + D0.length + 1 - 77) x) i n (fun k => nI (va_up row (fr j) v (o + k))) := by
    intro y i n o x hi ho h
    obtain ⟨g, g1, g2⟩ := h
    exact ⟨g, by rw [HC_ne (by omega) hi]; exact g1, fun k hk => by show g k = nI (va_up row (fr j) v (o + k)); rw [ev _ (by omega)]; exact g2 k hk⟩
  have fin : ∀ y, pF (HH A Z B Q P F q D c) (77 + D0.length + 1) 3 j (.int (nI v)) = some (HH A Z B Q P F q (D.set (77 + D0.length + 1 - 77) y) c) → HC (D.set (77 + D0.length + 1 - 77) y) (77 + D0.length + 1) = some (.inr (3, [.int (nI (va_up row (fr j) v 0)), .int (nI (va_up row (fr j) v 1)), .int (nI (va_up row (fr j) v 6)), .int (nI (va_up row (fr j) v 2)), .int (nI (va_up row (fr j) v 3)), .int (nI (va_up row (fr j) v 4)), .int (nI (va_up row (fr j) v 5)), .ref (77 + D0.length + 1 + 1), .ref (77 + D0.length + 1 + 2), .ref (77 + D0.length + 1 + 3), .ref (77 + D0.length + 1 + 4), .ref (77 + D0.length + 1 + 5), .ref (77 + D0.length + 1 + 6), .ref (77 + D0.length + 1 + 7), .ref (77 + D0.length + 1 + 8), .ref (77 + D0.length + 1 + 9)])) → ∃ h', pF (HH A Z B Q P F q D c) (77 + D0.length + 1) 3 j (.int (nI v)) = some h' ∧ CG A Z B Q P F q D0 c b n h' t (va_up row (fr j) v) tl tf := by
    intro y e hc
    refine ⟨_, e, _, f, rfl, hp.dO (by omega) (hset y), ⟨hr.1, by rw [(hset y).2 _ (by omega)]; exact hr.2⟩, f0, f1, f3, ft, f10, hT, ⟨hc, ar (y := 0) (by omega) (by decide) a1, ar (y := 0) (by omega) (by decide) a2, ar (y := 0) (by omega) (by decide) a3, ar (y := 0) (by omega) (by decide) a4, ar (y := 0) (by omega) (by decide) a5, ar (y := 0) (by omega) (by decide) a6, Ar_dO (hset y) (by omega) a7, Ar_dO (hset y) (by omega) a8, Ar_dO (hset y) (by omega) a9⟩, hL.dO (hset y) (by omega)⟩
  have : j = 0 ∨ j = 1 ∨ j = 2 ∨ j = 3 ∨ j = 4 ∨ j = 5 ∨ j = 6 := by omega
  rcases this with rfl | rfl | rfl | rfl | rfl | rfl | rfl
  all_goals
    refine fin _ ?_ (HC_se (by omega) h1)
    rw [pF_of (h := HH A Z B Q P F q D c) (HC_get h1) (by simp), LL_set (by omega)]
    rfl
end CHou
