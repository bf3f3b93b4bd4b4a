/-! ===== house: rows of the class's house ===== -/
def ab (i : Nat) : Nat := if i = 1 then 8 else if i = 2 then 248 else if i = 3 then 256 else if i = 4 then 376 else if i = 5 then 416 else 432
def al (i : Nat) : Nat := if i = 1 then 240 else if i = 2 then 8 else if i = 3 then 120 else if i = 4 then 40 else 16
theorem CH.ar {D : List xC} {q i : Nat} {row : Nat → Nat} (H : CH D q row) (h1 : 1 ≤ i) (hi : i ≤ 6) : Ar D (q + i) (al i) (fun k => nI (row (ab i + k))) := by
  obtain ⟨_, a1, a2, a3, a4, a5, a6, _⟩ := H
  have : i = 1 ∨ i = 2 ∨ i = 3 ∨ i = 4 ∨ i = 5 ∨ i = 6 := by omega
  rcases this with rfl | rfl | rfl | rfl | rfl | rfl
  · exact a1
  · exact a2
  · exact a3
  · exact a4
  · exact a5
  · exact a6
theorem CH.up {D : List xC} {q i : Nat} {row row' : Nat → Nat} {g : Nat → Int32} (hq : 77 ≤ q) (H : CH D q row) (h1 : 1 ≤ i) (hi : i ≤ 6) (hg : ∀ k, k < al i → g k = nI (row' (ab i + k))) (hr : ∀ k, (k < ab i ∨ ab i + al i ≤ k) → row' k = row k) : CH (D.set (q + i - 77) (.inl (.int, al i, .inl g))) q row' := by
  obtain ⟨f0, hc, _⟩ := H.ar h1 hi
  have hn : HC (D.set (q + i - 77) (.inl (.int, al i, .inl g))) (q + i) = some (.inl (.int, al i, .inl g)) := HC_se (by omega) hc
  have ne : ∀ j, j ≠ q + i → HC (D.set (q + i - 77) (.inl (.int, al i, .inl g))) j = HC D j := fun j hj => HC_ne (by omega) hj
  have ar : ∀ j o n, j ≠ i → (∀ k, o ≤ k → k < o + n → (k < ab i ∨ ab i + al i ≤ k)) → Ar D (q + j) n (fun k => nI (row (o + k))) → Ar (D.set (q + i - 77) (.inl (.int, al i, .inl g))) (q + j) n (fun k => nI (row' (o + k))) := by
    intro j o n hj ho h
    obtain ⟨g1, g2, g3⟩ := h
    exact ⟨g1, by rw [ne _ (by omega)]; exact g2, fun k hk => by show g1 k = nI (row' (o + k)); rw [hr _ (ho _ (by omega) (by omega))]; exact g3 k hk⟩
  have ar0 : ∀ j n g0, j ≠ i → Ar D (q + j) n g0 → Ar (D.set (q + i - 77) (.inl (.int, al i, .inl g))) (q + j) n g0 := by
    intro j n g0 hj h
    obtain ⟨g1, g2, g3⟩ := h
    exact ⟨g1, by rw [ne _ (by omega)]; exact g2, g3⟩
  have hlow : ∀ k, k < 8 → row' k = row k := fun k hk => hr k (Or.inl (by unfold ab; split; omega; split; omega; split; omega; split; omega; split <;> omega))
  obtain ⟨c1, a1, a2, a3, a4, a5, a6, a7, a8, a9⟩ := H
  refine ⟨by rw [ne q (by omega), hlow 0 (by decide), hlow 1 (by decide), hlow 2 (by decide), hlow 3 (by decide), hlow 4 (by decide), hlow 5 (by decide), hlow 6 (by decide)]; exact c1, ?_⟩
  have : i = 1 ∨ i = 2 ∨ i = 3 ∨ i = 4 ∨ i = 5 ∨ i = 6 := by omega
  rcases this with rfl | rfl | rfl | rfl | rfl | rfl
  · exact ⟨⟨g, hn, hg⟩, ar 2 248 8 (by decide) (fun k k1 k2 => by show k < 8 ∨ 8 + 240 ≤ k; omega) a2, ar 3 256 120 (by decide) (fun k k1 k2 => by show k < 8 ∨ 8 + 240 ≤ k; omega) a3, ar 4 376 40 (by decide) (fun k k1 k2 => by show k < 8 ∨ 8 + 240 ≤ k; omega) a4, ar 5 416 16 (by decide) (fun k k1 k2 => by show k < 8 ∨ 8 + 240 ≤ k; omega) a5, ar 6 432 16 (by decide) (fun k k1 k2 => by show k < 8 ∨ 8 + 240 ≤ k; omega) a6, ar0 7 _ _ (by decide) a7, ar0 8 _ _ (by decide) a8, ar0 9 _ _ (by decide) a9⟩
  · exact ⟨ar 1 8 240 (by decide) (fun k k1 k2 => by show k < 248 ∨ 248 + 8 ≤ k; omega) a1, ⟨g, hn, hg⟩, ar 3 256 120 (by decide) (fun k k1 k2 => by show k < 248 ∨ 248 + 8 ≤ k; omega) a3, ar 4 376 40 (by decide) (fun k k1 k2 => by show k < 248 ∨ 248 + 8 ≤ k; omega) a4, ar 5 416 16 (by decide) (fun k k1 k2 => by show k < 248 ∨ 248 + 8 ≤ k; omega) a5, ar 6 432 16 (by decide) (fun k k1 k2 => by show k < 248 ∨ 248 + 8 ≤ k; omega) a6, ar0 7 _ _ (by decide) a7, ar0 8 _ _ (by decide) a8, ar0 9 _ _ (by decide) a9⟩
  · exact ⟨ar 1 8 240 (by decide) (fun k k1 k2 => by show k < 256 ∨ 256 + 120 ≤ k; omega) a1, ar 2 248 8 (by decide) (fun k k1 k2 => by show k < 256 ∨ 256 + 120 ≤ k; omega) a2, ⟨g, hn, hg⟩, ar 4 376 40 (by decide) (fun k k1 k2 => by show k < 256 ∨ 256 + 120 ≤ k; omega) a4, ar 5 416 16 (by decide) (fun k k1 k2 => by show k < 256 ∨ 256 + 120 ≤ k; omega) a5, ar 6 432 16 (by decide) (fun k k1 k2 => by show k < 256 ∨ 256 + 120 ≤ k; omega) a6, ar0 7 _ _ (by decide) a7, ar0 8 _ _ (by decide) a8, ar0 9 _ _ (by decide) a9⟩
  · exact ⟨ar 1 8 240 (by decide) (fun k k1 k2 => by show k < 376 ∨ 376 + 40 ≤ k; omega) a1, ar 2 248 8 (by decide) (fun k k1 k2 => by show k < 376 ∨ 376 + 40 ≤ k; omega) a2, ar 3 256 120 (by decide) (fun k k1 k2 => by show k < 376 ∨ 376 + 40 ≤ k; omega) a3, ⟨g, hn, hg⟩, ar 5 416 16 (by decide) (fun k k1 k2 => by show k < 376 ∨ 376 + 40 ≤ k; omega) a5, ar 6 432 16 (by decide) (fun k k1 k2 => by show k < 376 ∨ 376 + 40 ≤ k; omega) a6, ar0 7 _ _ (by decide) a7, ar0 8 _ _ (by decide) a8, ar0 9 _ _ (by decide) a9⟩
  · exact ⟨ar 1 8 240 (by decide) (fun k k1 k2 => by show k < 416 ∨ 416 + 16 ≤ k; omega) a1, ar 2 248 8 (by decide) (fun k k1 k2 => by show k < 416 ∨ 416 + 16 ≤ k; omega) a2, ar 3 256 120 (by decide) (fun k k1 k2 => by show k < 416 ∨ 416 + 16 ≤ k; omega) a3, ar 4 376 40 (by decide) (fun k k1 k2 => by show k < 416 ∨ 416 + 16 ≤ k; omega) a4, ⟨g, hn, hg⟩, ar 6 432 16 (by decide) (fun k k1 k2 => by show k < 416 ∨ 416 + 16 ≤ k; omega) a6, ar0 7 _ _ (by decide) a7, ar0 8 _ _ (by decide) a8, ar0 9 _ _ (by decide) a9⟩
  · exact ⟨ar 1 8 240 (by decide) (fun k k1 k2 => by show k < 432 ∨ 432 + 16 ≤ k; omega) a1, ar 2 248 8 (by decide) (fun k k1 k2 => by show k < 432 ∨ 432 + 16 ≤ k; omega) a2, ar 3 256 120 (by decide) (fun k k1 k2 => by show k < 432 ∨ 432 + 16 ≤ k; omega) a3, ar 4 376 40 (by decide) (fun k k1 k2 => by show k < 432 ∨ 432 + 16 ≤ k; omega) a4, ar 5 416 16 (by decide) (fun k k1 k2 => by show k < 432 ∨ 432 + 16 ≤ k; omega) a5, ⟨g, hn, hg⟩, ar0 7 _ _ (by decide) a7, ar0 8 _ _ (by decide) a8, ar0 9 _ _ (by decide) a9⟩
section CKeep
variable {A : Nat → Nat → Int32} {Z : Nat → Int32} {B : Nat → Nat → Int64} {Q : Nat → Int64} {P : Nat → Option Nat} {F : Nat → Nat → Option Nat} {q : Nat} {D0 : List xC} {c : Nat × Nat} {b : Nat → Nat} {n : Nat} {h : xH} {t : TK} {row tf : Nat → Nat} {tl : Nat}
theorem CG.la (H : CG A Z B Q P F q D0 c b n h t row tl tf) {i k : Nat} (h1 : 1 ≤ i) (hi : i ≤ 6) (hk : k < al i) : ldI h .int (77 + D0.length + 1 + i) (nI k) = some (nI (row (ab i + k))) := by
  obtain ⟨D, f, rfl, hp, hr, f0, f1, f3, ft, f10, hT, hH, hL⟩ := H
  obtain ⟨g, g1, g2⟩ := hH.ar h1 hi
  rw [ldI_nI (h := HH A Z B Q P F q D c) (HC_get g1) (by unfold al; split; omega; split; omega; split; omega; split <;> omega) hk, g2 k hk]
theorem CG.sa (H : CG A Z B Q P F q D0 c b n h t row tl tf) {i k v : Nat} (h1 : 1 ≤ i) (hi : i ≤ 6) (hk : k < al i) : ∃ h', stI h .int (77 + D0.length + 1 + i) (nI k) (nI v) = some h' ∧ CG A Z B Q P F q D0 c b n h' t (va_up row (ab i + k) v) tl tf := by
  obtain ⟨D, f, rfl, hp, hr, f0, f1, f3, ft, f10, hT, hH, hL⟩ := H
  obtain ⟨g, g1, g2⟩ := hH.ar h1 hi
  have d1 : DO (77 + D0.length + 1 + i) D (D.set (77 + D0.length + 1 + i - 77) (.inl (.int, al i, .inl (va_up g k (nI v))))) := ⟨List.length_set, fun j hj => HC_ne (by omega) hj⟩
  refine ⟨_, by rw [stI_nI (h := HH A Z B Q P F q D c) (HC_get g1) (by unfold al; split; omega; split; omega; split; omega; split <;> omega) hk, LL_set (by omega)], _, f, rfl, hp.dO (by omega) d1, ⟨hr.1, by rw [d1.2 _ (by omega)]; exact hr.2⟩, f0, f1, f3, ft, f10, hT, hH.up (by omega) h1 hi (fun j hj => ?_) (fun j hj => y_vn (by omega)), hL.dO d1 (by omega)⟩
  by_cases e : j = k
  · rw [e, y_vs, y_vs]
  · rw [y_vn e, y_vn (by omega)]; exact g2 j hj
/-- the first m told, put into a row at k -/
def upN (row : Nat → Nat) (k m : Nat) (tf : Nat → Nat) : Nat → Nat := fun j => if k ≤ j ∧ j < k + m then tf (j - k) else row j
theorem CG.kp (H : CG A Z B Q P F q D0 c b n h t row tl tf) {i k m : Nat} (h1 : 1 ≤ i) (hi : i ≤ 6) (hk : k + m ≤ al i) (hm : m ≤ tl) : ∃ h', f_X7_keep h (77 + D0.length) (77 + D0.length + 1 + i) (nI k) (nI m) = some h' ∧ CG A Z B Q P F q D0 c b n h' t (upN row (ab i + k) m tf) tl tf := by
  obtain ⟨D, f, rfl, hp, hr, f0, f1, f3, ft, f10, hT, hH, hL⟩ := H
  obtain ⟨g, g1, g2⟩ := hH.ar h1 hi
  obtain ⟨hl0, u, u1, u2⟩ := hL
  have hal : al i ≤ 240 := by unfold al; split; omega; split; omega; split; omega; split <;> omega
  have d1 : DO (77 + D0.length + 1 + i) D (D.set (77 + D0.length + 1 + i - 77) (.inl (.int, al i, .inl (va_cpy u g 0 k m)))) := ⟨List.length_set, fun j hj => HC_ne (by omega) hj⟩
  have hL : TL D (77 + D0.length + 11) tl tf := ⟨hl0, u, u1, u2⟩
  refine ⟨HH A Z B Q P F q (D.set (77 + D0.length + 1 + i - 77) (.inl (.int, al i, .inl (va_cpy u g 0 k m)))) c, ?_, _, f, rfl, hp.dO (by omega) d1, ⟨hr.1, by rw [d1.2 _ (by omega)]; exact hr.2⟩, f0, f1, f3, ft, f10, hT, hH.up (by omega) h1 hi (fun j hj => ?_) (fun j hj => ?_), hL.dO d1 (by omega)⟩
  · unfold f_X7_keep
    rw [ro_9 hr, Option.bind_some, show (0 : Int32) = nI 0 from rfl, cpI_of (h := HH A Z B Q P F q D c) (HC_get u1) (HC_get g1) (by omega) (by omega) (by omega) (by omega) (by omega), Option.bind_some, LL_set (by omega)]
  · unfold va_cpy upN
    by_cases e : k ≤ j ∧ j < k + m
    · rw [if_pos (by omega), if_pos (by omega), show ab i + j - (ab i + k) = j - k by omega, ← u2 (j - k) (by omega)]
      congr 1
      omega
    · rw [if_neg (by omega), if_neg (by omega)]
      exact g2 j hj
  · unfold upN
    rw [if_neg (by omega)]
end CKeep
