/-! ===== house: what lines keep ===== -/
section PPure
variable {b : Nat → Nat} {n : Nat} {t : TK} {row : Nat → Nat}
def NT (b : Nat → Nat) (n : Nat) (t t' : TK) : Prop := IsT b n t' ∧ t.2.1 ≤ t'.2.1
theorem NT.tr {t2 t3 : TK} (h1 : NT b n t t2) (h2 : NT b n t2 t3) : NT b n t t3 := ⟨h2.1, Nat.le_trans h1.2 h2.2⟩
theorem NT.rf (h : IsT b n t) : NT b n t t := ⟨h, Nat.le_refl _⟩
theorem adv_t (hn : n ≤ 800) (h : IsT b n t) : NT b n t (adv b n t) ∧ (t.1 ≠ 0 → t.2.1 < (adv b n t).2.1) := by
  obtain ⟨h1, h2, h3, h4, h5⟩ := h.sp hn
  have h6 := (tok_spec (b := b) (p := t.2.2.1) h2 hn).1
  refine ⟨⟨h.adv hn, Nat.le_trans h1 h6⟩, fun h0 => Nat.lt_of_lt_of_le (h4 h0) h6⟩
theorem pNum_t (hn : n ≤ 800) (h : IsT b n t) {lo hi x : Nat} {y : Nat × TK} (hp : pNum b n lo hi x t = .inr y) : NT b n t y.2 := by
  unfold pNum at hp
  split at hp
  · split at hp
    · cases hp; exact (adv_t hn h).1
    · cases hp
  · cases hp
theorem pPass_t (hn : n ≤ 800) (h : IsT b n t) {i : Nat} {y : TK} (hp : pPass b n i t = .inr y) : NT b n t y := by
  unfold pPass at hp
  split at hp
  · cases hp; exact (adv_t hn h).1
  · cases hp
theorem pb_inr {α β : Type} {r : Fl ⊕ α} {k : α → Fl ⊕ β} {y : β} (h : pb r k = .inr y) : ∃ x, r = .inr x ∧ k x = .inr y := by
  cases r with
  | inl f => cases h
  | inr x => exact ⟨x, rfl, h⟩
theorem pTold_t (hn : n ≤ 800) (h : IsT b n t) {i lo hi : Nat} {y : Nat × TK} (hp : pTold b n i lo hi t = .inr y) : NT b n t y.2 := by
  obtain ⟨t2, h1, h2⟩ := pb_inr hp
  have a1 := pPass_t hn h h1
  exact a1.tr (pNum_t hn a1.1 h2)
theorem pSides_t (hn : n ≤ 800) (h : IsT b n t) {m : Nat} {y : Nat × Nat × Nat × TK} (hm : 0 < m) (hp : pSides b n m t = .inr y) : NT b n t y.2.2.2 ∧ y.1 < m ∧ y.2.1 < m ∧ y.1 ≠ y.2.1 ∧ 1 ≤ y.2.2.1 ∧ y.2.2.1 ≤ 100 := by
  obtain ⟨x, h1, hp⟩ := pb_inr hp
  obtain ⟨t2, h2, hp⟩ := pb_inr hp
  obtain ⟨z, h3, hp⟩ := pb_inr hp
  obtain ⟨l, h4, hp⟩ := pb_inr hp
  cases hp
  have a1 := pNum_t hn h h1
  have a2 := pPass_t hn a1.1 h2
  have a3 := pNum_t hn a2.1 h3
  have a4 := pTold_t hn a3.1 h4
  have b1 := pNum_le h1
  have b3 := pNum_le h3
  have b4 := pTold_le h4
  refine ⟨((a1.tr a2).tr a3).tr a4, ?_, ?_, ?_, ?_, ?_⟩ <;> dsimp only <;> omega
theorem pBoth_t (hn : n ≤ 800) (h : IsT b n t) : NT b n t (pBoth b n t).2 ∧ (pBoth b n t).1 ≤ 1 := by
  unfold pBoth
  split
  · exact ⟨(adv_t hn h).1, by show 1 ≤ 1; decide⟩
  · exact ⟨NT.rf h, by show 0 ≤ 1; decide⟩
theorem pMost_t (hn : n ≤ 800) (h : IsT b n t) {lo : Nat} (hlo : lo ≤ 9999) {y : Nat × TK} (hp : pMost b n lo t = .inr y) : NT b n t y.2 ∧ lo ≤ y.1 ∧ y.1 ≤ 99999 := by
  unfold pMost at hp
  split at hp
  · have a1 := (adv_t hn h).1
    have b1 := pNum_le hp
    exact ⟨a1.tr (pNum_t hn a1.1 hp), b1.1, by omega⟩
  · cases hp
    exact ⟨NT.rf h, by show lo ≤ 99999; omega, by show 99999 ≤ 99999; omega⟩
theorem pFrom_t (hn : n ≤ 800) (h : IsT b n t) {y : Nat × Nat × TK} (hp : pFrom b n t = .inr y) : NT b n t y.2.2 ∧ y.1 ≤ y.2.1 ∧ y.2.1 ≤ 23 := by
  unfold pFrom at hp
  split at hp
  · obtain ⟨x, h1, hp⟩ := pb_inr hp
    obtain ⟨z, h2, hp⟩ := pb_inr hp
    cases hp
    have a1 := (adv_t hn h).1
    have a2 := pNum_t hn a1.1 h1
    have b1 := pNum_le h1
    have b2 := pTold_le h2
    exact ⟨(a1.tr a2).tr (pTold_t hn a2.1 h2), b2.1, b2.2⟩
  · cases hp
    exact ⟨NT.rf h, by show 0 ≤ 23; decide, by show 23 ≤ 23; decide⟩
/-- what a line keeps -/
def KL (b : Nat → Nat) (n : Nat) (t : TK) (row : Nat → Nat) (x : TK × (Nat → Nat)) : Prop := NT b n t x.1 ∧ HWf x.2 ∧ x.2 0 = row 0
theorem kl_of {t' : TK} {r : Nat → Nat} (h1 : NT b n t t') (h0 : r 0 = row 0) (h2 : HWf r) : KL b n t row (t', r) := ⟨h1, h2, h0⟩
theorem kl_rooms (hn : n ≤ 800) (h : IsT b n t) (hW : HWf row) {x : TK × (Nat → Nat)} (hp : lRooms b n t row = .inr x) : KL b n t row x := by
  unfold lRooms at hp
  split at hp
  · rename_i c1
    obtain ⟨y, h1, hp⟩ := pb_inr hp
    cases hp
    have a1 := (adv_t hn h).1
    have b1 := pNum_le h1
    refine kl_of (a1.tr (pNum_t hn a1.1 h1)) (y_vn (by decide)) ?_
    obtain ⟨w1, w2, w3, w4, w5, w6, w7, w8, w9, w10, w11, w12, w13, w14⟩ := hW
    have ev : ∀ j, j ≠ 1 → va_up row 1 y.1 j = row j := fun j hj => y_vn hj
    have e1 : va_up row 1 y.1 1 = y.1 := y_vs
    refine ⟨fun k => ?_, ?_, ?_, ?_, ?_, ?_, ?_, ?_, fun i hi => ?_, fun i hi => ?_, fun i hi => ?_, fun i hi => ?_, fun r hr => ?_, fun r hr => ?_⟩
    · by_cases e : k = 1
      · rw [e, e1]; omega
      · rw [ev k e]; exact w1 k
    · rw [ev 0 (by decide)]; exact w2
    · rw [e1]; omega
    · rw [ev 2 (by decide)]; exact w4
    · rw [ev 3 (by decide)]; exact w5
    · rw [ev 4 (by decide)]; exact w6
    · rw [ev 5 (by decide)]; exact w7
    · rw [ev 6 (by decide)]; exact w8
    · rw [ev 2 (by decide)] at hi
      have := w9 i hi
      omega
    · rw [ev 3 (by decide)] at hi
      rw [ev _ (by omega), ev _ (by omega)]
      exact w10 i hi
    · rw [ev 4 (by decide)] at hi
      have := w11 i hi
      omega
    · rw [ev 5 (by decide)] at hi
      have := w12 i hi
      omega
    · rw [ev _ (by omega)]; exact w13 r hr
    · rw [ev _ (by omega), e1]
      have := w14 r hr
      rw [c1] at this
      have h2 := Nat.two_pow_pos y.1
      omega
  · cases hp
section Keep
variable {r : Nat → Nat}
theorem k_pane (hW : HWf row) (h1 : r 1 = row 1) (h2 : r 2 = row 2) (h : ∀ j, 8 ≤ j → j < 248 → r j = row j) : ∀ i, i < r 2 → pF0 r i < r 1 ∧ pT0 r i < r 1 ∧ pF0 r i ≠ pT0 r i ∧ 1 ≤ pL0 r i ∧ pL0 r i ≤ 100 ∧ pB0 r i ≤ 1 := by
  intro i hi
  have hpa := hW.pa
  rw [h2] at hi
  have := hW.pane hi
  unfold pF0 pT0 pL0 pB0 at *
  rw [h1, h _ (by omega) (by omega), h _ (by omega) (by omega), h _ (by omega) (by omega), h _ (by omega) (by omega)]
  exact this
theorem k_lamp (hW : HWf row) (h2 : r 3 = row 3) (h : ∀ j, 248 ≤ j → j < 256 → r j = row j) : ∀ i, i < r 3 → 1 ≤ r (248 + 2 * i) ∧ r (248 + 2 * i) ≤ 999 ∧ r (248 + 2 * i + 1) ≤ 99 := by
  intro i hi
  have hpa := hW.ki
  rw [h2] at hi
  have := hW.kind hi
  rw [h _ (by omega) (by omega), h _ (by omega) (by omega)]
  exact this
theorem k_want (hW : HWf row) (h1 : r 1 = row 1) (h2 : r 4 = row 4) (h : ∀ j, 256 ≤ j → j < 376 → r j = row j) : ∀ i, i < r 4 → r (256 + 5 * i) < r 1 ∧ r (256 + 5 * i + 1) ≤ 9999 ∧ r (256 + 5 * i + 1) ≤ r (256 + 5 * i + 2) ∧ r (256 + 5 * i + 2) ≤ 99999 ∧ r (256 + 5 * i + 3) ≤ r (256 + 5 * i + 4) ∧ r (256 + 5 * i + 4) ≤ 23 := by
  intro i hi
  have hpa := hW.wa
  rw [h2] at hi
  have := hW.want hi
  rw [h1, h _ (by omega) (by omega), h _ (by omega) (by omega), h _ (by omega) (by omega), h _ (by omega) (by omega), h _ (by omega) (by omega)]
  exact this
theorem k_hole (hW : HWf row) (h1 : r 1 = row 1) (h2 : r 5 = row 5) (h : ∀ j, 376 ≤ j → j < 416 → r j = row j) : ∀ i, i < r 5 → r (376 + 5 * i) < r 1 ∧ r (376 + 5 * i + 1) < r 1 ∧ r (376 + 5 * i) ≠ r (376 + 5 * i + 1) ∧ r (376 + 5 * i + 3) ≤ 99 ∧ r (376 + 5 * i + 4) ≤ 1 := by
  intro i hi
  have hpa := hW.ho
  rw [h2] at hi
  have := hW.hole hi
  rw [h1, h _ (by omega) (by omega), h _ (by omega) (by omega), h _ (by omega) (by omega), h _ (by omega) (by omega)]
  exact this
theorem k_burn (hW : HWf row) (h : ∀ j, 416 ≤ j → j < 432 → r j = row j) : ∀ k, k < 16 → r (416 + k) ≤ 99 := by
  intro k hk
  rw [h _ (by omega) (by omega)]
  exact hW.burn hk
theorem k_hate (hW : HWf row) (h1 : r 1 = row 1) (h : ∀ j, 432 ≤ j → j < 448 → r j = row j) : ∀ k, k < 16 → r (432 + k) < 2 ^ r 1 := by
  intro k hk
  rw [h1, h _ (by omega) (by omega)]
  exact hW.hate hk
end Keep
theorem kl_lamp (hn : n ≤ 800) (h : IsT b n t) (hW : HWf row) {x : TK × (Nat → Nat)} (hp : lLamp b n t row = .inr x) : KL b n t row x := by
  unfold lLamp at hp
  split at hp
  · cases hp
  · rename_i c1
    obtain ⟨y, h1, hp⟩ := pb_inr hp
    obtain ⟨z, h2, hp⟩ := pb_inr hp
    cases hp
    have a1 := (adv_t hn h).1
    have a2 := pTold_t hn a1.1 h1
    have b1 := pTold_le h1
    have b2 := pTold_le h2
    have hk := hW.ki
    refine kl_of ((a1.tr a2).tr (pTold_t hn a2.1 h2)) (by rw [y_vn (by omega), y_vn (by omega), y_vn (by omega)]) ?_
    generalize hr : va_up (va_up (va_up row (248 + 2 * row 3) y.1) (248 + 2 * row 3 + 1) z.1) 3 (row 3 + 1) = r
    have ev : ∀ j, j ≠ 3 → j ≠ 248 + 2 * row 3 → j ≠ 248 + 2 * row 3 + 1 → r j = row j := fun j j1 j2 j3 => by rw [← hr, y_vn j1, y_vn j3, y_vn j2]
    have v1 : r 3 = row 3 + 1 := by rw [← hr, y_vs]
    have v2 : r (248 + 2 * row 3) = y.1 := by rw [← hr, y_vn (by omega), y_vn (by omega), y_vs]
    have v3 : r (248 + 2 * row 3 + 1) = z.1 := by rw [← hr, y_vn (by omega), y_vs]
    have e1 : r 1 = row 1 := ev 1 (by omega) (by omega) (by omega)
    refine ⟨fun k => ?_, by rw [ev 0 (by omega) (by omega) (by omega)]; exact hW.2.1, by rw [e1]; exact hW.ro, by rw [ev 2 (by omega) (by omega) (by omega)]; exact hW.pa, by rw [v1]; omega, by rw [ev 4 (by omega) (by omega) (by omega)]; exact hW.wa, by rw [ev 5 (by omega) (by omega) (by omega)]; exact hW.ho, by rw [ev 6 (by omega) (by omega) (by omega)]; exact hW.de, k_pane hW e1 (ev 2 (by omega) (by omega) (by omega)) (fun j j1 j2 => ev j (by omega) (by omega) (by omega)), fun i hi => ?_, k_want hW e1 (ev 4 (by omega) (by omega) (by omega)) (fun j j1 j2 => ev j (by omega) (by omega) (by omega)), k_hole hW e1 (ev 5 (by omega) (by omega) (by omega)) (fun j j1 j2 => ev j (by omega) (by omega) (by omega)), k_burn hW (fun j j1 j2 => ev j (by omega) (by omega) (by omega)), k_hate hW e1 (fun j j1 j2 => ev j (by omega) (by omega) (by omega))⟩
    · by_cases e : k = 3
      · rw [e, v1]; omega
      · by_cases e2 : k = 248 + 2 * row 3
        · rw [e2, v2]; omega
        · by_cases e3 : k = 248 + 2 * row 3 + 1
          · rw [e3, v3]; omega
          · rw [ev k e e2 e3]; exact hW.b k
    · rw [v1] at hi
      by_cases e : i = row 3
      · subst e
        rw [v2, v3]
        omega
      · rw [ev _ (by omega) (by omega) (by omega), ev _ (by omega) (by omega) (by omega)]
        exact hW.kind (by omega)
end PPure
