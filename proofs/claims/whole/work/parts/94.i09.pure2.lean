/-! ===== house: what lines keep, on ===== -/
section PPure2
variable {b : Nat → Nat} {n : Nat} {t : TK} {row : Nat → Nat}
theorem kl_dear (hn : n ≤ 800) (h : IsT b n t) (hW : HWf row) {x : TK × (Nat → Nat)} (hp : lDear b n t row = .inr x) : KL b n t row x := by
  obtain ⟨y, h1, hp⟩ := pb_inr hp
  cases hp
  have a1 := (adv_t hn h).1
  have b1 := pNum_le h1
  refine kl_of (a1.tr (pNum_t hn a1.1 h1)) (y_vn (by decide)) ?_
  have ev : ∀ j, j ≠ 6 → va_up row 6 y.1 j = row j := fun j hj => y_vn hj
  have v1 : va_up row 6 y.1 6 = y.1 := y_vs
  generalize va_up row 6 y.1 = r at *
  have e1 : r 1 = row 1 := ev 1 (by omega)
  refine ⟨fun k => ?_, by rw [ev 0 (by omega)]; exact hW.2.1, by rw [e1]; exact hW.ro, by rw [ev 2 (by omega)]; exact hW.pa, by rw [ev 3 (by omega)]; exact hW.ki, by rw [ev 4 (by omega)]; exact hW.wa, by rw [ev 5 (by omega)]; exact hW.ho, by rw [v1]; omega, k_pane hW e1 (ev 2 (by omega)) (fun j j1 j2 => ev j (by omega)), k_lamp hW (ev 3 (by omega)) (fun j j1 j2 => ev j (by omega)), k_want hW e1 (ev 4 (by omega)) (fun j j1 j2 => ev j (by omega)), k_hole hW e1 (ev 5 (by omega)) (fun j j1 j2 => ev j (by omega)), k_burn hW (fun j j1 j2 => ev j (by omega)), k_hate hW e1 (fun j j1 j2 => ev j (by omega))⟩
  by_cases e : k = 6
  · rw [e, v1]; omega
  · rw [ev k e]; exact hW.b k
theorem kl_burns (hn : n ≤ 800) (h : IsT b n t) (hW : HWf row) (hm : 0 < row 1) {x : TK × (Nat → Nat)} (hp : lBurns b n t row = .inr x) : KL b n t row x := by
  obtain ⟨y, h1, hp⟩ := pb_inr hp
  obtain ⟨t2, h2, hp⟩ := pb_inr hp
  obtain ⟨z, h3, hp⟩ := pb_inr hp
  cases hp
  have hro := hW.ro
  have a1 := (adv_t hn h).1
  have a2 := pNum_t hn a1.1 h1
  have a3 := pPass_t hn a2.1 h2
  have b1 := pNum_le h1
  have b3 := pNum_le h3
  refine kl_of (((a1.tr a2).tr a3).tr (pNum_t hn a3.1 h3)) (y_vn (by omega)) ?_
  have ev : ∀ j, j ≠ 416 + z.1 → va_up row (416 + z.1) y.1 j = row j := fun j hj => y_vn hj
  have v1 : va_up row (416 + z.1) y.1 (416 + z.1) = y.1 := y_vs
  generalize va_up row (416 + z.1) y.1 = r at *
  have e1 : r 1 = row 1 := ev 1 (by omega)
  refine ⟨fun k => ?_, by rw [ev 0 (by omega)]; exact hW.2.1, by rw [e1]; exact hW.ro, by rw [ev 2 (by omega)]; exact hW.pa, by rw [ev 3 (by omega)]; exact hW.ki, by rw [ev 4 (by omega)]; exact hW.wa, by rw [ev 5 (by omega)]; exact hW.ho, by rw [ev 6 (by omega)]; exact hW.de, k_pane hW e1 (ev 2 (by omega)) (fun j j1 j2 => ev j (by omega)), k_lamp hW (ev 3 (by omega)) (fun j j1 j2 => ev j (by omega)), k_want hW e1 (ev 4 (by omega)) (fun j j1 j2 => ev j (by omega)), k_hole hW e1 (ev 5 (by omega)) (fun j j1 j2 => ev j (by omega)), fun k hk => ?_, k_hate hW e1 (fun j j1 j2 => ev j (by omega))⟩
  · by_cases e : k = 416 + z.1
    · rw [e, v1]; omega
    · rw [ev k e]; exact hW.b k
  · by_cases e : k = z.1
    · rw [e, v1]; omega
    · rw [ev _ (by omega)]; exact hW.burn hk
theorem kl_hates (hn : n ≤ 800) (h : IsT b n t) (hW : HWf row) (hm : 0 < row 1) {x : TK × (Nat → Nat)} (hp : lHates b n t row = .inr x) : KL b n t row x := by
  obtain ⟨y, h1, hp⟩ := pb_inr hp
  obtain ⟨z, h3, hp⟩ := pb_inr hp
  cases hp
  have hro := hW.ro
  have a1 := (adv_t hn h).1
  have a2 := pNum_t hn a1.1 h1
  have b1 := pNum_le h1
  have b3 := pNum_le h3
  have hor : row (432 + y.1) ||| 2 ^ z.1 < 2 ^ row 1 := n_or_lt (hW.hate (by omega)) (n_pw (by omega))
  have hpw := pw16 hro
  refine kl_of ((a1.tr a2).tr (pNum_t hn a2.1 h3)) (y_vn (by omega)) ?_
  have ev : ∀ j, j ≠ 432 + y.1 → va_up row (432 + y.1) (row (432 + y.1) ||| 2 ^ z.1) j = row j := fun j hj => y_vn hj
  have v1 : va_up row (432 + y.1) (row (432 + y.1) ||| 2 ^ z.1) (432 + y.1) = row (432 + y.1) ||| 2 ^ z.1 := y_vs
  generalize va_up row (432 + y.1) (row (432 + y.1) ||| 2 ^ z.1) = r at *
  have e1 : r 1 = row 1 := ev 1 (by omega)
  refine ⟨fun k => ?_, by rw [ev 0 (by omega)]; exact hW.2.1, by rw [e1]; exact hW.ro, by rw [ev 2 (by omega)]; exact hW.pa, by rw [ev 3 (by omega)]; exact hW.ki, by rw [ev 4 (by omega)]; exact hW.wa, by rw [ev 5 (by omega)]; exact hW.ho, by rw [ev 6 (by omega)]; exact hW.de, k_pane hW e1 (ev 2 (by omega)) (fun j j1 j2 => ev j (by omega)), k_lamp hW (ev 3 (by omega)) (fun j j1 j2 => ev j (by omega)), k_want hW e1 (ev 4 (by omega)) (fun j j1 j2 => ev j (by omega)), k_hole hW e1 (ev 5 (by omega)) (fun j j1 j2 => ev j (by omega)), k_burn hW (fun j j1 j2 => ev j (by omega)), fun k hk => ?_⟩
  · by_cases e : k = 432 + y.1
    · rw [e, v1]; omega
    · rw [ev k e]; exact hW.b k
  · rw [e1]
    by_cases e : k = y.1
    · rw [e, v1]; exact hor
    · rw [ev _ (by omega)]; exact hW.hate hk
theorem kl_pane (hn : n ≤ 800) (h : IsT b n t) (hW : HWf row) (hm : 0 < row 1) {x : TK × (Nat → Nat)} (hp : lPane b n t row = .inr x) : KL b n t row x := by
  unfold lPane at hp
  split at hp
  · cases hp
  · rename_i c1
    obtain ⟨y, h1, hp⟩ := pb_inr hp
    cases hp
    have hro := hW.ro
    have hpa := hW.pa
    have a1 := (adv_t hn h).1
    obtain ⟨a2, d1, d2, d3, d4, d5⟩ := pSides_t hn a1.1 hm h1
    obtain ⟨a3, d6⟩ := pBoth_t hn a2.1
    generalize pBoth b n y.2.2.2 = o at *
    unfold up3
    refine kl_of ((a1.tr a2).tr a3) (by rw [y_vn (by omega), y_vn (by omega), y_vn (by omega), y_vn (by omega), y_vn (by omega)]) ?_
    generalize hr : va_up (va_up (va_up (va_up (va_up row (8 + 4 * row 2) y.1) (8 + 4 * row 2 + 1) y.2.1) (8 + 4 * row 2 + 2) y.2.2.1) (8 + 4 * row 2 + 3) o.1) 2 (row 2 + 1) = r
    have ev : ∀ j, j ≠ 2 → (j < 8 + 4 * row 2 ∨ 8 + 4 * row 2 + 3 < j) → r j = row j := fun j j1 j2 => by rw [← hr, y_vn j1, y_vn (by omega), y_vn (by omega), y_vn (by omega), y_vn (by omega)]
    have v0 : r 2 = row 2 + 1 := by rw [← hr, y_vs]
    have v1 : r (8 + 4 * row 2) = y.1 := by rw [← hr, y_vn (by omega), y_vn (by omega), y_vn (by omega), y_vn (by omega), y_vs]
    have v2 : r (8 + 4 * row 2 + 1) = y.2.1 := by rw [← hr, y_vn (by omega), y_vn (by omega), y_vn (by omega), y_vs]
    have v3 : r (8 + 4 * row 2 + 2) = y.2.2.1 := by rw [← hr, y_vn (by omega), y_vn (by omega), y_vs]
    have v4 : r (8 + 4 * row 2 + 3) = o.1 := by rw [← hr, y_vn (by omega), y_vs]
    have e1 : r 1 = row 1 := ev 1 (by omega) (by omega)
    refine ⟨fun k => ?_, by rw [ev 0 (by omega) (by omega)]; exact hW.2.1, by rw [e1]; exact hW.ro, by rw [v0]; omega, by rw [ev 3 (by omega) (by omega)]; exact hW.ki, by rw [ev 4 (by omega) (by omega)]; exact hW.wa, by rw [ev 5 (by omega) (by omega)]; exact hW.ho, by rw [ev 6 (by omega) (by omega)]; exact hW.de, fun i hi => ?_, k_lamp hW (ev 3 (by omega) (by omega)) (fun j j1 j2 => ev j (by omega) (by omega)), k_want hW e1 (ev 4 (by omega) (by omega)) (fun j j1 j2 => ev j (by omega) (by omega)), k_hole hW e1 (ev 5 (by omega) (by omega)) (fun j j1 j2 => ev j (by omega) (by omega)), k_burn hW (fun j j1 j2 => ev j (by omega) (by omega)), k_hate hW e1 (fun j j1 j2 => ev j (by omega) (by omega))⟩
    · by_cases e : k = 2
      · rw [e, v0]; omega
      · by_cases e2 : k < 8 + 4 * row 2 ∨ 8 + 4 * row 2 + 3 < k
        · rw [ev k e e2]; exact hW.b k
        · have : k = 8 + 4 * row 2 ∨ k = 8 + 4 * row 2 + 1 ∨ k = 8 + 4 * row 2 + 2 ∨ k = 8 + 4 * row 2 + 3 := by omega
          rcases this with rfl | rfl | rfl | rfl
          · rw [v1]; omega
          · rw [v2]; omega
          · rw [v3]; omega
          · rw [v4]; omega
    · rw [v0] at hi
      unfold pF0 pT0 pL0 pB0
      rw [e1]
      by_cases e : i = row 2
      · subst e
        rw [v1, v2, v3, v4]
        exact ⟨d1, d2, d3, d4, d5, d6⟩
      · rw [ev _ (by omega) (by omega), ev _ (by omega) (by omega), ev _ (by omega) (by omega), ev _ (by omega) (by omega)]
        exact hW.pane (by omega)
theorem kl_hole (hn : n ≤ 800) (h : IsT b n t) (hW : HWf row) (hm : 0 < row 1) {x : TK × (Nat → Nat)} (hp : lHole b n t row = .inr x) : KL b n t row x := by
  unfold lHole at hp
  split at hp
  · cases hp
  · rename_i c1
    obtain ⟨y, h1, hp⟩ := pb_inr hp
    obtain ⟨z, h2, hp⟩ := pb_inr hp
    cases hp
    have hro := hW.ro
    have hpa := hW.ho
    have a1 := (adv_t hn h).1
    obtain ⟨a2, d1, d2, d3, d4, d5⟩ := pSides_t hn a1.1 hm h1
    have a2b := pTold_t hn a2.1 h2
    have b2 := pTold_le h2
    obtain ⟨a3, d6⟩ := pBoth_t hn a2b.1
    generalize pBoth b n z.2 = o at *
    unfold up3
    refine kl_of (((a1.tr a2).tr a2b).tr a3) (by rw [y_vn (by omega), y_vn (by omega), y_vn (by omega), y_vn (by omega), y_vn (by omega), y_vn (by omega)]) ?_
    generalize hr : va_up (va_up (va_up (va_up (va_up (va_up row (376 + 5 * row 5) y.1) (376 + 5 * row 5 + 1) y.2.1) (376 + 5 * row 5 + 2) y.2.2.1) (376 + 5 * row 5 + 3) z.1) (376 + 5 * row 5 + 4) o.1) 5 (row 5 + 1) = r
    have ev : ∀ j, j ≠ 5 → (j < 376 + 5 * row 5 ∨ 376 + 5 * row 5 + 4 < j) → r j = row j := fun j j1 j2 => by rw [← hr, y_vn j1, y_vn (by omega), y_vn (by omega), y_vn (by omega), y_vn (by omega), y_vn (by omega)]
    have v0 : r 5 = row 5 + 1 := by rw [← hr, y_vs]
    have v1 : r (376 + 5 * row 5) = y.1 := by rw [← hr, y_vn (by omega), y_vn (by omega), y_vn (by omega), y_vn (by omega), y_vn (by omega), y_vs]
    have v2 : r (376 + 5 * row 5 + 1) = y.2.1 := by rw [← hr, y_vn (by omega), y_vn (by omega), y_vn (by omega), y_vn (by omega), y_vs]
    have v3 : r (376 + 5 * row 5 + 2) = y.2.2.1 := by rw [← hr, y_vn (by omega), y_vn (by omega), y_vn (by omega), y_vs]
    have v4 : r (376 + 5 * row 5 + 3) = z.1 := by rw [← hr, y_vn (by omega), y_vn (by omega), y_vs]
    have v5 : r (376 + 5 * row 5 + 4) = o.1 := by rw [← hr, y_vn (by omega), y_vs]
    have e1 : r 1 = row 1 := ev 1 (by omega) (by omega)
    refine ⟨fun k => ?_, by rw [ev 0 (by omega) (by omega)]; exact hW.2.1, by rw [e1]; exact hW.ro, by rw [ev 2 (by omega) (by omega)]; exact hW.pa, by rw [ev 3 (by omega) (by omega)]; exact hW.ki, by rw [ev 4 (by omega) (by omega)]; exact hW.wa, by rw [v0]; omega, by rw [ev 6 (by omega) (by omega)]; exact hW.de, k_pane hW e1 (ev 2 (by omega) (by omega)) (fun j j1 j2 => ev j (by omega) (by omega)), k_lamp hW (ev 3 (by omega) (by omega)) (fun j j1 j2 => ev j (by omega) (by omega)), k_want hW e1 (ev 4 (by omega) (by omega)) (fun j j1 j2 => ev j (by omega) (by omega)), fun i hi => ?_, k_burn hW (fun j j1 j2 => ev j (by omega) (by omega)), k_hate hW e1 (fun j j1 j2 => ev j (by omega) (by omega))⟩
    · by_cases e : k = 5
      · rw [e, v0]; omega
      · by_cases e2 : k < 376 + 5 * row 5 ∨ 376 + 5 * row 5 + 4 < k
        · rw [ev k e e2]; exact hW.b k
        · have : k = 376 + 5 * row 5 ∨ k = 376 + 5 * row 5 + 1 ∨ k = 376 + 5 * row 5 + 2 ∨ k = 376 + 5 * row 5 + 3 ∨ k = 376 + 5 * row 5 + 4 := by omega
          rcases this with rfl | rfl | rfl | rfl | rfl
          · rw [v1]; omega
          · rw [v2]; omega
          · rw [v3]; omega
          · rw [v4]; omega
          · rw [v5]; omega
    · rw [v0] at hi
      rw [e1]
      by_cases e : i = row 5
      · subst e
        rw [v1, v2, v4, v5]
        exact ⟨d1, d2, d3, b2.2, d6⟩
      · rw [ev _ (by omega) (by omega), ev _ (by omega) (by omega), ev _ (by omega) (by omega), ev _ (by omega) (by omega)]
        exact hW.hole (by omega)
theorem kl_want (hn : n ≤ 800) (h : IsT b n t) (hW : HWf row) (hm : 0 < row 1) {x : TK × (Nat → Nat)} (hp : lWant b n t row = .inr x) : KL b n t row x := by
  unfold lWant at hp
  split at hp
  · cases hp
  · rename_i c1
    obtain ⟨y, h1, hp⟩ := pb_inr hp
    obtain ⟨z, h2, hp⟩ := pb_inr hp
    obtain ⟨u, h3, hp⟩ := pb_inr hp
    obtain ⟨w, h4, hp⟩ := pb_inr hp
    cases hp
    have hro := hW.ro
    have hpa := hW.wa
    have a1 := (adv_t hn h).1
    have a2 := pNum_t hn a1.1 h1
    have b1 := pNum_le h1
    have a3 := pTold_t hn a2.1 h2
    have b2 := pTold_le h2
    obtain ⟨a4, b3, b4⟩ := pMost_t hn a3.1 b2.2 h3
    obtain ⟨a5, b5, b6⟩ := pFrom_t hn a4.1 h4
    unfold up3
    refine kl_of ((((a1.tr a2).tr a3).tr a4).tr a5) (by rw [y_vn (by omega), y_vn (by omega), y_vn (by omega), y_vn (by omega), y_vn (by omega), y_vn (by omega)]) ?_
    generalize hr : va_up (va_up (va_up (va_up (va_up (va_up row (256 + 5 * row 4) y.1) (256 + 5 * row 4 + 1) z.1) (256 + 5 * row 4 + 2) u.1) (256 + 5 * row 4 + 3) w.1) (256 + 5 * row 4 + 4) w.2.1) 4 (row 4 + 1) = r
    have ev : ∀ j, j ≠ 4 → (j < 256 + 5 * row 4 ∨ 256 + 5 * row 4 + 4 < j) → r j = row j := fun j j1 j2 => by rw [← hr, y_vn j1, y_vn (by omega), y_vn (by omega), y_vn (by omega), y_vn (by omega), y_vn (by omega)]
    have v0 : r 4 = row 4 + 1 := by rw [← hr, y_vs]
    have v1 : r (256 + 5 * row 4) = y.1 := by rw [← hr, y_vn (by omega), y_vn (by omega), y_vn (by omega), y_vn (by omega), y_vn (by omega), y_vs]
    have v2 : r (256 + 5 * row 4 + 1) = z.1 := by rw [← hr, y_vn (by omega), y_vn (by omega), y_vn (by omega), y_vn (by omega), y_vs]
    have v3 : r (256 + 5 * row 4 + 2) = u.1 := by rw [← hr, y_vn (by omega), y_vn (by omega), y_vn (by omega), y_vs]
    have v4 : r (256 + 5 * row 4 + 3) = w.1 := by rw [← hr, y_vn (by omega), y_vn (by omega), y_vs]
    have v5 : r (256 + 5 * row 4 + 4) = w.2.1 := by rw [← hr, y_vn (by omega), y_vs]
    have e1 : r 1 = row 1 := ev 1 (by omega) (by omega)
    refine ⟨fun k => ?_, by rw [ev 0 (by omega) (by omega)]; exact hW.2.1, by rw [e1]; exact hW.ro, by rw [ev 2 (by omega) (by omega)]; exact hW.pa, by rw [ev 3 (by omega) (by omega)]; exact hW.ki, by rw [v0]; omega, by rw [ev 5 (by omega) (by omega)]; exact hW.ho, by rw [ev 6 (by omega) (by omega)]; exact hW.de, k_pane hW e1 (ev 2 (by omega) (by omega)) (fun j j1 j2 => ev j (by omega) (by omega)), k_lamp hW (ev 3 (by omega) (by omega)) (fun j j1 j2 => ev j (by omega) (by omega)), fun i hi => ?_, k_hole hW e1 (ev 5 (by omega) (by omega)) (fun j j1 j2 => ev j (by omega) (by omega)), k_burn hW (fun j j1 j2 => ev j (by omega) (by omega)), k_hate hW e1 (fun j j1 j2 => ev j (by omega) (by omega))⟩
    · by_cases e : k = 4
      · rw [e, v0]; omega
      · by_cases e2 : k < 256 + 5 * row 4 ∨ 256 + 5 * row 4 + 4 < k
        · rw [ev k e e2]; exact hW.b k
        · have : k = 256 + 5 * row 4 ∨ k = 256 + 5 * row 4 + 1 ∨ k = 256 + 5 * row 4 + 2 ∨ k = 256 + 5 * row 4 + 3 ∨ k = 256 + 5 * row 4 + 4 := by omega
          rcases this with rfl | rfl | rfl | rfl | rfl
          · rw [v1]; omega
          · rw [v2]; omega
          · rw [v3]; omega
          · rw [v4]; omega
          · rw [v5]; omega
    · rw [v0] at hi
      rw [e1]
      by_cases e : i = row 4
      · subst e
        rw [v1, v2, v3, v4, v5]
        exact ⟨by omega, b2.2, b3, b4, b5, b6⟩
      · rw [ev _ (by omega) (by omega), ev _ (by omega) (by omega), ev _ (by omega) (by omega), ev _ (by omega) (by omega), ev _ (by omega) (by omega)]
        exact hW.want (by omega)
theorem kl_line0 (hn : n ≤ 800) (h : IsT b n t) (hW : HWf row) {x : TK × (Nat → Nat)} (hp : pLine0 b n t row = .inr x) : KL b n t row x := by
  unfold pLine0 at hp
  split at hp
  · exact kl_rooms hn h hW hp
  · split at hp
    · exact kl_lamp hn h hW hp
    · split at hp
      · exact kl_dear hn h hW hp
      · split at hp
        · cases hp
        · rename_i hm
          split at hp
          · exact kl_pane hn h hW (by omega) hp
          · split at hp
            · exact kl_want hn h hW (by omega) hp
            · split at hp
              · exact kl_hole hn h hW (by omega) hp
              · split at hp
                · exact kl_burns hn h hW (by omega) hp
                · split at hp
                  · exact kl_hates hn h hW (by omega) hp
                  · cases hp
end PPure2
