/-! ===== house: the class's small steps ===== -/
/-- a house being told: its cells at q -/
def CH (D : List xC) (q : Nat) (tt : Nat → Nat) : Prop :=
  HC D q = some (.inr (3, [.int (nI (tt 0)), .int (nI (tt 1)), .int (nI (tt 6)), .int (nI (tt 2)), .int (nI (tt 3)), .int (nI (tt 4)), .int (nI (tt 5)), .ref (q + 1), .ref (q + 2), .ref (q + 3), .ref (q + 4), .ref (q + 5), .ref (q + 6), .ref (q + 7), .ref (q + 8), .ref (q + 9)])) ∧
  Ar D (q + 1) 240 (fun k => nI (tt (8 + k))) ∧ Ar D (q + 2) 8 (fun k => nI (tt (248 + k))) ∧ Ar D (q + 3) 120 (fun k => nI (tt (256 + k))) ∧ Ar D (q + 4) 40 (fun k => nI (tt (376 + k))) ∧ Ar D (q + 5) 16 (fun k => nI (tt (416 + k))) ∧ Ar D (q + 6) 16 (fun k => nI (tt (432 + k))) ∧ Ar D (q + 7) 16 (fun _ => nI 0) ∧ Ar D (q + 8) 16 (fun _ => nI 0) ∧ Ar D (q + 9) 256 (fun _ => nM)
def Pre (D0 D : List xC) : Prop := D.length = D0.length + 12 ∧ ∀ k, k < 77 + D0.length → HC D k = HC D0 k
/-- told so far -/
def TL (D : List xC) (a tl : Nat) (tf : Nat → Nat) : Prop := tl ≤ 5 ∧ ∃ g, HC D a = some (.inl (.int, 5, .inl g)) ∧ ∀ k, k < tl → g k = nI (tf k)
/-- the class reads on -/
def CG (A : Nat → Nat → Int32) (Z : Nat → Int32) (B : Nat → Nat → Int64) (Q : Nat → Int64) (P : Nat → Option Nat) (F : Nat → Nat → Option Nat) (q : Nat) (D0 : List xC) (c : Nat × Nat) (b : Nat → Nat) (n : Nat) (h : xH) (t : TK) (row : Nat → Nat) (tl : Nat) (tf : Nat → Nat) : Prop := ∃ D f, h = HH A Z B Q P F q D c ∧ Pre D0 D ∧ RO D (77 + D0.length) f ∧ f 0 = nI 0 ∧ f 1 = nM ∧ f 3 = nI n ∧ CTk t f ∧ f 10 = nI tl ∧ IsT b n t ∧ CH D (77 + D0.length + 1) row ∧ TL D (77 + D0.length + 11) tl tf
/-- the class has refused -/
def CB (A : Nat → Nat → Int32) (Z : Nat → Int32) (B : Nat → Nat → Int64) (Q : Nat → Int64) (P : Nat → Option Nat) (F : Nat → Nat → Option Nat) (q : Nat) (D0 : List xC) (c : Nat × Nat) (h : xH) (w : Fl) : Prop := ∃ D f, h = HH A Z B Q P F q D c ∧ Pre D0 D ∧ RO D (77 + D0.length) f ∧ f 0 = nI w.1 ∧ f 1 = nI w.2 ∧ 0 < w.1 ∧ w.1 < 10
theorem Pre.dO {D0 D D' : List xC} {a : Nat} (h : Pre D0 D) (ha : 77 + D0.length ≤ a) (d : DO a D D') : Pre D0 D' := ⟨d.1.trans h.1, fun k hk => (d.2 k (by omega)).trans (h.2 k hk)⟩
theorem Ar_dO {D D' : List xC} {a k n : Nat} {g : Nat → Int32} (h : DO a D D') (hk : k ≠ a) (H : Ar D k n g) : Ar D' k n g := by
  obtain ⟨f, h1, h2⟩ := H
  exact ⟨f, by rw [h.2 k hk]; exact h1, h2⟩
theorem CH.dO {D D' : List xC} {a q : Nat} {tt : Nat → Nat} (h : DO a D D') (hq : a < q ∨ q + 9 < a) (H : CH D q tt) : CH D' q tt := by
  obtain ⟨h1, a1, a2, a3, a4, a5, a6, a7, a8, a9⟩ := H
  exact ⟨by rw [h.2 q (by omega)]; exact h1, Ar_dO h (by omega) a1, Ar_dO h (by omega) a2, Ar_dO h (by omega) a3, Ar_dO h (by omega) a4, Ar_dO h (by omega) a5, Ar_dO h (by omega) a6, Ar_dO h (by omega) a7, Ar_dO h (by omega) a8, Ar_dO h (by omega) a9⟩
theorem TL.dO {D D' : List xC} {a k tl : Nat} {tf : Nat → Nat} (h : DO a D D') (hk : k ≠ a) (H : TL D k tl tf) : TL D' k tl tf := by
  obtain ⟨h0, g, h1, h2⟩ := H
  exact ⟨h0, g, by rw [h.2 k hk]; exact h1, h2⟩
section COps
variable {A : Nat → Nat → Int32} {Z : Nat → Int32} {B : Nat → Nat → Int64} {Q : Nat → Int64} {P : Nat → Option Nat} {F : Nat → Nat → Option Nat} {q : Nat} {D0 : List xC} {c : Nat × Nat} {b : Nat → Nat} {n : Nat} {h : xH} {t : TK} {row tf : Nat → Nat} {tl : Nat}
theorem cg_adv (hn : n ≤ 800) (hb : ∀ k, k < n → A 1 k = sb (b k) ∧ b k < 256) (H : CG A Z B Q P F q D0 c b n h t row tl tf) : ∃ h', f_X7_advance h (77 + D0.length) = some h' ∧ CG A Z B Q P F q D0 c b n h' (adv b n t) row tl tf := by
  obtain ⟨D, f, rfl, hp, hr, f0, f1, f3, ft, f10, hT, hH, hL⟩ := H
  obtain ⟨D', f', e, d, r, o, t'⟩ := c_adv (A := A) (Z := Z) (B := B) (Q := Q) (P := P) (F := F) (q := q) (c := c) hn hb hr f3 ft.2.2.1 (hT.sp hn).2.1
  exact ⟨_, e, D', f', rfl, hp.dO (Nat.le_refl _) d, r, by rw [o 0 (by decide)]; exact f0, by rw [o 1 (by decide)]; exact f1, by rw [o 3 (by decide)]; exact f3, t', by rw [o 10 (by decide)]; exact f10, hT.adv hn, hH.dO d (by omega), hL.dO d (by omega)⟩
theorem cg_refuse (hn : n ≤ 800) (hb : ∀ k, k < n → A 1 k = sb (b k) ∧ b k < 256) {k : Nat} (hk : 0 < k) (hk2 : k < 10) (H : CG A Z B Q P F q D0 c b n h t row tl tf) : ∃ h', f_X7_refuse h (77 + D0.length) (nI k) = some (nI 0, h') ∧ CB A Z B Q P F q D0 c h' (flt t k) := by
  obtain ⟨D, f, rfl, hp, hr, f0, f1, f3, ⟨f4, f5, f6, f7⟩, f10, hT, hH, hL⟩ := H
  have hs4 := (hT.sp hn).2.2.1
  have e14 : ∀ k, ∃ h', f_X7_refuse_14 (HH A Z B Q P F q D c) (77 + D0.length) (nI k) (77 + D0.length) = some (nI 0, h') ∧ ∃ D f, h' = HH A Z B Q P F q D c ∧ Pre D0 D ∧ RO D (77 + D0.length) f ∧ f 0 = nI k ∧ f 1 = nI t.2.1 := by
    intro k
    obtain ⟨D1, e1, d1, r1⟩ := ro_p (A := A) (Z := Z) (B := B) (Q := Q) (P := P) (F := F) (q := q) (c := c) hr (k := 0) (v := nI k) (by decide)
    obtain ⟨D2, e2, d2, r2⟩ := ro_p (A := A) (Z := Z) (B := B) (Q := Q) (P := P) (F := F) (q := q) (c := c) r1 (k := 1) (v := nI t.2.1) (by decide)
    refine ⟨_, ?_, D2, _, rfl, (hp.dO (Nat.le_refl _) d1).dO (Nat.le_refl _) d2, r2, rfl, rfl⟩
    unfold f_X7_refuse_14
    rw [e1, Option.bind_some, ro_g r1 (by decide), Option.bind_some, show (upA f 0 (nI k)) 5 = nI t.2.1 from f5, e2, Option.bind_some]
    rfl
  unfold f_X7_refuse flt
  rw [ro_g hr (by decide), Option.bind_some, f4]
  by_cases c1 : t.1 = 4
  · obtain ⟨h', e, D2, f2, e2, p2, r2, v0, v1⟩ := e14 1
    rw [if_pos (by rw [c1]; rfl), if_pos c1]
    exact ⟨h', e, D2, f2, e2, p2, r2, v0, v1, by show 0 < 1; decide, by show 1 < 10; decide⟩
  · obtain ⟨h', e, D2, f2, e2, p2, r2, v0, v1⟩ := e14 k
    rw [if_neg (by rw [show (4 : Int32) = nI 4 from rfl, y_eq (by omega) (by omega)]; exact c1), if_neg c1]
    exact ⟨h', e, D2, f2, e2, p2, r2, v0, v1, hk, hk2⟩
theorem CG.o (H : CG A Z B Q P F q D0 c b n h t row tl tf) : ∃ x, gO h (77 + D0.length) 7 = some x := by
  obtain ⟨D, f, rfl, hp, hr, _⟩ := H
  exact ro_O hr
theorem CB.o {w : Fl} (H : CB A Z B Q P F q D0 c h w) : ∃ x, gO h (77 + D0.length) 7 = some x := by
  obtain ⟨D, f, rfl, hp, hr, _⟩ := H
  exact ro_O hr
theorem cg_isW (hn : n ≤ 800) (hb : ∀ k, k < n → A 1 k = sb (b k) ∧ b k < 256) {i : Nat} (hi : i < 18) (H : CG A Z B Q P F q D0 c b n h t row tl tf) : f_X7_isWord h (77 + D0.length) (xS0 + 2 * i) = some (if isW b i t = true then nI 1 else nI 0) := by
  obtain ⟨D, f, rfl, hp, hr, f0, f1, f3, ⟨f4, f5, f6, f7⟩, f10, hT, hH, hL⟩ := H
  obtain ⟨l0, l1, l2⟩ := W_ltr i hi
  obtain ⟨t1, t2, t3, t4, t5⟩ := hT.sp hn
  unfold f_X7_isWord
  rw [ro_g hr (by decide), Option.bind_some, f4]
  by_cases c1 : t.1 = 1
  · rw [if_pos (by rw [c1]; rfl), ro_g hr (by decide), Option.bind_some, ro_g hr (by decide), Option.bind_some, W_len i hi, Option.bind_some, f5, f6, y_sub t1]
    by_cases c2 : t.2.2.1 - t.2.1 = (wrd i).length
    · rw [if_pos (by rw [c2])]
      have key := loop_I (F := fun m j (_ : Unit) => f_X7_isWord_28 (HH A Z B Q P F q D c) m (77 + D0.length) (xS0 + 2 * i) (nI j)) (N := (wrd i).length) some (fun j _ => ∀ k, k < j → b (t.2.1 + k) = (wrd i).getD k 0) (fun r => r = if allB (fun j => decide (b (t.2.1 + j) = (wrd i).getD j 0)) (wrd i).length = true then nI 1 else nI 0) (fun m j _ hj hl => ?_) (fun m _ hl => ?_) (by omega) (s := ()) (fun k hk => by omega)
      · obtain ⟨r, e1, e2⟩ := key
        refine e1.trans ?_
        rw [e2]
        unfold isW
        rw [decide_eq_true ⟨c1, c2⟩, Bool.true_and]
      · obtain ⟨b1, b2⟩ := hb (t.2.1 + j) (by omega)
        have hw := of_decide_eq_true (l2 j hj)
        have es : f_X7_isWord_28 (HH A Z B Q P F q D c) (m + 1) (77 + D0.length) (xS0 + 2 * i) (nI j) = if b (t.2.1 + j) = (wrd i).getD j 0 then f_X7_isWord_28 (HH A Z B Q P F q D c) m (77 + D0.length) (xS0 + 2 * i) (nI (j + 1)) else some (nI 0) := by
          rw [f_X7_isWord_28, W_len i hi, Option.bind_some, if_neg (by rw [y_le (by omega) (by omega)]; omega), ro_2 hr, Option.bind_some, ro_g hr (by decide), Option.bind_some, f5, nI_add, ld_1 (by omega), Option.bind_some, W_chr i hi j hj, Option.bind_some, b1, nI_1]
          by_cases c3 : b (t.2.1 + j) = (wrd i).getD j 0
          · rw [if_pos (by rw [sb_eq b2 (by omega)]; exact c3), if_pos c3]
          · rw [if_neg (by rw [sb_eq b2 (by omega)]; exact c3), if_neg c3]; rfl
        by_cases c3 : b (t.2.1 + j) = (wrd i).getD j 0
        · refine Or.inl ⟨(), es.trans (if_pos c3), fun k hk2 => ?_⟩
          by_cases e : k = j
          · rw [e]; exact c3
          · exact hl k (by omega)
        · refine Or.inr ⟨nI 0, es.trans (if_neg c3), ?_⟩
          rw [if_neg (fun h => c3 (of_decide_eq_true ((allB_iff.mp h) j hj)))]
      · refine ⟨nI 1, ?_, ?_⟩
        · show f_X7_isWord_28 _ (m + 1) _ _ _ = _
          rw [f_X7_isWord_28, W_len i hi, Option.bind_some, if_pos (Int32.le_refl _)]
          rfl
        · rw [if_pos (allB_iff.mpr (fun k hk2 => decide_eq_true (hl k hk2)))]
    · rw [if_neg (by rw [y_eq (by omega) (by omega)]; exact c2), if_neg (fun h => by
        unfold isW at h
        rw [Bool.and_eq_true] at h
        exact c2 (of_decide_eq_true h.1).2)]
      rfl
  · rw [if_neg (by rw [show (1 : Int32) = nI 1 from rfl, y_eq (by omega) (by omega)]; exact c1), if_neg (fun h => by
      unfold isW at h
      rw [Bool.and_eq_true] at h
      exact c1 (of_decide_eq_true h.1).1)]
    rfl
end COps
