/-! ===== house: words, and the reference's small steps ===== -/
def wrd (i : Nat) : List Nat := (xTx.getD i "").toList.map Char.toNat
theorem W_len : ∀ i, i < 18 → sLen (xS0 + 2 * i) = some (nI (wrd i).length) := by decide +kernel
theorem W_chr : ∀ i, i < 18 → ∀ j, j < (wrd i).length → sChr (xS0 + 2 * i) (nI j) = some (nI ((wrd i).getD j 0)) := by decide +kernel
theorem W_ltr : ∀ i, i < 18 → 0 < (wrd i).length ∧ (wrd i).length < 10 ∧ ∀ j, j < (wrd i).length → ltr ((wrd i).getD j 0) = true := by decide +kernel
abbrev TK := Nat × Nat × Nat × Nat
abbrev Fl := Nat × Nat
def flt (t : TK) (k : Nat) : Fl := (if t.1 = 4 then 1 else k, t.2.1)
def adv (b : Nat → Nat) (n : Nat) (t : TK) : TK := tok b n t.2.2.1
def isW (b : Nat → Nat) (i : Nat) (t : TK) : Bool := decide (t.1 = 1 ∧ t.2.2.1 - t.2.1 = (wrd i).length) && allB (fun j => decide (b (t.2.1 + j) = (wrd i).getD j 0)) (wrd i).length
def IsT (b : Nat → Nat) (n : Nat) (t : TK) : Prop := ∃ p, p ≤ n ∧ t = tok b n p
theorem IsT.sp {b : Nat → Nat} {n : Nat} {t : TK} (hn : n ≤ 800) (h : IsT b n t) : t.2.1 ≤ t.2.2.1 ∧ t.2.2.1 ≤ n ∧ t.1 ≤ 4 ∧ (t.1 ≠ 0 → t.2.1 < t.2.2.1) ∧ t.2.2.2 < 100000 := by
  obtain ⟨p, hp, rfl⟩ := h
  exact (tok_spec hp hn).2
theorem IsT.adv {b : Nat → Nat} {n : Nat} {t : TK} (hn : n ≤ 800) (h : IsT b n t) : IsT b n (adv b n t) := ⟨_, (h.sp hn).2.1, rfl⟩
section MOps
variable {A0 : Nat → Nat → Int32} {Z0 : Nat → Int32} {B : Nat → Nat → Int64} {Q : Nat → Int64} {P : Nat → Option Nat} {F : Nat → Nat → Option Nat} {q : Nat} {D : List xC} {c : Nat × Nat} {b : Nat → Nat} {n : Nat} {h : xH} {t : TK} {row : Nat → Nat}
variable {A : Nat → Nat → Int32} {Z : Nat → Int32}
theorem m_isWord {i : Nat} (hi : i < 18) (hn : n ≤ 800) (hb : ∀ k, k < n → A 62 k = nI (b k) ∧ b k < 256) (hT : IsT b n t) (hZ : TZ t Z) : f_X12_isWord (HH A Z B Q P F q D c) 57 (xS0 + 2 * i) = some (if Z 25 = 0 ∧ isW b i t = true then nI 1 else nI 0) := by
  obtain ⟨l0, l1, l2⟩ := W_ltr i hi
  obtain ⟨t1, t2, t3, t4, t5⟩ := hT.sp hn
  obtain ⟨z1, z2, z3, z4⟩ := hZ
  have e35 : f_X12_isWord_35 (HH A Z B Q P F q D c) 57 (xS0 + 2 * i) = some (nI 0) := by
    unfold f_X12_isWord_35 f_X12_isWord_36
    rw [show xFU = (xFU - 1) + 1 from rfl, f_X12_isWord_39]
    rfl
  unfold f_X12_isWord
  rw [gf_57_12, Option.bind_some]
  by_cases c0 : Z 25 = 0
  · rw [if_pos c0, gf_57_10, Option.bind_some, z3]
    by_cases c1 : t.1 = 1
    · rw [if_pos (by rw [c1]; rfl), gf_57_8, Option.bind_some, gf_57_9, Option.bind_some, W_len i hi, Option.bind_some, z1, z2, y_sub t1]
      by_cases c2 : t.2.2.1 - t.2.1 = (wrd i).length
      · rw [if_pos (by rw [c2])]
        unfold f_X12_isWord_36
        have key := loop_I (F := fun m j (l : Int32) => f_X12_isWord_39 (HH A Z B Q P F q D c) m 57 (xS0 + 2 * i) l (nI j)) (N := (wrd i).length) some (fun j l => (l = nI 1 ∧ ∀ k, k < j → b (t.2.1 + k) = (wrd i).getD k 0) ∨ (l = nI 0 ∧ ∃ k, k < (wrd i).length ∧ ¬ b (t.2.1 + k) = (wrd i).getD k 0)) (fun r => r = if allB (fun j => decide (b (t.2.1 + j) = (wrd i).getD j 0)) (wrd i).length = true then nI 1 else nI 0) (fun m j l hj hl => ?_) (fun m l hl => ?_) (by omega) (s := nI 1) (Or.inl ⟨rfl, fun k hk => by omega⟩)
        · obtain ⟨r, e1, e2⟩ := key
          refine e1.trans ?_
          rw [e2]
          unfold isW
          rw [decide_eq_true ⟨c1, c2⟩, Bool.true_and]
          by_cases c3 : allB (fun j => decide (b (t.2.1 + j) = (wrd i).getD j 0)) (wrd i).length = true
          · rw [if_pos c3, if_pos ⟨c0, c3⟩]
          · rw [if_neg c3, if_neg (fun h => c3 h.2)]
        · rcases hl with ⟨rfl, hk⟩ | ⟨rfl, k, k1, k2⟩
          · obtain ⟨b1, b2⟩ := hb (t.2.1 + j) (by omega)
            have hw := of_decide_eq_true (l2 j hj)
            have es : f_X12_isWord_39 (HH A Z B Q P F q D c) (m + 1) 57 (xS0 + 2 * i) (nI 1) (nI j) = if b (t.2.1 + j) = (wrd i).getD j 0 then f_X12_isWord_39 (HH A Z B Q P F q D c) m 57 (xS0 + 2 * i) (nI 1) (nI (j + 1)) else f_X12_isWord_39 (HH A Z B Q P F q D c) m 57 (xS0 + 2 * i) (nI 0) (nI (j + 1)) := by
              rw [f_X12_isWord_39, if_neg (by decide), W_len i hi, Option.bind_some, if_neg (by rw [y_le (by omega) (by omega)]; omega), gf_57_5, Option.bind_some, gf_57_9, Option.bind_some, z2, nI_add, ld_62 (by omega), Option.bind_some, W_chr i hi j hj, Option.bind_some, b1, nI_1]
              by_cases c3 : b (t.2.1 + j) = (wrd i).getD j 0
              · rw [if_pos (by rw [c3]), if_pos c3]; rfl
              · rw [if_neg (by rw [y_eq (by omega) (by omega)]; exact c3), if_neg c3]; rfl
            by_cases c3 : b (t.2.1 + j) = (wrd i).getD j 0
            · refine Or.inl ⟨nI 1, es.trans (if_pos c3), Or.inl ⟨rfl, fun k hk2 => ?_⟩⟩
              by_cases e : k = j
              · rw [e]; exact c3
              · exact hk k (by omega)
            · exact Or.inl ⟨nI 0, es.trans (if_neg c3), Or.inr ⟨rfl, j, hj, c3⟩⟩
          · refine Or.inr ⟨nI 0, ?_, ?_⟩
            · show f_X12_isWord_39 _ (m + 1) 57 _ (nI 0) _ = _
              rw [f_X12_isWord_39]
              rfl
            · rw [if_neg (fun h => k2 (of_decide_eq_true ((allB_iff.mp h) k k1)))]
        · rcases hl with ⟨rfl, hk⟩ | ⟨rfl, k, k1, k2⟩
          · refine ⟨nI 1, ?_, ?_⟩
            · show f_X12_isWord_39 _ (m + 1) 57 _ (nI 1) _ = _
              rw [f_X12_isWord_39, if_neg (by decide), W_len i hi, Option.bind_some, if_pos (Int32.le_refl _)]
              rfl
            · rw [if_pos (allB_iff.mpr (fun k hk2 => decide_eq_true (hk k hk2)))]
          · refine ⟨nI 0, ?_, ?_⟩
            · show f_X12_isWord_39 _ (m + 1) 57 _ (nI 0) _ = _
              rw [f_X12_isWord_39]
              rfl
            · rw [if_neg (fun h => k2 (of_decide_eq_true ((allB_iff.mp h) k k1)))]
      · rw [if_neg (by rw [y_eq (by omega) (by omega)]; exact c2), e35, if_neg (fun h => by
          have := h.2
          unfold isW at this
          rw [Bool.and_eq_true] at this
          exact c2 (of_decide_eq_true this.1).2)]
    · rw [if_neg (by rw [show (1 : Int32) = nI 1 from rfl, y_eq (by omega) (by omega)]; exact c1), e35, if_neg (fun h => by
        have := h.2
        unfold isW at this
        rw [Bool.and_eq_true] at this
        exact c1 (of_decide_eq_true this.1).1)]
  · rw [if_neg c0, e35, if_neg (fun h => c0 h.1)]
/-- the reference reads on: at t, told row so far -/
def MG (A0 : Nat → Nat → Int32) (Z0 : Nat → Int32) (B : Nat → Nat → Int64) (Q : Nat → Int64) (P : Nat → Option Nat) (F : Nat → Nat → Option Nat) (q : Nat) (D : List xC) (c : Nat × Nat) (b : Nat → Nat) (n : Nat) (h : xH) (t : TK) (row : Nat → Nat) : Prop := ∃ f Z, h = HH (upA A0 60 f) Z B Q P F q D c ∧ Only [21, 22, 23, 24, 25, 26] Z0 Z ∧ Z 25 = nI 0 ∧ TZ t Z ∧ IsT b n t ∧ Told f row (fun _ => 0) (fun _ => 0)
/-- the reference has blamed -/
def MB (A0 : Nat → Nat → Int32) (Z0 : Nat → Int32) (B : Nat → Nat → Int64) (Q : Nat → Int64) (P : Nat → Option Nat) (F : Nat → Nat → Option Nat) (q : Nat) (D : List xC) (c : Nat × Nat) (h : xH) (f : Fl) : Prop := ∃ g Z, h = HH (upA A0 60 g) Z B Q P F q D c ∧ Only [21, 22, 23, 24, 25, 26] Z0 Z ∧ Z 25 = nI f.1 ∧ Z 26 = nI f.2 ∧ 0 < f.1 ∧ f.1 < 10
theorem MB.ne {Z : Nat → Int32} {f : Fl} (h1 : Z 25 = nI f.1) (h2 : 0 < f.1) (h3 : f.1 < 10) : ¬ Z 25 = 0 := by
  rw [h1, show (0 : Int32) = nI 0 from rfl, y_eq (by omega) (by omega)]
  omega
theorem mg_blames {k : Nat} (hk : 0 < k) (hk2 : k < 10) (hn : n ≤ 800) (H : MG A0 Z0 B Q P F q D c b n h t row) : ∃ h', f_X12_blames h 57 (nI k) = some h' ∧ MB A0 Z0 B Q P F q D c h' (flt t k) := by
  obtain ⟨f, Z, rfl, o1, z0, ⟨z1, z2, z3, z4⟩, hT, hR⟩ := H
  obtain ⟨t1, t2, t3, t4, t5⟩ := hT.sp hn
  unfold f_X12_blames f_X12_blames_22
  rw [gf_57_12, Option.bind_some, z0, if_pos (by decide), gf_57_10, Option.bind_some, z3]
  have e9 : ∀ x, (upA Z 25 x) 22 = nI t.2.1 := fun x => z2
  unfold flt
  by_cases c1 : t.1 = 4
  · rw [if_pos (by rw [c1]; rfl), pf_57_12, Option.bind_some, gf_57_9, Option.bind_some, e9, pf_57_13, Option.bind_some, if_pos c1]
    exact ⟨_, rfl, f, _, rfl, (o1.up (by decide)).up (by decide), rfl, rfl, by show 0 < 1; decide, by show 1 < 10; decide⟩
  · rw [if_neg (by rw [show (4 : Int32) = nI 4 from rfl, y_eq (by omega) (by omega)]; exact c1), pf_57_12, Option.bind_some, gf_57_9, Option.bind_some, e9, pf_57_13, Option.bind_some, if_neg c1]
    exact ⟨_, rfl, f, _, rfl, (o1.up (by decide)).up (by decide), rfl, rfl, hk, hk2⟩
theorem mb_blames {f : Fl} {x : Int32} (H : MB A0 Z0 B Q P F q D c h f) : f_X12_blames h 57 x = some h := by
  obtain ⟨g, Z, rfl, o1, z1, z2, k1, k2⟩ := H
  unfold f_X12_blames
  rw [gf_57_12, Option.bind_some, if_neg (MB.ne z1 k1 k2)]
theorem mg_reads (hn : n ≤ 800) (h20 : Z0 20 = nI n) (hb : ∀ k, k < n → A0 62 k = nI (b k) ∧ b k < 256) (H : MG A0 Z0 B Q P F q D c b n h t row) : ∃ h', f_X12_reads h 57 = some h' ∧ MG A0 Z0 B Q P F q D c b n h' (adv b n t) row := by
  obtain ⟨f, Z, rfl, o1, z0, z1, hT, hR⟩ := H
  obtain ⟨Z', e1, o2, t2⟩ := m_reads (A := upA A0 60 f) (Z := Z) (B := B) (Q := Q) (P := P) (F := F) (q := q) (D := D) (c := c) (b := b) hn hb (by rw [o1 20 (by decide)]; exact h20) z1.1 (hT.sp hn).2.1
  exact ⟨_, e1, f, Z', rfl, o1.tr o2 (fun k h => h) (by decide), by rw [o2 25 (by decide)]; exact z0, t2, hT.adv hn, hR⟩
theorem mg_isW {i : Nat} (hi : i < 18) (hn : n ≤ 800) (hb : ∀ k, k < n → A0 62 k = nI (b k) ∧ b k < 256) (H : MG A0 Z0 B Q P F q D c b n h t row) : f_X12_isWord h 57 (xS0 + 2 * i) = some (if isW b i t = true then nI 1 else nI 0) := by
  obtain ⟨f, Z, rfl, o1, z0, z1, hT, hR⟩ := H
  rw [m_isWord (A := upA A0 60 f) hi hn hb hT z1]
  by_cases c1 : isW b i t = true
  · rw [if_pos ⟨z0, c1⟩, if_pos c1]
  · rw [if_neg (fun h => c1 h.2), if_neg c1]
theorem MG.o (H : MG A0 Z0 B Q P F q D c b n h t row) : ∃ x, gO h 57 12 = some x := by
  obtain ⟨f, Z, rfl, _⟩ := H
  exact ⟨_, gO_57⟩
theorem MB.o {f : Fl} (H : MB A0 Z0 B Q P F q D c h f) : ∃ x, gO h 57 12 = some x := by
  obtain ⟨f, Z, rfl, _⟩ := H
  exact ⟨_, gO_57⟩
theorem mg_took {i : Nat} (hi : i < 18) (hn : n ≤ 800) (h20 : Z0 20 = nI n) (hb : ∀ k, k < n → A0 62 k = nI (b k) ∧ b k < 256) (H : MG A0 Z0 B Q P F q D c b n h t row) : (isW b i t = true → ∃ h', f_X12_took h 57 (xS0 + 2 * i) = some (nI 1, h') ∧ MG A0 Z0 B Q P F q D c b n h' (adv b n t) row) ∧ (isW b i t = false → f_X12_took h 57 (xS0 + 2 * i) = some (nI 0, h)) := by
  obtain ⟨x, ho⟩ := H.o
  unfold f_X12_took
  rw [ho, Option.bind_some, mg_isW hi hn hb H, Option.bind_some]
  constructor
  · intro hw
    obtain ⟨h', e1, g1⟩ := mg_reads hn h20 hb H
    refine ⟨h', ?_, g1⟩
    rw [if_pos hw, if_neg (by decide), Option.bind_some, e1, Option.bind_some, if_pos (by decide)]
  · intro hw
    rw [hw, if_pos (by decide), if_pos (by decide)]
    rfl
theorem mb_took {i : Nat} {f : Fl} (hi : i < 18) (H : MB A0 Z0 B Q P F q D c h f) : f_X12_took h 57 (xS0 + 2 * i) = some (nI 0, h) := by
  obtain ⟨g, Z, rfl, o1, z1, z2, k1, k2⟩ := H
  have e1 : f_X12_isWord (HH (upA A0 60 g) Z B Q P F q D c) 57 (xS0 + 2 * i) = some (nI 0) := by
    unfold f_X12_isWord
    rw [gf_57_12, Option.bind_some, if_neg (MB.ne z1 k1 k2)]
    unfold f_X12_isWord_35 f_X12_isWord_36
    rw [show xFU = (xFU - 1) + 1 from rfl, f_X12_isWord_39]
    rfl
  unfold f_X12_took
  rw [gO_57, Option.bind_some, e1, Option.bind_some, if_pos (by decide), if_pos (by decide)]
end MOps
