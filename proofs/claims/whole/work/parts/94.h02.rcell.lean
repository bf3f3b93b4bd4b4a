/-! ===== round: the cells of Rounds ===== -/
/-- only the cells of Rounds at a may differ -/
def DR (a : Nat) (D D' : List xC) : Prop := D'.length = D.length ∧ ∀ k, (k < a ∨ a + 4 ≤ k) → HC D' k = HC D k
def RD (wl : List Value) (D : List xC) (a R : Nat) (pf af qf : Nat → Int32) (qd : Nat) : Prop := 77 ≤ a ∧ (1 ≤ R ∧ R ≤ 12) ∧ HC D a = some (.inr (8, .int (nI R) :: .ref (a + 1) :: .ref (a + 2) :: .ref (a + 3) :: .int (nI qd) :: wl)) ∧ HC D (a + 1) = some (.inl (.int, 24, .inl pf)) ∧ HC D (a + 2) = some (.inl (.int, R * 2 ^ R, .inl af)) ∧ HC D (a + 3) = some (.inl (.int, R * 2 ^ R, .inl qf))
theorem DR.rf {a : Nat} {D : List xC} : DR a D D := ⟨rfl, fun _ _ => rfl⟩
theorem DR.tr {a : Nat} {D D1 D2 : List xC} (h1 : DR a D D1) (h2 : DR a D1 D2) : DR a D D2 := ⟨h2.1.trans h1.1, fun k hk => (h2.2 k hk).trans (h1.2 k hk)⟩
theorem DR_set {a j : Nat} {D : List xC} {y : xC} (ha : 77 ≤ a) (hj : j < 4) : DR a D (D.set (a + j - 77) y) := ⟨List.length_set, fun k hk => HC_ne (by omega) (by omega)⟩
theorem Ar_DR {a b n : Nat} {D D' : List xC} {g : Nat → Int32} (h : DR a D D') (hb : b < a ∨ a + 4 ≤ b) (H : Ar D b n g) : Ar D' b n g := by
  obtain ⟨f, h1, h2⟩ := H
  exact ⟨f, by rw [h.2 b hb]; exact h1, h2⟩
theorem K_out {K : Nat → Nat} {a b : Nat} (hK : ∀ j, j < 4 → K (a + j) = 5) (hb : K b ≠ 5) : b < a ∨ a + 4 ≤ b := by
  apply Classical.byContradiction
  intro h
  have := hK (b - a) (by omega)
  rw [show a + (b - a) = b by omega] at this
  exact hb this
theorem Hs_DR {K : Nat → Nat} {a q : Nat} {D D' : List xC} {tt : Nat → Nat} (hK : ∀ j, j < 4 → K (a + j) = 5) (h : DR a D D') (H : Hs K D q tt) : Hs K D' q tt := by
  obtain ⟨h0, h1, a1, a2, a3, a4, a5, a6, a7, a8, a9⟩ := H
  have n : ∀ i, i < 10 → q + i < a ∨ a + 4 ≤ q + i := fun i hi => K_out hK (by rw [h0 i hi]; decide)
  exact ⟨h0, by rw [h.2 q (n 0 (by decide))]; exact h1, Ar_DR h (n 1 (by decide)) a1, Ar_DR h (n 2 (by decide)) a2, Ar_DR h (n 3 (by decide)) a3, Ar_DR h (n 4 (by decide)) a4, Ar_DR h (n 5 (by decide)) a5, Ar_DR h (n 6 (by decide)) a6, Ar_DR h (n 7 (by decide)) a7, Ar_DR h (n 8 (by decide)) a8, Ar_DR h (n 9 (by decide)) a9⟩
theorem Lm_DR {K : Nat → Nat} {a l i : Nat} {D D' : List xC} {lk lh : Nat → Nat} (hi : i < 3) (hK : ∀ j, j < 4 → K (a + j) = 5) (h : DR a D D') (H : Lm K D l i lk lh) : Lm K D' l i lk lh := by
  obtain ⟨h0, h1, h2, h3, h4⟩ := H
  have n : ∀ k, k < 3 → l + k < a ∨ a + 4 ≤ l + k := fun k hk => K_out hK (by rw [h1 k hk]; omega)
  exact ⟨h0, h1, by rw [h.2 l (n 0 (by decide))]; exact h2, Ar_DR h (n 1 (by decide)) h3, Ar_DR h (n 2 (by decide)) h4⟩
theorem rm_le {R : Nat} (h : R ≤ 12) : R * 2 ^ R ≤ 49152 := Nat.le_trans (Nat.mul_le_mul h (n_pwl (m := 12) h)) (by decide)
section RCell
variable {A : Nat → Nat → Int32} {Z : Nat → Int32} {B : Nat → Nat → Int64} {Q : Nat → Int64} {P : Nat → Option Nat} {F : Nat → Nat → Option Nat} {q : Nat} {D : List xC} {c : Nat × Nat} {K : Nat → Nat} {tt lk lh : Nat → Nat} {R a qd : Nat} {pf af qf : Nat → Int32} {wl : List Value}
theorem rd_O (H : RD wl D a R pf af qf qd) : gO (HH A Z B Q P F q D c) a 8 = some (.int (nI R) :: .ref (a + 1) :: .ref (a + 2) :: .ref (a + 3) :: .int (nI qd) :: wl) := gO_of (h := HH A Z B Q P F q D c) (HC_get H.2.2.1)
theorem rd_R (H : RD wl D a R pf af qf qd) : gI (HH A Z B Q P F q D c) a 8 0 = some (nI R) := gI_of (h := HH A Z B Q P F q D c) (HC_get H.2.2.1) rfl
theorem rd_p (H : RD wl D a R pf af qf qd) : gR (HH A Z B Q P F q D c) a 8 1 = some (a + 1) := gR_of (h := HH A Z B Q P F q D c) (HC_get H.2.2.1) rfl
theorem rd_a (H : RD wl D a R pf af qf qd) : gR (HH A Z B Q P F q D c) a 8 2 = some (a + 2) := gR_of (h := HH A Z B Q P F q D c) (HC_get H.2.2.1) rfl
theorem rd_q (H : RD wl D a R pf af qf qd) : gR (HH A Z B Q P F q D c) a 8 3 = some (a + 3) := gR_of (h := HH A Z B Q P F q D c) (HC_get H.2.2.1) rfl
theorem rd_d (H : RD wl D a R pf af qf qd) : gI (HH A Z B Q P F q D c) a 8 4 = some (nI qd) := gI_of (h := HH A Z B Q P F q D c) (HC_get H.2.2.1) rfl
theorem rd_lp (H : RD wl D a R pf af qf qd) {k : Nat} (hk : k < 24) : ldI (HH A Z B Q P F q D c) .int (a + 1) (nI k) = some (pf k) := ldI_nI (h := HH A Z B Q P F q D c) (HC_get H.2.2.2.1) (by decide) hk
theorem rd_la (H : RD wl D a R pf af qf qd) {k : Nat} (hk : k < R * 2 ^ R) : ldI (HH A Z B Q P F q D c) .int (a + 2) (nI k) = some (af k) := ldI_nI (h := HH A Z B Q P F q D c) (HC_get H.2.2.2.2.1) (by have := rm_le H.2.1.2; omega) hk
theorem rd_lq (H : RD wl D a R pf af qf qd) {k : Nat} (hk : k < R * 2 ^ R) : ldI (HH A Z B Q P F q D c) .int (a + 3) (nI k) = some (qf k) := ldI_nI (h := HH A Z B Q P F q D c) (HC_get H.2.2.2.2.2) (by have := rm_le H.2.1.2; omega) hk
theorem rd_np (H : RD wl D a R pf af qf qd) : aln (HH A Z B Q P F q D c) (a + 1) = some (nI 24) := aln_of (h := HH A Z B Q P F q D c) (HC_get H.2.2.2.1)
theorem rd_nq (H : RD wl D a R pf af qf qd) : aln (HH A Z B Q P F q D c) (a + 3) = some (nI (R * 2 ^ R)) := aln_of (h := HH A Z B Q P F q D c) (HC_get H.2.2.2.2.2)
theorem rd_sp (H : RD wl D a R pf af qf qd) {k : Nat} {x : Int32} (hk : k < 24) : ∃ D', stI (HH A Z B Q P F q D c) .int (a + 1) (nI k) x = some (HH A Z B Q P F q D' c) ∧ DR a D D' ∧ RD wl D' a R (va_up pf k x) af qf qd := by
  obtain ⟨h0, hR, h1, h2, h3, h4⟩ := H
  refine ⟨D.set (a + 1 - 77) (.inl (.int, 24, .inl (va_up pf k x))), ?_, DR_set h0 (by decide), h0, hR, ?_, ?_, ?_, ?_⟩
  · rw [stI_nI (h := HH A Z B Q P F q D c) (HC_get h2) (by decide) hk, LL_set (by omega)]
  · rw [HC_ne (by omega) (by omega)]; exact h1
  · exact HC_se (by omega) h2
  · rw [HC_ne (by omega) (by omega)]; exact h3
  · rw [HC_ne (by omega) (by omega)]; exact h4
theorem rd_sa (H : RD wl D a R pf af qf qd) {k : Nat} {x : Int32} (hk : k < R * 2 ^ R) : ∃ D', stI (HH A Z B Q P F q D c) .int (a + 2) (nI k) x = some (HH A Z B Q P F q D' c) ∧ DR a D D' ∧ RD wl D' a R pf (va_up af k x) qf qd := by
  obtain ⟨h0, hR, h1, h2, h3, h4⟩ := H
  have := rm_le hR.2
  refine ⟨D.set (a + 2 - 77) (.inl (.int, R * 2 ^ R, .inl (va_up af k x))), ?_, DR_set h0 (by decide), h0, hR, ?_, ?_, ?_, ?_⟩
  · rw [stI_nI (h := HH A Z B Q P F q D c) (HC_get h3) (by omega) hk, LL_set (by omega)]
  · rw [HC_ne (by omega) (by omega)]; exact h1
  · rw [HC_ne (by omega) (by omega)]; exact h2
  · exact HC_se (by omega) h3
  · rw [HC_ne (by omega) (by omega)]; exact h4
theorem rd_sq (H : RD wl D a R pf af qf qd) {k : Nat} {x : Int32} (hk : k < R * 2 ^ R) : ∃ D', stI (HH A Z B Q P F q D c) .int (a + 3) (nI k) x = some (HH A Z B Q P F q D' c) ∧ DR a D D' ∧ RD wl D' a R pf af (va_up qf k x) qd := by
  obtain ⟨h0, hR, h1, h2, h3, h4⟩ := H
  have := rm_le hR.2
  refine ⟨D.set (a + 3 - 77) (.inl (.int, R * 2 ^ R, .inl (va_up qf k x))), ?_, DR_set h0 (by decide), h0, hR, ?_, ?_, ?_, ?_⟩
  · rw [stI_nI (h := HH A Z B Q P F q D c) (HC_get h4) (by omega) hk, LL_set (by omega)]
  · rw [HC_ne (by omega) (by omega)]; exact h1
  · rw [HC_ne (by omega) (by omega)]; exact h2
  · rw [HC_ne (by omega) (by omega)]; exact h3
  · exact HC_se (by omega) h4
theorem rd_sd (H : RD wl D a R pf af qf qd) (x : Nat) : ∃ D', pF (HH A Z B Q P F q D c) a 8 4 (.int (nI x)) = some (HH A Z B Q P F q D' c) ∧ DR a D D' ∧ RD wl D' a R pf af qf x := by
  obtain ⟨h0, hR, h1, h2, h3, h4⟩ := H
  refine ⟨D.set (a + 0 - 77) (.inr (8, .int (nI R) :: .ref (a + 1) :: .ref (a + 2) :: .ref (a + 3) :: .int (nI x) :: wl)), ?_, DR_set h0 (by decide), h0, hR, ?_, ?_, ?_, ?_⟩
  · rw [pF_of (h := HH A Z B Q P F q D c) (HC_get h1) (by show 4 < wl.length + 5; omega), LL_set (by omega)]
    rfl
  · exact HC_se (by omega) h1
  · rw [HC_ne (by omega) (by omega)]; exact h2
  · rw [HC_ne (by omega) (by omega)]; exact h3
  · rw [HC_ne (by omega) (by omega)]; exact h4
/-- the house, the first room, the steps that are kept -/
theorem rd_sw (H : RD wl D a R pf af qf qd) {k : Nat} (hk : k < wl.length) (v : Value) : ∃ D', pF (HH A Z B Q P F q D c) a 8 (k + 5) v = some (HH A Z B Q P F q D' c) ∧ DR a D D' ∧ RD (wl.set k v) D' a R pf af qf qd := by
  obtain ⟨h0, hR, h1, h2, h3, h4⟩ := H
  refine ⟨D.set (a + 0 - 77) (.inr (8, .int (nI R) :: .ref (a + 1) :: .ref (a + 2) :: .ref (a + 3) :: .int (nI qd) :: wl.set k v)), ?_, DR_set h0 (by decide), h0, hR, ?_, ?_, ?_, ?_⟩
  · rw [pF_of (h := HH A Z B Q P F q D c) (HC_get h1) (by show k + 5 < wl.length + 5; omega), LL_set (by omega)]
    rfl
  · exact HC_se (by omega) h1
  · rw [HC_ne (by omega) (by omega)]; exact h2
  · rw [HC_ne (by omega) (by omega)]; exact h3
  · rw [HC_ne (by omega) (by omega)]; exact h4
theorem rd_w {wk : Option Nat} (H : RD (va_rf wk :: wl) D a R pf af qf qd) : gN (HH A Z B Q P F q D c) a 8 5 = some wk := by
  unfold gN
  rw [rd_O H]
  cases wk <;> rfl
theorem rd_f {x : Value} {wf : Int32} (H : RD (x :: .int wf :: wl) D a R pf af qf qd) : gI (HH A Z B Q P F q D c) a 8 6 = some wf := gI_of (h := HH A Z B Q P F q D c) (HC_get H.2.2.1) rfl
theorem rd_s {x y : Value} {ws : Int32} (H : RD (x :: y :: .int ws :: wl) D a R pf af qf qd) : gI (HH A Z B Q P F q D c) a 8 7 = some ws := gI_of (h := HH A Z B Q P F q D c) (HC_get H.2.2.1) rfl
/-- a state comes into the queue, if it isn't there -/
theorem rd_enter (H : RD wl D a R pf af qf qd) {x I : Nat} (hx : x < R * 2 ^ R) (hq : qd < R * 2 ^ R) (ha : af x = nI 0) : ∃ D', f_X8_enter (HH A Z B Q P F q D c) a (nI x) (nI I) = some (HH A Z B Q P F q D' c) ∧ DR a D D' ∧ RD wl D' a R pf (va_up af x (nI (I + 1))) (va_up qf qd (nI x)) (qd + 1) := by
  have hm := rm_le H.2.1.2
  obtain ⟨D1, e1, d1, H1⟩ := rd_sa (A := A) (Z := Z) (B := B) (Q := Q) (P := P) (F := F) (q := q) (c := c) H (x := nI (I + 1)) hx
  obtain ⟨D2, e2, d2, H2⟩ := rd_sq (A := A) (Z := Z) (B := B) (Q := Q) (P := P) (F := F) (q := q) (c := c) H1 (x := nI x) hq
  obtain ⟨D3, e3, d3, H3⟩ := rd_sd (A := A) (Z := Z) (B := B) (Q := Q) (P := P) (F := F) (q := q) (c := c) H2 (qd + 1)
  refine ⟨D3, ?_, (d1.tr d2).tr d3, H3⟩
  unfold f_X8_enter
  rw [rd_a H, Option.bind_some, rd_la H hx, Option.bind_some, ha, if_pos (by decide), rd_d H, Option.bind_some, rd_q H, Option.bind_some, rd_nq H, Option.bind_some, if_neg (by rw [y_le (by omega) (by omega)]; omega), Option.bind_some, nI_1, e1, Option.bind_some, rd_q H1, Option.bind_some, rd_d H1, Option.bind_some, e2, Option.bind_some, rd_d H2, Option.bind_some, nI_1, e3, Option.bind_some]
theorem rd_enter0 (H : RD wl D a R pf af qf qd) {x I : Nat} (hx : x < R * 2 ^ R) (ha : af x ≠ nI 0) : f_X8_enter (HH A Z B Q P F q D c) a (nI x) (nI I) = some (HH A Z B Q P F q D c) := by
  unfold f_X8_enter
  rw [rd_a H, Option.bind_some, rd_la H hx, Option.bind_some, if_neg (show ¬ af x = 0 from ha)]
end RCell
