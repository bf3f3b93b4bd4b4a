/-! ===== the reference's ones; laws of pc ===== -/
theorem pc_add {a y : Nat} (ha : a < 2) (hy : y < 2 ^ 63) : pc (a + 2 * y) = a + pc y := by
  have h1 := fb_ct_add (k := 1) (a := a) (y := y) ha 63
  have h2 : pc y = fb_ct (fun i => y.testBit i) 63 := pc_eq (by decide) hy
  unfold pc at *
  have h3 : fb_ct (fun i => a.testBit i) 1 = a := by
    have : a = 0 ∨ a = 1 := by omega
    rcases this with rfl | rfl <;> rfl
  rw [h3, ← h2] at h1
  exact h1
theorem and_pred : ∀ n : Nat, 0 < n → n < 2 ^ 63 → pc (n &&& (n - 1)) + 1 = pc n ∧ n &&& (n - 1) < n := by
  intro n
  induction n using Nat.strongRecOn with
  | ind n ih =>
    intro h0 h1
    obtain ⟨m, hm⟩ : ∃ m, n = 2 * m ∨ n = 2 * m + 1 := ⟨n / 2, by omega⟩
    rcases hm with hm | hm
    · have hm0 : 0 < m := by omega
      obtain ⟨i1, i2⟩ := ih m (by omega) hm0 (by omega)
      have e1 : n = 0 + 2 ^ 1 * m := by omega
      have e2 : n - 1 = 1 + 2 ^ 1 * (m - 1) := by omega
      have e3 : n &&& (n - 1) = 0 + 2 ^ 1 * (m &&& (m - 1)) := by
        rw [e2]
        conv => lhs; lhs; rw [e1]
        exact and_split (k := 1) (by decide) (by decide)
      have e4 : m &&& (m - 1) < 2 ^ 63 := by omega
      rw [e3]
      have p1 := pc_add (a := 0) (y := m &&& (m - 1)) (by decide) e4
      have p2 := pc_add (a := 0) (y := m) (by decide) (by omega)
      have e5 : n = 0 + 2 * m := by omega
      rw [e5]
      refine ⟨?_, by omega⟩
      rw [p2]
      show pc (0 + 2 * (m &&& (m - 1))) + 1 = _
      rw [p1]
      omega
    · have e1 : n = 1 + 2 ^ 1 * m := by omega
      have e2 : n - 1 = 0 + 2 ^ 1 * m := by omega
      have e3 : n &&& (n - 1) = 0 + 2 ^ 1 * (m &&& m) := by
        rw [e2]
        conv => lhs; lhs; rw [e1]
        exact and_split (k := 1) (by decide) (by decide)
      rw [Nat.and_self] at e3
      rw [e3]
      have p1 := pc_add (a := 0) (y := m) (by decide) (by omega)
      have p2 := pc_add (a := 1) (y := m) (by decide) (by omega)
      have e5 : n = 1 + 2 * m := by omega
      refine ⟨?_, by omega⟩
      rw [e5, p2]
      show pc (0 + 2 * m) + 1 = _
      rw [p1]
      omega
theorem pc_le (n : Nat) : pc n ≤ 64 := fb_ct_le _ 64
theorem pc_zero {n : Nat} (h : n < 2 ^ 64) : pc n = 0 ↔ n = 0 := by
  constructor
  · intro e
    apply n_zero
    intro i
    by_cases hi : i < 64
    · exact fb_ct_zero.mp e i hi
    · exact n_lt_bits h (by omega)
  · rintro rfl; exact pc_0
theorem ones_loop (h : xH) : ∀ (j n f : Nat) (a : Nat), n < 2 ^ 31 → pc n = j → j < f → f_X12_ones_4 h f (nI a) (nI n) = some (nI (a + j)) := by
  intro j
  induction j with
  | zero =>
    intro n f a hn hp hf
    obtain ⟨m, rfl⟩ : ∃ m, f = m + 1 := ⟨f - 1, by omega⟩
    have : n = 0 := (pc_zero (by omega)).mp hp
    subst this
    rw [f_X12_ones_4, if_pos nI_0]
    rfl
  | succ j ih =>
    intro n f a hn hp hf
    obtain ⟨m, rfl⟩ : ∃ m, f = m + 1 := ⟨f - 1, by omega⟩
    have h0 : 0 < n := by
      rcases Nat.eq_zero_or_pos n with e | e
      · subst e; rw [pc_0] at hp; omega
      · exact e
    obtain ⟨p1, p2⟩ := and_pred n h0 (by omega)
    rw [f_X12_ones_4, if_neg (by rw [n_z hn]; omega), nI_1, show nI n - (1 : Int32) = nI (n - 1) from pk_sub (b := 1) h0, fa_and]
    rw [ih (n &&& (n - 1)) m (a + 1) (by omega) (by omega) (by omega)]
    congr 2
    omega
theorem ones_spec (h : xH) {n : Nat} (hn : n < 2 ^ 31) : f_X12_ones h (nI n) = some (nI (pc n)) := by
  unfold f_X12_ones
  have := ones_loop h (pc n) n xFU 0 hn rfl (Nat.lt_of_le_of_lt (pc_le n) (by decide))
  rw [Nat.zero_add] at this
  exact this
