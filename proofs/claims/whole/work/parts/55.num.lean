/-! ===== numbers: sets of small numbers, shifts, masks ===== -/
theorem n_m1 : (-1 : Int32) = nI 4294967295 := rfl
theorem n_pw {k m : Nat} (h : k < m) : 2 ^ k < 2 ^ m := Nat.pow_lt_pow_right (by decide) h
theorem n_pwl {k m : Nat} (h : k ≤ m) : 2 ^ k ≤ 2 ^ m := Nat.pow_le_pow_right (by decide) h
theorem n_shl {k : Nat} (hk : k < 31) : (1 : Int32) <<< (nI k &&& 31) = nI (2 ^ k) := by
  have h := pk_shlN (n := 1) (nI k &&& 31) k (s_l k (by omega)) (by rw [Nat.one_mul]; exact n_pw (by omega))
  rw [Nat.one_mul] at h
  exact h
theorem n_shr {n k : Nat} (hn : n < 2 ^ 31) (hk : k < 32) : nI n >>> (nI k &&& 31) = nI (n / 2 ^ k) := pk_shrN hn (nI k &&& 31) k (s_l k hk)
theorem n_and1 (n : Nat) : nI n &&& 1 = nI (n % 2) := fa_mask n 1
theorem n_bit {n k : Nat} (hn : n < 2 ^ 31) (hk : k < 32) : (nI n >>> (nI k &&& 31)) &&& 1 = if n.testBit k then 1 else 0 := by
  rw [n_shr hn hk, n_and1, Nat.testBit_eq_decide_div_mod_eq]
  have h : n / 2 ^ k % 2 < 2 := Nat.mod_lt _ (by decide)
  by_cases e : n / 2 ^ k % 2 = 1
  · rw [e]; simp; rfl
  · have e0 : n / 2 ^ k % 2 = 0 := by omega
    rw [e0]; simp; rfl
theorem n_bit1 {n k : Nat} (hn : n < 2 ^ 31) (hk : k < 32) : ((nI n >>> (nI k &&& 31)) &&& 1 = 1) ↔ n.testBit k = true := by
  rw [n_bit hn hk]
  cases n.testBit k <;> simp
theorem n_bit0 {n k : Nat} (hn : n < 2 ^ 31) (hk : k < 32) : ((nI n >>> (nI k &&& 31)) &&& 1 = 0) ↔ n.testBit k = false := by
  rw [n_bit hn hk]
  cases n.testBit k <;> simp
/-- what is in a and not in b -/
def sdf (a b : Nat) : Nat := a ^^^ (a &&& b)
theorem sdf_bit (a b i : Nat) : (sdf a b).testBit i = (a.testBit i && !b.testBit i) := by
  unfold sdf
  rw [Nat.testBit_xor, Nat.testBit_and]
  cases a.testBit i <;> cases b.testBit i <;> rfl
theorem n_bits_lt {a k : Nat} (h : ∀ i, k ≤ i → a.testBit i = false) : a < 2 ^ k := Nat.lt_pow_two_of_testBit _ h
theorem n_lt_bits {a k i : Nat} (h : a < 2 ^ k) (hi : k ≤ i) : a.testBit i = false := Nat.testBit_lt_two_pow (Nat.lt_of_lt_of_le h (n_pwl hi))
theorem sdf_lt {a b k : Nat} (h : a < 2 ^ k) : sdf a b < 2 ^ k := n_bits_lt (fun i hi => by rw [sdf_bit, n_lt_bits h hi]; rfl)
theorem n_or_lt {a b k : Nat} (h : a < 2 ^ k) (h2 : b < 2 ^ k) : a ||| b < 2 ^ k := Nat.or_lt_two_pow h h2
theorem n_and_ltl {a b k : Nat} (h : a < 2 ^ k) : a &&& b < 2 ^ k := n_bits_lt (fun i hi => by rw [Nat.testBit_and, n_lt_bits h hi]; rfl)
theorem n_and_ltr {a b k : Nat} (h : b < 2 ^ k) : a &&& b < 2 ^ k := n_bits_lt (fun i hi => by rw [Nat.testBit_and, n_lt_bits h hi]; exact Bool.and_false _)
theorem n_all (i : Nat) : (4294967295 : Nat).testBit i = decide (i < 32) := by
  have := Nat.testBit_two_pow_sub_one 32 i
  exact this
theorem n_andn {a b : Nat} (ha : a < 2 ^ 32) : nI a &&& (nI b ^^^ (-1)) = nI (sdf a b) := by
  rw [n_m1, fb_xorI, fa_and]
  congr 1
  apply Nat.eq_of_testBit_eq
  intro i
  rw [sdf_bit, Nat.testBit_and, Nat.testBit_xor, n_all]
  by_cases hi : i < 32
  · simp [hi]
  · rw [n_lt_bits ha (by omega)]; rfl
theorem n_all1 {k : Nat} (hk : k < 31) : ((1 : Int32) <<< (nI k &&& 31)) - 1 = nI (2 ^ k - 1) := by
  rw [n_shl hk]
  exact pk_sub (b := 1) (Nat.one_le_two_pow)
theorem n_or_0 (a : Nat) : a ||| 0 = a := Nat.or_zero a
theorem n_z {a : Nat} (ha : a < 2 ^ 31) : nI a = 0 ↔ a = 0 := nI_eq (b := 0) ha (by decide)
theorem n_ext {a b : Nat} (h : ∀ i, a.testBit i = b.testBit i) : a = b := Nat.eq_of_testBit_eq h
theorem n_zero {a : Nat} (h : ∀ i, a.testBit i = false) : a = 0 := n_ext (fun i => by rw [h, Nat.zero_testBit])
theorem n_nz {a : Nat} (h : a ≠ 0) : ∃ i, a.testBit i = true := Nat.exists_testBit_of_ne_zero h
theorem n_two (k i : Nat) : (2 ^ k).testBit i = decide (k = i) := Nat.testBit_two_pow
/-- the set of those below n that have p -/
def mk (p : Nat → Bool) : Nat → Nat
  | 0 => 0
  | n + 1 => mk p n ||| (if p n then 2 ^ n else 0)
theorem mk_bit (p : Nat → Bool) : ∀ n i, (mk p n).testBit i = (decide (i < n) && p i)
  | 0, i => by simp [mk]
  | n + 1, i => by
    rw [mk, Nat.testBit_or, mk_bit p n i]
    by_cases e : i = n
    · subst e
      cases hp : p i <;> simp
    · have h1 : (if p n = true then 2 ^ n else 0).testBit i = false := by
        cases hp : p n
        · simp
        · simp [n_two]; omega
      rw [h1]
      by_cases h2 : i < n
      · simp [h2, Nat.lt_succ_of_lt h2]
      · have : ¬ i < n + 1 := by omega
        simp [h2, this]
theorem mk_lt (p : Nat → Bool) (n : Nat) : mk p n < 2 ^ n := n_bits_lt (fun i hi => by rw [mk_bit]; simp; omega)
theorem mk_cong {p q : Nat → Bool} {n : Nat} (h : ∀ i, i < n → p i = q i) : mk p n = mk q n := n_ext (fun i => by
  rw [mk_bit, mk_bit]
  by_cases hi : i < n
  · rw [h i hi]
  · simp [hi])
/-- the sets g i, i < n, together -/
def orf (g : Nat → Nat) : Nat → Nat
  | 0 => 0
  | n + 1 => orf g n ||| g n
theorem orf_bit (g : Nat → Nat) (b : Nat) : ∀ n, ((orf g n).testBit b = true) ↔ ∃ i, i < n ∧ (g i).testBit b = true
  | 0 => by simp [orf]
  | n + 1 => by
    rw [orf, Nat.testBit_or, Bool.or_eq_true, orf_bit g b n]
    constructor
    · rintro (⟨i, hi, h⟩ | h)
      · exact ⟨i, by omega, h⟩
      · exact ⟨n, by omega, h⟩
    · rintro ⟨i, hi, h⟩
      by_cases e : i = n
      · subst e; exact Or.inr h
      · exact Or.inl ⟨i, by omega, h⟩
theorem orf_lt {g : Nat → Nat} {k : Nat} : ∀ {n : Nat}, (∀ i, i < n → g i < 2 ^ k) → orf g n < 2 ^ k
  | 0, _ => Nat.two_pow_pos k
  | n + 1, h => n_or_lt (orf_lt (fun i hi => h i (by omega))) (h n (by omega))
theorem orf_cong {f g : Nat → Nat} : ∀ {n : Nat}, (∀ i, i < n → f i = g i) → orf f n = orf g n
  | 0, _ => rfl
  | n + 1, h => by rw [orf, orf, orf_cong (fun i hi => h i (by omega)), h n (by omega)]
/-- a number that is not one of nI or negative -/
theorem n_cases (x : Int32) : x < 0 ∨ ∃ k : Nat, k < 2 ^ 31 ∧ x = nI k := by
  by_cases h : x < 0
  · exact Or.inl h
  · exact Or.inr (nI_of h)
theorem n_sub1 (a : Nat) : nI (a + 1) - 1 = nI a := nI_pred a
theorem w_lt (x y : Int32) : (lg_cmp x.toInt64 y.toInt64 < 0) ↔ x < y := by rw [lg_cmp_lt, fa_wide_lt]
theorem w_gt (x y : Int32) : (0 < lg_cmp x.toInt64 y.toInt64) ↔ y < x := by rw [lg_cmp_gt, fa_wide_lt]
/-- within, for ints -/
theorem within_spec (h : xH) (x a b : Int32) : f_X12_within h x.toInt64 a.toInt64 b.toInt64 = some (if a ≤ x ∧ x ≤ b then 1 else 0) := by
  unfold f_X12_within
  simp only [w_lt, w_gt]
  by_cases h1 : x < a
  · rw [if_pos h1, if_neg (fun q => (fa_of_lt h1).2.1 q.1)]
  · rw [if_neg h1]
    by_cases h2 : b < x
    · rw [if_pos h2, if_neg (fun q => (fa_of_lt h2).2.1 q.2)]
    · rw [if_neg h2, if_pos ⟨fa_of_nlt h1, fa_of_nlt h2⟩]
theorem has_spec (h : xH) {n k : Nat} (hn : n < 2 ^ 31) (hk : k < 32) : f_X12_has h (nI n) (nI k) = some (if n.testBit k then 1 else 0) := by
  unfold f_X12_has
  rw [n_bit hn hk]
  cases n.testBit k <;> rfl
