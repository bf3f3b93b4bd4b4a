/-! ===== owed: factorials, divisors, savings grow ===== -/
def fct : Nat → Nat
  | 0 => 1
  | n + 1 => (n + 1) * fct n
theorem fct_pos : ∀ n, 0 < fct n
  | 0 => by decide
  | n + 1 => by rw [fct]; exact Nat.mul_pos (Nat.succ_pos n) (fct_pos n)
theorem fct_le : ∀ n, n < 11 → fct n ≤ 3628800 := by decide
theorem fct_two : ∀ a, a < 10 → ∀ b, b < 10 → a + b ≤ 9 → fct a * fct b ≤ 362880 := by decide
theorem L_wide {a : Nat} (h : a < 2147483648) : (nI a).toInt64 = lN a := by
  rw [fa_eq64, Int32.toInt_toInt64, nI_toInt h, pf_lI (by omega)]
theorem fct_step {j : Nat} (h0 : 0 < j) : fct (j - 1) * j = fct (j + 1 - 1) := by
  obtain ⟨i, rfl⟩ : ∃ i, j = i + 1 := ⟨j - 1, by omega⟩
  show fct i * (i + 1) = fct (i + 1)
  rw [fct, Nat.mul_comm]
theorem c_fctl (h : xH) : ∀ k j n N, j + k = n + 1 → k < N → n < 100 → 0 < j → f_X11_factorial_4 h N (nI n) (lN (fct (j - 1))) (nI j) = some (lN (fct n))
  | 0, j, n, N, hj, hN, hn, h0 => by
    obtain ⟨m, rfl⟩ : ∃ m, N = m + 1 := ⟨N - 1, by omega⟩
    have e : j = n + 1 := by omega
    subst e
    rw [f_X11_factorial_4, if_pos (by rw [y_lt (by omega) (by omega)]; omega), Nat.add_sub_cancel]
  | k + 1, j, n, N, hj, hN, hn, h0 => by
    obtain ⟨m, rfl⟩ : ∃ m, N = m + 1 := ⟨N - 1, by omega⟩
    rw [f_X11_factorial_4, if_neg (by rw [y_lt (by omega) (by omega)]; omega), L_wide (by omega), lN_mul, nI_1, fct_step h0]
    exact c_fctl h k (j + 1) n m (by omega) (by omega) hn (by omega)
theorem c_factorial (h : xH) {n : Nat} (hn : n < 100) : f_X11_factorial h (nI n) = some (lN (fct n)) := by
  unfold f_X11_factorial
  cases n with
  | zero =>
    obtain ⟨m, hm⟩ : ∃ m, xFU = m + 1 := ⟨999999, rfl⟩
    rw [hm, f_X11_factorial_4, if_pos (by decide)]
    rfl
  | succ n =>
    exact c_fctl h n 2 (n + 1) xFU (by omega) (by unfold xFU; omega) hn (by decide)
theorem m_fctl (h : xH) : ∀ k j n N, j + k = n + 1 → k < N → n < 100 → 0 < j → f_X12_orders_4 h N (nI n) (lN (fct (j - 1))) (nI j) = some (lN (fct n))
  | 0, j, n, N, hj, hN, hn, h0 => by
    obtain ⟨m, rfl⟩ : ∃ m, N = m + 1 := ⟨N - 1, by omega⟩
    have e : j = n + 1 := by omega
    subst e
    rw [f_X12_orders_4, if_pos (by rw [y_lt (by omega) (by omega)]; omega), Nat.add_sub_cancel]
  | k + 1, j, n, N, hj, hN, hn, h0 => by
    obtain ⟨m, rfl⟩ : ∃ m, N = m + 1 := ⟨N - 1, by omega⟩
    rw [f_X12_orders_4, if_neg (by rw [y_lt (by omega) (by omega)]; omega), L_wide (by omega), lN_mul, nI_1, fct_step h0]
    exact m_fctl h k (j + 1) n m (by omega) (by omega) hn (by omega)
theorem m_orders (h : xH) {n : Nat} (hn : n < 100) : f_X12_orders h (nI n) = some (lN (fct n)) := by
  unfold f_X12_orders
  cases n with
  | zero =>
    obtain ⟨m, hm⟩ : ∃ m, xFU = m + 1 := ⟨999999, rfl⟩
    rw [hm, f_X12_orders_4, if_pos (by decide)]
    rfl
  | succ n =>
    exact m_fctl h n 2 (n + 1) xFU (by omega) (by unfold xFU; omega) hn (by decide)
theorem gcd_st (a b : Nat) : Nat.gcd a b = Nat.gcd b (a % b) := by
  rw [Nat.gcd_comm a b, Nat.gcd_rec b a, Nat.gcd_comm]
theorem mod_half {b x k : Nat} (h0 : 0 < x) (hx : x < b) (hb : b < 2 ^ (k + 1)) : b % x < 2 ^ k := by
  have e : 2 ^ (k + 1) = 2 * 2 ^ k := by rw [Nat.pow_succ, Nat.mul_comm]
  have h1 := Nat.mod_lt b h0
  by_cases h : x ≤ 2 ^ k
  · omega
  · have h2 : b % x ≤ b - x := by
      rw [Nat.mod_eq_sub_mod (by omega)]
      exact Nat.mod_le _ _
    omega
theorem cmp_z {b : Nat} (hb : b < 9223372036854775808) : (lg_cmp (lN b) (0 : Int64) = 0) = (b = 0) := by
  apply propext
  constructor
  · intro e
    rcases Nat.eq_zero_or_pos b with h | h
    · exact h
    · exfalso
      have h1 : 0 < lg_cmp (lN b) (0 : Int64) := by
        rw [lg_cmp_gt, fa_lt64, pf_lI hb, show (0 : Int64).toInt = 0 from rfl]
        omega
      rw [e] at h1
      exact absurd h1 (by decide)
  · rintro rfl
    exact cmp_self _
theorem rmJ_N {a b : Nat} (ha : a < 9223372036854775808) (h0 : 0 < b) (hb : b < 9223372036854775808) : rmJ (lN a) (lN b) = some (lN (a % b)) := by
  unfold rmJ
  rw [if_neg, pk_lRem ha h0 hb]
  intro e
  have := (pk_lEQ (b := 0) hb (by decide)).mp e
  omega
theorem dvJ_N {a b : Nat} (ha : a < 9223372036854775808) (h0 : 0 < b) (hb : b < 9223372036854775808) : dvJ (lN a) (lN b) = some (lN (a / b)) := by
  unfold dvJ
  rw [if_neg, pk_lDiv ha h0 hb]
  intro e
  have := (pk_lEQ (b := 0) hb (by decide)).mp e
  omega
theorem c_gcds (h : xH) {a b i N : Nat} (ha : a < 9223372036854775808) (h0 : 0 < b) (hb : b < 9223372036854775808) (hi : i < 100) : f_X11_commonDivisor_9 h (N + 1) (lN a) (lN b) (nI i) = f_X11_commonDivisor_9 h N (lN b) (lN (a % b)) (nI (i + 1)) := by
  rw [f_X11_commonDivisor_9, if_neg (by rw [show (100 : Int32) = nI 100 from rfl, y_le (by omega) (by omega)]; omega), if_neg (by rw [cmp_z hb]; omega), rmJ_N ha h0 hb, Option.bind_some, nI_1]
theorem c_gcdz (h : xH) {a i N : Nat} (hi : i < 1000) : f_X11_commonDivisor_9 h (N + 1) (lN a) (lN 0) (nI i) = some (lN a) := by
  rw [f_X11_commonDivisor_9]
  by_cases e : 100 ≤ i
  · rw [if_pos (by rw [show (100 : Int32) = nI 100 from rfl, y_le (by omega) (by omega)]; exact e)]
  · rw [if_neg (by rw [show (100 : Int32) = nI 100 from rfl, y_le (by omega) (by omega)]; exact e), if_pos (by rw [cmp_z (by decide)])]
theorem c_gcd (h : xH) : ∀ k a b i N, b < 2 ^ k → k ≤ 30 → a < 9223372036854775808 → 2 * k + i < 100 → 2 * k + 1 < N → f_X11_commonDivisor_9 h N (lN a) (lN b) (nI i) = some (lN (Nat.gcd a b))
  | 0, a, b, i, N, hb, hk, ha, hi, hN => by
    have e : b = 0 := by rw [Nat.pow_zero] at hb; omega
    subst e
    obtain ⟨m, rfl⟩ : ∃ m, N = m + 1 := ⟨N - 1, by omega⟩
    rw [c_gcdz h (by omega), Nat.gcd_zero_right]
  | k + 1, a, b, i, N, hb, hk, ha, hi, hN => by
    obtain ⟨m, rfl⟩ : ∃ m, N = m + 1 := ⟨N - 1, by omega⟩
    have hp : 2 ^ (k + 1) ≤ 2 ^ 30 := n_pwl hk
    rcases Nat.eq_zero_or_pos b with e | h0
    · subst e
      rw [c_gcdz h (by omega), Nat.gcd_zero_right]
    · rw [c_gcds h ha h0 (by omega) (by omega), gcd_st a b]
      obtain ⟨m2, rfl⟩ : ∃ m2, m = m2 + 1 := ⟨m - 1, by omega⟩
      have hr := Nat.mod_lt a h0
      rcases Nat.eq_zero_or_pos (a % b) with e | h1
      · rw [e, c_gcdz h (by omega), Nat.gcd_zero_right]
      · rw [c_gcds h (by omega) h1 (by omega) (by omega), gcd_st b (a % b)]
        exact c_gcd h k (a % b) (b % (a % b)) (i + 1 + 1) m2 (mod_half h1 hr hb) (by omega) (by omega) (by omega) (by omega)
theorem m_gcds (h : xH) {a b N : Nat} (ha : a < 9223372036854775808) (h0 : 0 < b) (hb : b < 9223372036854775808) : f_X12_divisor_6 h (N + 1) (lN a) (lN b) = f_X12_divisor_6 h N (lN b) (lN (a % b)) := by
  rw [f_X12_divisor_6, if_neg (by rw [cmp_z hb]; omega), rmJ_N ha h0 hb, Option.bind_some]
theorem m_gcdz (h : xH) {a N : Nat} : f_X12_divisor_6 h (N + 1) (lN a) (lN 0) = some (lN a) := by
  rw [f_X12_divisor_6, if_pos (by rw [cmp_z (by decide)])]
theorem m_gcd (h : xH) : ∀ k a b N, b < 2 ^ k → k ≤ 30 → a < 9223372036854775808 → 2 * k + 1 < N → f_X12_divisor_6 h N (lN a) (lN b) = some (lN (Nat.gcd a b))
  | 0, a, b, N, hb, hk, ha, hN => by
    have e : b = 0 := by rw [Nat.pow_zero] at hb; omega
    subst e
    obtain ⟨m, rfl⟩ : ∃ m, N = m + 1 := ⟨N - 1, by omega⟩
    rw [m_gcdz h, Nat.gcd_zero_right]
  | k + 1, a, b, N, hb, hk, ha, hN => by
    obtain ⟨m, rfl⟩ : ∃ m, N = m + 1 := ⟨N - 1, by omega⟩
    have hp : 2 ^ (k + 1) ≤ 2 ^ 30 := n_pwl hk
    rcases Nat.eq_zero_or_pos b with e | h0
    · subst e
      rw [m_gcdz h, Nat.gcd_zero_right]
    · rw [m_gcds h ha h0 (by omega), gcd_st a b]
      obtain ⟨m2, rfl⟩ : ∃ m2, m = m2 + 1 := ⟨m - 1, by omega⟩
      have hr := Nat.mod_lt a h0
      rcases Nat.eq_zero_or_pos (a % b) with e | h1
      · rw [e, m_gcdz h, Nat.gcd_zero_right]
      · rw [m_gcds h (by omega) h1 (by omega), gcd_st b (a % b)]
        exact m_gcd h k (a % b) (b % (a % b)) m2 (mod_half h1 hr hb) (by omega) (by omega) (by omega)
/-! savings grow -/
theorem fb_sm_one {f f' : Nat → Nat} {r d : Nat} (h1 : ∀ k, k ≠ r → f' k = f k) (h2 : f' r ≤ f r + d) : ∀ n, fb_sm f' n ≤ fb_sm f n + (if r < n then d else 0)
  | 0 => by simp [fb_sm]
  | n + 1 => by
    have ih := fb_sm_one h1 h2 n
    rw [fb_sm_succ, fb_sm_succ]
    by_cases e : n = r
    · subst e
      rw [if_neg (Nat.lt_irrefl _)] at ih
      rw [if_pos (by omega)]
      omega
    · rw [h1 n e]
      by_cases h : r < n
      · rw [if_pos h] at ih
        rw [if_pos (by omega)]
        omega
      · rw [if_neg h] at ih
        rw [if_neg (by omega)]
        omega
theorem pc_bit {s r : Nat} (hr : r < 64) (h : s.testBit r = false) : pc (s ||| 2 ^ r) = pc s + 1 := by
  rw [pc_or, pc_two hr]
  apply and_z
  intro k hk
  rw [n_two]
  by_cases e : r = k
  · subst e
    rw [h] at hk
    cases hk
  · simp [e]
theorem cva_or {tt : Nat → Nat} {s l r : Nat} : cva tt (s ||| 2 ^ r) l ≤ cva tt s l + tt 6 := by
  unfold cva
  have h := fb_sm_one (r := r) (d := tt 6) (f := fun r => (if l.testBit r then tt (416 + r) else 0) + (if s.testBit r ∧ nxt tt r &&& l = 0 then tt 6 else 0)) (f' := fun k => (if l.testBit k then tt (416 + k) else 0) + (if (s ||| 2 ^ r).testBit k ∧ nxt tt k &&& l = 0 then tt 6 else 0)) (fun k hk => ?_) ?_ (tt 1)
  · split at h <;> omega
  · have e : (s ||| 2 ^ r).testBit k = s.testBit k := by
      rw [Nat.testBit_or, n_two]
      have : ¬ r = k := fun e => hk e.symm
      simp [this]
    simp only [e]
  · have h1 : (if (s ||| 2 ^ r).testBit r = true ∧ nxt tt r &&& l = 0 then tt 6 else 0) ≤ tt 6 := by split <;> omega
    show (if l.testBit r then tt (416 + r) else 0) + (if (s ||| 2 ^ r).testBit r = true ∧ nxt tt r &&& l = 0 then tt 6 else 0) ≤ (if l.testBit r then tt (416 + r) else 0) + (if s.testBit r = true ∧ nxt tt r &&& l = 0 then tt 6 else 0) + tt 6
    omega
theorem cst_or {tt : Nat → Nat} {s r : Nat} (hr : r < 64) (hb : s.testBit r = false) : cst tt (s ||| 2 ^ r) ≤ cst tt s + tt 6 := by
  have e1 : tt 6 * pc (s ||| 2 ^ r) = tt 6 * pc s + tt 6 := by rw [pc_bit hr hb, Nat.mul_add, Nat.mul_one]
  have e2 := cst_le (tt := tt) (s ||| 2 ^ r)
  rcases minf_get (f := fun l => if l &&& s = l then cva tt s l else tt 6 * pc s) (top := tt 6 * pc s) (2 ^ tt 1) with h | ⟨l, hl, h⟩
  · have h3 : cst tt s = tt 6 * pc s := h
    omega
  · have h3 : cst tt s = if l &&& s = l then cva tt s l else tt 6 * pc s := h
    by_cases hs : l &&& s = l
    · rw [if_pos hs] at h3
      have hs2 : l &&& (s ||| 2 ^ r) = l := by
        rw [Nat.and_or_distrib_left, hs]
        exact n_ext (fun i => by
          rw [Nat.testBit_or, Nat.testBit_and]
          cases l.testBit i <;> simp)
      have h4 := minf_le (f := fun l => if l &&& (s ||| 2 ^ r) = l then cva tt (s ||| 2 ^ r) l else tt 6 * pc (s ||| 2 ^ r)) (top := tt 6 * pc (s ||| 2 ^ r)) hl
      have h5 : cst tt (s ||| 2 ^ r) ≤ if l &&& (s ||| 2 ^ r) = l then cva tt (s ||| 2 ^ r) l else tt 6 * pc (s ||| 2 ^ r) := h4
      rw [if_pos hs2] at h5
      have h6 := cva_or (tt := tt) (s := s) (l := l) (r := r)
      omega
    · rw [if_neg hs] at h3
      omega
theorem sav_mono {tt : Nat → Nat} {s r : Nat} (hr : r < 64) (hb : s.testBit r = false) : sav tt s ≤ sav tt (s ||| 2 ^ r) := by
  have h1 := cst_or (tt := tt) hr hb
  have h2 := cst_le (tt := tt) s
  have e1 : tt 6 * pc (s ||| 2 ^ r) = tt 6 * pc s + tt 6 := by rw [pc_bit hr hb, Nat.mul_add, Nat.mul_one]
  unfold sav
  omega
/-- what is owed to r over all orders, by the sets below j -/
def osm (tt : Nat → Nat) (r : Nat) : Nat → Nat
  | 0 => 0
  | j + 1 => if j.testBit r then osm tt r j else osm tt r j + fct (pc j) * fct (tt 1 - 1 - pc j) * (sav tt (j ||| 2 ^ r) - sav tt j)
theorem pc_out {n j r : Nat} (hn : n ≤ 16) (hr : r < n) (hj : j < 2 ^ n) (hb : j.testBit r = false) : pc j ≤ n - 1 := by
  have h1 := pc_bit (s := j) (r := r) (by omega) hb
  have h2 : pc (j ||| 2 ^ r) ≤ n := pc_le_n (by omega) (n_or_lt hj (n_pw hr))
  omega
theorem osm_le {tt : Nat → Nat} {r : Nat} (hW : HWf tt) (h10 : tt 1 ≤ 10) (hr : r < tt 1) : ∀ j, j ≤ 2 ^ tt 1 → osm tt r j ≤ j * 30000000000
  | 0, _ => by simp [osm]
  | j + 1, hj => by
    have ih := osm_le hW h10 hr j (by omega)
    rw [osm]
    cases hb : j.testBit r
    · rw [if_neg (by decide)]
      have hp := pc_out (by omega) hr (show j < 2 ^ tt 1 by omega) hb
      have h1 := fct_two (pc j) (by omega) (tt 1 - 1 - pc j) (by omega) (by omega)
      have h2 := sav_lt hW (j ||| 2 ^ r)
      have h3 : fct (pc j) * fct (tt 1 - 1 - pc j) * (sav tt (j ||| 2 ^ r) - sav tt j) ≤ 362880 * 64000 := Nat.mul_le_mul h1 (by omega)
      omega
    · rw [if_pos rfl]
      exact Nat.le_trans ih (Nat.mul_le_mul_right _ (Nat.le_succ j))
