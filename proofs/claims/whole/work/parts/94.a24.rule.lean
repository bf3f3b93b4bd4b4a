/-! ===== rule, look ===== -/
/-- the rooms with a lamp by a rule -/
def rls (n p b : Nat) : Nat := mk (fun k => b.testBit (k % p)) n
/-- the rooms that aren't beside one with a lamp -/
def unl (n : Nat) (ring : Bool) (S : Nat) : Nat := mk (fun k => !((decide (0 < k) && S.testBit (k - 1)) || S.testBit (k + 1) || (ring && (decide (k = 0) && S.testBit (n - 1))) || (ring && (decide (k = n - 1) && S.testBit 0)))) n
theorem rls_lt (n p b : Nat) : rls n p b < 2 ^ n := mk_lt _ _
theorem unl_lt (n : Nat) (ring : Bool) (S : Nat) : unl n ring S < 2 ^ n := mk_lt _ _
theorem pw40 {n : Nat} (h : n ≤ 40) : 2 ^ n ≤ 2 ^ 40 := n_pwl h
theorem shl_bit (b k i : Nat) : (b * 2 ^ k).testBit i = (decide (k ≤ i) && b.testBit (i - k)) := Nat.testBit_mul_two_pow b i k
theorem orb_lt {p b : Nat} (hb : b < 2 ^ p) : ∀ j, orf (fun j => b * 2 ^ (j * p)) j < 2 ^ (j * p + p)
  | 0 => by
    rw [Nat.zero_mul, Nat.zero_add]
    exact Nat.lt_of_le_of_lt (Nat.zero_le _) hb
  | j + 1 => by
    rw [orf]
    refine n_or_lt (Nat.lt_of_lt_of_le (orb_lt hb j) (n_pwl (by rw [Nat.succ_mul]; omega))) ?_
    have h1 : b * 2 ^ (j * p) < 2 ^ p * 2 ^ (j * p) := Nat.mul_lt_mul_of_pos_right hb (Nat.two_pow_pos _)
    rw [← Nat.pow_add] at h1
    refine Nat.lt_of_lt_of_le h1 (n_pwl (by rw [Nat.succ_mul]; omega))
theorem orb_bit {p b : Nat} (hp : 0 < p) (hb : b < 2 ^ p) (i : Nat) : ∀ j, (orf (fun j => b * 2 ^ (j * p)) j).testBit i = (decide (i < j * p) && b.testBit (i % p))
  | 0 => by simp [orf]
  | j + 1 => by
    rw [orf, Nat.testBit_or, orb_bit hp hb i j, shl_bit, Nat.succ_mul]
    by_cases h1 : i < j * p
    · have h2 : ¬ j * p ≤ i := by omega
      have h3 : i < j * p + p := by omega
      simp [h1, h2, h3]
    · have h2 : j * p ≤ i := by omega
      by_cases h3 : i < j * p + p
      · have e : i - j * p = i % p := by
          have : i = i - j * p + p * j := by rw [Nat.mul_comm p j]; omega
          rw [this, Nat.add_mul_mod_self_left, Nat.mod_eq_of_lt (by omega)]
          rw [← this]
        simp [h1, h2, h3, e]
      · have e : b.testBit (i - j * p) = false := n_lt_bits hb (by omega)
        simp [h1, h2, h3, e]
theorem lN_mask {X n : Nat} (hX : X < 2 ^ 64) (hn : n ≤ 40) : lN X &&& (((1 : Int64) <<< (Int32.toInt64 (nI n) &&& 63)) - (1 : Int64)) = lN (X % 2 ^ n) := by
  have h1 := wb_shl 1 (k := n) (by omega)
  rw [Nat.one_mul] at h1
  rw [show (1 : Int64) = lN 1 from rfl, h1, lN_sub (Nat.one_le_two_pow), wb_mask hX (by omega)]
section Rule
variable {A : Nat → Nat → Int32} {Z : Nat → Int32} {B : Nat → Nat → Int64} {Q : Nat → Int64} {P : Nat → Option Nat} {F : Nat → Nat → Option Nat} {q : Nat} {D : List xC} {c : Nat × Nat} {K : Nat → Nat} {tt lk lh : Nat → Nat} {R i : Nat}
theorem c_lampsByRule (h : xH) {n p b : Nat} (hn : n ≤ 40) (hp : 0 < p) (hp8 : p ≤ 8) (hb : b < 2 ^ p) : f_X11_lampsByRule h (nI n) (nI p) (nI b) = some (lN (rls n p b)) := by
  have hb2 : b < 256 := Nat.lt_of_lt_of_le hb (n_pwl (m := 8) hp8)
  unfold f_X11_lampsByRule
  rw [if_neg (by rw [← nI_0, y_le (by omega) (by omega)]; omega)]
  obtain ⟨N, hN1, hN2, hN3⟩ : ∃ N, (∀ i, i < N → i * p < n) ∧ n ≤ N * p ∧ N ≤ 40 := by
    refine ⟨(n + p - 1) / p, fun i hi => ?_, ?_, ?_⟩
    · have h1 : (i + 1) * p ≤ (n + p - 1) / p * p := Nat.mul_le_mul_right p hi
      have h2 := Nat.div_mul_le_self (n + p - 1) p
      rw [Nat.succ_mul] at h1
      omega
    · have h1 := Nat.div_add_mod (n + p - 1) p
      have h2 := Nat.mod_lt (n + p - 1) hp
      rw [Nat.mul_comm] at h1
      omega
    · apply Nat.div_le_of_le_mul
      have : 40 * 1 ≤ 40 * p := Nat.mul_le_mul_left 40 hp
      have h3 : p * 40 = 40 * p := Nat.mul_comm _ _
      by_cases h4 : n = 0
      · omega
      · have : n + p - 1 ≤ 40 + (p - 1) := by omega
        have : 40 * p = 40 + 40 * (p - 1) := by
          obtain ⟨p', rfl⟩ : ∃ p', p = p' + 1 := ⟨p - 1, by omega⟩
          rw [Nat.mul_succ, Nat.add_sub_cancel]
          omega
        omega
  have hlt : ∀ j, j ≤ N → orf (fun j => b * 2 ^ (j * p)) j < 2 ^ 64 := fun j hj => by
    refine Nat.lt_of_lt_of_le (orb_lt hb j) (n_pwl ?_)
    by_cases h0 : j = 0
    · subst h0; omega
    · have h1 := hN1 (j - 1) (by omega)
      obtain ⟨j', rfl⟩ : ∃ j', j = j' + 1 := ⟨j - 1, by omega⟩
      rw [Nat.add_sub_cancel] at h1
      rw [Nat.succ_mul]
      omega
  have key := loop0 (F := fun m j (s : Int64) => f_X11_lampsByRule_9 h m (nI n) (nI p) (nI b) s (nI (j * p))) (N := N) (st := fun j => lN (orf (fun j => b * 2 ^ (j * p)) j)) (r := some (lN (rls n p b))) (fun m j hj => ?_) (fun m => ?_) (by omega)
  · rw [Nat.zero_mul] at key
    exact key
  · have h1 := hN1 j hj
    show f_X11_lampsByRule_9 h (m + 1) _ _ _ _ _ = f_X11_lampsByRule_9 h m _ _ _ _ _
    rw [f_X11_lampsByRule_9, if_neg (by rw [y_le (by omega) (by omega)]; omega), nI_add, nI_l (by omega), wb_shl b (by omega)]
    rw [wb_or (hlt j (by omega)) (by
      have := hlt (j + 1) (by omega)
      rw [orf] at this
      exact Nat.lt_of_le_of_lt Nat.right_le_or this)]
    rw [Nat.succ_mul]
    rfl
  · show f_X11_lampsByRule_9 h (m + 1) _ _ _ _ _ = _
    have h1 : N * p < 1000 := by
      by_cases h0 : N = 0
      · subst h0; omega
      · have h1 := hN1 (N - 1) (by omega)
        obtain ⟨j', rfl⟩ : ∃ j', N = j' + 1 := ⟨N - 1, by omega⟩
        rw [Nat.add_sub_cancel] at h1
        rw [Nat.succ_mul]
        omega
    rw [f_X11_lampsByRule_9, if_pos (by rw [y_le (by omega) (by omega)]; exact hN2)]
    unfold f_X11_lampsByRule_32
    rw [lN_mask (hlt N (Nat.le_refl _)) hn]
    congr 2
    apply n_ext
    intro i
    rw [Nat.testBit_mod_two_pow, orb_bit hp hb]
    unfold rls
    rw [mk_bit]
    by_cases hi : i < n
    · have : i < N * p := by omega
      simp [hi, this]
    · simp [hi]
theorem c_unlitBy (h : xH) {n S : Nat} (ring : Bool) (h0 : 0 < n) (hn : n ≤ 40) (hS : S < 2 ^ n) : f_X11_unlitBy h (lN S) (nI n) (if ring then 1 else 0) = some (lN (unl n ring S)) := by
  have hp := pw40 hn
  have e1 : lN S <<< (Int32.toInt64 (1 : Int32) &&& 63) = lN (S * 2) := by
    have := wb_shl S (k := 1) (by decide)
    exact this
  have e2 : (UInt64.toInt64 (Int64.toUInt64 (lN S) >>> (Int64.toUInt64 (Int32.toInt64 (1 : Int32)) &&& Int64.toUInt64 63))) = lN (S / 2) := by
    have := wb_shr (n := S) (k := 1) (by omega) (by decide)
    exact this
  have e3 : (UInt64.toInt64 (Int64.toUInt64 (lN S) >>> (Int64.toUInt64 (Int32.toInt64 (nI n - (1 : Int32))) &&& Int64.toUInt64 63))) = lN (S / 2 ^ (n - 1)) := by
    rw [show (1 : Int32) = nI 1 from rfl, y_sub h0]
    exact wb_shr (n := S) (k := n - 1) (by omega) (by omega)
  have e4 : (lN S &&& (1 : Int64)) <<< (Int32.toInt64 (nI n - (1 : Int32)) &&& 63) = lN (S % 2 * 2 ^ (n - 1)) := by
    rw [show (1 : Int32) = nI 1 from rfl, y_sub h0, wb_a1 (by omega)]
    exact wb_shl (S % 2) (k := n - 1) (by omega)
  have hm : ∀ X, X < 2 ^ 64 → ((lN X ^^^ (-1 : Int64)) &&& (((1 : Int64) <<< (Int32.toInt64 (nI n) &&& 63)) - (1 : Int64))) = lN (mk (fun k => !X.testBit k) n) := fun X hX => by
    rw [show (-1 : Int64) = lN (2 ^ 64 - 1) from rfl, fb_xorL, lN_mask (Nat.xor_lt_two_pow hX (by decide)) hn]
    congr 1
    apply n_ext
    intro i
    rw [Nat.testBit_mod_two_pow, Nat.testBit_xor, Nat.testBit_two_pow_sub_one, mk_bit]
    by_cases hi : i < n
    · have : i < 64 := by omega
      simp [hi, this]
    · simp [hi]
  have hq : 2 ^ (n - 1) ≤ 2 ^ 40 := n_pwl (by omega)
  have l1 : S * 2 < 2 ^ 64 := by omega
  have l2 : S / 2 < 2 ^ 64 := by omega
  have l3 : S / 2 ^ (n - 1) < 2 ^ 64 := Nat.lt_of_le_of_lt (Nat.div_le_self _ _) (by omega)
  have l4 : S % 2 * 2 ^ (n - 1) < 2 ^ 64 := by
    have : S % 2 * 2 ^ (n - 1) ≤ 1 * 2 ^ (n - 1) := Nat.mul_le_mul_right _ (by omega)
    omega
  have s1 : ∀ i, (S * 2).testBit i = (decide (0 < i) && S.testBit (i - 1)) := fun i => by
    have := shl_bit S 1 i
    rw [Nat.pow_one] at this
    rw [this]
    by_cases h : 0 < i
    · have : 1 ≤ i := h
      simp [h, this]
    · have : ¬ 1 ≤ i := h
      simp [h, this]
  have s2 : ∀ i, (S / 2).testBit i = S.testBit (i + 1) := fun i => by
    rw [Nat.testBit_div_two]
  have s3 : ∀ i, (S / 2 ^ (n - 1)).testBit i = (decide (i = 0) && S.testBit (n - 1)) := fun i => by
    rw [Nat.testBit_div_two_pow]
    by_cases h : i = 0
    · subst h; simp
    · rw [n_lt_bits hS (by omega)]; simp [h]
  have s4 : ∀ i, (S % 2 * 2 ^ (n - 1)).testBit i = (decide (i = n - 1) && S.testBit 0) := fun i => by
    rw [shl_bit]
    by_cases h : i = n - 1
    · subst h
      simp
    · by_cases h2 : n - 1 ≤ i
      · have : (S % 2).testBit (i - (n - 1)) = false := n_lt_bits (k := 1) (by omega) (by omega)
        simp [h, this]
      · simp [h, h2]
  unfold f_X11_unlitBy f_X11_unlitBy_31
  cases ring with
  | false =>
    rw [if_pos (by decide), e1, e2, wb_or l1 l2, hm _ (n_or_lt (k := 64) l1 l2)]
    congr 2
    unfold unl
    apply mk_cong
    intro i hi
    rw [Nat.testBit_or, s1, s2]
    simp
  | true =>
    rw [if_neg (by decide), e1, e2, e3, e4, wb_or l1 l2, wb_or l3 l4, wb_or (n_or_lt (k := 64) l1 l2) (n_or_lt (k := 64) l3 l4), hm _ (n_or_lt (k := 64) (n_or_lt (k := 64) l1 l2) (n_or_lt (k := 64) l3 l4))]
    congr 2
    unfold unl
    apply mk_cong
    intro i hi
    rw [Nat.testBit_or, Nat.testBit_or, Nat.testBit_or, s1, s2, s3, s4]
    simp [Bool.or_assoc]
end Rule
