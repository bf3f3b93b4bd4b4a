/-! ===== how many bits ===== -/
/-- how many are in a set -/
def pc (n : Nat) : Nat := fb_ct (fun i => n.testBit i) 64
theorem fb_ct_top {p : Nat → Bool} {m n : Nat} (h : m ≤ n) (hp : ∀ i, m ≤ i → i < n → p i = false) : fb_ct p n = fb_ct p m := by
  have e : n = m + (n - m) := by omega
  rw [e, fb_ct_split]
  have : fb_ct (fun k => p (m + k)) (n - m) = 0 := fb_ct_zero.mpr (fun k hk => hp _ (by omega) (by omega))
  omega
theorem pc_eq {n k : Nat} (hk : k ≤ 64) (h : n < 2 ^ k) : pc n = fb_ct (fun i => n.testBit i) k := fb_ct_top hk (fun i hi _ => n_lt_bits h hi)
theorem pc_0 : pc 0 = 0 := fb_ct_zero.mpr (fun k _ => Nat.zero_testBit k)
theorem add_bit {a y k i : Nat} (ha : a < 2 ^ k) : (a + 2 ^ k * y).testBit i = if i < k then a.testBit i else y.testBit (i - k) := by
  rw [Nat.add_comm, Nat.testBit_two_pow_mul_add _ ha]
theorem and_split {a c k b d : Nat} (ha : a < 2 ^ k) (hc : c < 2 ^ k) : (a + 2 ^ k * b) &&& (c + 2 ^ k * d) = (a &&& c) + 2 ^ k * (b &&& d) := by
  apply n_ext
  intro i
  rw [Nat.testBit_and, add_bit ha, add_bit hc, add_bit (n_and_ltl ha)]
  by_cases hi : i < k
  · simp only [if_pos hi, Nat.testBit_and]
  · simp only [if_neg hi, Nat.testBit_and]
theorem fb_ct_add {a y k : Nat} (ha : a < 2 ^ k) (n : Nat) : fb_ct (fun i => (a + 2 ^ k * y).testBit i) (k + n) = fb_ct (fun i => a.testBit i) k + fb_ct (fun i => y.testBit i) n := by
  rw [fb_ct_split]
  congr 1
  · exact fb_ct_cong (fun i hi => by rw [add_bit ha, if_pos hi])
  · exact fb_ct_cong (fun i _ => by rw [add_bit ha, if_neg (by omega)]; congr 1; omega)
/-- a number out of its bytes -/
def byt (l : List Nat) : Nat := match l with
  | [] => 0
  | a :: r => a + 256 * byt r
theorem byt_S1 : ∀ l : List Nat, (∀ a ∈ l, a < 256) → byt l / 2 &&& byt (l.map fun _ => 85) = byt (l.map fun a => a / 2 &&& 85)
  | [], _ => rfl
  | a :: r, h => by
    have ha : a < 256 := h a (by simp)
    have ih := byt_S1 r (fun b hb => h b (by simp [hb]))
    show (a + 256 * byt r) / 2 &&& (85 + 256 * byt (r.map fun _ => 85)) = (a / 2 &&& 85) + 256 * byt (r.map fun a => a / 2 &&& 85)
    rw [← ih]
    have e : (a + 256 * byt r) / 2 = (a / 2 + 128 * (byt r % 2)) + 2 ^ 8 * (byt r / 2) := by omega
    rw [e]
    have e2 : (a / 2 + 128 * (byt r % 2)) &&& 85 = a / 2 &&& 85 := by
      have key : ∀ x : Fin 128, ∀ y : Fin 2, (x.val + 128 * y.val) &&& 85 = x.val &&& 85 := by decide +kernel
      exact key ⟨a / 2, by omega⟩ ⟨byt r % 2, by omega⟩
    have := and_split (k := 8) (a := a / 2 + 128 * (byt r % 2)) (c := 85) (b := byt r / 2) (d := byt (r.map fun _ => 85)) (by show _ < 256; omega) (by decide)
    rw [e2] at this
    exact this
theorem byt_S2 : ∀ l : List Nat, (∀ a ∈ l, a < 256) → byt l / 4 &&& byt (l.map fun _ => 51) = byt (l.map fun a => a / 4 &&& 51)
  | [], _ => rfl
  | a :: r, h => by
    have ha : a < 256 := h a (by simp)
    have ih := byt_S2 r (fun b hb => h b (by simp [hb]))
    show (a + 256 * byt r) / 4 &&& (51 + 256 * byt (r.map fun _ => 51)) = (a / 4 &&& 51) + 256 * byt (r.map fun a => a / 4 &&& 51)
    rw [← ih]
    have e : (a + 256 * byt r) / 4 = (a / 4 + 64 * (byt r % 4)) + 2 ^ 8 * (byt r / 4) := by omega
    rw [e]
    have e2 : (a / 4 + 64 * (byt r % 4)) &&& 51 = a / 4 &&& 51 := by
      have key : ∀ x : Fin 64, ∀ y : Fin 4, (x.val + 64 * y.val) &&& 51 = x.val &&& 51 := by decide +kernel
      exact key ⟨a / 4, by omega⟩ ⟨byt r % 4, by omega⟩
    have := and_split (k := 8) (a := a / 4 + 64 * (byt r % 4)) (c := 51) (b := byt r / 4) (d := byt (r.map fun _ => 51)) (by show _ < 256; omega) (by decide)
    rw [e2] at this
    exact this
theorem byt_and (m : Nat) (hm : m < 256) : ∀ l : List Nat, (∀ a ∈ l, a < 256) → byt l &&& byt (l.map fun _ => m) = byt (l.map fun a => a &&& m)
  | [], _ => by simp [byt]
  | a :: r, h => by
    have ih := byt_and m hm r (fun b hb => h b (by simp [hb]))
    show (a + 256 * byt r) &&& (m + 256 * byt (r.map fun _ => m)) = (a &&& m) + 256 * byt (r.map fun a => a &&& m)
    rw [← ih]
    exact and_split (k := 8) (h a (by simp)) hm
/-- the four steps, of one byte -/
def by1 (a : Nat) : Nat := a - (a / 2 &&& 85)
def by2 (a : Nat) : Nat := (by1 a &&& 51) + (by1 a / 4 &&& 51)
def by3 (a : Nat) : Nat := fb_ct (fun i => a.testBit i) 8
theorem by1_lt : ∀ a : Fin 256, (a.val / 2 &&& 85) ≤ a.val ∧ by1 a.val < 256 := by decide +kernel
theorem by2_lt : ∀ a : Fin 256, by2 a.val % 16 ≤ 4 ∧ by2 a.val / 16 ≤ 4 ∧ by2 a.val % 16 + by2 a.val / 16 = by3 a.val := by decide +kernel
theorem byt_S1' : ∀ l : List Nat, (∀ a ∈ l, a < 256) → byt l - byt (l.map fun a => a / 2 &&& 85) = byt (l.map by1) ∧ byt (l.map fun a => a / 2 &&& 85) ≤ byt l
  | [], _ => ⟨rfl, Nat.le_refl _⟩
  | a :: r, h => by
    have ih := byt_S1' r (fun b hb => h b (by simp [hb]))
    have ha := (by1_lt ⟨a, h a (by simp)⟩).1
    show (a + 256 * byt r) - ((a / 2 &&& 85) + 256 * byt (r.map fun a => a / 2 &&& 85)) = by1 a + 256 * byt (r.map by1) ∧ (a / 2 &&& 85) + 256 * byt (r.map fun a => a / 2 &&& 85) ≤ a + 256 * byt r
    have ha' : (a / 2 &&& 85) ≤ a := ha
    have e1 : by1 a = a - (a / 2 &&& 85) := rfl
    omega
theorem byt_add (f g : Nat → Nat) : ∀ l : List Nat, byt (l.map f) + byt (l.map g) = byt (l.map fun a => f a + g a)
  | [] => rfl
  | a :: r => by
    have ih := byt_add f g r
    show (f a + 256 * byt (r.map f)) + (g a + 256 * byt (r.map g)) = (f a + g a) + 256 * byt (r.map fun a => f a + g a)
    omega
theorem mod16 (a : Nat) : a &&& 15 = a % 16 := Nat.and_two_pow_sub_one_eq_mod a 4
theorem byt_S3 : ∀ l : List Nat, (∀ a ∈ l, a % 16 ≤ 4 ∧ a / 16 ≤ 4) → (byt l + byt l / 16) &&& byt (l.map fun _ => 15) = byt (l.map fun a => a % 16 + a / 16) ∧ byt l % 16 ≤ 4
  | [], _ => ⟨rfl, by decide⟩
  | a :: r, h => by
    have ha := h a (by simp)
    obtain ⟨ih, ih2⟩ := byt_S3 r (fun b hb => h b (by simp [hb]))
    refine ⟨?_, by show (a + 256 * byt r) % 16 ≤ 4; omega⟩
    show ((a + 256 * byt r) + (a + 256 * byt r) / 16) &&& (15 + 256 * byt (r.map fun _ => 15)) = (a % 16 + a / 16) + 256 * byt (r.map fun a => a % 16 + a / 16)
    rw [← ih]
    have e : (a + 256 * byt r) + (a + 256 * byt r) / 16 = (a + a / 16 + 16 * (byt r % 16)) + 2 ^ 8 * (byt r + byt r / 16) := by omega
    rw [e]
    have := and_split (k := 8) (a := a + a / 16 + 16 * (byt r % 16)) (c := 15) (b := byt r + byt r / 16) (d := byt (r.map fun _ => 15)) (by show _ < 256; omega) (by decide)
    rw [mod16 (a + a / 16 + 16 * (byt r % 16)), show (a + a / 16 + 16 * (byt r % 16)) % 16 = a % 16 + a / 16 by omega] at this
    exact this
theorem byt_len (c : Nat) : ∀ l : List Nat, byt (l.map fun _ => c) = byt (List.replicate l.length c)
  | [] => rfl
  | a :: r => by
    show c + 256 * byt (r.map fun _ => c) = c + 256 * byt (List.replicate r.length c)
    rw [byt_len c r]
theorem byt_lt : ∀ l : List Nat, (∀ a ∈ l, a < 256) → byt l < 256 ^ l.length
  | [], _ => by decide
  | a :: r, h => by
    have ih := byt_lt r (fun b hb => h b (by simp [hb]))
    have ha := h a (by simp)
    show a + 256 * byt r < 256 ^ (r.length + 1)
    rw [Nat.pow_succ]
    omega
theorem byt_pc : ∀ l : List Nat, (∀ a ∈ l, a < 256) → fb_ct (fun i => (byt l).testBit i) (8 * l.length) = (l.map by3).sum
  | [], _ => rfl
  | a :: r, h => by
    have ih := byt_pc r (fun b hb => h b (by simp [hb]))
    have := fb_ct_add (k := 8) (y := byt r) (h a (by simp)) (8 * r.length)
    rw [ih] at this
    show fb_ct (fun i => (a + 256 * byt r).testBit i) (8 * (r.length + 1)) = by3 a + (r.map by3).sum
    rw [show 8 * (r.length + 1) = 8 + 8 * r.length by omega]
    exact this
theorem dv_of {z b w r : Nat} (h : z = r + b * w) (hr : r < b) : z / b = w := by
  rw [h, Nat.add_mul_div_left _ _ (by omega), Nat.div_eq_of_lt hr, Nat.zero_add]
/-- the first three steps, of a number of bytes -/
theorem pop_steps (l : List Nat) (h : ∀ a ∈ l, a < 256) (n m1 m2 m3 : Nat) (hn : n = byt l) (h1 : m1 = byt (l.map fun _ => 85)) (h2 : m2 = byt (l.map fun _ => 51)) (h3 : m3 = byt (l.map fun _ => 15)) :
    (n / 2 &&& m1) ≤ n ∧ (let x := n - (n / 2 &&& m1); let y := (x &&& m2) + (x / 4 &&& m2); (y + y / 16) &&& m3) = byt (l.map by3) ∧ (let x := n - (n / 2 &&& m1); (x &&& m2) + (x / 4 &&& m2)) = byt (l.map by2) ∧ n - (n / 2 &&& m1) = byt (l.map by1) := by
  subst hn h1 h2 h3
  have s1 := byt_S1 l h
  have s1' := byt_S1' l h
  have hb : ∀ a ∈ l.map by1, a < 256 := fun a ha => by
    obtain ⟨b, hb, rfl⟩ := List.mem_map.mp ha
    exact (by1_lt ⟨b, h b hb⟩).2
  have s2 := byt_S2 (l.map by1) hb
  have s2' := byt_and 51 (by decide) (l.map by1) hb
  have m2 : (l.map by1).map (fun _ => 51) = l.map fun _ => 51 := by simp
  rw [m2, List.map_map] at s2 s2'
  have e2 : (byt (l.map by1) &&& byt (l.map fun _ => 51)) + (byt (l.map by1) / 4 &&& byt (l.map fun _ => 51)) = byt (l.map by2) := by
    rw [s2, s2', byt_add]
    rfl
  have hc : ∀ a ∈ l.map by2, a % 16 ≤ 4 ∧ a / 16 ≤ 4 := fun a ha => by
    obtain ⟨b, hb, rfl⟩ := List.mem_map.mp ha
    exact ⟨(by2_lt ⟨b, h b hb⟩).1, (by2_lt ⟨b, h b hb⟩).2.1⟩
  have s3 := (byt_S3 (l.map by2) hc).1
  have m3 : (l.map by2).map (fun _ => 15) = l.map fun _ => 15 := by simp
  rw [m3, List.map_map] at s3
  have e3 : l.map ((fun a => a % 16 + a / 16) ∘ by2) = l.map by3 := List.map_congr_left (fun b hb => (by2_lt ⟨b, h b hb⟩).2.2)
  rw [e3] at s3
  rw [s1]
  refine ⟨s1'.2, ?_, ?_, s1'.1⟩
  · show ((byt l - byt (l.map fun a => a / 2 &&& 85) &&& byt (l.map fun _ => 51)) + ((byt l - byt (l.map fun a => a / 2 &&& 85)) / 4 &&& byt (l.map fun _ => 51)) + ((byt l - byt (l.map fun a => a / 2 &&& 85) &&& byt (l.map fun _ => 51)) + ((byt l - byt (l.map fun a => a / 2 &&& 85)) / 4 &&& byt (l.map fun _ => 51))) / 16) &&& byt (l.map fun _ => 15) = byt (l.map by3)
    rw [s1'.1, e2]
    exact s3
  · show (byt l - byt (l.map fun a => a / 2 &&& 85) &&& byt (l.map fun _ => 51)) + ((byt l - byt (l.map fun a => a / 2 &&& 85)) / 4 &&& byt (l.map fun _ => 51)) = byt (l.map by2)
    rw [s1'.1, e2]
theorem bitCount_spec (h : xH) {n : Nat} (hn : n < 2 ^ 32) : f_J6_bitCount_0f7a4 h (nI n) = some (nI (pc n)) := by
  have hl : ∀ a ∈ [n % 256, n / 256 % 256, n / 65536 % 256, n / 16777216], a < 256 := by
    intro a ha
    simp only [List.mem_cons, List.not_mem_nil, or_false] at ha
    omega
  have hb : n = byt [n % 256, n / 256 % 256, n / 65536 % 256, n / 16777216] := by
    show n = n % 256 + 256 * (n / 256 % 256 + 256 * (n / 65536 % 256 + 256 * (n / 16777216 + 256 * 0)))
    omega
  obtain ⟨q1, q2, q3, q4⟩ := pop_steps _ hl n 1431655765 858993459 252645135 hb (by simp only [List.map_cons, List.map_nil, byt]) (by simp only [List.map_cons, List.map_nil, byt]) (by simp only [List.map_cons, List.map_nil, byt])
  have q5 := byt_pc _ hl
  rw [← hb] at q5
  have q6 : pc n = _ := (pc_eq (k := 32) (by decide) hn).trans q5
  have p1 := (by2_lt ⟨n % 256, by omega⟩)
  have p2 := (by2_lt ⟨n / 256 % 256, by omega⟩)
  have p3 := (by2_lt ⟨n / 65536 % 256, by omega⟩)
  have p4 := (by2_lt ⟨n / 16777216, by omega⟩)
  simp only [List.map_cons, List.map_nil, List.sum_cons, List.sum_nil] at q6
  simp only [List.map_cons, List.map_nil] at q2 q3 q4
  simp only at p1 p2 p3 p4
  have m1 : n / 2 &&& 1431655765 < 2 ^ 32 := n_and_ltr (by decide)
  have e1 : UInt32.toInt32 (Int32.toUInt32 (nI n) >>> (Int32.toUInt32 (1 : Int32) &&& Int32.toUInt32 31)) = nI (n / 2) := pk_ushrN hn 1 1 rfl
  have e2 : nI (n / 2) &&& (1431655765 : Int32) = nI (n / 2 &&& 1431655765) := fa_and _ _
  have e3 : nI n - nI (n / 2 &&& 1431655765) = nI (n - (n / 2 &&& 1431655765)) := pk_sub q1
  unfold f_J6_bitCount_0f7a4
  rw [e1, e2, e3]
  generalize hx : n - (n / 2 &&& 1431655765) = x at *
  have hx2 : x < 2 ^ 32 := by omega
  have e4 : UInt32.toInt32 (Int32.toUInt32 (nI x) >>> (Int32.toUInt32 (2 : Int32) &&& Int32.toUInt32 31)) = nI (x / 4) := pk_ushrN hx2 2 2 rfl
  have e5 : nI (x / 4) &&& (858993459 : Int32) = nI (x / 4 &&& 858993459) := fa_and _ _
  have e6 : nI x &&& (858993459 : Int32) = nI (x &&& 858993459) := fa_and _ _
  rw [e4, e5, e6, nI_add]
  have m2 : x / 4 &&& 858993459 < 2 ^ 30 := n_and_ltr (by decide)
  have m3 : x &&& 858993459 < 2 ^ 30 := n_and_ltr (by decide)
  generalize hy : (x &&& 858993459) + (x / 4 &&& 858993459) = y at *
  have hy2 : y < 2 ^ 32 := by omega
  have e7 : UInt32.toInt32 (Int32.toUInt32 (nI y) >>> (Int32.toUInt32 (4 : Int32) &&& Int32.toUInt32 31)) = nI (y / 16) := pk_ushrN hy2 4 4 rfl
  have e8 : nI (y + y / 16) &&& (252645135 : Int32) = nI (y + y / 16 &&& 252645135) := fa_and _ _
  rw [e7, nI_add, e8]
  have q2' : (y + y / 16) &&& 252645135 = byt [by3 (n % 256), by3 (n / 256 % 256), by3 (n / 65536 % 256), by3 (n / 16777216)] := q2
  rw [q2']
  have q7 : byt [by3 (n % 256), by3 (n / 256 % 256), by3 (n / 65536 % 256), by3 (n / 16777216)] = by3 (n % 256) + 256 * (by3 (n / 256 % 256) + 256 * (by3 (n / 65536 % 256) + 256 * (by3 (n / 16777216) + 256 * 0))) := rfl
  generalize by3 (n % 256) = w1 at *
  generalize by3 (n / 256 % 256) = w2 at *
  generalize by3 (n / 65536 % 256) = w3 at *
  generalize by3 (n / 16777216) = w4 at *
  generalize byt [w1, w2, w3, w4] = z at *
  have hw1 : w1 ≤ 8 := by omega
  have hw2 : w2 ≤ 8 := by omega
  have hw3 : w3 ≤ 8 := by omega
  have hw4 : w4 ≤ 8 := by omega
  have hz : z < 2 ^ 28 := by omega
  have e9 : UInt32.toInt32 (Int32.toUInt32 (nI z) >>> (Int32.toUInt32 (8 : Int32) &&& Int32.toUInt32 31)) = nI (z / 256) := pk_ushrN (by omega) 8 8 rfl
  rw [e9, nI_add]
  have e10 : UInt32.toInt32 (Int32.toUInt32 (nI (z + z / 256)) >>> (Int32.toUInt32 (16 : Int32) &&& Int32.toUInt32 31)) = nI ((z + z / 256) / 65536) := pk_ushrN (by omega) 16 16 rfl
  rw [e10, nI_add]
  have e11 : nI (z + z / 256 + (z + z / 256) / 65536) &&& (63 : Int32) = nI ((z + z / 256 + (z + z / 256) / 65536) % 64) := fa_mask _ 6
  rw [e11, q6]
  congr 2
  have d1 : z / 256 = w2 + 256 * (w3 + 256 * w4) := by omega
  have d2 : (z + z / 256) / 65536 = (w3 + w4) + 256 * w4 := by omega
  omega
