/-! ===== house: the class's Reader ===== -/
/-- a byte as the class sees it -/
def sb (x : Nat) : Int32 := (nI x).toInt8.toInt32
theorem sb_int {x : Nat} (hx : x < 256) : (sb x).toInt = if x < 128 then (x : Int) else (x : Int) - 256 := by
  unfold sb
  rw [Int8.toInt_toInt32, Int32.toInt_toInt8, nI_toInt (by omega), Int.bmod_def]
  split <;> split <;> omega
theorem sb_eq {x k : Nat} (hx : x < 256) (hk : k < 128) : (sb x = nI k) = (x = k) := by
  apply propext
  rw [fa_eq, sb_int hx, nI_toInt (by omega)]
  split <;> omega
theorem sb_lt {x k : Nat} (hx : x < 256) (hk : k < 128) : sb x < nI k ↔ (x < k ∨ 128 ≤ x) := by
  rw [fa_lt, sb_int hx, nI_toInt (by omega)]
  split <;> omega
theorem sb_gt {x k : Nat} (hx : x < 256) (hk : k < 128) : nI k < sb x ↔ (k < x ∧ x < 128) := by
  rw [fa_lt, sb_int hx, nI_toInt (by omega)]
  split <;> omega
theorem sb_nI {x : Nat} (hx : x < 128) : sb x = nI x := by
  rw [fa_eq, sb_int (by omega), nI_toInt (by omega), if_pos hx]
def DO (a : Nat) (D D' : List xC) : Prop := D'.length = D.length ∧ ∀ j, j ≠ a → HC D' j = HC D j
theorem DO.rf {a : Nat} {D : List xC} : DO a D D := ⟨rfl, fun _ _ => rfl⟩
theorem DO.tr {a : Nat} {D D1 D2 : List xC} (h1 : DO a D D1) (h2 : DO a D1 D2) : DO a D D2 := ⟨h2.1.trans h1.1, fun k hk => (h2.2 k hk).trans (h1.2 k hk)⟩
def RO (D : List xC) (a : Nat) (f : Nat → Int32) : Prop := 77 ≤ a ∧ HC D a = some (.inr (7, [.int (f 0), .int (f 1), .ref 1, .int (f 3), .int (f 4), .int (f 5), .int (f 6), .int (f 7), .ref (a + 1), .ref (a + 11), .int (f 10)]))
section CRead
variable {A : Nat → Nat → Int32} {Z : Nat → Int32} {B : Nat → Nat → Int64} {Q : Nat → Int64} {P : Nat → Option Nat} {F : Nat → Nat → Option Nat} {q : Nat} {D : List xC} {c : Nat × Nat} {b : Nat → Nat} {n a p : Nat} {f : Nat → Int32}
theorem ro_O (H : RO D a f) : ∃ x, gO (HH A Z B Q P F q D c) a 7 = some x := ⟨_, gO_of (h := HH A Z B Q P F q D c) (HC_get H.2)⟩
theorem ro_g (H : RO D a f) {k : Nat} (hk : k ∈ [0, 1, 3, 4, 5, 6, 7, 10]) : gI (HH A Z B Q P F q D c) a 7 k = some (f k) := by
  simp only [List.mem_cons, List.not_mem_nil, or_false] at hk
  rcases hk with rfl | rfl | rfl | rfl | rfl | rfl | rfl | rfl <;> exact gI_of (h := HH A Z B Q P F q D c) (HC_get H.2) rfl
theorem ro_2 (H : RO D a f) : gR (HH A Z B Q P F q D c) a 7 2 = some 1 := gR_of (h := HH A Z B Q P F q D c) (HC_get H.2) rfl
theorem ro_8 (H : RO D a f) : gR (HH A Z B Q P F q D c) a 7 8 = some (a + 1) := gR_of (h := HH A Z B Q P F q D c) (HC_get H.2) rfl
theorem ro_9 (H : RO D a f) : gR (HH A Z B Q P F q D c) a 7 9 = some (a + 11) := gR_of (h := HH A Z B Q P F q D c) (HC_get H.2) rfl
theorem ro_p (H : RO D a f) {k : Nat} {v : Int32} (hk : k ∈ [0, 1, 3, 4, 5, 6, 7, 10]) : ∃ D', pF (HH A Z B Q P F q D c) a 7 k (.int v) = some (HH A Z B Q P F q D' c) ∧ DO a D D' ∧ RO D' a (upA f k v) := by
  obtain ⟨h0, h1⟩ := H
  have hset : ∀ y, DO a D (D.set (a - 77) y) := fun y => ⟨List.length_set, fun j hj => HC_ne h0 hj⟩
  simp only [List.mem_cons, List.not_mem_nil, or_false] at hk
  rcases hk with rfl | rfl | rfl | rfl | rfl | rfl | rfl | rfl
  all_goals
    refine ⟨_, ?_, hset _, h0, HC_se h0 h1⟩
    rw [pF_of (h := HH A Z B Q P F q D c) (HC_get h1) (by simp), LL_set h0]
    rfl
end CRead
