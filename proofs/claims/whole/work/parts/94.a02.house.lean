/-! ===== a house told, as numbers; where it lies ===== -/
def pF0 (tt : Nat → Nat) (i : Nat) : Nat := tt (8 + 4 * i)
def pT0 (tt : Nat → Nat) (i : Nat) : Nat := tt (8 + 4 * i + 1)
def pL0 (tt : Nat → Nat) (i : Nat) : Nat := tt (8 + 4 * i + 2)
def pB0 (tt : Nat → Nat) (i : Nat) : Nat := tt (8 + 4 * i + 3)
/-- the rooms from which pane i leads into r -/
def nx1 (tt : Nat → Nat) (r i : Nat) : Nat := (if pT0 tt i = r then 2 ^ pF0 tt i else 0) ||| (if pB0 tt i = 1 ∧ pF0 tt i = r then 2 ^ pT0 tt i else 0)
def lt1 (tt : Nat → Nat) (r i : Nat) : Nat := (if pF0 tt i = r then 2 ^ pT0 tt i else 0) ||| (if pB0 tt i = 1 ∧ pT0 tt i = r then 2 ^ pF0 tt i else 0)
def nxt (tt : Nat → Nat) (r : Nat) : Nat := orf (nx1 tt r) (tt 2)
def ltt (tt : Nat → Nat) (r : Nat) : Nat := orf (lt1 tt r) (tt 2)
def HWf (tt : Nat → Nat) : Prop := (∀ k, tt k < 100000) ∧ tt 0 ≤ 800 ∧ tt 1 ≤ 16 ∧ tt 2 ≤ 60 ∧ tt 3 ≤ 4 ∧ tt 4 ≤ 24 ∧ tt 5 ≤ 8 ∧ tt 6 ≤ 999 ∧
  (∀ i, i < tt 2 → pF0 tt i < tt 1 ∧ pT0 tt i < tt 1 ∧ pF0 tt i ≠ pT0 tt i ∧ 1 ≤ pL0 tt i ∧ pL0 tt i ≤ 100 ∧ pB0 tt i ≤ 1) ∧
  (∀ i, i < tt 3 → 1 ≤ tt (248 + 2 * i) ∧ tt (248 + 2 * i) ≤ 999 ∧ tt (248 + 2 * i + 1) ≤ 99) ∧
  (∀ i, i < tt 4 → tt (256 + 5 * i) < tt 1 ∧ tt (256 + 5 * i + 1) ≤ 9999 ∧ tt (256 + 5 * i + 1) ≤ tt (256 + 5 * i + 2) ∧ tt (256 + 5 * i + 2) ≤ 99999 ∧ tt (256 + 5 * i + 3) ≤ tt (256 + 5 * i + 4) ∧ tt (256 + 5 * i + 4) ≤ 23) ∧
  (∀ i, i < tt 5 → tt (376 + 5 * i) < tt 1 ∧ tt (376 + 5 * i + 1) < tt 1 ∧ tt (376 + 5 * i) ≠ tt (376 + 5 * i + 1) ∧ tt (376 + 5 * i + 3) ≤ 99 ∧ tt (376 + 5 * i + 4) ≤ 1) ∧
  (∀ r, r < 16 → tt (416 + r) ≤ 99) ∧ (∀ r, r < 16 → tt (432 + r) < 2 ^ tt 1)
theorem HWf.b {tt : Nat → Nat} (h : HWf tt) (k : Nat) : tt k < 100000 := h.1 k
theorem HWf.ro {tt : Nat → Nat} (h : HWf tt) : tt 1 ≤ 16 := h.2.2.1
theorem HWf.pa {tt : Nat → Nat} (h : HWf tt) : tt 2 ≤ 60 := h.2.2.2.1
theorem HWf.ki {tt : Nat → Nat} (h : HWf tt) : tt 3 ≤ 4 := h.2.2.2.2.1
theorem HWf.wa {tt : Nat → Nat} (h : HWf tt) : tt 4 ≤ 24 := h.2.2.2.2.2.1
theorem HWf.ho {tt : Nat → Nat} (h : HWf tt) : tt 5 ≤ 8 := h.2.2.2.2.2.2.1
theorem HWf.de {tt : Nat → Nat} (h : HWf tt) : tt 6 ≤ 999 := h.2.2.2.2.2.2.2.1
theorem HWf.pane {tt : Nat → Nat} (h : HWf tt) {i : Nat} (hi : i < tt 2) : pF0 tt i < tt 1 ∧ pT0 tt i < tt 1 ∧ pF0 tt i ≠ pT0 tt i ∧ 1 ≤ pL0 tt i ∧ pL0 tt i ≤ 100 ∧ pB0 tt i ≤ 1 := h.2.2.2.2.2.2.2.2.1 i hi
theorem HWf.kind {tt : Nat → Nat} (h : HWf tt) {i : Nat} (hi : i < tt 3) : 1 ≤ tt (248 + 2 * i) ∧ tt (248 + 2 * i) ≤ 999 ∧ tt (248 + 2 * i + 1) ≤ 99 := h.2.2.2.2.2.2.2.2.2.1 i hi
theorem HWf.want {tt : Nat → Nat} (h : HWf tt) {i : Nat} (hi : i < tt 4) : tt (256 + 5 * i) < tt 1 ∧ tt (256 + 5 * i + 1) ≤ 9999 ∧ tt (256 + 5 * i + 1) ≤ tt (256 + 5 * i + 2) ∧ tt (256 + 5 * i + 2) ≤ 99999 ∧ tt (256 + 5 * i + 3) ≤ tt (256 + 5 * i + 4) ∧ tt (256 + 5 * i + 4) ≤ 23 := h.2.2.2.2.2.2.2.2.2.2.1 i hi
theorem HWf.hole {tt : Nat → Nat} (h : HWf tt) {i : Nat} (hi : i < tt 5) : tt (376 + 5 * i) < tt 1 ∧ tt (376 + 5 * i + 1) < tt 1 ∧ tt (376 + 5 * i) ≠ tt (376 + 5 * i + 1) ∧ tt (376 + 5 * i + 3) ≤ 99 ∧ tt (376 + 5 * i + 4) ≤ 1 := h.2.2.2.2.2.2.2.2.2.2.2.1 i hi
theorem HWf.burn {tt : Nat → Nat} (h : HWf tt) {r : Nat} (hr : r < 16) : tt (416 + r) ≤ 99 := h.2.2.2.2.2.2.2.2.2.2.2.2.1 r hr
theorem HWf.hate {tt : Nat → Nat} (h : HWf tt) {r : Nat} (hr : r < 16) : tt (432 + r) < 2 ^ tt 1 := h.2.2.2.2.2.2.2.2.2.2.2.2.2 r hr
theorem nx1_lt {tt : Nat → Nat} (h : HWf tt) {r i : Nat} (hi : i < tt 2) : nx1 tt r i < 2 ^ tt 1 := by
  have := h.pane hi
  unfold nx1
  apply n_or_lt
  · split
    · exact n_pw this.1
    · exact Nat.two_pow_pos _
  · split
    · exact n_pw this.2.1
    · exact Nat.two_pow_pos _
theorem lt1_lt {tt : Nat → Nat} (h : HWf tt) {r i : Nat} (hi : i < tt 2) : lt1 tt r i < 2 ^ tt 1 := by
  have := h.pane hi
  unfold lt1
  apply n_or_lt
  · split
    · exact n_pw this.2.1
    · exact Nat.two_pow_pos _
  · split
    · exact n_pw this.1
    · exact Nat.two_pow_pos _
theorem nxt_lt {tt : Nat → Nat} (h : HWf tt) (r : Nat) : nxt tt r < 2 ^ tt 1 := orf_lt (fun _ hi => nx1_lt h hi)
theorem ltt_lt {tt : Nat → Nat} (h : HWf tt) (r : Nat) : ltt tt r < 2 ^ tt 1 := orf_lt (fun _ hi => lt1_lt h hi)
theorem pw16 {n : Nat} (h : n ≤ 16) : 2 ^ n ≤ 65536 := n_pwl (m := 16) h
theorem nxt_lt16 {tt : Nat → Nat} (h : HWf tt) (r : Nat) : nxt tt r < 65536 := Nat.lt_of_lt_of_le (nxt_lt h r) (pw16 h.ro)
theorem ltt_lt16 {tt : Nat → Nat} (h : HWf tt) (r : Nat) : ltt tt r < 65536 := Nat.lt_of_lt_of_le (ltt_lt h r) (pw16 h.ro)
theorem ite_bit (c : Prop) [Decidable c] (a i : Nat) : (if c then 2 ^ a else 0).testBit i = decide (c ∧ a = i) := by
  by_cases h : c
  · simp [h, n_two]
  · simp [h]
theorem nx1_lt1 (tt : Nat → Nat) (a b i : Nat) : (nx1 tt a i).testBit b = (lt1 tt b i).testBit a := by
  unfold nx1 lt1
  rw [Nat.testBit_or, Nat.testBit_or, ite_bit, ite_bit, ite_bit, ite_bit]
  congr 1
  · exact decide_eq_decide.mpr ⟨fun h => ⟨h.2, h.1⟩, fun h => ⟨h.2, h.1⟩⟩
  · exact decide_eq_decide.mpr ⟨fun h => ⟨⟨h.1.1, h.2⟩, h.1.2⟩, fun h => ⟨⟨h.1.1, h.2⟩, h.1.2⟩⟩
/-- lit is next the other way round -/
theorem nxt_ltt (tt : Nat → Nat) (a b : Nat) : (nxt tt a).testBit b = (ltt tt b).testBit a := by
  apply Bool.eq_iff_iff.mpr
  unfold nxt ltt
  rw [orf_bit, orf_bit]
  constructor
  · rintro ⟨i, hi, h⟩; exact ⟨i, hi, by rw [← nx1_lt1]; exact h⟩
  · rintro ⟨i, hi, h⟩; exact ⟨i, hi, by rw [nx1_lt1]; exact h⟩
/-- a lamp's kind as the cells hold it; 0 is none -/
def kv (l : Nat) : Int32 := nI l - 1
theorem kv_0 : kv 0 = -1 := rfl
theorem kv_s (l : Nat) : kv (l + 1) = nI l := nI_pred l
theorem kv_none {l : Nat} (h : l < 1000) : kv l = -1 ↔ l = 0 := by
  cases l with
  | zero => simp [kv_0]
  | succ l =>
    rw [kv_s]
    constructor
    · intro e
      have := nI_pos (n := l) (by omega)
      rw [e] at this
      exact absurd (by decide) this
    · intro e; omega
def LWf (tt lk lh : Nat → Nat) : Prop := ∀ r, lk r ≤ tt 3 ∧ lh r < 2 ^ 24 ∧ (lk r = 0 → lh r = 0) ∧ (tt 1 ≤ r → lk r = 0)
/-- the reference's row told -/
def Told (f : Nat → Int32) (tt lk lh : Nat → Nat) : Prop := (∀ k, k < 448 → f k = nI (tt k)) ∧ (∀ r, r < 16 → f (448 + 2 * r) = kv (lk r)) ∧ (∀ r, r < 16 → f (448 + 2 * r + 1) = nI (lh r))
