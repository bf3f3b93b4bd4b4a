/-! ===== house: tokens ===== -/
def ltr (x : Nat) : Bool := decide (97 ≤ x ∧ x ≤ 122)
def dgt (x : Nat) : Bool := decide (48 ≤ x ∧ x ≤ 57)
def blk (x : Nat) : Bool := decide (x = 10 ∨ x = 32)
/-- where the run of g from p on ends -/
def run (g : Nat → Bool) (b : Nat → Nat) (n : Nat) : Nat → Nat → Nat
  | 0, p => p
  | k + 1, p => if p < n ∧ g (b p) = true then run g b n k (p + 1) else p
theorem run_spec (g : Nat → Bool) (b : Nat → Nat) (n : Nat) : ∀ k p, n ≤ p + k → p ≤ run g b n k p ∧ (∀ j, p ≤ j → j < run g b n k p → j < n ∧ g (b j) = true) ∧ ¬ (run g b n k p < n ∧ g (b (run g b n k p)) = true)
  | 0, p, h => ⟨Nat.le_refl _, fun j h1 h2 => by rw [run] at h2; omega, fun h2 => by rw [run] at h2; omega⟩
  | k + 1, p, h => by
    rw [run]
    by_cases c : p < n ∧ g (b p) = true
    · rw [if_pos c]
      obtain ⟨a1, a2, a3⟩ := run_spec g b n k (p + 1) (by omega)
      refine ⟨by omega, fun j h1 h2 => ?_, a3⟩
      by_cases e : j = p
      · subst e; exact c
      · exact a2 j (by omega) h2
    · rw [if_neg c]
      exact ⟨Nat.le_refl _, fun j h1 h2 => by omega, c⟩
theorem run_le (g : Nat → Bool) (b : Nat → Nat) {n p : Nat} (hp : p ≤ n) (hn : n ≤ 800) : run g b n 800 p ≤ n := by
  obtain ⟨a1, a2, a3⟩ := run_spec g b n 800 p (by omega)
  apply Classical.byContradiction
  intro h
  have := (a2 n hp (by omega)).1
  omega
def dv (b : Nat → Nat) (q : Nat) : Nat → Nat
  | 0 => 0
  | j + 1 => 10 * dv b q j + b (q + j) - 48
def tok2 (b : Nat → Nat) (n q : Nat) : Nat × Nat × Nat × Nat :=
  if ¬ q < n then (0, q, q, 0) else if ltr (b q) = true then (1, q, run ltr b n 800 q, 0) else if dgt (b q) = true then (if run dgt b n 800 q - q ≤ 5 then (2, q, run dgt b n 800 q, dv b q (run dgt b n 800 q - q)) else (4, q, run dgt b n 800 q, 0)) else if b q = 59 then (3, q, q + 1, 0) else (4, q, q + 1, 0)
/-- the token at p or behind it: its sort, start, end, value -/
def tok (b : Nat → Nat) (n p : Nat) : Nat × Nat × Nat × Nat := tok2 b n (run blk b n 800 p)
theorem dv_lt {b : Nat → Nat} {q : Nat} : ∀ {j : Nat}, (∀ i, i < j → b (q + i) ≤ 57) → dv b q j < 10 ^ j
  | 0, _ => by show 0 < 1; decide
  | j + 1, h => by
    have h1 := dv_lt (b := b) (q := q) (j := j) (fun i hi => h i (by omega))
    have h2 := h j (by omega)
    rw [dv, Nat.pow_succ]
    omega
theorem tok_spec {b : Nat → Nat} {n p : Nat} (hp : p ≤ n) (hn : n ≤ 800) : p ≤ (tok b n p).2.1 ∧ (tok b n p).2.1 ≤ (tok b n p).2.2.1 ∧ (tok b n p).2.2.1 ≤ n ∧ (tok b n p).1 ≤ 4 ∧ ((tok b n p).1 ≠ 0 → (tok b n p).2.1 < (tok b n p).2.2.1) ∧ (tok b n p).2.2.2 < 100000 := by
  obtain ⟨a1, a2, a3⟩ := run_spec blk b n 800 p (by omega)
  have a4 := run_le blk b hp hn
  unfold tok tok2
  generalize run blk b n 800 p = q at *
  by_cases c1 : q < n
  · rw [if_neg (by omega)]
    by_cases c2 : ltr (b q) = true
    · rw [if_pos c2]
      obtain ⟨b1, b2, b3⟩ := run_spec ltr b n 800 q (by omega)
      have b4 := run_le ltr b (p := q) a4 hn
      have b5 : q ≠ run ltr b n 800 q := fun e => b3 (by rw [← e]; exact ⟨c1, c2⟩)
      refine ⟨a1, b1, b4, ?_, fun _ => ?_, ?_⟩ <;> dsimp only <;> omega
    · rw [if_neg c2]
      by_cases c3 : dgt (b q) = true
      · rw [if_pos c3]
        obtain ⟨b1, b2, b3⟩ := run_spec dgt b n 800 q (by omega)
        have b4 := run_le dgt b (p := q) a4 hn
        have b5 : q ≠ run dgt b n 800 q := fun e => b3 (by rw [← e]; exact ⟨c1, c3⟩)
        by_cases c4 : run dgt b n 800 q - q ≤ 5
        · rw [if_pos c4]
          refine ⟨a1, b1, b4, by show 2 ≤ 4; decide, fun _ => by dsimp only; omega, ?_⟩
          have h1 := dv_lt (b := b) (q := q) (j := run dgt b n 800 q - q) (fun i hi => by
            have := (b2 (q + i) (by omega) (by omega)).2
            have := of_decide_eq_true this
            omega)
          have h2 : 10 ^ (run dgt b n 800 q - q) ≤ 10 ^ 5 := Nat.pow_le_pow_right (by decide) c4
          exact Nat.lt_of_lt_of_le h1 h2
        · rw [if_neg c4]
          refine ⟨a1, b1, b4, ?_, fun _ => ?_, ?_⟩ <;> dsimp only <;> omega
      · rw [if_neg c3]
        by_cases c4 : b q = 59
        · rw [if_pos c4]
          refine ⟨a1, ?_, ?_, ?_, fun _ => ?_, ?_⟩ <;> dsimp only <;> omega
        · rw [if_neg c4]
          refine ⟨a1, ?_, ?_, ?_, fun _ => ?_, ?_⟩ <;> dsimp only <;> omega
  · rw [if_pos c1]
    exact ⟨a1, Nat.le_refl _, a4, by show 0 ≤ 4; decide, fun h => absurd rfl h, by show 0 < 100000; decide⟩
theorem tok_0 {b : Nat → Nat} {n p : Nat} (hn : n ≤ p) : (tok b n p).1 = 0 := by
  have a1 : p ≤ run blk b n 800 p := (run_spec blk b n 800 p (by omega)).1
  unfold tok tok2
  rw [if_pos (by omega)]
def TZ (t : Nat × Nat × Nat × Nat) (Z : Nat → Int32) : Prop := Z 21 = nI t.2.2.1 ∧ Z 22 = nI t.2.1 ∧ Z 23 = nI t.1 ∧ (t.1 = 2 → Z 24 = nI t.2.2.2)
section MTok
variable {A : Nat → Nat → Int32} {Z : Nat → Int32} {B : Nat → Nat → Int64} {Q : Nat → Int64} {P : Nat → Option Nat} {F : Nat → Nat → Option Nat} {q : Nat} {D : List xC} {c : Nat × Nat} {b : Nat → Nat} {n p : Nat}
theorem m_isLetter {h : xH} {x : Nat} (hx : x < 2147483648) : f_X12_isLetter h (nI x) = some (if ltr x = true then nI 1 else nI 0) := by
  unfold f_X12_isLetter ltr
  rw [show (97 : Int32) = nI 97 from rfl, show (122 : Int32) = nI 122 from rfl]
  by_cases c1 : x < 97
  · rw [if_pos (by rw [y_lt hx (by omega)]; exact c1), if_neg (by rw [decide_eq_true_iff]; omega)]; rfl
  · rw [if_neg (by rw [y_lt hx (by omega)]; exact c1)]
    by_cases c2 : 122 < x
    · rw [if_pos (by rw [y_lt (by omega) hx]; exact c2), if_neg (by rw [decide_eq_true_iff]; omega)]; rfl
    · rw [if_neg (by rw [y_lt (by omega) hx]; exact c2), if_pos (by rw [decide_eq_true_iff]; omega)]; rfl
theorem m_isDigit {h : xH} {x : Nat} (hx : x < 2147483648) : f_X12_isDigit h (nI x) = some (if dgt x = true then nI 1 else nI 0) := by
  unfold f_X12_isDigit dgt
  rw [show (48 : Int32) = nI 48 from rfl, show (57 : Int32) = nI 57 from rfl]
  by_cases c1 : x < 48
  · rw [if_pos (by rw [y_lt hx (by omega)]; exact c1), if_neg (by rw [decide_eq_true_iff]; omega)]; rfl
  · rw [if_neg (by rw [y_lt hx (by omega)]; exact c1)]
    by_cases c2 : 57 < x
    · rw [if_pos (by rw [y_lt (by omega) hx]; exact c2), if_neg (by rw [decide_eq_true_iff]; omega)]; rfl
    · rw [if_neg (by rw [y_lt (by omega) hx]; exact c2), if_pos (by rw [decide_eq_true_iff]; omega)]; rfl
theorem m_see (hn : n ≤ 800) (hb : ∀ k, k < n → A 62 k = nI (b k) ∧ b k < 256) (h20 : Z 20 = nI n) (hp : p ≤ n) : f_X12_see (HH A Z B Q P F q D c) 57 (nI p) = some (nI (if p < n then b p else 0)) := by
  unfold f_X12_see
  rw [gf_57_7, Option.bind_some, h20]
  by_cases c1 : p < n
  · rw [if_neg (by rw [y_le (by omega) (by omega)]; omega), gf_57_5, Option.bind_some, ld_62 (by omega), Option.bind_some, (hb p c1).1, if_pos c1]
  · rw [if_pos (by rw [y_le (by omega) (by omega)]; omega), if_neg c1]
    rfl
theorem m_reads52 (hn : n ≤ 800) (hb : ∀ k, k < n → A 62 k = nI (b k) ∧ b k < 256) (h20 : Z 20 = nI n) (h21 : Z 21 = nI p) (hp : p ≤ n) : ∃ Z', f_X12_reads_52 (HH A Z B Q P F q D c) 57 = some (HH A Z' B Q P F q D c) ∧ Only [21, 22, 23, 24] Z Z' ∧ TZ (tok2 b n p) Z' := by
  unfold f_X12_reads_52 tok2
  have e20 : (upA Z 22 (nI p)) 20 = nI n := h20
  have e21 : (upA Z 22 (nI p)) 21 = nI p := h21
  rw [gf_57_8, Option.bind_some, h21, pf_57_9, Option.bind_some, gf_57_8, Option.bind_some, gf_57_7, Option.bind_some, e20, e21]
  by_cases c1 : p < n
  · obtain ⟨hb1, hb2⟩ := hb p c1
    rw [if_pos (by rw [y_lt (by omega) (by omega)]; exact c1), if_neg (by omega), gf_57_5, Option.bind_some, Option.bind_some, ld_62 (by omega), Option.bind_some, hb1, m_isLetter (by omega), Option.bind_some]
    have e0 : upA (upA Z 22 (nI p)) 21 (nI (p + 0)) = upA Z 22 (nI p) := by
      rw [Nat.add_zero]
      have := y_ua (A := upA Z 22 (nI p)) (k := 21)
      rw [e21] at this
      exact this
    by_cases c2 : ltr (b p) = true
    · rw [if_pos c2, if_pos c2, if_neg (by decide)]
      obtain ⟨a1, a2, a3⟩ := run_spec ltr b n 800 p (by omega)
      have a4 := run_le ltr b hp hn
      generalize run ltr b n 800 p = e at *
      have key := loop_J (F := fun k j (_ : Unit) => f_X12_reads_94 k (HH A (upA (upA Z 22 (nI p)) 21 (nI (p + j))) B Q P F q D c) 57) (N := e - p) (fun _ => some (HH A (upA (upA (upA Z 22 (nI p)) 21 (nI e)) 23 (nI 1)) B Q P F q D c)) (fun _ _ => True) (fun k j u hj _ => ⟨(), ?_, trivial⟩) (fun k u _ => ?_) (by omega) (s := ()) trivial
      · obtain ⟨_, e1, _⟩ := key
        rw [e0] at e1
        exact ⟨_, e1, ((Only.rf.up (by decide)).up (by decide)).up (by decide), rfl, rfl, rfl, fun h => by cases h⟩
      · show f_X12_reads_94 (k + 1) _ 57 = f_X12_reads_94 k _ 57
        obtain ⟨b1, b2⟩ := a2 (p + j) (by omega) (by omega)
        have hx := (hb _ b1).2
        have e3 : (upA (upA Z 22 (nI p)) 21 (nI (p + j))) 20 = nI n := h20
        rw [f_X12_reads_94, gf_57_8, Option.bind_some, y_us, gO_57, Option.bind_some, m_see hn hb e3 (by omega), Option.bind_some, if_pos b1, m_isLetter (by omega), Option.bind_some, if_pos b2, if_neg (by decide), Option.bind_some, pf_57_8, Option.bind_some, y_uu, nI_1]
        rfl
      · show f_X12_reads_94 (k + 1) _ 57 = _
        have e3 : (upA (upA Z 22 (nI p)) 21 (nI e)) 20 = nI n := h20
        have e4 : ltr (if e < n then b e else 0) = false := by
          by_cases c3 : e < n
          · rw [if_pos c3]
            cases hx : ltr (b e)
            · rfl
            · exact absurd ⟨c3, hx⟩ a3
          · rw [if_neg c3]; rfl
        have e5 : (if e < n then b e else 0) < 2147483648 := by
          by_cases c3 : e < n
          · rw [if_pos c3]; have := (hb e c3).2; omega
          · rw [if_neg c3]; decide
        rw [show p + (e - p) = e by omega, f_X12_reads_94, gf_57_8, Option.bind_some, y_us, gO_57, Option.bind_some, m_see hn hb e3 (by omega), Option.bind_some, m_isLetter e5, Option.bind_some, e4, if_pos (by decide), pf_57_10, Option.bind_some]
        rfl
    · rw [if_neg c2, if_neg c2, if_pos (by decide), m_isDigit (by omega), Option.bind_some]
      by_cases c3 : dgt (b p) = true
      · rw [if_pos c3, if_pos c3, if_neg (by decide), pf_57_11, Option.bind_some]
        obtain ⟨a1, a2, a3⟩ := run_spec dgt b n 800 p (by omega)
        have a4 := run_le dgt b hp hn
        generalize run dgt b n 800 p = e at *
        have key := loop_J (F := fun k j (_ : Unit) => f_X12_reads_141 k (HH A (upA (upA (upA Z 22 (nI p)) 21 (nI (p + j))) 24 (nI (dv b p (min j 5)))) B Q P F q D c) 57) (N := e - p) (fun _ => some (HH A (upA (upA (upA (upA Z 22 (nI p)) 21 (nI e)) 24 (nI (dv b p (min (e - p) 5)))) 23 (nI (if e - p ≤ 5 then 2 else 4))) B Q P F q D c)) (fun _ _ => True) (fun k j u hj _ => ⟨(), ?_, trivial⟩) (fun k u _ => ?_) (by omega) (s := ()) trivial
        · obtain ⟨_, e1, _⟩ := key
          rw [e0] at e1
          refine ⟨_, e1, (((Only.rf.up (by decide)).up (by decide)).up (by decide)).up (by decide), ?_⟩
          by_cases c4 : e - p ≤ 5
          · rw [if_pos c4, if_pos c4]
            exact ⟨rfl, rfl, rfl, fun _ => by show nI (dv b p (min (e - p) 5)) = nI (dv b p (e - p)); rw [Nat.min_eq_left c4]⟩
          · rw [if_neg c4, if_neg c4]
            exact ⟨rfl, rfl, rfl, fun h => by cases h⟩
        · show f_X12_reads_141 (k + 1) _ 57 = f_X12_reads_141 k _ 57
          obtain ⟨b1, b2⟩ := a2 (p + j) (by omega) (by omega)
          obtain ⟨hx0, hx⟩ := hb _ b1
          have hx2 := of_decide_eq_true b2
          generalize hZ1 : upA (upA (upA Z 22 (nI p)) 21 (nI (p + j))) 24 (nI (dv b p (min j 5))) = Z1
          have e3 : Z1 20 = nI n := by rw [← hZ1]; exact h20
          have e6 : Z1 21 = nI (p + j) := by rw [← hZ1]; rfl
          have e7 : Z1 22 = nI p := by rw [← hZ1]; rfl
          have e8 : Z1 24 = nI (dv b p (min j 5)) := by rw [← hZ1]; rfl
          have eZ : ∀ x y, upA (upA Z1 24 x) 21 y = upA (upA (upA Z 22 (nI p)) 21 y) 24 x := fun x y => by
            rw [← hZ1]
            funext k
            unfold upA
            by_cases d1 : k = 21
            · subst d1; simp
            · by_cases d2 : k = 24
              · subst d2; simp
              · simp [d1, d2]
          have e9 : ∀ x, (upA Z1 24 x) 21 = nI (p + j) := fun x => e6
          rw [f_X12_reads_141, gf_57_8, Option.bind_some, e6, gO_57, Option.bind_some, m_see hn hb e3 (by omega), Option.bind_some, if_pos b1, m_isDigit (by omega), Option.bind_some, if_pos b2, if_neg (by decide), Option.bind_some, gf_57_9, Option.bind_some, e7, y_sub (by omega), show p + j - p = j by omega]
          unfold f_X12_reads_196
          by_cases c5 : 5 ≤ j
          · rw [if_pos (by rw [show (5 : Int32) = nI 5 from rfl, y_le (by omega) (by omega)]; exact c5), gf_57_11, Option.bind_some, e8, pf_57_11, Option.bind_some, gf_57_8, Option.bind_some, e9, pf_57_8, Option.bind_some, eZ, nI_1, show min (j + 1) 5 = min j 5 by omega]
            rfl
          · rw [if_neg (by rw [show (5 : Int32) = nI 5 from rfl, y_le (by omega) (by omega)]; exact c5), gf_57_11, Option.bind_some, gf_57_5, Option.bind_some, Option.bind_some, ld_62 (by omega), Option.bind_some, hx0, e8, show (10 : Int32) = nI 10 from rfl, show (48 : Int32) = nI 48 from rfl, pk_mul, nI_add, y_sub (by omega), pf_57_11, Option.bind_some, gf_57_8, Option.bind_some, e9, pf_57_8, Option.bind_some, eZ, nI_1, show min (j + 1) 5 = j + 1 by omega, show min j 5 = j by omega]
            rfl
        · show f_X12_reads_141 (k + 1) _ 57 = _
          rw [show p + (e - p) = e by omega]
          generalize hZ1 : upA (upA (upA Z 22 (nI p)) 21 (nI e)) 24 (nI (dv b p (min (e - p) 5))) = Z1
          have e3 : Z1 20 = nI n := by rw [← hZ1]; exact h20
          have e6 : Z1 21 = nI e := by rw [← hZ1]; rfl
          have e7 : Z1 22 = nI p := by rw [← hZ1]; rfl
          have e4 : dgt (if e < n then b e else 0) = false := by
            by_cases c3 : e < n
            · rw [if_pos c3]
              cases hx : dgt (b e)
              · rfl
              · exact absurd ⟨c3, hx⟩ a3
            · rw [if_neg c3]; rfl
          have e5 : (if e < n then b e else 0) < 2147483648 := by
            by_cases c3 : e < n
            · rw [if_pos c3]; have := (hb e c3).2; omega
            · rw [if_neg c3]; decide
          rw [f_X12_reads_141, gf_57_8, Option.bind_some, e6, gO_57, Option.bind_some, m_see hn hb e3 (by omega), Option.bind_some, m_isDigit e5, Option.bind_some, e4, if_pos (by decide), Option.bind_some, gf_57_9, Option.bind_some, e7, y_sub (by omega)]
          unfold f_X12_reads_231
          by_cases c4 : e - p ≤ 5
          · rw [if_pos (by rw [show (5 : Int32) = nI 5 from rfl, y_le (by omega) (by omega)]; exact c4), if_pos c4, pf_57_10, Option.bind_some]
            rfl
          · rw [if_neg (by rw [show (5 : Int32) = nI 5 from rfl, y_le (by omega) (by omega)]; exact c4), if_neg c4, pf_57_10, Option.bind_some]
            rfl
      · rw [if_neg c3, if_neg c3, if_pos (by decide)]
        unfold f_X12_reads_249
        have e6 : ∀ x, (upA (upA Z 22 (nI p)) 23 x) 21 = nI p := fun x => h21
        by_cases c4 : b p = 59
        · rw [if_pos (by rw [show (59 : Int32) = nI 59 from rfl, y_eq (by omega) (by omega)]; exact c4), if_pos c4, pf_57_10, Option.bind_some, gf_57_8, Option.bind_some, e6, pf_57_8, Option.bind_some, nI_1]
          exact ⟨_, rfl, ((Only.rf.up (by decide)).up (by decide)).up (by decide), rfl, rfl, rfl, fun h => by cases h⟩
        · rw [if_neg (by rw [show (59 : Int32) = nI 59 from rfl, y_eq (by omega) (by omega)]; exact c4), if_neg c4, pf_57_10, Option.bind_some, gf_57_8, Option.bind_some, e6, pf_57_8, Option.bind_some, nI_1]
          exact ⟨_, rfl, ((Only.rf.up (by decide)).up (by decide)).up (by decide), rfl, rfl, rfl, fun h => by cases h⟩
  · rw [if_neg (by rw [y_lt (by omega) (by omega)]; exact c1), if_pos c1, pf_57_10, Option.bind_some]
    refine ⟨_, rfl, ((Only.rf.up (by decide)).up (by decide)), ?_⟩
    exact ⟨h21, rfl, rfl, fun h => by cases h⟩
theorem m_reads (hn : n ≤ 800) (hb : ∀ k, k < n → A 62 k = nI (b k) ∧ b k < 256) (h20 : Z 20 = nI n) (h21 : Z 21 = nI p) (hp : p ≤ n) : ∃ Z', f_X12_reads (HH A Z B Q P F q D c) 57 = some (HH A Z' B Q P F q D c) ∧ Only [21, 22, 23, 24] Z Z' ∧ TZ (tok b n p) Z' := by
  obtain ⟨a1, a2, a3⟩ := run_spec blk b n 800 p (by omega)
  have a4 := run_le blk b hp hn
  unfold tok
  generalize run blk b n 800 p = e at *
  obtain ⟨Z', e1, o1, t1⟩ := m_reads52 (A := A) (Z := upA Z 21 (nI e)) (B := B) (Q := Q) (P := P) (F := F) (q := q) (D := D) (c := c) hn hb h20 y_us a4
  refine ⟨Z', ?_, Only.tr (Only.rf.up (S := [21]) (by decide)) o1 (by decide) (by decide), t1⟩
  rw [← e1]
  unfold f_X12_reads
  have e0 : upA Z 21 (nI (p + 0)) = Z := by
    rw [Nat.add_zero]
    have := y_ua (A := Z) (k := 21)
    rw [h21] at this
    exact this
  have key := loop_J (F := fun k j (_ : Unit) => f_X12_reads_0 k (HH A (upA Z 21 (nI (p + j))) B Q P F q D c) 57) (N := e - p) (fun _ => f_X12_reads_52 (HH A (upA Z 21 (nI e)) B Q P F q D c) 57) (fun _ _ => True) (fun k j u hj _ => ⟨(), ?_, trivial⟩) (fun k u _ => ?_) (by omega) (s := ()) trivial
  · obtain ⟨_, e2, _⟩ := key
    rw [e0] at e2
    exact e2
  · show f_X12_reads_0 (k + 1) _ 57 = f_X12_reads_0 k _ 57
    obtain ⟨b1, b2⟩ := a2 (p + j) (by omega) (by omega)
    obtain ⟨hx0, hx⟩ := hb _ b1
    have hx2 := of_decide_eq_true b2
    have e3 : (upA Z 21 (nI (p + j))) 20 = nI n := h20
    have e4 : (upA Z 21 (nI (p + j))) 21 = nI (p + j) := y_us
    have e39 : f_X12_reads_39 (f_X12_reads_0 k) (HH A (upA Z 21 (nI (p + j))) B Q P F q D c) 57 = f_X12_reads_0 k (HH A (upA Z 21 (nI (p + (j + 1)))) B Q P F q D c) 57 := by
      unfold f_X12_reads_39
      rw [gf_57_8, Option.bind_some, e4, pf_57_8, Option.bind_some, y_uu, nI_1]
      rfl
    rw [f_X12_reads_0, gf_57_8, Option.bind_some, gf_57_7, Option.bind_some, e3, e4, if_neg (by rw [y_le (by omega) (by omega)]; omega), gf_57_5, Option.bind_some, Option.bind_some, ld_62 (by omega), Option.bind_some, hx0, e39]
    by_cases c1 : b (p + j) = 32
    · rw [if_pos (by rw [show (32 : Int32) = nI 32 from rfl, y_eq (by omega) (by omega)]; exact c1)]
    · rw [if_neg (by rw [show (32 : Int32) = nI 32 from rfl, y_eq (by omega) (by omega)]; exact c1), Option.bind_some, Option.bind_some, ld_62 (by omega), Option.bind_some, hx0, if_pos (by rw [show (10 : Int32) = nI 10 from rfl, y_eq (by omega) (by omega)]; omega)]
  · show f_X12_reads_0 (k + 1) _ 57 = _
    have e3 : (upA Z 21 (nI e)) 20 = nI n := h20
    have e4 : (upA Z 21 (nI e)) 21 = nI e := y_us
    rw [show p + (e - p) = e by omega, f_X12_reads_0, gf_57_8, Option.bind_some, gf_57_7, Option.bind_some, e3, e4]
    by_cases c1 : e < n
    · obtain ⟨hx0, hx⟩ := hb _ c1
      have hx2 : ¬ (b e = 10 ∨ b e = 32) := fun h => a3 ⟨c1, decide_eq_true h⟩
      rw [if_neg (by rw [y_le (by omega) (by omega)]; omega), gf_57_5, Option.bind_some, Option.bind_some, ld_62 (by omega), Option.bind_some, hx0, if_neg (by rw [show (32 : Int32) = nI 32 from rfl, y_eq (by omega) (by omega)]; omega), Option.bind_some, Option.bind_some, ld_62 (by omega), Option.bind_some, hx0, if_neg (by rw [show (10 : Int32) = nI 10 from rfl, y_eq (by omega) (by omega)]; omega)]
    · rw [if_pos (by rw [y_le (by omega) (by omega)]; omega)]
end MTok
