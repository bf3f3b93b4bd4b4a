/-! ===== house: the class reads a token ===== -/
def CTk (t : TK) (f : Nat → Int32) : Prop := f 4 = nI t.1 ∧ f 5 = nI t.2.1 ∧ f 6 = nI t.2.2.1 ∧ (t.1 = 2 → f 7 = nI t.2.2.2)
section CAdv
variable {A : Nat → Nat → Int32} {Z : Nat → Int32} {B : Nat → Nat → Int64} {Q : Nat → Int64} {P : Nat → Option Nat} {F : Nat → Nat → Option Nat} {q : Nat} {D : List xC} {c : Nat × Nat} {b : Nat → Nat} {n a p s : Nat} {f : Nat → Int32}
theorem c_249 (hn : n ≤ 800) (hb : ∀ k, k < n → A 1 k = sb (b k) ∧ b k < 256) (H : RO D a f) (f3 : f 3 = nI n) (f5 : f 5 = nI s) (f6 : f 6 = nI s) (hs : s ≤ n) : ∃ D' f', f_X7_advance_249 (HH A Z B Q P F q D c) a = some (HH A Z B Q P F q D' c) ∧ DO a D D' ∧ RO D' a f' ∧ Only [4, 5, 6, 7] f f' ∧ CTk (if ¬ s < n then (0, s, s, 0) else if b s = 59 then (3, s, s + 1, 0) else (4, s, s + 1, 0)) f' := by
  obtain ⟨D1, e1, d1, r1⟩ := ro_p (A := A) (Z := Z) (B := B) (Q := Q) (P := P) (F := F) (q := q) (c := c) H (k := 4) (v := nI 0) (by decide)
  unfold f_X7_advance_249
  rw [ro_g H (by decide), Option.bind_some, ro_g H (by decide), Option.bind_some, f5, f6, if_pos (Int32.le_refl _), show (0 : Int32) = nI 0 from rfl, e1, Option.bind_some, ro_g r1 (by decide), Option.bind_some, ro_g r1 (by decide), Option.bind_some, show (upA f 4 (nI 0)) 6 = nI s from f6, show (upA f 4 (nI 0)) 3 = nI n from f3]
  by_cases c1 : s < n
  · obtain ⟨hb1, hb2⟩ := hb s c1
    rw [if_neg (by rw [y_le (by omega) (by omega)]; omega), if_neg (by omega), ro_2 r1, Option.bind_some, Option.bind_some, ld_1 (by omega), Option.bind_some, hb1, show (59 : Int32) = nI 59 from rfl]
    have e297 : ∀ k, ∃ D' f', f_X7_advance_297 (HH A Z B Q P F q D1 c) a (nI k) a = some (HH A Z B Q P F q D' c) ∧ DO a D D' ∧ RO D' a f' ∧ Only [4, 5, 6, 7] f f' ∧ f' 4 = nI k ∧ f' 5 = nI s ∧ f' 6 = nI (s + 1) := by
      intro k
      obtain ⟨D2, e2, d2, r2⟩ := ro_p (A := A) (Z := Z) (B := B) (Q := Q) (P := P) (F := F) (q := q) (c := c) r1 (k := 4) (v := nI k) (by decide)
      obtain ⟨D3, e3, d3, r3⟩ := ro_p (A := A) (Z := Z) (B := B) (Q := Q) (P := P) (F := F) (q := q) (c := c) r2 (k := 6) (v := nI (s + 1)) (by decide)
      refine ⟨D3, _, ?_, (d1.tr d2).tr d3, r3, ((Only.rf.up (by decide)).up (by decide)).up (by decide), rfl, f5, rfl⟩
      unfold f_X7_advance_297
      rw [e2, Option.bind_some, ro_g r2 (by decide), Option.bind_some, show (upA (upA f 4 (nI 0)) 4 (nI k)) 6 = nI s from f6, nI_1, e3, Option.bind_some]
    by_cases c2 : b s = 59
    · rw [if_pos (by rw [sb_eq hb2 (by decide)]; exact c2), if_pos c2]
      obtain ⟨D', f', e, d, r, o, v1, v2, v3⟩ := e297 3
      exact ⟨D', f', e, d, r, o, v1, v2, v3, fun h => by cases h⟩
    · rw [if_neg (by rw [sb_eq hb2 (by decide)]; exact c2), if_neg c2]
      obtain ⟨D', f', e, d, r, o, v1, v2, v3⟩ := e297 4
      exact ⟨D', f', e, d, r, o, v1, v2, v3, fun h => by cases h⟩
  · rw [if_pos (by rw [y_le (by omega) (by omega)]; omega), if_pos c1]
    exact ⟨D1, _, rfl, d1, r1, Only.rf.up (by decide), rfl, f5, f6, fun h => by cases h⟩
theorem c_134 (hn : n ≤ 800) (hb : ∀ k, k < n → A 1 k = sb (b k) ∧ b k < 256) (H : RO D a f) (f3 : f 3 = nI n) (f5 : f 5 = nI s) (f6 : f 6 = nI s) (f7 : f 7 = nI 0) (hs : s ≤ n) : ∃ D' f', f_X7_advance_134 xFU (HH A Z B Q P F q D c) a = some (HH A Z B Q P F q D' c) ∧ DO a D D' ∧ RO D' a f' ∧ Only [4, 5, 6, 7] f f' ∧ CTk (if ¬ s < n then (0, s, s, 0) else if dgt (b s) = true then (if run dgt b n 800 s - s ≤ 5 then (2, s, run dgt b n 800 s, dv b s (run dgt b n 800 s - s)) else (4, s, run dgt b n 800 s, 0)) else if b s = 59 then (3, s, s + 1, 0) else (4, s, s + 1, 0)) f' := by
  obtain ⟨a1, a2, a3⟩ := run_spec dgt b n 800 s (by omega)
  have a4 := run_le dgt b hs hn
  generalize run dgt b n 800 s = e at *
  have key := loop_J (F := fun k j (h : xH) => f_X7_advance_134 k h a) (N := e - s) (fun h => f_X7_advance_249 h a) (fun j h => ∃ D' f', h = HH A Z B Q P F q D' c ∧ DO a D D' ∧ RO D' a f' ∧ Only [4, 5, 6, 7] f f' ∧ f' 5 = nI s ∧ f' 6 = nI (s + j) ∧ f' 7 = nI (if j ≤ 5 then dv b s j else 0) ∧ (0 < j → f' 4 = nI (if j ≤ 5 then 2 else 4))) (fun k j h hj hh => ?_) (fun k h hh => ?_) (by omega) (s := HH A Z B Q P F q D c) ⟨D, f, rfl, DO.rf, H, Only.rf, f5, f6, f7, fun h => absurd h (Nat.lt_irrefl _)⟩
  · obtain ⟨h, e1, D1, f1, rfl, d1, r1, o1, v5, v6, v7, v4⟩ := key
    refine (fun (X : ∃ D' f', f_X7_advance_249 (HH A Z B Q P F q D1 c) a = some (HH A Z B Q P F q D' c) ∧ DO a D D' ∧ RO D' a f' ∧ Only [4, 5, 6, 7] f f' ∧ CTk _ f') => by
      obtain ⟨D', f', h1, h2⟩ := X
      exact ⟨D', f', e1.trans h1, h2⟩) ?_
    have g3 : f1 3 = nI n := by rw [o1 3 (by decide)]; exact f3
    rw [show s + (e - s) = e by omega] at v6
    by_cases c0 : e = s
    · have hd : ¬ (s < n ∧ dgt (b s) = true) := by rw [← c0] at *; exact a3
      rw [c0] at v6
      obtain ⟨D2, f2, e2, d2, r2, o2, t2⟩ := c_249 (A := A) (Z := Z) (B := B) (Q := Q) (P := P) (F := F) (q := q) (c := c) hn hb r1 g3 v5 v6 hs
      refine ⟨D2, f2, e2, d1.tr d2, r2, o1.tr o2 (fun k h => h) (fun k h => h), ?_⟩
      by_cases c1 : s < n
      · have c2 : ¬ dgt (b s) = true := fun h => hd ⟨c1, h⟩
        rw [if_neg (by omega)] at t2
        rw [if_neg (by omega), if_neg c2]
        exact t2
      · rw [if_pos c1] at t2
        rw [if_pos c1]
        exact t2
    · obtain ⟨b1, b2⟩ := a2 s (Nat.le_refl _) (by omega)
      rw [if_neg (by omega), if_pos b2]
      refine ⟨D1, f1, ?_, d1, r1, o1, ?_⟩
      · unfold f_X7_advance_249
        rw [ro_g r1 (by decide), Option.bind_some, ro_g r1 (by decide), Option.bind_some, v5, v6, if_neg (by rw [y_le (by omega) (by omega)]; omega)]
      · have v4 := v4 (by omega)
        by_cases c5 : e - s ≤ 5
        · rw [if_pos c5] at v4 v7
          rw [if_pos c5]
          exact ⟨v4, v5, v6, fun _ => v7⟩
        · rw [if_neg c5] at v4 v7
          rw [if_neg c5]
          exact ⟨v4, v5, v6, fun h => by cases h⟩
  · obtain ⟨D1, f1, rfl, d1, r1, o1, v5, v6, v7, v4⟩ := hh
    obtain ⟨b1, b2⟩ := a2 (s + j) (by omega) (by omega)
    obtain ⟨hb1, hb2⟩ := hb _ b1
    have hx2 := of_decide_eq_true b2
    have g3 : f1 3 = nI n := by rw [o1 3 (by decide)]; exact f3
    have hsb : sb (b (s + j)) = nI (b (s + j)) := sb_nI (by omega)
    rw [hsb] at hb1
    obtain ⟨D2, e2, d2, r2⟩ := ro_p (A := A) (Z := Z) (B := B) (Q := Q) (P := P) (F := F) (q := q) (c := c) r1 (k := 4) (v := nI (if j + 1 ≤ 5 then 2 else 4)) (by decide)
    obtain ⟨D3, e3, d3, r3⟩ := ro_p (A := A) (Z := Z) (B := B) (Q := Q) (P := P) (F := F) (q := q) (c := c) r2 (k := 7) (v := nI (if j + 1 ≤ 5 then dv b s (j + 1) else 0)) (by decide)
    obtain ⟨D4, e4, d4, r4⟩ := ro_p (A := A) (Z := Z) (B := B) (Q := Q) (P := P) (F := F) (q := q) (c := c) r3 (k := 6) (v := nI (s + (j + 1))) (by decide)
    refine ⟨HH A Z B Q P F q D4 c, ?_, D4, _, rfl, ((d1.tr d2).tr d3).tr d4, r4, ((o1.up (by decide)).up (by decide)).up (by decide), v5, rfl, rfl, fun _ => rfl⟩
    show f_X7_advance_134 (k + 1) _ a = f_X7_advance_134 k _ a
    have e233 : f_X7_advance_233 (f_X7_advance_134 k) (HH A Z B Q P F q D2 c) a (nI (if j + 1 ≤ 5 then dv b s (j + 1) else 0)) a = f_X7_advance_134 k (HH A Z B Q P F q D4 c) a := by
      unfold f_X7_advance_233
      rw [e3, Option.bind_some, ro_g r3 (by decide), Option.bind_some, show (upA (upA f1 4 (nI (if j + 1 ≤ 5 then 2 else 4))) 7 (nI (if j + 1 ≤ 5 then dv b s (j + 1) else 0))) 6 = nI (s + j) from v6, show (1 : Int32) = nI 1 from rfl, nI_add, show s + j + 1 = s + (j + 1) by omega, e4, Option.bind_some]
    have w5 : (upA f1 4 (nI (if j + 1 ≤ 5 then 2 else 4))) 5 = nI s := v5
    have w6 : (upA f1 4 (nI (if j + 1 ≤ 5 then 2 else 4))) 6 = nI (s + j) := v6
    have w7 : (upA f1 4 (nI (if j + 1 ≤ 5 then 2 else 4))) 7 = nI (if j ≤ 5 then dv b s j else 0) := v7
    rw [f_X7_advance_134, ro_g r1 (by decide), Option.bind_some, ro_g r1 (by decide), Option.bind_some, v6, g3, if_neg (by rw [y_le (by omega) (by omega)]; omega), ro_2 r1, Option.bind_some, Option.bind_some, ld_1 (by omega), Option.bind_some, hb1, if_neg (by rw [show (48 : Int32) = nI 48 from rfl, y_lt (by omega) (by omega)]; omega), Option.bind_some, Option.bind_some, ld_1 (by omega), Option.bind_some, hb1, if_neg (by rw [show (57 : Int32) = nI 57 from rfl, y_lt (by omega) (by omega)]; omega), Option.bind_some, ro_g r1 (by decide), Option.bind_some, v5, y_sub (by omega), show s + j - s = j by omega]
    unfold f_X7_advance_192
    by_cases c5 : 5 ≤ j
    · have n5 : ¬ j + 1 ≤ 5 := by omega
      rw [if_neg n5] at e2 e233 w5 w6 w7
      rw [if_pos (by rw [show (5 : Int32) = nI 5 from rfl, y_le (by omega) (by omega)]; exact c5), show (4 : Int32) = nI 4 from rfl, e2, Option.bind_some, ro_g r2 (by decide), Option.bind_some, ro_g r2 (by decide), Option.bind_some]
      rw [if_neg n5]
      rw [w5, w6, y_sub (by omega), show s + j - s = j by omega, if_pos (by rw [show (5 : Int32) = nI 5 from rfl, y_le (by omega) (by omega)]; exact c5)]
      exact e233
    · have n5 : j + 1 ≤ 5 := by omega
      have n5' : j ≤ 5 := by omega
      rw [if_pos n5] at e2 e233 w5 w6 w7
      rw [if_pos n5'] at w7
      rw [if_neg (by rw [show (5 : Int32) = nI 5 from rfl, y_le (by omega) (by omega)]; exact c5), show (2 : Int32) = nI 2 from rfl, e2, Option.bind_some, ro_g r2 (by decide), Option.bind_some, ro_g r2 (by decide), Option.bind_some]
      rw [if_pos n5]
      rw [w5, w6, y_sub (by omega), show s + j - s = j by omega, if_neg (by rw [show (5 : Int32) = nI 5 from rfl, y_le (by omega) (by omega)]; exact c5), ro_g r2 (by decide), Option.bind_some, ro_2 r2, Option.bind_some, Option.bind_some, ld_1 (by omega), Option.bind_some, hb1]
      rw [if_pos n5]
      rw [w7, show (10 : Int32) = nI 10 from rfl, show (48 : Int32) = nI 48 from rfl, pk_mul, y_sub (by omega), nI_add, show dv b s j * 10 + (b (s + j) - 48) = dv b s (j + 1) by rw [dv]; omega]
      exact e233
  · obtain ⟨D1, f1, rfl, d1, r1, o1, v5, v6, v7, v4⟩ := hh
    show f_X7_advance_134 (k + 1) _ a = f_X7_advance_249 _ a
    have g3 : f1 3 = nI n := by rw [o1 3 (by decide)]; exact f3
    rw [show s + (e - s) = e by omega] at v6
    rw [f_X7_advance_134, ro_g r1 (by decide), Option.bind_some, ro_g r1 (by decide), Option.bind_some, v6, g3]
    by_cases c1 : e < n
    · obtain ⟨hb1, hb2⟩ := hb _ c1
      have hx : ¬ dgt (b e) = true := fun h => a3 ⟨c1, h⟩
      have hx2 : ¬ (48 ≤ b e ∧ b e ≤ 57) := fun h => hx (decide_eq_true h)
      rw [if_neg (by rw [y_le (by omega) (by omega)]; omega), ro_2 r1, Option.bind_some, Option.bind_some, ld_1 (by omega), Option.bind_some, hb1]
      by_cases c2 : sb (b e) < (48 : Int32)
      · rw [if_pos c2]
      · rw [if_neg c2, Option.bind_some, Option.bind_some, ld_1 (by omega), Option.bind_some, hb1]
        have c3 : ¬ (b e < 48 ∨ 128 ≤ b e) := fun h => c2 ((sb_lt hb2 (k := 48) (by decide)).mpr h)
        rw [if_pos (show (57 : Int32) < sb (b e) from (sb_gt hb2 (k := 57) (by decide)).mpr (by omega))]
    · rw [if_pos (by rw [y_le (by omega) (by omega)]; omega)]
theorem c_52 (hn : n ≤ 800) (hb : ∀ k, k < n → A 1 k = sb (b k) ∧ b k < 256) (H : RO D a f) (f3 : f 3 = nI n) (f6 : f 6 = nI s) (hs : s ≤ n) : ∃ D' f', f_X7_advance_52 (HH A Z B Q P F q D c) a = some (HH A Z B Q P F q D' c) ∧ DO a D D' ∧ RO D' a f' ∧ Only [4, 5, 6, 7] f f' ∧ CTk (tok2 b n s) f' := by
  obtain ⟨D1, e1, d1, r1⟩ := ro_p (A := A) (Z := Z) (B := B) (Q := Q) (P := P) (F := F) (q := q) (c := c) H (k := 5) (v := nI s) (by decide)
  obtain ⟨D2, e2, d2, r2⟩ := ro_p (A := A) (Z := Z) (B := B) (Q := Q) (P := P) (F := F) (q := q) (c := c) r1 (k := 7) (v := nI 0) (by decide)
  have hst : f_X7_advance_52 (HH A Z B Q P F q D c) a = f_X7_advance_65 xFU (HH A Z B Q P F q D2 c) a := by
    unfold f_X7_advance_52
    rw [ro_g H (by decide), Option.bind_some, f6, e1, Option.bind_some, show (0 : Int32) = nI 0 from rfl, e2, Option.bind_some]
  obtain ⟨a1, a2, a3⟩ := run_spec ltr b n 800 s (by omega)
  have a4 := run_le ltr b hs hn
  unfold tok2
  generalize run ltr b n 800 s = e at *
  have key := loop_J (F := fun k j (h : xH) => f_X7_advance_65 k h a) (N := e - s) (fun h => f_X7_advance_122 h a) (fun j h => ∃ D' f', h = HH A Z B Q P F q D' c ∧ DO a D D' ∧ RO D' a f' ∧ Only [4, 5, 6, 7] f f' ∧ f' 5 = nI s ∧ f' 6 = nI (s + j) ∧ f' 7 = nI 0 ∧ (0 < j → f' 4 = nI 1)) (fun k j h hj hh => ?_) (fun k h hh => ?_) (by omega) (s := HH A Z B Q P F q D2 c) ⟨D2, _, rfl, d1.tr d2, r2, (Only.rf.up (by decide)).up (by decide), rfl, f6, rfl, fun h => absurd h (Nat.lt_irrefl _)⟩
  · obtain ⟨h, e3, D3, f4, rfl, d3, r3, o3, v5, v6, v7, v4⟩ := key
    have g3 : f4 3 = nI n := by rw [o3 3 (by decide)]; exact f3
    rw [show s + (e - s) = e by omega] at v6
    rw [hst]
    refine (fun (X : ∃ D' f', f_X7_advance_122 (HH A Z B Q P F q D3 c) a = some (HH A Z B Q P F q D' c) ∧ DO a D D' ∧ RO D' a f' ∧ Only [4, 5, 6, 7] f f' ∧ CTk _ f') => by
      obtain ⟨D', f', h1, h2⟩ := X
      exact ⟨D', f', e3.trans h1, h2⟩) ?_
    unfold f_X7_advance_122
    rw [ro_g r3 (by decide), Option.bind_some, ro_g r3 (by decide), Option.bind_some, v5, v6]
    by_cases c0 : e = s
    · have hd : ¬ (s < n ∧ ltr (b s) = true) := by rw [← c0] at *; exact a3
      rw [c0] at v6
      obtain ⟨D4, f5, e4, d4, r4, o4, t4⟩ := c_134 (A := A) (Z := Z) (B := B) (Q := Q) (P := P) (F := F) (q := q) (c := c) hn hb r3 g3 v5 v6 v7 hs
      refine ⟨D4, f5, ?_, d3.tr d4, r4, o3.tr o4 (fun k h => h) (fun k h => h), ?_⟩
      · rw [c0, if_pos (Int32.le_refl _)]; exact e4
      · by_cases c1 : s < n
        · have c2 : ¬ ltr (b s) = true := fun h => hd ⟨c1, h⟩
          rw [if_neg (by omega)] at t4
          rw [if_neg (by omega), if_neg c2]
          exact t4
        · rw [if_pos c1] at t4
          rw [if_pos c1]
          exact t4
    · obtain ⟨b1, b2⟩ := a2 s (Nat.le_refl _) (by omega)
      rw [if_neg (by rw [y_le (by omega) (by omega)]; omega), if_neg (by omega), if_pos b2]
      exact ⟨D3, f4, rfl, d3, r3, o3, v4 (by omega), v5, v6, fun h => by cases h⟩
  · obtain ⟨D3, f4, rfl, d3, r3, o3, v5, v6, v7, v4⟩ := hh
    obtain ⟨b1, b2⟩ := a2 (s + j) (by omega) (by omega)
    obtain ⟨hb1, hb2⟩ := hb _ b1
    have hx2 := of_decide_eq_true b2
    have g3 : f4 3 = nI n := by rw [o3 3 (by decide)]; exact f3
    have hsb : sb (b (s + j)) = nI (b (s + j)) := sb_nI (by omega)
    rw [hsb] at hb1
    obtain ⟨D4, e4, d4, r4⟩ := ro_p (A := A) (Z := Z) (B := B) (Q := Q) (P := P) (F := F) (q := q) (c := c) r3 (k := 4) (v := nI 1) (by decide)
    obtain ⟨D5, e5, d5, r5⟩ := ro_p (A := A) (Z := Z) (B := B) (Q := Q) (P := P) (F := F) (q := q) (c := c) r4 (k := 6) (v := nI (s + (j + 1))) (by decide)
    refine ⟨HH A Z B Q P F q D5 c, ?_, D5, _, rfl, (d3.tr d4).tr d5, r5, (o3.up (by decide)).up (by decide), v5, rfl, v7, fun _ => rfl⟩
    show f_X7_advance_65 (k + 1) _ a = f_X7_advance_65 k _ a
    rw [f_X7_advance_65, ro_g r3 (by decide), Option.bind_some, ro_g r3 (by decide), Option.bind_some, v6, g3, if_neg (by rw [y_le (by omega) (by omega)]; omega), ro_2 r3, Option.bind_some, Option.bind_some, ld_1 (by omega), Option.bind_some, hb1, if_neg (by rw [show (97 : Int32) = nI 97 from rfl, y_lt (by omega) (by omega)]; omega), Option.bind_some, Option.bind_some, ld_1 (by omega), Option.bind_some, hb1, if_neg (by rw [show (122 : Int32) = nI 122 from rfl, y_lt (by omega) (by omega)]; omega), show (1 : Int32) = nI 1 from rfl, e4, Option.bind_some, ro_g r4 (by decide), Option.bind_some, show (upA f4 4 (nI 1)) 6 = nI (s + j) from v6, nI_add, show s + j + 1 = s + (j + 1) by omega, e5, Option.bind_some]
  · obtain ⟨D3, f4, rfl, d3, r3, o3, v5, v6, v7, v4⟩ := hh
    show f_X7_advance_65 (k + 1) _ a = f_X7_advance_122 _ a
    have g3 : f4 3 = nI n := by rw [o3 3 (by decide)]; exact f3
    rw [show s + (e - s) = e by omega] at v6
    rw [f_X7_advance_65, ro_g r3 (by decide), Option.bind_some, ro_g r3 (by decide), Option.bind_some, v6, g3]
    by_cases c1 : e < n
    · obtain ⟨hb1, hb2⟩ := hb _ c1
      have hx2 : ¬ (97 ≤ b e ∧ b e ≤ 122) := fun h => a3 ⟨c1, decide_eq_true h⟩
      rw [if_neg (by rw [y_le (by omega) (by omega)]; omega), ro_2 r3, Option.bind_some, Option.bind_some, ld_1 (by omega), Option.bind_some, hb1]
      by_cases c2 : sb (b e) < (97 : Int32)
      · rw [if_pos c2]
      · rw [if_neg c2, Option.bind_some, Option.bind_some, ld_1 (by omega), Option.bind_some, hb1]
        have c3 : ¬ (b e < 97 ∨ 128 ≤ b e) := fun h => c2 ((sb_lt hb2 (k := 97) (by decide)).mpr h)
        rw [if_pos (show (122 : Int32) < sb (b e) from (sb_gt hb2 (k := 122) (by decide)).mpr (by omega))]
    · rw [if_pos (by rw [y_le (by omega) (by omega)]; omega)]
theorem c_adv (hn : n ≤ 800) (hb : ∀ k, k < n → A 1 k = sb (b k) ∧ b k < 256) (H : RO D a f) (f3 : f 3 = nI n) (f6 : f 6 = nI p) (hp : p ≤ n) : ∃ D' f', f_X7_advance (HH A Z B Q P F q D c) a = some (HH A Z B Q P F q D' c) ∧ DO a D D' ∧ RO D' a f' ∧ Only [4, 5, 6, 7] f f' ∧ CTk (tok b n p) f' := by
  obtain ⟨a1, a2, a3⟩ := run_spec blk b n 800 p (by omega)
  have a4 := run_le blk b hp hn
  unfold tok f_X7_advance
  generalize run blk b n 800 p = e at *
  have key := loop_J (F := fun k j (h : xH) => f_X7_advance_0 k h a) (N := e - p) (fun h => f_X7_advance_52 h a) (fun j h => ∃ D' f', h = HH A Z B Q P F q D' c ∧ DO a D D' ∧ RO D' a f' ∧ Only [4, 5, 6, 7] f f' ∧ f' 6 = nI (p + j)) (fun k j h hj hh => ?_) (fun k h hh => ?_) (by omega) (s := HH A Z B Q P F q D c) ⟨D, f, rfl, DO.rf, H, Only.rf, f6⟩
  · obtain ⟨h, e3, D3, f4, rfl, d3, r3, o3, v6⟩ := key
    have g3 : f4 3 = nI n := by rw [o3 3 (by decide)]; exact f3
    rw [show p + (e - p) = e by omega] at v6
    obtain ⟨D4, f5, e4, d4, r4, o4, t4⟩ := c_52 (A := A) (Z := Z) (B := B) (Q := Q) (P := P) (F := F) (q := q) (c := c) hn hb r3 g3 v6 a4
    exact ⟨D4, f5, e3.trans e4, d3.tr d4, r4, o3.tr o4 (fun k h => h) (fun k h => h), t4⟩
  · obtain ⟨D3, f4, rfl, d3, r3, o3, v6⟩ := hh
    obtain ⟨b1, b2⟩ := a2 (p + j) (by omega) (by omega)
    obtain ⟨hb1, hb2⟩ := hb _ b1
    have hx2 := of_decide_eq_true b2
    have g3 : f4 3 = nI n := by rw [o3 3 (by decide)]; exact f3
    obtain ⟨D4, e4, d4, r4⟩ := ro_p (A := A) (Z := Z) (B := B) (Q := Q) (P := P) (F := F) (q := q) (c := c) r3 (k := 6) (v := nI (p + (j + 1))) (by decide)
    refine ⟨HH A Z B Q P F q D4 c, ?_, D4, _, rfl, d3.tr d4, r4, o3.up (by decide), rfl⟩
    show f_X7_advance_0 (k + 1) _ a = f_X7_advance_0 k _ a
    have e39 : f_X7_advance_39 (f_X7_advance_0 k) (HH A Z B Q P F q D3 c) a = f_X7_advance_0 k (HH A Z B Q P F q D4 c) a := by
      unfold f_X7_advance_39
      rw [ro_g r3 (by decide), Option.bind_some, v6, show (1 : Int32) = nI 1 from rfl, nI_add, show p + j + 1 = p + (j + 1) by omega, e4, Option.bind_some]
    rw [f_X7_advance_0, ro_g r3 (by decide), Option.bind_some, ro_g r3 (by decide), Option.bind_some, v6, g3, if_neg (by rw [y_le (by omega) (by omega)]; omega), ro_2 r3, Option.bind_some, Option.bind_some, ld_1 (by omega), Option.bind_some, hb1, e39, show (10 : Int32) = nI 10 from rfl, show (32 : Int32) = nI 32 from rfl]
    by_cases c1 : b (p + j) = 10
    · rw [if_pos (by rw [sb_eq hb2 (by decide)]; exact c1)]
    · rw [if_neg (by rw [sb_eq hb2 (by decide)]; exact c1), Option.bind_some, Option.bind_some, ld_1 (by omega), Option.bind_some, hb1, if_pos (by rw [sb_eq hb2 (by decide)]; omega)]
  · obtain ⟨D3, f4, rfl, d3, r3, o3, v6⟩ := hh
    show f_X7_advance_0 (k + 1) _ a = f_X7_advance_52 _ a
    have g3 : f4 3 = nI n := by rw [o3 3 (by decide)]; exact f3
    rw [show p + (e - p) = e by omega] at v6
    rw [f_X7_advance_0, ro_g r3 (by decide), Option.bind_some, ro_g r3 (by decide), Option.bind_some, v6, g3]
    by_cases c1 : e < n
    · obtain ⟨hb1, hb2⟩ := hb _ c1
      have hx2 : ¬ (b e = 10 ∨ b e = 32) := fun h => a3 ⟨c1, decide_eq_true h⟩
      rw [if_neg (by rw [y_le (by omega) (by omega)]; omega), ro_2 r3, Option.bind_some, Option.bind_some, ld_1 (by omega), Option.bind_some, hb1, show (10 : Int32) = nI 10 from rfl, show (32 : Int32) = nI 32 from rfl, if_neg (by rw [sb_eq hb2 (by decide)]; omega), Option.bind_some, Option.bind_some, ld_1 (by omega), Option.bind_some, hb1, if_neg (by rw [sb_eq hb2 (by decide)]; omega)]
    · rw [if_pos (by rw [y_le (by omega) (by omega)]; omega)]
end CAdv
