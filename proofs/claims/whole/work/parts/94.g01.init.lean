/-! ===== the start: rows as they begin ===== -/
def beg (k : Nat) : Int32 := if k = 6 then 50 else if 416 ≤ k ∧ k < 432 then 10 else if 448 ≤ k ∧ k % 2 = 0 then -1 else 0
theorem beg_spec {hc : List xC} {hk : Nat × Nat} {a : Nat} {f : Nat → Int32} (H : hc[a]? = some (.inl (.int, 480, .inl f))) : ∃ g, f_X12_begins (hc, hk) a = some (hc.set a (.inl (.int, 480, .inl g)), hk) ∧ ∀ k, k < 480 → g k = beg k := by
  have hal : a < hc.length := (List.getElem?_eq_some_iff.mp H).1
  have hst : ∀ (f : Nat → Int32) (i : Nat) (x : Int32), i < 480 → stI (hc.set a (.inl (.int, 480, .inl f)), hk) .int a (nI i) x = some (hc.set a (.inl (.int, 480, .inl (va_up f i x))), hk) := fun f i x hi => by
    rw [stI_nI (h := (hc.set a (.inl (.int, 480, .inl f)), hk)) (n := 480) (f := f) (by show (hc.set a _)[a]? = _; rw [List.getElem?_set_self hal]) (by decide) hi]
    show some ((hc.set a _).set a _, hk) = _
    rw [List.set_set]
  have hset : hc.set a (.inl (.int, 480, .inl f)) = hc := by
    apply List.ext_getElem?
    intro i
    by_cases e : a = i
    · subst e; rw [List.getElem?_set_self hal, H]
    · rw [List.getElem?_set_ne e]
  have k27 : ∀ f0 : Nat → Int32, (∀ k, k < 480 → f0 k = if k = 6 then 50 else 0) → ∃ g, f_X12_begins_27 xFU (hc.set a (.inl (.int, 480, .inl f0)), hk) a (nI 0) = some (hc.set a (.inl (.int, 480, .inl g)), hk) ∧ ∀ k, k < 480 → g k = beg k := by
    intro f0 h0
    have key := loop_J (F := fun n j (s : xH) => f_X12_begins_27 n s a (nI j)) (N := 16) some (fun j s => ∃ g, s = (hc.set a (.inl (.int, 480, .inl g)), hk) ∧ ∀ k, k < 480 → g k = if k = 6 then 50 else if 416 ≤ k ∧ k < 416 + j then 10 else if 448 ≤ k ∧ k < 448 + 2 * j ∧ k % 2 = 0 then -1 else 0) (fun n j s hj hs => ?_) (fun n s hs => ?_) (by omega) (s := (hc.set a (.inl (.int, 480, .inl f0)), hk)) ⟨f0, rfl, fun k hk => by rw [h0 k hk, if_neg (c := 416 ≤ k ∧ k < 416 + 0) (by omega), if_neg (c := 448 ≤ k ∧ k < 448 + 2 * 0 ∧ k % 2 = 0) (by omega)]⟩
    · obtain ⟨s, e1, g, e2, hg⟩ := key
      subst e2
      refine ⟨g, e1, fun k hk => ?_⟩
      rw [hg k hk]
      unfold beg
      by_cases c1 : k = 6
      · rw [if_pos c1, if_pos c1]
      · rw [if_neg c1, if_neg c1]
        by_cases c2 : 416 ≤ k ∧ k < 432
        · rw [if_pos (c := 416 ≤ k ∧ k < 416 + 16) (by omega), if_pos c2]
        · rw [if_neg (c := 416 ≤ k ∧ k < 416 + 16) (by omega), if_neg c2]
          by_cases c3 : 448 ≤ k ∧ k % 2 = 0
          · rw [if_pos (c := 448 ≤ k ∧ k < 448 + 2 * 16 ∧ k % 2 = 0) (by omega), if_pos c3]
          · rw [if_neg (c := 448 ≤ k ∧ k < 448 + 2 * 16 ∧ k % 2 = 0) (by omega), if_neg c3]
    · obtain ⟨g, rfl, hg⟩ := hs
      refine ⟨(hc.set a (.inl (.int, 480, .inl (va_up (va_up g (416 + j) 10) (448 + 2 * j) (-1)))), hk), ?_, _, rfl, fun k hk => ?_⟩
      · show f_X12_begins_27 (n + 1) _ _ _ = f_X12_begins_27 n _ _ _
        rw [f_X12_begins_27, if_neg (by rw [show (16 : Int32) = nI 16 from rfl, y_le (by omega) (by omega)]; omega), show (416 : Int32) = nI 416 from rfl, show (448 : Int32) = nI 448 from rfl, show (2 : Int32) = nI 2 from rfl, nI_add, pk_mul, nI_add, hst _ _ _ (by omega), Option.bind_some, hst _ _ _ (by omega), Option.bind_some, nI_1]
      · by_cases c1 : k = 448 + 2 * j
        · subst c1
          rw [y_vs, if_neg (by omega), if_neg (by omega), if_pos (by omega)]
        · rw [y_vn c1]
          by_cases c2 : k = 416 + j
          · subst c2
            rw [y_vs, if_neg (by omega), if_pos (by omega)]
          · rw [y_vn c2, hg k hk]
            by_cases c3 : k = 6
            · rw [if_pos c3, if_pos c3]
            · rw [if_neg c3, if_neg c3]
              by_cases c4 : 416 ≤ k ∧ k < 416 + j
              · rw [if_pos c4, if_pos (by omega)]
              · rw [if_neg c4, if_neg (c := 416 ≤ k ∧ k < 416 + (j + 1)) (by omega)]
                by_cases c5 : 448 ≤ k ∧ k < 448 + 2 * j ∧ k % 2 = 0
                · rw [if_pos c5, if_pos (by omega)]
                · rw [if_neg c5, if_neg (by omega)]
    · obtain ⟨g, rfl, hg⟩ := hs
      show f_X12_begins_27 (n + 1) _ _ _ = _
      rw [f_X12_begins_27, if_pos (by decide)]
  unfold f_X12_begins
  have key := loop_I (F := fun n j (s : xH) => f_X12_begins_2 n s a (nI j)) (N := 480) some (fun j s => ∃ g, s = (hc.set a (.inl (.int, 480, .inl g)), hk) ∧ ∀ k, k < j → g k = 0) (fun o => ∃ g, o = (hc.set a (.inl (.int, 480, .inl g)), hk) ∧ ∀ k, k < 480 → g k = beg k) (fun n j s hj hs => Or.inl ?_) (fun n s hs => ?_) (by omega) (s := (hc, hk)) ⟨f, by rw [hset], fun k hk => by omega⟩
  · obtain ⟨s, e1, g, e2, hg⟩ := key
    subst e2
    exact ⟨g, e1, hg⟩
  · obtain ⟨g, rfl, hg⟩ := hs
    refine ⟨(hc.set a (.inl (.int, 480, .inl (va_up g j 0))), hk), ?_, _, rfl, fun k hk => ?_⟩
    · show f_X12_begins_2 (n + 1) _ _ _ = f_X12_begins_2 n _ _ _
      rw [f_X12_begins_2, if_neg (by rw [show (480 : Int32) = nI 480 from rfl, y_le (by omega) (by omega)]; omega), hst _ _ _ hj, Option.bind_some, nI_1]
    · by_cases e : k = j
      · subst e; rw [y_vs]
      · rw [y_vn e]; exact hg k (by omega)
  · obtain ⟨g, rfl, hg⟩ := hs
    obtain ⟨g2, e2, h2⟩ := k27 (va_up g 6 50) (fun k hk => by
      by_cases e : k = 6
      · subst e; rw [y_vs, if_pos rfl]
      · rw [y_vn e, if_neg e]; exact hg k hk)
    refine ⟨_, ?_, g2, rfl, h2⟩
    show f_X12_begins_2 (n + 1) _ _ _ = _
    rw [f_X12_begins_2, if_pos (by decide), show (6 : Int32) = nI 6 from rfl, hst _ _ _ (by omega), Option.bind_some]
    exact e2
def ih_0 : xH := ([], 0, 0)
def ic_1 : xC := .inr (11, [.null, .int 0, .int 0, .int 0, .null, .null, .null, .null, .long 0, .long 0, .null, .null, .null, .null, .null, .null, .null, .null])
def ih_1 : xH := ([ic_1], 1, 18)
set_option maxRecDepth 20000 in
theorem iz_1 : mkO ih_0 11 18 [.null, .int 0, .int 0, .int 0, .null, .null, .null, .null, .long 0, .long 0, .null, .null, .null, .null, .null, .null, .null, .null] = some ih_1 := rfl
def ic_2 : xC := .inl (.byte, 800, .inl (fun _ => 0))
def ih_2 : xH := ([ic_1, ic_2], 2, 818)
set_option maxRecDepth 20000 in
theorem iz_2 : mkI ih_1 .byte (800 : Int32) = some ih_2 := rfl
def ic_3 : xC := .inr (11, [.ref 1, .int 0, .int 0, .int 0, .null, .null, .null, .null, .long 0, .long 0, .null, .null, .null, .null, .null, .null, .null, .null])
def ih_3 : xH := ([ic_3, ic_2], 2, 818)
set_option maxRecDepth 20000 in
theorem iz_3 : pF ih_2 (ih_0.1.length) 11 0 (.ref (ih_1.1.length)) = some ih_3 := rfl
def ic_4 : xC := .inr (11, [.ref 1, .int (0 : Int32), .int 0, .int 0, .null, .null, .null, .null, .long 0, .long 0, .null, .null, .null, .null, .null, .null, .null, .null])
def ih_4 : xH := ([ic_4, ic_2], 2, 818)
set_option maxRecDepth 20000 in
theorem iz_4 : pF ih_3 (ih_0.1.length) 11 1 (.int (0 : Int32)) = some ih_4 := rfl
def ic_5 : xC := .inr (11, [.ref 1, .int (0 : Int32), .int (0 : Int32), .int 0, .null, .null, .null, .null, .long 0, .long 0, .null, .null, .null, .null, .null, .null, .null, .null])
def ih_5 : xH := ([ic_5, ic_2], 2, 818)
set_option maxRecDepth 20000 in
theorem iz_5 : pF ih_4 (ih_0.1.length) 11 2 (.int (0 : Int32)) = some ih_5 := rfl
def ic_6 : xC := .inr (11, [.ref 1, .int (0 : Int32), .int (0 : Int32), .int (-1 : Int32), .null, .null, .null, .null, .long 0, .long 0, .null, .null, .null, .null, .null, .null, .null, .null])
def ih_6 : xH := ([ic_6, ic_2], 2, 818)
set_option maxRecDepth 20000 in
theorem iz_6 : pF ih_5 (ih_0.1.length) 11 3 (.int (-1 : Int32)) = some ih_6 := rfl
def ic_7 : xC := .inr (3, [.int 0, .int 0, .int 0, .int 0, .int 0, .int 0, .int 0, .null, .null, .null, .null, .null, .null, .null, .null, .null])
def ih_7 : xH := ([ic_6, ic_2, ic_7], 3, 834)
set_option maxRecDepth 20000 in
theorem iz_7 : mkO ih_6 3 16 [.int 0, .int 0, .int 0, .int 0, .int 0, .int 0, .int 0, .null, .null, .null, .null, .null, .null, .null, .null, .null] = some ih_7 := rfl
def ic_8 : xC := .inr (3, [.int (0 : Int32), .int 0, .int 0, .int 0, .int 0, .int 0, .int 0, .null, .null, .null, .null, .null, .null, .null, .null, .null])
def ih_8 : xH := ([ic_6, ic_2, ic_8], 3, 834)
set_option maxRecDepth 20000 in
theorem iz_9 : pF ih_7 (ih_6.1.length) 3 0 (.int (0 : Int32)) = some ih_8 := rfl
def ic_9 : xC := .inr (3, [.int (0 : Int32), .int (0 : Int32), .int 0, .int 0, .int 0, .int 0, .int 0, .null, .null, .null, .null, .null, .null, .null, .null, .null])
def ih_9 : xH := ([ic_6, ic_2, ic_9], 3, 834)
set_option maxRecDepth 20000 in
theorem iz_10 : pF ih_8 (ih_6.1.length) 3 1 (.int (0 : Int32)) = some ih_9 := rfl
def ic_10 : xC := .inr (3, [.int (0 : Int32), .int (0 : Int32), .int (50 : Int32), .int 0, .int 0, .int 0, .int 0, .null, .null, .null, .null, .null, .null, .null, .null, .null])
def ih_10 : xH := ([ic_6, ic_2, ic_10], 3, 834)
set_option maxRecDepth 20000 in
theorem iz_11 : pF ih_9 (ih_6.1.length) 3 2 (.int (50 : Int32)) = some ih_10 := rfl
def ic_11 : xC := .inr (3, [.int (0 : Int32), .int (0 : Int32), .int (50 : Int32), .int (0 : Int32), .int 0, .int 0, .int 0, .null, .null, .null, .null, .null, .null, .null, .null, .null])
def ih_11 : xH := ([ic_6, ic_2, ic_11], 3, 834)
set_option maxRecDepth 20000 in
theorem iz_12 : pF ih_10 (ih_6.1.length) 3 3 (.int (0 : Int32)) = some ih_11 := rfl
def ic_12 : xC := .inr (3, [.int (0 : Int32), .int (0 : Int32), .int (50 : Int32), .int (0 : Int32), .int (0 : Int32), .int 0, .int 0, .null, .null, .null, .null, .null, .null, .null, .null, .null])
def ih_12 : xH := ([ic_6, ic_2, ic_12], 3, 834)
set_option maxRecDepth 20000 in
theorem iz_13 : pF ih_11 (ih_6.1.length) 3 4 (.int (0 : Int32)) = some ih_12 := rfl
def ic_13 : xC := .inr (3, [.int (0 : Int32), .int (0 : Int32), .int (50 : Int32), .int (0 : Int32), .int (0 : Int32), .int (0 : Int32), .int 0, .null, .null, .null, .null, .null, .null, .null, .null, .null])
def ih_13 : xH := ([ic_6, ic_2, ic_13], 3, 834)
set_option maxRecDepth 20000 in
theorem iz_14 : pF ih_12 (ih_6.1.length) 3 5 (.int (0 : Int32)) = some ih_13 := rfl
def ic_14 : xC := .inr (3, [.int (0 : Int32), .int (0 : Int32), .int (50 : Int32), .int (0 : Int32), .int (0 : Int32), .int (0 : Int32), .int (0 : Int32), .null, .null, .null, .null, .null, .null, .null, .null, .null])
def ih_14 : xH := ([ic_6, ic_2, ic_14], 3, 834)
set_option maxRecDepth 20000 in
theorem iz_15 : pF ih_13 (ih_6.1.length) 3 6 (.int (0 : Int32)) = some ih_14 := rfl
def ic_15 : xC := .inl (.int, 240, .inl (fun _ => 0))
def ih_15 : xH := ([ic_6, ic_2, ic_14, ic_15], 4, 1074)
set_option maxRecDepth 20000 in
theorem iz_16 : mkI ih_14 .int (240 : Int32) = some ih_15 := rfl
def ic_16 : xC := .inr (3, [.int (0 : Int32), .int (0 : Int32), .int (50 : Int32), .int (0 : Int32), .int (0 : Int32), .int (0 : Int32), .int (0 : Int32), .ref 3, .null, .null, .null, .null, .null, .null, .null, .null])
def ih_16 : xH := ([ic_6, ic_2, ic_16, ic_15], 4, 1074)
set_option maxRecDepth 20000 in
theorem iz_17 : pF ih_15 (ih_6.1.length) 3 7 (.ref (ih_14.1.length)) = some ih_16 := rfl
def ic_17 : xC := .inl (.int, 8, .inl (fun _ => 0))
def ih_17 : xH := ([ic_6, ic_2, ic_16, ic_15, ic_17], 5, 1082)
set_option maxRecDepth 20000 in
theorem iz_18 : mkI ih_16 .int (8 : Int32) = some ih_17 := rfl
def ic_18 : xC := .inr (3, [.int (0 : Int32), .int (0 : Int32), .int (50 : Int32), .int (0 : Int32), .int (0 : Int32), .int (0 : Int32), .int (0 : Int32), .ref 3, .ref 4, .null, .null, .null, .null, .null, .null, .null])
def ih_18 : xH := ([ic_6, ic_2, ic_18, ic_15, ic_17], 5, 1082)
set_option maxRecDepth 20000 in
theorem iz_19 : pF ih_17 (ih_6.1.length) 3 8 (.ref (ih_16.1.length)) = some ih_18 := rfl
def ic_19 : xC := .inl (.int, 120, .inl (fun _ => 0))
def ih_19 : xH := ([ic_6, ic_2, ic_18, ic_15, ic_17, ic_19], 6, 1202)
set_option maxRecDepth 20000 in
theorem iz_20 : mkI ih_18 .int (120 : Int32) = some ih_19 := rfl
def ic_20 : xC := .inr (3, [.int (0 : Int32), .int (0 : Int32), .int (50 : Int32), .int (0 : Int32), .int (0 : Int32), .int (0 : Int32), .int (0 : Int32), .ref 3, .ref 4, .ref 5, .null, .null, .null, .null, .null, .null])
def ih_20 : xH := ([ic_6, ic_2, ic_20, ic_15, ic_17, ic_19], 6, 1202)
set_option maxRecDepth 20000 in
theorem iz_21 : pF ih_19 (ih_6.1.length) 3 9 (.ref (ih_18.1.length)) = some ih_20 := rfl
def ic_21 : xC := .inl (.int, 40, .inl (fun _ => 0))
def ih_21 : xH := ([ic_6, ic_2, ic_20, ic_15, ic_17, ic_19, ic_21], 7, 1242)
set_option maxRecDepth 20000 in
theorem iz_22 : mkI ih_20 .int (40 : Int32) = some ih_21 := rfl
def ic_22 : xC := .inr (3, [.int (0 : Int32), .int (0 : Int32), .int (50 : Int32), .int (0 : Int32), .int (0 : Int32), .int (0 : Int32), .int (0 : Int32), .ref 3, .ref 4, .ref 5, .ref 6, .null, .null, .null, .null, .null])
def ih_22 : xH := ([ic_6, ic_2, ic_22, ic_15, ic_17, ic_19, ic_21], 7, 1242)
set_option maxRecDepth 20000 in
theorem iz_23 : pF ih_21 (ih_6.1.length) 3 10 (.ref (ih_20.1.length)) = some ih_22 := rfl
def ic_23 : xC := .inl (.int, 16, .inl (fun _ => 0))
def ih_23 : xH := ([ic_6, ic_2, ic_22, ic_15, ic_17, ic_19, ic_21, ic_23], 8, 1258)
set_option maxRecDepth 20000 in
theorem iz_24 : mkI ih_22 .int (16 : Int32) = some ih_23 := rfl
def ic_24 : xC := .inr (3, [.int (0 : Int32), .int (0 : Int32), .int (50 : Int32), .int (0 : Int32), .int (0 : Int32), .int (0 : Int32), .int (0 : Int32), .ref 3, .ref 4, .ref 5, .ref 6, .ref 7, .null, .null, .null, .null])
def ih_24 : xH := ([ic_6, ic_2, ic_24, ic_15, ic_17, ic_19, ic_21, ic_23], 8, 1258)
set_option maxRecDepth 20000 in
theorem iz_25 : pF ih_23 (ih_6.1.length) 3 11 (.ref (ih_22.1.length)) = some ih_24 := rfl
def ic_25 : xC := .inl (.int, 16, .inl (fun _ => 0))
def ih_25 : xH := ([ic_6, ic_2, ic_24, ic_15, ic_17, ic_19, ic_21, ic_23, ic_25], 9, 1274)
set_option maxRecDepth 20000 in
theorem iz_26 : mkI ih_24 .int (16 : Int32) = some ih_25 := rfl
def ic_26 : xC := .inr (3, [.int (0 : Int32), .int (0 : Int32), .int (50 : Int32), .int (0 : Int32), .int (0 : Int32), .int (0 : Int32), .int (0 : Int32), .ref 3, .ref 4, .ref 5, .ref 6, .ref 7, .ref 8, .null, .null, .null])
def ih_26 : xH := ([ic_6, ic_2, ic_26, ic_15, ic_17, ic_19, ic_21, ic_23, ic_25], 9, 1274)
set_option maxRecDepth 20000 in
theorem iz_27 : pF ih_25 (ih_6.1.length) 3 12 (.ref (ih_24.1.length)) = some ih_26 := rfl
def ic_27 : xC := .inl (.int, 16, .inl (fun _ => 0))
def ih_27 : xH := ([ic_6, ic_2, ic_26, ic_15, ic_17, ic_19, ic_21, ic_23, ic_25, ic_27], 10, 1290)
set_option maxRecDepth 20000 in
theorem iz_28 : mkI ih_26 .int (16 : Int32) = some ih_27 := rfl
def ic_28 : xC := .inr (3, [.int (0 : Int32), .int (0 : Int32), .int (50 : Int32), .int (0 : Int32), .int (0 : Int32), .int (0 : Int32), .int (0 : Int32), .ref 3, .ref 4, .ref 5, .ref 6, .ref 7, .ref 8, .ref 9, .null, .null])
def ih_28 : xH := ([ic_6, ic_2, ic_28, ic_15, ic_17, ic_19, ic_21, ic_23, ic_25, ic_27], 10, 1290)
set_option maxRecDepth 20000 in
theorem iz_29 : pF ih_27 (ih_6.1.length) 3 13 (.ref (ih_26.1.length)) = some ih_28 := rfl
def ic_29 : xC := .inl (.int, 16, .inl (fun _ => 0))
def ih_29 : xH := ([ic_6, ic_2, ic_28, ic_15, ic_17, ic_19, ic_21, ic_23, ic_25, ic_27, ic_29], 11, 1306)
set_option maxRecDepth 20000 in
theorem iz_30 : mkI ih_28 .int (16 : Int32) = some ih_29 := rfl
def ic_30 : xC := .inr (3, [.int (0 : Int32), .int (0 : Int32), .int (50 : Int32), .int (0 : Int32), .int (0 : Int32), .int (0 : Int32), .int (0 : Int32), .ref 3, .ref 4, .ref 5, .ref 6, .ref 7, .ref 8, .ref 9, .ref 10, .null])
def ih_30 : xH := ([ic_6, ic_2, ic_30, ic_15, ic_17, ic_19, ic_21, ic_23, ic_25, ic_27, ic_29], 11, 1306)
set_option maxRecDepth 20000 in
theorem iz_31 : pF ih_29 (ih_6.1.length) 3 14 (.ref (ih_28.1.length)) = some ih_30 := rfl
def ic_31 : xC := .inl (.int, 256, .inl (fun _ => 0))
def ih_31 : xH := ([ic_6, ic_2, ic_30, ic_15, ic_17, ic_19, ic_21, ic_23, ic_25, ic_27, ic_29, ic_31], 12, 1562)
set_option maxRecDepth 20000 in
theorem iz_32 : mkI ih_30 .int (256 : Int32) = some ih_31 := rfl
def ic_32 : xC := .inr (3, [.int (0 : Int32), .int (0 : Int32), .int (50 : Int32), .int (0 : Int32), .int (0 : Int32), .int (0 : Int32), .int (0 : Int32), .ref 3, .ref 4, .ref 5, .ref 6, .ref 7, .ref 8, .ref 9, .ref 10, .ref 11])
def ih_32 : xH := ([ic_6, ic_2, ic_32, ic_15, ic_17, ic_19, ic_21, ic_23, ic_25, ic_27, ic_29, ic_31], 12, 1562)
set_option maxRecDepth 20000 in
theorem iz_33 : pF ih_31 (ih_6.1.length) 3 15 (.ref (ih_30.1.length)) = some ih_32 := rfl
set_option maxRecDepth 20000 in
theorem iz_34 : gR ih_32 (ih_6.1.length) 3 11 = some 7 := rfl
def ic_33 : xC := .inl (.int, 16, .inl (fun j => if j < 16 then (10 : Int32) else 0))
def ih_33 : xH := ([ic_6, ic_2, ic_32, ic_15, ic_17, ic_19, ic_21, ic_33, ic_25, ic_27, ic_29, ic_31], 12, 1562)
set_option maxRecDepth 20000 in
theorem iz_35 : f_J7_fill_53178 ih_32 7 (10 : Int32) = some ih_33 := (fill_spec (hc := ih_32.1) (hk := ih_32.2) (a := 7) (n := 16) (f := fun _ => 0) (v := (10 : Int32)) rfl (by decide)).trans rfl
set_option maxRecDepth 20000 in
theorem iz_36 : gR ih_33 (ih_6.1.length) 3 15 = some 11 := rfl
def ic_34 : xC := .inl (.int, 256, .inl (fun j => if j < 256 then (-1 : Int32) else 0))
def ih_34 : xH := ([ic_6, ic_2, ic_32, ic_15, ic_17, ic_19, ic_21, ic_33, ic_25, ic_27, ic_29, ic_34], 12, 1562)
set_option maxRecDepth 20000 in
theorem iz_37 : f_J7_fill_53178 ih_33 11 (-1 : Int32) = some ih_34 := (fill_spec (hc := ih_33.1) (hk := ih_33.2) (a := 11) (n := 256) (f := fun _ => 0) (v := (-1 : Int32)) rfl (by decide)).trans rfl
set_option maxRecDepth 20000 in
theorem iz_8 : f_X3_init ih_7 (ih_6.1.length) = some ih_34 := by
  unfold f_X3_init
  rw [iz_9, Option.bind_some]
  rw [iz_10, Option.bind_some]
  rw [iz_11, Option.bind_some]
  rw [iz_12, Option.bind_some]
  rw [iz_13, Option.bind_some]
  rw [iz_14, Option.bind_some]
  rw [iz_15, Option.bind_some]
  rw [iz_16, Option.bind_some]
  rw [iz_17, Option.bind_some]
  rw [iz_18, Option.bind_some]
  rw [iz_19, Option.bind_some]
  rw [iz_20, Option.bind_some]
  rw [iz_21, Option.bind_some]
  rw [iz_22, Option.bind_some]
  rw [iz_23, Option.bind_some]
  rw [iz_24, Option.bind_some]
  rw [iz_25, Option.bind_some]
  rw [iz_26, Option.bind_some]
  rw [iz_27, Option.bind_some]
  rw [iz_28, Option.bind_some]
  rw [iz_29, Option.bind_some]
  rw [iz_30, Option.bind_some]
  rw [iz_31, Option.bind_some]
  rw [iz_32, Option.bind_some]
  rw [iz_33, Option.bind_some]
  rw [iz_34, Option.bind_some]
  rw [iz_35, Option.bind_some]
  rw [iz_36, Option.bind_some]
  rw [iz_37, Option.bind_some]
def ic_35 : xC := .inr (11, [.ref 1, .int (0 : Int32), .int (0 : Int32), .int (-1 : Int32), .ref 2, .null, .null, .null, .long 0, .long 0, .null, .null, .null, .null, .null, .null, .null, .null])
def ih_35 : xH := ([ic_35, ic_2, ic_32, ic_15, ic_17, ic_19, ic_21, ic_33, ic_25, ic_27, ic_29, ic_34], 12, 1562)
set_option maxRecDepth 20000 in
theorem iz_38 : pF ih_34 (ih_0.1.length) 11 4 (.ref (ih_6.1.length)) = some ih_35 := rfl
def ic_36 : xC := .inr (5, [.null, .null])
def ih_36 : xH := ([ic_35, ic_2, ic_32, ic_15, ic_17, ic_19, ic_21, ic_33, ic_25, ic_27, ic_29, ic_34, ic_36], 13, 1564)
set_option maxRecDepth 20000 in
theorem iz_39 : mkO ih_35 5 2 [.null, .null] = some ih_36 := rfl
def ic_37 : xC := .inl (.int, 16, .inl (fun _ => 0))
def ih_37 : xH := ([ic_35, ic_2, ic_32, ic_15, ic_17, ic_19, ic_21, ic_33, ic_25, ic_27, ic_29, ic_34, ic_36, ic_37], 14, 1580)
set_option maxRecDepth 20000 in
theorem iz_41 : mkI ih_36 .int (16 : Int32) = some ih_37 := rfl
def ic_38 : xC := .inr (5, [.ref 13, .null])
def ih_38 : xH := ([ic_35, ic_2, ic_32, ic_15, ic_17, ic_19, ic_21, ic_33, ic_25, ic_27, ic_29, ic_34, ic_38, ic_37], 14, 1580)
set_option maxRecDepth 20000 in
theorem iz_42 : pF ih_37 (ih_35.1.length) 5 0 (.ref (ih_36.1.length)) = some ih_38 := rfl
def ic_39 : xC := .inl (.int, 16, .inl (fun _ => 0))
def ih_39 : xH := ([ic_35, ic_2, ic_32, ic_15, ic_17, ic_19, ic_21, ic_33, ic_25, ic_27, ic_29, ic_34, ic_38, ic_37, ic_39], 15, 1596)
set_option maxRecDepth 20000 in
theorem iz_43 : mkI ih_38 .int (16 : Int32) = some ih_39 := rfl
def ic_40 : xC := .inr (5, [.ref 13, .ref 14])
def ih_40 : xH := ([ic_35, ic_2, ic_32, ic_15, ic_17, ic_19, ic_21, ic_33, ic_25, ic_27, ic_29, ic_34, ic_40, ic_37, ic_39], 15, 1596)
set_option maxRecDepth 20000 in
theorem iz_44 : pF ih_39 (ih_35.1.length) 5 1 (.ref (ih_38.1.length)) = some ih_40 := rfl
set_option maxRecDepth 20000 in
theorem iz_45 : gR ih_40 (ih_35.1.length) 5 0 = some 13 := rfl
def ic_41 : xC := .inl (.int, 16, .inl (fun j => if j < 16 then (-1 : Int32) else 0))
def ih_41 : xH := ([ic_35, ic_2, ic_32, ic_15, ic_17, ic_19, ic_21, ic_33, ic_25, ic_27, ic_29, ic_34, ic_40, ic_41, ic_39], 15, 1596)
set_option maxRecDepth 20000 in
theorem iz_46 : f_J7_fill_53178 ih_40 13 (-1 : Int32) = some ih_41 := (fill_spec (hc := ih_40.1) (hk := ih_40.2) (a := 13) (n := 16) (f := fun _ => 0) (v := (-1 : Int32)) rfl (by decide)).trans rfl
set_option maxRecDepth 20000 in
theorem iz_40 : f_X5_init ih_36 (ih_35.1.length) = some ih_41 := by
  unfold f_X5_init
  rw [iz_41, Option.bind_some]
  rw [iz_42, Option.bind_some]
  rw [iz_43, Option.bind_some]
  rw [iz_44, Option.bind_some]
  rw [iz_45, Option.bind_some]
  rw [iz_46, Option.bind_some]
def ic_42 : xC := .inr (11, [.ref 1, .int (0 : Int32), .int (0 : Int32), .int (-1 : Int32), .ref 2, .ref 12, .null, .null, .long 0, .long 0, .null, .null, .null, .null, .null, .null, .null, .null])
def ih_42 : xH := ([ic_42, ic_2, ic_32, ic_15, ic_17, ic_19, ic_21, ic_33, ic_25, ic_27, ic_29, ic_34, ic_40, ic_41, ic_39], 15, 1596)
set_option maxRecDepth 20000 in
theorem iz_47 : pF ih_41 (ih_0.1.length) 11 5 (.ref (ih_35.1.length)) = some ih_42 := rfl
def ic_43 : xC := .inl (.object "LitNextDoor$House", 3, .inr (.inr (fun _ => none)))
def ih_43 : xH := ([ic_42, ic_2, ic_32, ic_15, ic_17, ic_19, ic_21, ic_33, ic_25, ic_27, ic_29, ic_34, ic_40, ic_41, ic_39, ic_43], 16, 1599)
set_option maxRecDepth 20000 in
theorem iz_48 : mkN ih_42 "LitNextDoor$House" (3 : Int32) = some ih_43 := rfl
def ic_44 : xC := .inr (11, [.ref 1, .int (0 : Int32), .int (0 : Int32), .int (-1 : Int32), .ref 2, .ref 12, .ref 15, .null, .long 0, .long 0, .null, .null, .null, .null, .null, .null, .null, .null])
def ih_44 : xH := ([ic_44, ic_2, ic_32, ic_15, ic_17, ic_19, ic_21, ic_33, ic_25, ic_27, ic_29, ic_34, ic_40, ic_41, ic_39, ic_43], 16, 1599)
set_option maxRecDepth 20000 in
theorem iz_49 : pF ih_43 (ih_0.1.length) 11 6 (.ref (ih_42.1.length)) = some ih_44 := rfl
def ic_45 : xC := .inl (.object "LitNextDoor$Lamps", 3, .inr (.inr (fun _ => none)))
def ih_45 : xH := ([ic_44, ic_2, ic_32, ic_15, ic_17, ic_19, ic_21, ic_33, ic_25, ic_27, ic_29, ic_34, ic_40, ic_41, ic_39, ic_43, ic_45], 17, 1602)
set_option maxRecDepth 20000 in
theorem iz_50 : mkN ih_44 "LitNextDoor$Lamps" (3 : Int32) = some ih_45 := rfl
def ic_46 : xC := .inr (11, [.ref 1, .int (0 : Int32), .int (0 : Int32), .int (-1 : Int32), .ref 2, .ref 12, .ref 15, .ref 16, .long 0, .long 0, .null, .null, .null, .null, .null, .null, .null, .null])
def ih_46 : xH := ([ic_46, ic_2, ic_32, ic_15, ic_17, ic_19, ic_21, ic_33, ic_25, ic_27, ic_29, ic_34, ic_40, ic_41, ic_39, ic_43, ic_45], 17, 1602)
set_option maxRecDepth 20000 in
theorem iz_51 : pF ih_45 (ih_0.1.length) 11 7 (.ref (ih_44.1.length)) = some ih_46 := rfl
def ic_47 : xC := .inr (11, [.ref 1, .int (0 : Int32), .int (0 : Int32), .int (-1 : Int32), .ref 2, .ref 12, .ref 15, .ref 16, .long (0 : Int64), .long 0, .null, .null, .null, .null, .null, .null, .null, .null])
def ih_47 : xH := ([ic_47, ic_2, ic_32, ic_15, ic_17, ic_19, ic_21, ic_33, ic_25, ic_27, ic_29, ic_34, ic_40, ic_41, ic_39, ic_43, ic_45], 17, 1602)
set_option maxRecDepth 20000 in
theorem iz_52 : pF ih_46 (ih_0.1.length) 11 8 (.long (0 : Int64)) = some ih_47 := rfl
def ic_48 : xC := .inr (11, [.ref 1, .int (0 : Int32), .int (0 : Int32), .int (-1 : Int32), .ref 2, .ref 12, .ref 15, .ref 16, .long (0 : Int64), .long (0 : Int64), .null, .null, .null, .null, .null, .null, .null, .null])
def ih_48 : xH := ([ic_48, ic_2, ic_32, ic_15, ic_17, ic_19, ic_21, ic_33, ic_25, ic_27, ic_29, ic_34, ic_40, ic_41, ic_39, ic_43, ic_45], 17, 1602)
set_option maxRecDepth 20000 in
theorem iz_53 : pF ih_47 (ih_0.1.length) 11 9 (.long (0 : Int64)) = some ih_48 := rfl
def ic_49 : xC := .inr (10, [.null, .null, .null])
def ih_49 : xH := ([ic_48, ic_2, ic_32, ic_15, ic_17, ic_19, ic_21, ic_33, ic_25, ic_27, ic_29, ic_34, ic_40, ic_41, ic_39, ic_43, ic_45, ic_49], 18, 1605)
set_option maxRecDepth 20000 in
theorem iz_54 : mkO ih_48 10 3 [.null, .null, .null] = some ih_49 := rfl
def ic_50 : xC := .inl (.long, 160, .inr (.inl (fun _ => 0)))
def ih_50 : xH := ([ic_48, ic_2, ic_32, ic_15, ic_17, ic_19, ic_21, ic_33, ic_25, ic_27, ic_29, ic_34, ic_40, ic_41, ic_39, ic_43, ic_45, ic_49, ic_50], 19, 1765)
set_option maxRecDepth 20000 in
theorem iz_56 : mkJ ih_49 (160 : Int32) = some ih_50 := rfl
def ic_51 : xC := .inr (10, [.ref 18, .null, .null])
def ih_51 : xH := ([ic_48, ic_2, ic_32, ic_15, ic_17, ic_19, ic_21, ic_33, ic_25, ic_27, ic_29, ic_34, ic_40, ic_41, ic_39, ic_43, ic_45, ic_51, ic_50], 19, 1765)
set_option maxRecDepth 20000 in
theorem iz_57 : pF ih_50 (ih_48.1.length) 10 0 (.ref (ih_49.1.length)) = some ih_51 := rfl
def ic_52 : xC := .inl (.int, 4, .inl (fun _ => 0))
def ih_52 : xH := ([ic_48, ic_2, ic_32, ic_15, ic_17, ic_19, ic_21, ic_33, ic_25, ic_27, ic_29, ic_34, ic_40, ic_41, ic_39, ic_43, ic_45, ic_51, ic_50, ic_52], 20, 1769)
set_option maxRecDepth 20000 in
theorem iz_58 : mkI ih_51 .int (4 : Int32) = some ih_52 := rfl
def ic_53 : xC := .inr (10, [.ref 18, .ref 19, .null])
def ih_53 : xH := ([ic_48, ic_2, ic_32, ic_15, ic_17, ic_19, ic_21, ic_33, ic_25, ic_27, ic_29, ic_34, ic_40, ic_41, ic_39, ic_43, ic_45, ic_53, ic_50, ic_52], 20, 1769)
set_option maxRecDepth 20000 in
theorem iz_59 : pF ih_52 (ih_48.1.length) 10 1 (.ref (ih_51.1.length)) = some ih_53 := rfl
def ic_54 : xC := .inl (.int, 4, .inl (fun _ => 0))
def ih_54 : xH := ([ic_48, ic_2, ic_32, ic_15, ic_17, ic_19, ic_21, ic_33, ic_25, ic_27, ic_29, ic_34, ic_40, ic_41, ic_39, ic_43, ic_45, ic_53, ic_50, ic_52, ic_54], 21, 1773)
set_option maxRecDepth 20000 in
theorem iz_60 : mkI ih_53 .int (4 : Int32) = some ih_54 := rfl
def ic_55 : xC := .inr (10, [.ref 18, .ref 19, .ref 20])
def ih_55 : xH := ([ic_48, ic_2, ic_32, ic_15, ic_17, ic_19, ic_21, ic_33, ic_25, ic_27, ic_29, ic_34, ic_40, ic_41, ic_39, ic_43, ic_45, ic_55, ic_50, ic_52, ic_54], 21, 1773)
set_option maxRecDepth 20000 in
theorem iz_61 : pF ih_54 (ih_48.1.length) 10 2 (.ref (ih_53.1.length)) = some ih_55 := rfl
set_option maxRecDepth 20000 in
theorem iz_62 : gR ih_55 (ih_48.1.length) 10 1 = some 19 := rfl
def ic_56 : xC := .inl (.int, 4, .inl (fun j => if j < 4 then (-1 : Int32) else 0))
def ih_56 : xH := ([ic_48, ic_2, ic_32, ic_15, ic_17, ic_19, ic_21, ic_33, ic_25, ic_27, ic_29, ic_34, ic_40, ic_41, ic_39, ic_43, ic_45, ic_55, ic_50, ic_56, ic_54], 21, 1773)
set_option maxRecDepth 20000 in
theorem iz_63 : f_J7_fill_53178 ih_55 19 (-1 : Int32) = some ih_56 := (fill_spec (hc := ih_55.1) (hk := ih_55.2) (a := 19) (n := 4) (f := fun _ => 0) (v := (-1 : Int32)) rfl (by decide)).trans rfl
set_option maxRecDepth 20000 in
theorem iz_55 : f_X10_init ih_49 (ih_48.1.length) = some ih_56 := by
  unfold f_X10_init
  rw [iz_56, Option.bind_some]
  rw [iz_57, Option.bind_some]
  rw [iz_58, Option.bind_some]
  rw [iz_59, Option.bind_some]
  rw [iz_60, Option.bind_some]
  rw [iz_61, Option.bind_some]
  rw [iz_62, Option.bind_some]
  rw [iz_63, Option.bind_some]
def ic_57 : xC := .inr (11, [.ref 1, .int (0 : Int32), .int (0 : Int32), .int (-1 : Int32), .ref 2, .ref 12, .ref 15, .ref 16, .long (0 : Int64), .long (0 : Int64), .ref 17, .null, .null, .null, .null, .null, .null, .null])
def ih_57 : xH := ([ic_57, ic_2, ic_32, ic_15, ic_17, ic_19, ic_21, ic_33, ic_25, ic_27, ic_29, ic_34, ic_40, ic_41, ic_39, ic_43, ic_45, ic_55, ic_50, ic_56, ic_54], 21, 1773)
set_option maxRecDepth 20000 in
theorem iz_64 : pF ih_56 (ih_0.1.length) 11 10 (.ref (ih_48.1.length)) = some ih_57 := rfl
def ic_58 : xC := .inl (.int, 16, .inl (fun _ => 0))
def ih_58 : xH := ([ic_57, ic_2, ic_32, ic_15, ic_17, ic_19, ic_21, ic_33, ic_25, ic_27, ic_29, ic_34, ic_40, ic_41, ic_39, ic_43, ic_45, ic_55, ic_50, ic_56, ic_54, ic_58], 22, 1789)
set_option maxRecDepth 20000 in
theorem iz_65 : mkI ih_57 .int (16 : Int32) = some ih_58 := rfl
def ic_59 : xC := .inr (11, [.ref 1, .int (0 : Int32), .int (0 : Int32), .int (-1 : Int32), .ref 2, .ref 12, .ref 15, .ref 16, .long (0 : Int64), .long (0 : Int64), .ref 17, .ref 21, .null, .null, .null, .null, .null, .null])
def ih_59 : xH := ([ic_59, ic_2, ic_32, ic_15, ic_17, ic_19, ic_21, ic_33, ic_25, ic_27, ic_29, ic_34, ic_40, ic_41, ic_39, ic_43, ic_45, ic_55, ic_50, ic_56, ic_54, ic_58], 22, 1789)
set_option maxRecDepth 20000 in
theorem iz_66 : pF ih_58 (ih_0.1.length) 11 11 (.ref (ih_57.1.length)) = some ih_59 := rfl
def ic_60 : xC := .inr (2, [.int 0, .null, .null, .null, .null, .null])
def ih_60 : xH := ([ic_59, ic_2, ic_32, ic_15, ic_17, ic_19, ic_21, ic_33, ic_25, ic_27, ic_29, ic_34, ic_40, ic_41, ic_39, ic_43, ic_45, ic_55, ic_50, ic_56, ic_54, ic_58, ic_60], 23, 1795)
set_option maxRecDepth 20000 in
theorem iz_67 : mkO ih_59 2 6 [.int 0, .null, .null, .null, .null, .null] = some ih_60 := rfl
def ic_61 : xC := .inr (2, [.int (0 : Int32), .null, .null, .null, .null, .null])
def ih_61 : xH := ([ic_59, ic_2, ic_32, ic_15, ic_17, ic_19, ic_21, ic_33, ic_25, ic_27, ic_29, ic_34, ic_40, ic_41, ic_39, ic_43, ic_45, ic_55, ic_50, ic_56, ic_54, ic_58, ic_61], 23, 1795)
set_option maxRecDepth 20000 in
theorem iz_69 : pF ih_60 (ih_59.1.length) 2 0 (.int (0 : Int32)) = some ih_61 := rfl
def ic_62 : xC := .inl (.int, 16, .inl (fun _ => 0))
def ih_62 : xH := ([ic_59, ic_2, ic_32, ic_15, ic_17, ic_19, ic_21, ic_33, ic_25, ic_27, ic_29, ic_34, ic_40, ic_41, ic_39, ic_43, ic_45, ic_55, ic_50, ic_56, ic_54, ic_58, ic_61, ic_62], 24, 1811)
set_option maxRecDepth 20000 in
theorem iz_70 : mkI ih_61 .int (16 : Int32) = some ih_62 := rfl
def ic_63 : xC := .inr (2, [.int (0 : Int32), .ref 23, .null, .null, .null, .null])
def ih_63 : xH := ([ic_59, ic_2, ic_32, ic_15, ic_17, ic_19, ic_21, ic_33, ic_25, ic_27, ic_29, ic_34, ic_40, ic_41, ic_39, ic_43, ic_45, ic_55, ic_50, ic_56, ic_54, ic_58, ic_63, ic_62], 24, 1811)
set_option maxRecDepth 20000 in
theorem iz_71 : pF ih_62 (ih_59.1.length) 2 1 (.ref (ih_61.1.length)) = some ih_63 := rfl
def ic_64 : xC := .inl (.int, 17, .inl (fun _ => 0))
def ih_64 : xH := ([ic_59, ic_2, ic_32, ic_15, ic_17, ic_19, ic_21, ic_33, ic_25, ic_27, ic_29, ic_34, ic_40, ic_41, ic_39, ic_43, ic_45, ic_55, ic_50, ic_56, ic_54, ic_58, ic_63, ic_62, ic_64], 25, 1828)
set_option maxRecDepth 20000 in
theorem iz_72 : mkI ih_63 .int (17 : Int32) = some ih_64 := rfl
def ic_65 : xC := .inr (2, [.int (0 : Int32), .ref 23, .ref 24, .null, .null, .null])
def ih_65 : xH := ([ic_59, ic_2, ic_32, ic_15, ic_17, ic_19, ic_21, ic_33, ic_25, ic_27, ic_29, ic_34, ic_40, ic_41, ic_39, ic_43, ic_45, ic_55, ic_50, ic_56, ic_54, ic_58, ic_65, ic_62, ic_64], 25, 1828)
set_option maxRecDepth 20000 in
theorem iz_73 : pF ih_64 (ih_59.1.length) 2 2 (.ref (ih_63.1.length)) = some ih_65 := rfl
def ic_66 : xC := .inl (.int, 17, .inl (fun _ => 0))
def ih_66 : xH := ([ic_59, ic_2, ic_32, ic_15, ic_17, ic_19, ic_21, ic_33, ic_25, ic_27, ic_29, ic_34, ic_40, ic_41, ic_39, ic_43, ic_45, ic_55, ic_50, ic_56, ic_54, ic_58, ic_65, ic_62, ic_64, ic_66], 26, 1845)
set_option maxRecDepth 20000 in
theorem iz_74 : mkI ih_65 .int (17 : Int32) = some ih_66 := rfl
def ic_67 : xC := .inr (2, [.int (0 : Int32), .ref 23, .ref 24, .ref 25, .null, .null])
def ih_67 : xH := ([ic_59, ic_2, ic_32, ic_15, ic_17, ic_19, ic_21, ic_33, ic_25, ic_27, ic_29, ic_34, ic_40, ic_41, ic_39, ic_43, ic_45, ic_55, ic_50, ic_56, ic_54, ic_58, ic_67, ic_62, ic_64, ic_66], 26, 1845)
set_option maxRecDepth 20000 in
theorem iz_75 : pF ih_66 (ih_59.1.length) 2 3 (.ref (ih_65.1.length)) = some ih_67 := rfl
def ic_68 : xC := .inl (.int, 17, .inl (fun _ => 0))
def ih_68 : xH := ([ic_59, ic_2, ic_32, ic_15, ic_17, ic_19, ic_21, ic_33, ic_25, ic_27, ic_29, ic_34, ic_40, ic_41, ic_39, ic_43, ic_45, ic_55, ic_50, ic_56, ic_54, ic_58, ic_67, ic_62, ic_64, ic_66, ic_68], 27, 1862)
set_option maxRecDepth 20000 in
theorem iz_76 : mkI ih_67 .int (17 : Int32) = some ih_68 := rfl
def ic_69 : xC := .inr (2, [.int (0 : Int32), .ref 23, .ref 24, .ref 25, .ref 26, .null])
def ih_69 : xH := ([ic_59, ic_2, ic_32, ic_15, ic_17, ic_19, ic_21, ic_33, ic_25, ic_27, ic_29, ic_34, ic_40, ic_41, ic_39, ic_43, ic_45, ic_55, ic_50, ic_56, ic_54, ic_58, ic_69, ic_62, ic_64, ic_66, ic_68], 27, 1862)
set_option maxRecDepth 20000 in
theorem iz_77 : pF ih_68 (ih_59.1.length) 2 4 (.ref (ih_67.1.length)) = some ih_69 := rfl
def ic_70 : xC := .inl (.int, 16, .inl (fun _ => 0))
def ih_70 : xH := ([ic_59, ic_2, ic_32, ic_15, ic_17, ic_19, ic_21, ic_33, ic_25, ic_27, ic_29, ic_34, ic_40, ic_41, ic_39, ic_43, ic_45, ic_55, ic_50, ic_56, ic_54, ic_58, ic_69, ic_62, ic_64, ic_66, ic_68, ic_70], 28, 1878)
set_option maxRecDepth 20000 in
theorem iz_78 : mkI ih_69 .int (16 : Int32) = some ih_70 := rfl
def ic_71 : xC := .inr (2, [.int (0 : Int32), .ref 23, .ref 24, .ref 25, .ref 26, .ref 27])
def ih_71 : xH := ([ic_59, ic_2, ic_32, ic_15, ic_17, ic_19, ic_21, ic_33, ic_25, ic_27, ic_29, ic_34, ic_40, ic_41, ic_39, ic_43, ic_45, ic_55, ic_50, ic_56, ic_54, ic_58, ic_71, ic_62, ic_64, ic_66, ic_68, ic_70], 28, 1878)
set_option maxRecDepth 20000 in
theorem iz_79 : pF ih_70 (ih_59.1.length) 2 5 (.ref (ih_69.1.length)) = some ih_71 := rfl
set_option maxRecDepth 20000 in
theorem iz_68 : f_X2_init ih_60 (ih_59.1.length) = some ih_71 := by
  unfold f_X2_init
  rw [iz_69, Option.bind_some]
  rw [iz_70, Option.bind_some]
  rw [iz_71, Option.bind_some]
  rw [iz_72, Option.bind_some]
  rw [iz_73, Option.bind_some]
  rw [iz_74, Option.bind_some]
  rw [iz_75, Option.bind_some]
  rw [iz_76, Option.bind_some]
  rw [iz_77, Option.bind_some]
  rw [iz_78, Option.bind_some]
  rw [iz_79, Option.bind_some]
def ic_72 : xC := .inr (11, [.ref 1, .int (0 : Int32), .int (0 : Int32), .int (-1 : Int32), .ref 2, .ref 12, .ref 15, .ref 16, .long (0 : Int64), .long (0 : Int64), .ref 17, .ref 21, .ref 22, .null, .null, .null, .null, .null])
def ih_72 : xH := ([ic_72, ic_2, ic_32, ic_15, ic_17, ic_19, ic_21, ic_33, ic_25, ic_27, ic_29, ic_34, ic_40, ic_41, ic_39, ic_43, ic_45, ic_55, ic_50, ic_56, ic_54, ic_58, ic_71, ic_62, ic_64, ic_66, ic_68, ic_70], 28, 1878)
set_option maxRecDepth 20000 in
theorem iz_80 : pF ih_71 (ih_0.1.length) 11 12 (.ref (ih_59.1.length)) = some ih_72 := rfl
def ic_73 : xC := .inr (4, [.null, .null, .null, .null, .null, .null, .int 0, .int 0])
def ih_73 : xH := ([ic_72, ic_2, ic_32, ic_15, ic_17, ic_19, ic_21, ic_33, ic_25, ic_27, ic_29, ic_34, ic_40, ic_41, ic_39, ic_43, ic_45, ic_55, ic_50, ic_56, ic_54, ic_58, ic_71, ic_62, ic_64, ic_66, ic_68, ic_70, ic_73], 29, 1886)
set_option maxRecDepth 20000 in
theorem iz_81 : mkO ih_72 4 8 [.null, .null, .null, .null, .null, .null, .int 0, .int 0] = some ih_73 := rfl
def ic_74 : xC := .inr (0, [.null, .null, .null, .null, .int 0])
def ih_74 : xH := ([ic_72, ic_2, ic_32, ic_15, ic_17, ic_19, ic_21, ic_33, ic_25, ic_27, ic_29, ic_34, ic_40, ic_41, ic_39, ic_43, ic_45, ic_55, ic_50, ic_56, ic_54, ic_58, ic_71, ic_62, ic_64, ic_66, ic_68, ic_70, ic_73, ic_74], 30, 1891)
set_option maxRecDepth 20000 in
theorem iz_83 : mkO ih_73 0 5 [.null, .null, .null, .null, .int 0] = some ih_74 := rfl
def ic_75 : xC := .inl (.int, 16, .inl (fun _ => 0))
def ih_75 : xH := ([ic_72, ic_2, ic_32, ic_15, ic_17, ic_19, ic_21, ic_33, ic_25, ic_27, ic_29, ic_34, ic_40, ic_41, ic_39, ic_43, ic_45, ic_55, ic_50, ic_56, ic_54, ic_58, ic_71, ic_62, ic_64, ic_66, ic_68, ic_70, ic_73, ic_74, ic_75], 31, 1907)
set_option maxRecDepth 20000 in
theorem iz_85 : mkI ih_74 .int (16 : Int32) = some ih_75 := rfl
def ic_76 : xC := .inr (0, [.ref 30, .null, .null, .null, .int 0])
def ih_76 : xH := ([ic_72, ic_2, ic_32, ic_15, ic_17, ic_19, ic_21, ic_33, ic_25, ic_27, ic_29, ic_34, ic_40, ic_41, ic_39, ic_43, ic_45, ic_55, ic_50, ic_56, ic_54, ic_58, ic_71, ic_62, ic_64, ic_66, ic_68, ic_70, ic_73, ic_76, ic_75], 31, 1907)
set_option maxRecDepth 20000 in
theorem iz_86 : pF ih_75 (ih_73.1.length) 0 0 (.ref (ih_74.1.length)) = some ih_76 := rfl
def ic_77 : xC := .inl (.int, 16, .inl (fun _ => 0))
def ih_77 : xH := ([ic_72, ic_2, ic_32, ic_15, ic_17, ic_19, ic_21, ic_33, ic_25, ic_27, ic_29, ic_34, ic_40, ic_41, ic_39, ic_43, ic_45, ic_55, ic_50, ic_56, ic_54, ic_58, ic_71, ic_62, ic_64, ic_66, ic_68, ic_70, ic_73, ic_76, ic_75, ic_77], 32, 1923)
set_option maxRecDepth 20000 in
theorem iz_87 : mkI ih_76 .int (16 : Int32) = some ih_77 := rfl
def ic_78 : xC := .inr (0, [.ref 30, .ref 31, .null, .null, .int 0])
def ih_78 : xH := ([ic_72, ic_2, ic_32, ic_15, ic_17, ic_19, ic_21, ic_33, ic_25, ic_27, ic_29, ic_34, ic_40, ic_41, ic_39, ic_43, ic_45, ic_55, ic_50, ic_56, ic_54, ic_58, ic_71, ic_62, ic_64, ic_66, ic_68, ic_70, ic_73, ic_78, ic_75, ic_77], 32, 1923)
set_option maxRecDepth 20000 in
theorem iz_88 : pF ih_77 (ih_73.1.length) 0 1 (.ref (ih_76.1.length)) = some ih_78 := rfl
def ic_79 : xC := .inl (.int, 16, .inl (fun _ => 0))
def ih_79 : xH := ([ic_72, ic_2, ic_32, ic_15, ic_17, ic_19, ic_21, ic_33, ic_25, ic_27, ic_29, ic_34, ic_40, ic_41, ic_39, ic_43, ic_45, ic_55, ic_50, ic_56, ic_54, ic_58, ic_71, ic_62, ic_64, ic_66, ic_68, ic_70, ic_73, ic_78, ic_75, ic_77, ic_79], 33, 1939)
set_option maxRecDepth 20000 in
theorem iz_89 : mkI ih_78 .int (16 : Int32) = some ih_79 := rfl
def ic_80 : xC := .inr (0, [.ref 30, .ref 31, .ref 32, .null, .int 0])
def ih_80 : xH := ([ic_72, ic_2, ic_32, ic_15, ic_17, ic_19, ic_21, ic_33, ic_25, ic_27, ic_29, ic_34, ic_40, ic_41, ic_39, ic_43, ic_45, ic_55, ic_50, ic_56, ic_54, ic_58, ic_71, ic_62, ic_64, ic_66, ic_68, ic_70, ic_73, ic_80, ic_75, ic_77, ic_79], 33, 1939)
set_option maxRecDepth 20000 in
theorem iz_90 : pF ih_79 (ih_73.1.length) 0 2 (.ref (ih_78.1.length)) = some ih_80 := rfl
def ic_81 : xC := .inl (.int, 16, .inl (fun _ => 0))
def ih_81 : xH := ([ic_72, ic_2, ic_32, ic_15, ic_17, ic_19, ic_21, ic_33, ic_25, ic_27, ic_29, ic_34, ic_40, ic_41, ic_39, ic_43, ic_45, ic_55, ic_50, ic_56, ic_54, ic_58, ic_71, ic_62, ic_64, ic_66, ic_68, ic_70, ic_73, ic_80, ic_75, ic_77, ic_79, ic_81], 34, 1955)
set_option maxRecDepth 20000 in
theorem iz_91 : mkI ih_80 .int (16 : Int32) = some ih_81 := rfl
def ic_82 : xC := .inr (0, [.ref 30, .ref 31, .ref 32, .ref 33, .int 0])
def ih_82 : xH := ([ic_72, ic_2, ic_32, ic_15, ic_17, ic_19, ic_21, ic_33, ic_25, ic_27, ic_29, ic_34, ic_40, ic_41, ic_39, ic_43, ic_45, ic_55, ic_50, ic_56, ic_54, ic_58, ic_71, ic_62, ic_64, ic_66, ic_68, ic_70, ic_73, ic_82, ic_75, ic_77, ic_79, ic_81], 34, 1955)
set_option maxRecDepth 20000 in
theorem iz_92 : pF ih_81 (ih_73.1.length) 0 3 (.ref (ih_80.1.length)) = some ih_82 := rfl
def ic_83 : xC := .inr (0, [.ref 30, .ref 31, .ref 32, .ref 33, .int (0 : Int32)])
def ih_83 : xH := ([ic_72, ic_2, ic_32, ic_15, ic_17, ic_19, ic_21, ic_33, ic_25, ic_27, ic_29, ic_34, ic_40, ic_41, ic_39, ic_43, ic_45, ic_55, ic_50, ic_56, ic_54, ic_58, ic_71, ic_62, ic_64, ic_66, ic_68, ic_70, ic_73, ic_83, ic_75, ic_77, ic_79, ic_81], 34, 1955)
set_option maxRecDepth 20000 in
theorem iz_93 : pF ih_82 (ih_73.1.length) 0 4 (.int (0 : Int32)) = some ih_83 := rfl
set_option maxRecDepth 20000 in
theorem iz_84 : f_X0_init ih_74 (ih_73.1.length) = some ih_83 := by
  unfold f_X0_init
  rw [iz_85, Option.bind_some]
  rw [iz_86, Option.bind_some]
  rw [iz_87, Option.bind_some]
  rw [iz_88, Option.bind_some]
  rw [iz_89, Option.bind_some]
  rw [iz_90, Option.bind_some]
  rw [iz_91, Option.bind_some]
  rw [iz_92, Option.bind_some]
  rw [iz_93, Option.bind_some]
def ic_84 : xC := .inr (4, [.ref 29, .null, .null, .null, .null, .null, .int 0, .int 0])
def ih_84 : xH := ([ic_72, ic_2, ic_32, ic_15, ic_17, ic_19, ic_21, ic_33, ic_25, ic_27, ic_29, ic_34, ic_40, ic_41, ic_39, ic_43, ic_45, ic_55, ic_50, ic_56, ic_54, ic_58, ic_71, ic_62, ic_64, ic_66, ic_68, ic_70, ic_84, ic_83, ic_75, ic_77, ic_79, ic_81], 34, 1955)
set_option maxRecDepth 20000 in
theorem iz_94 : pF ih_83 (ih_72.1.length) 4 0 (.ref (ih_73.1.length)) = some ih_84 := rfl
def ic_85 : xC := .inl (.int, 256, .inl (fun _ => 0))
def ih_85 : xH := ([ic_72, ic_2, ic_32, ic_15, ic_17, ic_19, ic_21, ic_33, ic_25, ic_27, ic_29, ic_34, ic_40, ic_41, ic_39, ic_43, ic_45, ic_55, ic_50, ic_56, ic_54, ic_58, ic_71, ic_62, ic_64, ic_66, ic_68, ic_70, ic_84, ic_83, ic_75, ic_77, ic_79, ic_81, ic_85], 35, 2211)
set_option maxRecDepth 20000 in
theorem iz_95 : mkI ih_84 .int (256 : Int32) = some ih_85 := rfl
def ic_86 : xC := .inr (4, [.ref 29, .ref 34, .null, .null, .null, .null, .int 0, .int 0])
def ih_86 : xH := ([ic_72, ic_2, ic_32, ic_15, ic_17, ic_19, ic_21, ic_33, ic_25, ic_27, ic_29, ic_34, ic_40, ic_41, ic_39, ic_43, ic_45, ic_55, ic_50, ic_56, ic_54, ic_58, ic_71, ic_62, ic_64, ic_66, ic_68, ic_70, ic_86, ic_83, ic_75, ic_77, ic_79, ic_81, ic_85], 35, 2211)
set_option maxRecDepth 20000 in
theorem iz_96 : pF ih_85 (ih_72.1.length) 4 1 (.ref (ih_84.1.length)) = some ih_86 := rfl
def ic_87 : xC := .inl (.int, 272, .inl (fun _ => 0))
def ih_87 : xH := ([ic_72, ic_2, ic_32, ic_15, ic_17, ic_19, ic_21, ic_33, ic_25, ic_27, ic_29, ic_34, ic_40, ic_41, ic_39, ic_43, ic_45, ic_55, ic_50, ic_56, ic_54, ic_58, ic_71, ic_62, ic_64, ic_66, ic_68, ic_70, ic_86, ic_83, ic_75, ic_77, ic_79, ic_81, ic_85, ic_87], 36, 2483)
set_option maxRecDepth 20000 in
theorem iz_97 : mkI ih_86 .int (272 : Int32) = some ih_87 := rfl
def ic_88 : xC := .inr (4, [.ref 29, .ref 34, .ref 35, .null, .null, .null, .int 0, .int 0])
def ih_88 : xH := ([ic_72, ic_2, ic_32, ic_15, ic_17, ic_19, ic_21, ic_33, ic_25, ic_27, ic_29, ic_34, ic_40, ic_41, ic_39, ic_43, ic_45, ic_55, ic_50, ic_56, ic_54, ic_58, ic_71, ic_62, ic_64, ic_66, ic_68, ic_70, ic_88, ic_83, ic_75, ic_77, ic_79, ic_81, ic_85, ic_87], 36, 2483)
set_option maxRecDepth 20000 in
theorem iz_98 : pF ih_87 (ih_72.1.length) 4 2 (.ref (ih_86.1.length)) = some ih_88 := rfl
def ic_89 : xC := .inl (.int, 17, .inl (fun _ => 0))
def ih_89 : xH := ([ic_72, ic_2, ic_32, ic_15, ic_17, ic_19, ic_21, ic_33, ic_25, ic_27, ic_29, ic_34, ic_40, ic_41, ic_39, ic_43, ic_45, ic_55, ic_50, ic_56, ic_54, ic_58, ic_71, ic_62, ic_64, ic_66, ic_68, ic_70, ic_88, ic_83, ic_75, ic_77, ic_79, ic_81, ic_85, ic_87, ic_89], 37, 2500)
set_option maxRecDepth 20000 in
theorem iz_99 : mkI ih_88 .int (17 : Int32) = some ih_89 := rfl
def ic_90 : xC := .inr (4, [.ref 29, .ref 34, .ref 35, .ref 36, .null, .null, .int 0, .int 0])
def ih_90 : xH := ([ic_72, ic_2, ic_32, ic_15, ic_17, ic_19, ic_21, ic_33, ic_25, ic_27, ic_29, ic_34, ic_40, ic_41, ic_39, ic_43, ic_45, ic_55, ic_50, ic_56, ic_54, ic_58, ic_71, ic_62, ic_64, ic_66, ic_68, ic_70, ic_90, ic_83, ic_75, ic_77, ic_79, ic_81, ic_85, ic_87, ic_89], 37, 2500)
set_option maxRecDepth 20000 in
theorem iz_100 : pF ih_89 (ih_72.1.length) 4 3 (.ref (ih_88.1.length)) = some ih_90 := rfl
def ic_91 : xC := .inl (.int, 24, .inl (fun _ => 0))
def ih_91 : xH := ([ic_72, ic_2, ic_32, ic_15, ic_17, ic_19, ic_21, ic_33, ic_25, ic_27, ic_29, ic_34, ic_40, ic_41, ic_39, ic_43, ic_45, ic_55, ic_50, ic_56, ic_54, ic_58, ic_71, ic_62, ic_64, ic_66, ic_68, ic_70, ic_90, ic_83, ic_75, ic_77, ic_79, ic_81, ic_85, ic_87, ic_89, ic_91], 38, 2524)
set_option maxRecDepth 20000 in
theorem iz_101 : mkI ih_90 .int (24 : Int32) = some ih_91 := rfl
def ic_92 : xC := .inr (4, [.ref 29, .ref 34, .ref 35, .ref 36, .ref 37, .null, .int 0, .int 0])
def ih_92 : xH := ([ic_72, ic_2, ic_32, ic_15, ic_17, ic_19, ic_21, ic_33, ic_25, ic_27, ic_29, ic_34, ic_40, ic_41, ic_39, ic_43, ic_45, ic_55, ic_50, ic_56, ic_54, ic_58, ic_71, ic_62, ic_64, ic_66, ic_68, ic_70, ic_92, ic_83, ic_75, ic_77, ic_79, ic_81, ic_85, ic_87, ic_89, ic_91], 38, 2524)
set_option maxRecDepth 20000 in
theorem iz_102 : pF ih_91 (ih_72.1.length) 4 4 (.ref (ih_90.1.length)) = some ih_92 := rfl
def ic_93 : xC := .inl (.int, 24, .inl (fun _ => 0))
def ih_93 : xH := ([ic_72, ic_2, ic_32, ic_15, ic_17, ic_19, ic_21, ic_33, ic_25, ic_27, ic_29, ic_34, ic_40, ic_41, ic_39, ic_43, ic_45, ic_55, ic_50, ic_56, ic_54, ic_58, ic_71, ic_62, ic_64, ic_66, ic_68, ic_70, ic_92, ic_83, ic_75, ic_77, ic_79, ic_81, ic_85, ic_87, ic_89, ic_91, ic_93], 39, 2548)
set_option maxRecDepth 20000 in
theorem iz_103 : mkI ih_92 .int (24 : Int32) = some ih_93 := rfl
def ic_94 : xC := .inr (4, [.ref 29, .ref 34, .ref 35, .ref 36, .ref 37, .ref 38, .int 0, .int 0])
def ih_94 : xH := ([ic_72, ic_2, ic_32, ic_15, ic_17, ic_19, ic_21, ic_33, ic_25, ic_27, ic_29, ic_34, ic_40, ic_41, ic_39, ic_43, ic_45, ic_55, ic_50, ic_56, ic_54, ic_58, ic_71, ic_62, ic_64, ic_66, ic_68, ic_70, ic_94, ic_83, ic_75, ic_77, ic_79, ic_81, ic_85, ic_87, ic_89, ic_91, ic_93], 39, 2548)
set_option maxRecDepth 20000 in
theorem iz_104 : pF ih_93 (ih_72.1.length) 4 5 (.ref (ih_92.1.length)) = some ih_94 := rfl
def ic_95 : xC := .inr (4, [.ref 29, .ref 34, .ref 35, .ref 36, .ref 37, .ref 38, .int (-1 : Int32), .int 0])
def ih_95 : xH := ([ic_72, ic_2, ic_32, ic_15, ic_17, ic_19, ic_21, ic_33, ic_25, ic_27, ic_29, ic_34, ic_40, ic_41, ic_39, ic_43, ic_45, ic_55, ic_50, ic_56, ic_54, ic_58, ic_71, ic_62, ic_64, ic_66, ic_68, ic_70, ic_95, ic_83, ic_75, ic_77, ic_79, ic_81, ic_85, ic_87, ic_89, ic_91, ic_93], 39, 2548)
set_option maxRecDepth 20000 in
theorem iz_105 : pF ih_94 (ih_72.1.length) 4 6 (.int (-1 : Int32)) = some ih_95 := rfl
def ic_96 : xC := .inr (4, [.ref 29, .ref 34, .ref 35, .ref 36, .ref 37, .ref 38, .int (-1 : Int32), .int (0 : Int32)])
def ih_96 : xH := ([ic_72, ic_2, ic_32, ic_15, ic_17, ic_19, ic_21, ic_33, ic_25, ic_27, ic_29, ic_34, ic_40, ic_41, ic_39, ic_43, ic_45, ic_55, ic_50, ic_56, ic_54, ic_58, ic_71, ic_62, ic_64, ic_66, ic_68, ic_70, ic_96, ic_83, ic_75, ic_77, ic_79, ic_81, ic_85, ic_87, ic_89, ic_91, ic_93], 39, 2548)
set_option maxRecDepth 20000 in
theorem iz_106 : pF ih_95 (ih_72.1.length) 4 7 (.int (0 : Int32)) = some ih_96 := rfl
set_option maxRecDepth 20000 in
theorem iz_82 : f_X4_init ih_73 (ih_72.1.length) = some ih_96 := by
  unfold f_X4_init
  rw [iz_83, Option.bind_some]
  rw [iz_84, Option.bind_some]
  rw [iz_94, Option.bind_some]
  rw [iz_95, Option.bind_some]
  rw [iz_96, Option.bind_some]
  rw [iz_97, Option.bind_some]
  rw [iz_98, Option.bind_some]
  rw [iz_99, Option.bind_some]
  rw [iz_100, Option.bind_some]
  rw [iz_101, Option.bind_some]
  rw [iz_102, Option.bind_some]
  rw [iz_103, Option.bind_some]
  rw [iz_104, Option.bind_some]
  rw [iz_105, Option.bind_some]
  rw [iz_106, Option.bind_some]
def ic_97 : xC := .inr (11, [.ref 1, .int (0 : Int32), .int (0 : Int32), .int (-1 : Int32), .ref 2, .ref 12, .ref 15, .ref 16, .long (0 : Int64), .long (0 : Int64), .ref 17, .ref 21, .ref 22, .ref 28, .null, .null, .null, .null])
def ih_97 : xH := ([ic_97, ic_2, ic_32, ic_15, ic_17, ic_19, ic_21, ic_33, ic_25, ic_27, ic_29, ic_34, ic_40, ic_41, ic_39, ic_43, ic_45, ic_55, ic_50, ic_56, ic_54, ic_58, ic_71, ic_62, ic_64, ic_66, ic_68, ic_70, ic_96, ic_83, ic_75, ic_77, ic_79, ic_81, ic_85, ic_87, ic_89, ic_91, ic_93], 39, 2548)
set_option maxRecDepth 20000 in
theorem iz_107 : pF ih_96 (ih_0.1.length) 11 13 (.ref (ih_72.1.length)) = some ih_97 := rfl
def ic_98 : xC := .inr (6, [.int 0, .int 0, .null, .null, .int 0, .null, .int 0, .null, .null, .null])
def ih_98 : xH := ([ic_97, ic_2, ic_32, ic_15, ic_17, ic_19, ic_21, ic_33, ic_25, ic_27, ic_29, ic_34, ic_40, ic_41, ic_39, ic_43, ic_45, ic_55, ic_50, ic_56, ic_54, ic_58, ic_71, ic_62, ic_64, ic_66, ic_68, ic_70, ic_96, ic_83, ic_75, ic_77, ic_79, ic_81, ic_85, ic_87, ic_89, ic_91, ic_93, ic_98], 40, 2558)
set_option maxRecDepth 20000 in
theorem iz_108 : mkO ih_97 6 10 [.int 0, .int 0, .null, .null, .int 0, .null, .int 0, .null, .null, .null] = some ih_98 := rfl
def ic_99 : xC := .inr (6, [.int (0 : Int32), .int 0, .null, .null, .int 0, .null, .int 0, .null, .null, .null])
def ih_99 : xH := ([ic_97, ic_2, ic_32, ic_15, ic_17, ic_19, ic_21, ic_33, ic_25, ic_27, ic_29, ic_34, ic_40, ic_41, ic_39, ic_43, ic_45, ic_55, ic_50, ic_56, ic_54, ic_58, ic_71, ic_62, ic_64, ic_66, ic_68, ic_70, ic_96, ic_83, ic_75, ic_77, ic_79, ic_81, ic_85, ic_87, ic_89, ic_91, ic_93, ic_99], 40, 2558)
set_option maxRecDepth 20000 in
theorem iz_110 : pF ih_98 (ih_97.1.length) 6 0 (.int (0 : Int32)) = some ih_99 := rfl
def ic_100 : xC := .inr (6, [.int (0 : Int32), .int (0 : Int32), .null, .null, .int 0, .null, .int 0, .null, .null, .null])
def ih_100 : xH := ([ic_97, ic_2, ic_32, ic_15, ic_17, ic_19, ic_21, ic_33, ic_25, ic_27, ic_29, ic_34, ic_40, ic_41, ic_39, ic_43, ic_45, ic_55, ic_50, ic_56, ic_54, ic_58, ic_71, ic_62, ic_64, ic_66, ic_68, ic_70, ic_96, ic_83, ic_75, ic_77, ic_79, ic_81, ic_85, ic_87, ic_89, ic_91, ic_93, ic_100], 40, 2558)
set_option maxRecDepth 20000 in
theorem iz_111 : pF ih_99 (ih_97.1.length) 6 1 (.int (0 : Int32)) = some ih_100 := rfl
def ic_101 : xC := .inl (.int, 8, .inl (fun _ => 0))
def ih_101 : xH := ([ic_97, ic_2, ic_32, ic_15, ic_17, ic_19, ic_21, ic_33, ic_25, ic_27, ic_29, ic_34, ic_40, ic_41, ic_39, ic_43, ic_45, ic_55, ic_50, ic_56, ic_54, ic_58, ic_71, ic_62, ic_64, ic_66, ic_68, ic_70, ic_96, ic_83, ic_75, ic_77, ic_79, ic_81, ic_85, ic_87, ic_89, ic_91, ic_93, ic_100, ic_101], 41, 2566)
set_option maxRecDepth 20000 in
theorem iz_112 : mkI ih_100 .int (8 : Int32) = some ih_101 := rfl
def ic_102 : xC := .inr (6, [.int (0 : Int32), .int (0 : Int32), .ref 40, .null, .int 0, .null, .int 0, .null, .null, .null])
def ih_102 : xH := ([ic_97, ic_2, ic_32, ic_15, ic_17, ic_19, ic_21, ic_33, ic_25, ic_27, ic_29, ic_34, ic_40, ic_41, ic_39, ic_43, ic_45, ic_55, ic_50, ic_56, ic_54, ic_58, ic_71, ic_62, ic_64, ic_66, ic_68, ic_70, ic_96, ic_83, ic_75, ic_77, ic_79, ic_81, ic_85, ic_87, ic_89, ic_91, ic_93, ic_102, ic_101], 41, 2566)
set_option maxRecDepth 20000 in
theorem iz_113 : pF ih_101 (ih_97.1.length) 6 2 (.ref (ih_100.1.length)) = some ih_102 := rfl
def ic_103 : xC := .inr (6, [.int (0 : Int32), .int (0 : Int32), .ref 40, .null, .int 0, .null, .int 0, .null, .null, .null])
def ih_103 : xH := ([ic_97, ic_2, ic_32, ic_15, ic_17, ic_19, ic_21, ic_33, ic_25, ic_27, ic_29, ic_34, ic_40, ic_41, ic_39, ic_43, ic_45, ic_55, ic_50, ic_56, ic_54, ic_58, ic_71, ic_62, ic_64, ic_66, ic_68, ic_70, ic_96, ic_83, ic_75, ic_77, ic_79, ic_81, ic_85, ic_87, ic_89, ic_91, ic_93, ic_103, ic_101], 41, 2566)
set_option maxRecDepth 20000 in
theorem iz_114 : pF ih_102 (ih_97.1.length) 6 3 (.null) = some ih_103 := rfl
def ic_104 : xC := .inr (6, [.int (0 : Int32), .int (0 : Int32), .ref 40, .null, .int (0 : Int32), .null, .int 0, .null, .null, .null])
def ih_104 : xH := ([ic_97, ic_2, ic_32, ic_15, ic_17, ic_19, ic_21, ic_33, ic_25, ic_27, ic_29, ic_34, ic_40, ic_41, ic_39, ic_43, ic_45, ic_55, ic_50, ic_56, ic_54, ic_58, ic_71, ic_62, ic_64, ic_66, ic_68, ic_70, ic_96, ic_83, ic_75, ic_77, ic_79, ic_81, ic_85, ic_87, ic_89, ic_91, ic_93, ic_104, ic_101], 41, 2566)
set_option maxRecDepth 20000 in
theorem iz_115 : pF ih_103 (ih_97.1.length) 6 4 (.int (0 : Int32)) = some ih_104 := rfl
def ic_105 : xC := .inr (0, [.null, .null, .null, .null, .int 0])
def ih_105 : xH := ([ic_97, ic_2, ic_32, ic_15, ic_17, ic_19, ic_21, ic_33, ic_25, ic_27, ic_29, ic_34, ic_40, ic_41, ic_39, ic_43, ic_45, ic_55, ic_50, ic_56, ic_54, ic_58, ic_71, ic_62, ic_64, ic_66, ic_68, ic_70, ic_96, ic_83, ic_75, ic_77, ic_79, ic_81, ic_85, ic_87, ic_89, ic_91, ic_93, ic_104, ic_101, ic_105], 42, 2571)
set_option maxRecDepth 20000 in
theorem iz_116 : mkO ih_104 0 5 [.null, .null, .null, .null, .int 0] = some ih_105 := rfl
def ic_106 : xC := .inl (.int, 16, .inl (fun _ => 0))
def ih_106 : xH := ([ic_97, ic_2, ic_32, ic_15, ic_17, ic_19, ic_21, ic_33, ic_25, ic_27, ic_29, ic_34, ic_40, ic_41, ic_39, ic_43, ic_45, ic_55, ic_50, ic_56, ic_54, ic_58, ic_71, ic_62, ic_64, ic_66, ic_68, ic_70, ic_96, ic_83, ic_75, ic_77, ic_79, ic_81, ic_85, ic_87, ic_89, ic_91, ic_93, ic_104, ic_101, ic_105, ic_106], 43, 2587)
set_option maxRecDepth 20000 in
theorem iz_118 : mkI ih_105 .int (16 : Int32) = some ih_106 := rfl
def ic_107 : xC := .inr (0, [.ref 42, .null, .null, .null, .int 0])
def ih_107 : xH := ([ic_97, ic_2, ic_32, ic_15, ic_17, ic_19, ic_21, ic_33, ic_25, ic_27, ic_29, ic_34, ic_40, ic_41, ic_39, ic_43, ic_45, ic_55, ic_50, ic_56, ic_54, ic_58, ic_71, ic_62, ic_64, ic_66, ic_68, ic_70, ic_96, ic_83, ic_75, ic_77, ic_79, ic_81, ic_85, ic_87, ic_89, ic_91, ic_93, ic_104, ic_101, ic_107, ic_106], 43, 2587)
set_option maxRecDepth 20000 in
theorem iz_119 : pF ih_106 (ih_104.1.length) 0 0 (.ref (ih_105.1.length)) = some ih_107 := rfl
def ic_108 : xC := .inl (.int, 16, .inl (fun _ => 0))
def ih_108 : xH := ([ic_97, ic_2, ic_32, ic_15, ic_17, ic_19, ic_21, ic_33, ic_25, ic_27, ic_29, ic_34, ic_40, ic_41, ic_39, ic_43, ic_45, ic_55, ic_50, ic_56, ic_54, ic_58, ic_71, ic_62, ic_64, ic_66, ic_68, ic_70, ic_96, ic_83, ic_75, ic_77, ic_79, ic_81, ic_85, ic_87, ic_89, ic_91, ic_93, ic_104, ic_101, ic_107, ic_106, ic_108], 44, 2603)
set_option maxRecDepth 20000 in
theorem iz_120 : mkI ih_107 .int (16 : Int32) = some ih_108 := rfl
def ic_109 : xC := .inr (0, [.ref 42, .ref 43, .null, .null, .int 0])
def ih_109 : xH := ([ic_97, ic_2, ic_32, ic_15, ic_17, ic_19, ic_21, ic_33, ic_25, ic_27, ic_29, ic_34, ic_40, ic_41, ic_39, ic_43, ic_45, ic_55, ic_50, ic_56, ic_54, ic_58, ic_71, ic_62, ic_64, ic_66, ic_68, ic_70, ic_96, ic_83, ic_75, ic_77, ic_79, ic_81, ic_85, ic_87, ic_89, ic_91, ic_93, ic_104, ic_101, ic_109, ic_106, ic_108], 44, 2603)
set_option maxRecDepth 20000 in
theorem iz_121 : pF ih_108 (ih_104.1.length) 0 1 (.ref (ih_107.1.length)) = some ih_109 := rfl
def ic_110 : xC := .inl (.int, 16, .inl (fun _ => 0))
def ih_110 : xH := ([ic_97, ic_2, ic_32, ic_15, ic_17, ic_19, ic_21, ic_33, ic_25, ic_27, ic_29, ic_34, ic_40, ic_41, ic_39, ic_43, ic_45, ic_55, ic_50, ic_56, ic_54, ic_58, ic_71, ic_62, ic_64, ic_66, ic_68, ic_70, ic_96, ic_83, ic_75, ic_77, ic_79, ic_81, ic_85, ic_87, ic_89, ic_91, ic_93, ic_104, ic_101, ic_109, ic_106, ic_108, ic_110], 45, 2619)
set_option maxRecDepth 20000 in
theorem iz_122 : mkI ih_109 .int (16 : Int32) = some ih_110 := rfl
def ic_111 : xC := .inr (0, [.ref 42, .ref 43, .ref 44, .null, .int 0])
def ih_111 : xH := ([ic_97, ic_2, ic_32, ic_15, ic_17, ic_19, ic_21, ic_33, ic_25, ic_27, ic_29, ic_34, ic_40, ic_41, ic_39, ic_43, ic_45, ic_55, ic_50, ic_56, ic_54, ic_58, ic_71, ic_62, ic_64, ic_66, ic_68, ic_70, ic_96, ic_83, ic_75, ic_77, ic_79, ic_81, ic_85, ic_87, ic_89, ic_91, ic_93, ic_104, ic_101, ic_111, ic_106, ic_108, ic_110], 45, 2619)
set_option maxRecDepth 20000 in
theorem iz_123 : pF ih_110 (ih_104.1.length) 0 2 (.ref (ih_109.1.length)) = some ih_111 := rfl
def ic_112 : xC := .inl (.int, 16, .inl (fun _ => 0))
def ih_112 : xH := ([ic_97, ic_2, ic_32, ic_15, ic_17, ic_19, ic_21, ic_33, ic_25, ic_27, ic_29, ic_34, ic_40, ic_41, ic_39, ic_43, ic_45, ic_55, ic_50, ic_56, ic_54, ic_58, ic_71, ic_62, ic_64, ic_66, ic_68, ic_70, ic_96, ic_83, ic_75, ic_77, ic_79, ic_81, ic_85, ic_87, ic_89, ic_91, ic_93, ic_104, ic_101, ic_111, ic_106, ic_108, ic_110, ic_112], 46, 2635)
set_option maxRecDepth 20000 in
theorem iz_124 : mkI ih_111 .int (16 : Int32) = some ih_112 := rfl
def ic_113 : xC := .inr (0, [.ref 42, .ref 43, .ref 44, .ref 45, .int 0])
def ih_113 : xH := ([ic_97, ic_2, ic_32, ic_15, ic_17, ic_19, ic_21, ic_33, ic_25, ic_27, ic_29, ic_34, ic_40, ic_41, ic_39, ic_43, ic_45, ic_55, ic_50, ic_56, ic_54, ic_58, ic_71, ic_62, ic_64, ic_66, ic_68, ic_70, ic_96, ic_83, ic_75, ic_77, ic_79, ic_81, ic_85, ic_87, ic_89, ic_91, ic_93, ic_104, ic_101, ic_113, ic_106, ic_108, ic_110, ic_112], 46, 2635)
set_option maxRecDepth 20000 in
theorem iz_125 : pF ih_112 (ih_104.1.length) 0 3 (.ref (ih_111.1.length)) = some ih_113 := rfl
def ic_114 : xC := .inr (0, [.ref 42, .ref 43, .ref 44, .ref 45, .int (0 : Int32)])
def ih_114 : xH := ([ic_97, ic_2, ic_32, ic_15, ic_17, ic_19, ic_21, ic_33, ic_25, ic_27, ic_29, ic_34, ic_40, ic_41, ic_39, ic_43, ic_45, ic_55, ic_50, ic_56, ic_54, ic_58, ic_71, ic_62, ic_64, ic_66, ic_68, ic_70, ic_96, ic_83, ic_75, ic_77, ic_79, ic_81, ic_85, ic_87, ic_89, ic_91, ic_93, ic_104, ic_101, ic_114, ic_106, ic_108, ic_110, ic_112], 46, 2635)
set_option maxRecDepth 20000 in
theorem iz_126 : pF ih_113 (ih_104.1.length) 0 4 (.int (0 : Int32)) = some ih_114 := rfl
set_option maxRecDepth 20000 in
theorem iz_117 : f_X0_init ih_105 (ih_104.1.length) = some ih_114 := by
  unfold f_X0_init
  rw [iz_118, Option.bind_some]
  rw [iz_119, Option.bind_some]
  rw [iz_120, Option.bind_some]
  rw [iz_121, Option.bind_some]
  rw [iz_122, Option.bind_some]
  rw [iz_123, Option.bind_some]
  rw [iz_124, Option.bind_some]
  rw [iz_125, Option.bind_some]
  rw [iz_126, Option.bind_some]
def ic_115 : xC := .inr (6, [.int (0 : Int32), .int (0 : Int32), .ref 40, .null, .int (0 : Int32), .ref 41, .int 0, .null, .null, .null])
def ih_115 : xH := ([ic_97, ic_2, ic_32, ic_15, ic_17, ic_19, ic_21, ic_33, ic_25, ic_27, ic_29, ic_34, ic_40, ic_41, ic_39, ic_43, ic_45, ic_55, ic_50, ic_56, ic_54, ic_58, ic_71, ic_62, ic_64, ic_66, ic_68, ic_70, ic_96, ic_83, ic_75, ic_77, ic_79, ic_81, ic_85, ic_87, ic_89, ic_91, ic_93, ic_115, ic_101, ic_114, ic_106, ic_108, ic_110, ic_112], 46, 2635)
set_option maxRecDepth 20000 in
theorem iz_127 : pF ih_114 (ih_97.1.length) 6 5 (.ref (ih_104.1.length)) = some ih_115 := rfl
def ic_116 : xC := .inr (6, [.int (0 : Int32), .int (0 : Int32), .ref 40, .null, .int (0 : Int32), .ref 41, .int (0 : Int32), .null, .null, .null])
def ih_116 : xH := ([ic_97, ic_2, ic_32, ic_15, ic_17, ic_19, ic_21, ic_33, ic_25, ic_27, ic_29, ic_34, ic_40, ic_41, ic_39, ic_43, ic_45, ic_55, ic_50, ic_56, ic_54, ic_58, ic_71, ic_62, ic_64, ic_66, ic_68, ic_70, ic_96, ic_83, ic_75, ic_77, ic_79, ic_81, ic_85, ic_87, ic_89, ic_91, ic_93, ic_116, ic_101, ic_114, ic_106, ic_108, ic_110, ic_112], 46, 2635)
set_option maxRecDepth 20000 in
theorem iz_128 : pF ih_115 (ih_97.1.length) 6 6 (.int (0 : Int32)) = some ih_116 := rfl
def ic_117 : xC := .inl (.int, 8, .inl (fun _ => 0))
def ih_117 : xH := ([ic_97, ic_2, ic_32, ic_15, ic_17, ic_19, ic_21, ic_33, ic_25, ic_27, ic_29, ic_34, ic_40, ic_41, ic_39, ic_43, ic_45, ic_55, ic_50, ic_56, ic_54, ic_58, ic_71, ic_62, ic_64, ic_66, ic_68, ic_70, ic_96, ic_83, ic_75, ic_77, ic_79, ic_81, ic_85, ic_87, ic_89, ic_91, ic_93, ic_116, ic_101, ic_114, ic_106, ic_108, ic_110, ic_112, ic_117], 47, 2643)
set_option maxRecDepth 20000 in
theorem iz_129 : mkI ih_116 .int (8 : Int32) = some ih_117 := rfl
def ic_118 : xC := .inr (6, [.int (0 : Int32), .int (0 : Int32), .ref 40, .null, .int (0 : Int32), .ref 41, .int (0 : Int32), .ref 46, .null, .null])
def ih_118 : xH := ([ic_97, ic_2, ic_32, ic_15, ic_17, ic_19, ic_21, ic_33, ic_25, ic_27, ic_29, ic_34, ic_40, ic_41, ic_39, ic_43, ic_45, ic_55, ic_50, ic_56, ic_54, ic_58, ic_71, ic_62, ic_64, ic_66, ic_68, ic_70, ic_96, ic_83, ic_75, ic_77, ic_79, ic_81, ic_85, ic_87, ic_89, ic_91, ic_93, ic_118, ic_101, ic_114, ic_106, ic_108, ic_110, ic_112, ic_117], 47, 2643)
set_option maxRecDepth 20000 in
theorem iz_130 : pF ih_117 (ih_97.1.length) 6 7 (.ref (ih_116.1.length)) = some ih_118 := rfl
def ic_119 : xC := .inl (.int, 512, .inl (fun _ => 0))
def ih_119 : xH := ([ic_97, ic_2, ic_32, ic_15, ic_17, ic_19, ic_21, ic_33, ic_25, ic_27, ic_29, ic_34, ic_40, ic_41, ic_39, ic_43, ic_45, ic_55, ic_50, ic_56, ic_54, ic_58, ic_71, ic_62, ic_64, ic_66, ic_68, ic_70, ic_96, ic_83, ic_75, ic_77, ic_79, ic_81, ic_85, ic_87, ic_89, ic_91, ic_93, ic_118, ic_101, ic_114, ic_106, ic_108, ic_110, ic_112, ic_117, ic_119], 48, 3155)
set_option maxRecDepth 20000 in
theorem iz_131 : mkI ih_118 .int (512 : Int32) = some ih_119 := rfl
def ic_120 : xC := .inr (6, [.int (0 : Int32), .int (0 : Int32), .ref 40, .null, .int (0 : Int32), .ref 41, .int (0 : Int32), .ref 46, .ref 47, .null])
def ih_120 : xH := ([ic_97, ic_2, ic_32, ic_15, ic_17, ic_19, ic_21, ic_33, ic_25, ic_27, ic_29, ic_34, ic_40, ic_41, ic_39, ic_43, ic_45, ic_55, ic_50, ic_56, ic_54, ic_58, ic_71, ic_62, ic_64, ic_66, ic_68, ic_70, ic_96, ic_83, ic_75, ic_77, ic_79, ic_81, ic_85, ic_87, ic_89, ic_91, ic_93, ic_120, ic_101, ic_114, ic_106, ic_108, ic_110, ic_112, ic_117, ic_119], 48, 3155)
set_option maxRecDepth 20000 in
theorem iz_132 : pF ih_119 (ih_97.1.length) 6 8 (.ref (ih_118.1.length)) = some ih_120 := rfl
def ic_121 : xC := .inl (.int, 144, .inl (fun _ => 0))
def ih_121 : xH := ([ic_97, ic_2, ic_32, ic_15, ic_17, ic_19, ic_21, ic_33, ic_25, ic_27, ic_29, ic_34, ic_40, ic_41, ic_39, ic_43, ic_45, ic_55, ic_50, ic_56, ic_54, ic_58, ic_71, ic_62, ic_64, ic_66, ic_68, ic_70, ic_96, ic_83, ic_75, ic_77, ic_79, ic_81, ic_85, ic_87, ic_89, ic_91, ic_93, ic_120, ic_101, ic_114, ic_106, ic_108, ic_110, ic_112, ic_117, ic_119, ic_121], 49, 3299)
set_option maxRecDepth 20000 in
theorem iz_133 : mkI ih_120 .int (144 : Int32) = some ih_121 := rfl
def ic_122 : xC := .inr (6, [.int (0 : Int32), .int (0 : Int32), .ref 40, .null, .int (0 : Int32), .ref 41, .int (0 : Int32), .ref 46, .ref 47, .ref 48])
def ih_122 : xH := ([ic_97, ic_2, ic_32, ic_15, ic_17, ic_19, ic_21, ic_33, ic_25, ic_27, ic_29, ic_34, ic_40, ic_41, ic_39, ic_43, ic_45, ic_55, ic_50, ic_56, ic_54, ic_58, ic_71, ic_62, ic_64, ic_66, ic_68, ic_70, ic_96, ic_83, ic_75, ic_77, ic_79, ic_81, ic_85, ic_87, ic_89, ic_91, ic_93, ic_122, ic_101, ic_114, ic_106, ic_108, ic_110, ic_112, ic_117, ic_119, ic_121], 49, 3299)
set_option maxRecDepth 20000 in
theorem iz_134 : pF ih_121 (ih_97.1.length) 6 9 (.ref (ih_120.1.length)) = some ih_122 := rfl
set_option maxRecDepth 20000 in
theorem iz_109 : f_X6_init ih_98 (ih_97.1.length) = some ih_122 := by
  unfold f_X6_init
  rw [iz_110, Option.bind_some]
  rw [iz_111, Option.bind_some]
  rw [iz_112, Option.bind_some]
  rw [iz_113, Option.bind_some]
  rw [iz_114, Option.bind_some]
  rw [iz_115, Option.bind_some]
  rw [iz_116, Option.bind_some]
  rw [iz_117, Option.bind_some]
  rw [iz_127, Option.bind_some]
  rw [iz_128, Option.bind_some]
  rw [iz_129, Option.bind_some]
  rw [iz_130, Option.bind_some]
  rw [iz_131, Option.bind_some]
  rw [iz_132, Option.bind_some]
  rw [iz_133, Option.bind_some]
  rw [iz_134, Option.bind_some]
def ic_123 : xC := .inr (11, [.ref 1, .int (0 : Int32), .int (0 : Int32), .int (-1 : Int32), .ref 2, .ref 12, .ref 15, .ref 16, .long (0 : Int64), .long (0 : Int64), .ref 17, .ref 21, .ref 22, .ref 28, .ref 39, .null, .null, .null])
def ih_123 : xH := ([ic_123, ic_2, ic_32, ic_15, ic_17, ic_19, ic_21, ic_33, ic_25, ic_27, ic_29, ic_34, ic_40, ic_41, ic_39, ic_43, ic_45, ic_55, ic_50, ic_56, ic_54, ic_58, ic_71, ic_62, ic_64, ic_66, ic_68, ic_70, ic_96, ic_83, ic_75, ic_77, ic_79, ic_81, ic_85, ic_87, ic_89, ic_91, ic_93, ic_122, ic_101, ic_114, ic_106, ic_108, ic_110, ic_112, ic_117, ic_119, ic_121], 49, 3299)
set_option maxRecDepth 20000 in
theorem iz_135 : pF ih_122 (ih_0.1.length) 11 14 (.ref (ih_97.1.length)) = some ih_123 := rfl
def ic_124 : xC := .inr (1, [.null, .int 0, .int 0, .int 0, .int 0, .int 0, .int 0, .null, .null, .null])
def ih_124 : xH := ([ic_123, ic_2, ic_32, ic_15, ic_17, ic_19, ic_21, ic_33, ic_25, ic_27, ic_29, ic_34, ic_40, ic_41, ic_39, ic_43, ic_45, ic_55, ic_50, ic_56, ic_54, ic_58, ic_71, ic_62, ic_64, ic_66, ic_68, ic_70, ic_96, ic_83, ic_75, ic_77, ic_79, ic_81, ic_85, ic_87, ic_89, ic_91, ic_93, ic_122, ic_101, ic_114, ic_106, ic_108, ic_110, ic_112, ic_117, ic_119, ic_121, ic_124], 50, 3309)
set_option maxRecDepth 20000 in
theorem iz_136 : mkO ih_123 1 10 [.null, .int 0, .int 0, .int 0, .int 0, .int 0, .int 0, .null, .null, .null] = some ih_124 := rfl
def ic_125 : xC := .inr (1, [.null, .int 0, .int 0, .int 0, .int 0, .int 0, .int 0, .null, .null, .null])
def ih_125 : xH := ([ic_123, ic_2, ic_32, ic_15, ic_17, ic_19, ic_21, ic_33, ic_25, ic_27, ic_29, ic_34, ic_40, ic_41, ic_39, ic_43, ic_45, ic_55, ic_50, ic_56, ic_54, ic_58, ic_71, ic_62, ic_64, ic_66, ic_68, ic_70, ic_96, ic_83, ic_75, ic_77, ic_79, ic_81, ic_85, ic_87, ic_89, ic_91, ic_93, ic_122, ic_101, ic_114, ic_106, ic_108, ic_110, ic_112, ic_117, ic_119, ic_121, ic_125], 50, 3309)
set_option maxRecDepth 20000 in
theorem iz_138 : pF ih_124 (ih_123.1.length) 1 0 (.null) = some ih_125 := rfl
def ic_126 : xC := .inr (1, [.null, .int (0 : Int32), .int 0, .int 0, .int 0, .int 0, .int 0, .null, .null, .null])
def ih_126 : xH := ([ic_123, ic_2, ic_32, ic_15, ic_17, ic_19, ic_21, ic_33, ic_25, ic_27, ic_29, ic_34, ic_40, ic_41, ic_39, ic_43, ic_45, ic_55, ic_50, ic_56, ic_54, ic_58, ic_71, ic_62, ic_64, ic_66, ic_68, ic_70, ic_96, ic_83, ic_75, ic_77, ic_79, ic_81, ic_85, ic_87, ic_89, ic_91, ic_93, ic_122, ic_101, ic_114, ic_106, ic_108, ic_110, ic_112, ic_117, ic_119, ic_121, ic_126], 50, 3309)
set_option maxRecDepth 20000 in
theorem iz_139 : pF ih_125 (ih_123.1.length) 1 1 (.int (0 : Int32)) = some ih_126 := rfl
def ic_127 : xC := .inr (1, [.null, .int (0 : Int32), .int (0 : Int32), .int 0, .int 0, .int 0, .int 0, .null, .null, .null])
def ih_127 : xH := ([ic_123, ic_2, ic_32, ic_15, ic_17, ic_19, ic_21, ic_33, ic_25, ic_27, ic_29, ic_34, ic_40, ic_41, ic_39, ic_43, ic_45, ic_55, ic_50, ic_56, ic_54, ic_58, ic_71, ic_62, ic_64, ic_66, ic_68, ic_70, ic_96, ic_83, ic_75, ic_77, ic_79, ic_81, ic_85, ic_87, ic_89, ic_91, ic_93, ic_122, ic_101, ic_114, ic_106, ic_108, ic_110, ic_112, ic_117, ic_119, ic_121, ic_127], 50, 3309)
set_option maxRecDepth 20000 in
theorem iz_140 : pF ih_126 (ih_123.1.length) 1 2 (.int (0 : Int32)) = some ih_127 := rfl
def ic_128 : xC := .inr (1, [.null, .int (0 : Int32), .int (0 : Int32), .int (0 : Int32), .int 0, .int 0, .int 0, .null, .null, .null])
def ih_128 : xH := ([ic_123, ic_2, ic_32, ic_15, ic_17, ic_19, ic_21, ic_33, ic_25, ic_27, ic_29, ic_34, ic_40, ic_41, ic_39, ic_43, ic_45, ic_55, ic_50, ic_56, ic_54, ic_58, ic_71, ic_62, ic_64, ic_66, ic_68, ic_70, ic_96, ic_83, ic_75, ic_77, ic_79, ic_81, ic_85, ic_87, ic_89, ic_91, ic_93, ic_122, ic_101, ic_114, ic_106, ic_108, ic_110, ic_112, ic_117, ic_119, ic_121, ic_128], 50, 3309)
set_option maxRecDepth 20000 in
theorem iz_141 : pF ih_127 (ih_123.1.length) 1 3 (.int (0 : Int32)) = some ih_128 := rfl
def ic_129 : xC := .inr (1, [.null, .int (0 : Int32), .int (0 : Int32), .int (0 : Int32), .int (0 : Int32), .int 0, .int 0, .null, .null, .null])
def ih_129 : xH := ([ic_123, ic_2, ic_32, ic_15, ic_17, ic_19, ic_21, ic_33, ic_25, ic_27, ic_29, ic_34, ic_40, ic_41, ic_39, ic_43, ic_45, ic_55, ic_50, ic_56, ic_54, ic_58, ic_71, ic_62, ic_64, ic_66, ic_68, ic_70, ic_96, ic_83, ic_75, ic_77, ic_79, ic_81, ic_85, ic_87, ic_89, ic_91, ic_93, ic_122, ic_101, ic_114, ic_106, ic_108, ic_110, ic_112, ic_117, ic_119, ic_121, ic_129], 50, 3309)
set_option maxRecDepth 20000 in
theorem iz_142 : pF ih_128 (ih_123.1.length) 1 4 (.int (0 : Int32)) = some ih_129 := rfl
def ic_130 : xC := .inr (1, [.null, .int (0 : Int32), .int (0 : Int32), .int (0 : Int32), .int (0 : Int32), .int (0 : Int32), .int 0, .null, .null, .null])
def ih_130 : xH := ([ic_123, ic_2, ic_32, ic_15, ic_17, ic_19, ic_21, ic_33, ic_25, ic_27, ic_29, ic_34, ic_40, ic_41, ic_39, ic_43, ic_45, ic_55, ic_50, ic_56, ic_54, ic_58, ic_71, ic_62, ic_64, ic_66, ic_68, ic_70, ic_96, ic_83, ic_75, ic_77, ic_79, ic_81, ic_85, ic_87, ic_89, ic_91, ic_93, ic_122, ic_101, ic_114, ic_106, ic_108, ic_110, ic_112, ic_117, ic_119, ic_121, ic_130], 50, 3309)
set_option maxRecDepth 20000 in
theorem iz_143 : pF ih_129 (ih_123.1.length) 1 5 (.int (0 : Int32)) = some ih_130 := rfl
def ic_131 : xC := .inr (1, [.null, .int (0 : Int32), .int (0 : Int32), .int (0 : Int32), .int (0 : Int32), .int (0 : Int32), .int (1000000 : Int32), .null, .null, .null])
def ih_131 : xH := ([ic_123, ic_2, ic_32, ic_15, ic_17, ic_19, ic_21, ic_33, ic_25, ic_27, ic_29, ic_34, ic_40, ic_41, ic_39, ic_43, ic_45, ic_55, ic_50, ic_56, ic_54, ic_58, ic_71, ic_62, ic_64, ic_66, ic_68, ic_70, ic_96, ic_83, ic_75, ic_77, ic_79, ic_81, ic_85, ic_87, ic_89, ic_91, ic_93, ic_122, ic_101, ic_114, ic_106, ic_108, ic_110, ic_112, ic_117, ic_119, ic_121, ic_131], 50, 3309)
set_option maxRecDepth 20000 in
theorem iz_144 : pF ih_130 (ih_123.1.length) 1 6 (.int (1000000 : Int32)) = some ih_131 := rfl
def ic_132 : xC := .inl (.int, 256, .inl (fun _ => 0))
def ih_132 : xH := ([ic_123, ic_2, ic_32, ic_15, ic_17, ic_19, ic_21, ic_33, ic_25, ic_27, ic_29, ic_34, ic_40, ic_41, ic_39, ic_43, ic_45, ic_55, ic_50, ic_56, ic_54, ic_58, ic_71, ic_62, ic_64, ic_66, ic_68, ic_70, ic_96, ic_83, ic_75, ic_77, ic_79, ic_81, ic_85, ic_87, ic_89, ic_91, ic_93, ic_122, ic_101, ic_114, ic_106, ic_108, ic_110, ic_112, ic_117, ic_119, ic_121, ic_131, ic_132], 51, 3565)
set_option maxRecDepth 20000 in
theorem iz_145 : mkI ih_131 .int (256 : Int32) = some ih_132 := rfl
def ic_133 : xC := .inr (1, [.null, .int (0 : Int32), .int (0 : Int32), .int (0 : Int32), .int (0 : Int32), .int (0 : Int32), .int (1000000 : Int32), .ref 50, .null, .null])
def ih_133 : xH := ([ic_123, ic_2, ic_32, ic_15, ic_17, ic_19, ic_21, ic_33, ic_25, ic_27, ic_29, ic_34, ic_40, ic_41, ic_39, ic_43, ic_45, ic_55, ic_50, ic_56, ic_54, ic_58, ic_71, ic_62, ic_64, ic_66, ic_68, ic_70, ic_96, ic_83, ic_75, ic_77, ic_79, ic_81, ic_85, ic_87, ic_89, ic_91, ic_93, ic_122, ic_101, ic_114, ic_106, ic_108, ic_110, ic_112, ic_117, ic_119, ic_121, ic_133, ic_132], 51, 3565)
set_option maxRecDepth 20000 in
theorem iz_146 : pF ih_132 (ih_123.1.length) 1 7 (.ref (ih_131.1.length)) = some ih_133 := rfl
def ic_134 : xC := .inl (.int, 6144, .inl (fun _ => 0))
def ih_134 : xH := ([ic_123, ic_2, ic_32, ic_15, ic_17, ic_19, ic_21, ic_33, ic_25, ic_27, ic_29, ic_34, ic_40, ic_41, ic_39, ic_43, ic_45, ic_55, ic_50, ic_56, ic_54, ic_58, ic_71, ic_62, ic_64, ic_66, ic_68, ic_70, ic_96, ic_83, ic_75, ic_77, ic_79, ic_81, ic_85, ic_87, ic_89, ic_91, ic_93, ic_122, ic_101, ic_114, ic_106, ic_108, ic_110, ic_112, ic_117, ic_119, ic_121, ic_133, ic_132, ic_134], 52, 9709)
set_option maxRecDepth 20000 in
theorem iz_147 : mkI ih_133 .int (6144 : Int32) = some ih_134 := rfl
def ic_135 : xC := .inr (1, [.null, .int (0 : Int32), .int (0 : Int32), .int (0 : Int32), .int (0 : Int32), .int (0 : Int32), .int (1000000 : Int32), .ref 50, .ref 51, .null])
def ih_135 : xH := ([ic_123, ic_2, ic_32, ic_15, ic_17, ic_19, ic_21, ic_33, ic_25, ic_27, ic_29, ic_34, ic_40, ic_41, ic_39, ic_43, ic_45, ic_55, ic_50, ic_56, ic_54, ic_58, ic_71, ic_62, ic_64, ic_66, ic_68, ic_70, ic_96, ic_83, ic_75, ic_77, ic_79, ic_81, ic_85, ic_87, ic_89, ic_91, ic_93, ic_122, ic_101, ic_114, ic_106, ic_108, ic_110, ic_112, ic_117, ic_119, ic_121, ic_135, ic_132, ic_134], 52, 9709)
set_option maxRecDepth 20000 in
theorem iz_148 : pF ih_134 (ih_123.1.length) 1 8 (.ref (ih_133.1.length)) = some ih_135 := rfl
def ic_136 : xC := .inl (.int, 256, .inl (fun _ => 0))
def ih_136 : xH := ([ic_123, ic_2, ic_32, ic_15, ic_17, ic_19, ic_21, ic_33, ic_25, ic_27, ic_29, ic_34, ic_40, ic_41, ic_39, ic_43, ic_45, ic_55, ic_50, ic_56, ic_54, ic_58, ic_71, ic_62, ic_64, ic_66, ic_68, ic_70, ic_96, ic_83, ic_75, ic_77, ic_79, ic_81, ic_85, ic_87, ic_89, ic_91, ic_93, ic_122, ic_101, ic_114, ic_106, ic_108, ic_110, ic_112, ic_117, ic_119, ic_121, ic_135, ic_132, ic_134, ic_136], 53, 9965)
set_option maxRecDepth 20000 in
theorem iz_149 : mkI ih_135 .int (256 : Int32) = some ih_136 := rfl
def ic_137 : xC := .inr (1, [.null, .int (0 : Int32), .int (0 : Int32), .int (0 : Int32), .int (0 : Int32), .int (0 : Int32), .int (1000000 : Int32), .ref 50, .ref 51, .ref 52])
def ih_137 : xH := ([ic_123, ic_2, ic_32, ic_15, ic_17, ic_19, ic_21, ic_33, ic_25, ic_27, ic_29, ic_34, ic_40, ic_41, ic_39, ic_43, ic_45, ic_55, ic_50, ic_56, ic_54, ic_58, ic_71, ic_62, ic_64, ic_66, ic_68, ic_70, ic_96, ic_83, ic_75, ic_77, ic_79, ic_81, ic_85, ic_87, ic_89, ic_91, ic_93, ic_122, ic_101, ic_114, ic_106, ic_108, ic_110, ic_112, ic_117, ic_119, ic_121, ic_137, ic_132, ic_134, ic_136], 53, 9965)
set_option maxRecDepth 20000 in
theorem iz_150 : pF ih_136 (ih_123.1.length) 1 9 (.ref (ih_135.1.length)) = some ih_137 := rfl
set_option maxRecDepth 20000 in
theorem iz_137 : f_X1_init ih_124 (ih_123.1.length) = some ih_137 := by
  unfold f_X1_init
  rw [iz_138, Option.bind_some]
  rw [iz_139, Option.bind_some]
  rw [iz_140, Option.bind_some]
  rw [iz_141, Option.bind_some]
  rw [iz_142, Option.bind_some]
  rw [iz_143, Option.bind_some]
  rw [iz_144, Option.bind_some]
  rw [iz_145, Option.bind_some]
  rw [iz_146, Option.bind_some]
  rw [iz_147, Option.bind_some]
  rw [iz_148, Option.bind_some]
  rw [iz_149, Option.bind_some]
  rw [iz_150, Option.bind_some]
def ic_138 : xC := .inr (11, [.ref 1, .int (0 : Int32), .int (0 : Int32), .int (-1 : Int32), .ref 2, .ref 12, .ref 15, .ref 16, .long (0 : Int64), .long (0 : Int64), .ref 17, .ref 21, .ref 22, .ref 28, .ref 39, .ref 49, .null, .null])
def ih_138 : xH := ([ic_138, ic_2, ic_32, ic_15, ic_17, ic_19, ic_21, ic_33, ic_25, ic_27, ic_29, ic_34, ic_40, ic_41, ic_39, ic_43, ic_45, ic_55, ic_50, ic_56, ic_54, ic_58, ic_71, ic_62, ic_64, ic_66, ic_68, ic_70, ic_96, ic_83, ic_75, ic_77, ic_79, ic_81, ic_85, ic_87, ic_89, ic_91, ic_93, ic_122, ic_101, ic_114, ic_106, ic_108, ic_110, ic_112, ic_117, ic_119, ic_121, ic_137, ic_132, ic_134, ic_136], 53, 9965)
set_option maxRecDepth 20000 in
theorem iz_151 : pF ih_137 (ih_0.1.length) 11 15 (.ref (ih_123.1.length)) = some ih_138 := rfl
def ic_139 : xC := .inr (9, [.null, .null, .int 0, .null, .null])
def ih_139 : xH := ([ic_138, ic_2, ic_32, ic_15, ic_17, ic_19, ic_21, ic_33, ic_25, ic_27, ic_29, ic_34, ic_40, ic_41, ic_39, ic_43, ic_45, ic_55, ic_50, ic_56, ic_54, ic_58, ic_71, ic_62, ic_64, ic_66, ic_68, ic_70, ic_96, ic_83, ic_75, ic_77, ic_79, ic_81, ic_85, ic_87, ic_89, ic_91, ic_93, ic_122, ic_101, ic_114, ic_106, ic_108, ic_110, ic_112, ic_117, ic_119, ic_121, ic_137, ic_132, ic_134, ic_136, ic_139], 54, 9970)
set_option maxRecDepth 20000 in
theorem iz_152 : mkO ih_138 9 5 [.null, .null, .int 0, .null, .null] = some ih_139 := rfl
def ic_140 : xC := .inl (.int, 16, .inl (fun _ => 0))
def ih_140 : xH := ([ic_138, ic_2, ic_32, ic_15, ic_17, ic_19, ic_21, ic_33, ic_25, ic_27, ic_29, ic_34, ic_40, ic_41, ic_39, ic_43, ic_45, ic_55, ic_50, ic_56, ic_54, ic_58, ic_71, ic_62, ic_64, ic_66, ic_68, ic_70, ic_96, ic_83, ic_75, ic_77, ic_79, ic_81, ic_85, ic_87, ic_89, ic_91, ic_93, ic_122, ic_101, ic_114, ic_106, ic_108, ic_110, ic_112, ic_117, ic_119, ic_121, ic_137, ic_132, ic_134, ic_136, ic_139, ic_140], 55, 9986)
set_option maxRecDepth 20000 in
theorem iz_154 : mkI ih_139 .int (16 : Int32) = some ih_140 := rfl
def ic_141 : xC := .inr (9, [.ref 54, .null, .int 0, .null, .null])
def ih_141 : xH := ([ic_138, ic_2, ic_32, ic_15, ic_17, ic_19, ic_21, ic_33, ic_25, ic_27, ic_29, ic_34, ic_40, ic_41, ic_39, ic_43, ic_45, ic_55, ic_50, ic_56, ic_54, ic_58, ic_71, ic_62, ic_64, ic_66, ic_68, ic_70, ic_96, ic_83, ic_75, ic_77, ic_79, ic_81, ic_85, ic_87, ic_89, ic_91, ic_93, ic_122, ic_101, ic_114, ic_106, ic_108, ic_110, ic_112, ic_117, ic_119, ic_121, ic_137, ic_132, ic_134, ic_136, ic_141, ic_140], 55, 9986)
set_option maxRecDepth 20000 in
theorem iz_155 : pF ih_140 (ih_138.1.length) 9 0 (.ref (ih_139.1.length)) = some ih_141 := rfl
def ic_142 : xC := .inl (.int, 17, .inl (fun _ => 0))
def ih_142 : xH := ([ic_138, ic_2, ic_32, ic_15, ic_17, ic_19, ic_21, ic_33, ic_25, ic_27, ic_29, ic_34, ic_40, ic_41, ic_39, ic_43, ic_45, ic_55, ic_50, ic_56, ic_54, ic_58, ic_71, ic_62, ic_64, ic_66, ic_68, ic_70, ic_96, ic_83, ic_75, ic_77, ic_79, ic_81, ic_85, ic_87, ic_89, ic_91, ic_93, ic_122, ic_101, ic_114, ic_106, ic_108, ic_110, ic_112, ic_117, ic_119, ic_121, ic_137, ic_132, ic_134, ic_136, ic_141, ic_140, ic_142], 56, 10003)
set_option maxRecDepth 20000 in
theorem iz_156 : mkI ih_141 .int (17 : Int32) = some ih_142 := rfl
def ic_143 : xC := .inr (9, [.ref 54, .ref 55, .int 0, .null, .null])
def ih_143 : xH := ([ic_138, ic_2, ic_32, ic_15, ic_17, ic_19, ic_21, ic_33, ic_25, ic_27, ic_29, ic_34, ic_40, ic_41, ic_39, ic_43, ic_45, ic_55, ic_50, ic_56, ic_54, ic_58, ic_71, ic_62, ic_64, ic_66, ic_68, ic_70, ic_96, ic_83, ic_75, ic_77, ic_79, ic_81, ic_85, ic_87, ic_89, ic_91, ic_93, ic_122, ic_101, ic_114, ic_106, ic_108, ic_110, ic_112, ic_117, ic_119, ic_121, ic_137, ic_132, ic_134, ic_136, ic_143, ic_140, ic_142], 56, 10003)
set_option maxRecDepth 20000 in
theorem iz_157 : pF ih_142 (ih_138.1.length) 9 1 (.ref (ih_141.1.length)) = some ih_143 := rfl
def ic_144 : xC := .inr (9, [.ref 54, .ref 55, .int (0 : Int32), .null, .null])
def ih_144 : xH := ([ic_138, ic_2, ic_32, ic_15, ic_17, ic_19, ic_21, ic_33, ic_25, ic_27, ic_29, ic_34, ic_40, ic_41, ic_39, ic_43, ic_45, ic_55, ic_50, ic_56, ic_54, ic_58, ic_71, ic_62, ic_64, ic_66, ic_68, ic_70, ic_96, ic_83, ic_75, ic_77, ic_79, ic_81, ic_85, ic_87, ic_89, ic_91, ic_93, ic_122, ic_101, ic_114, ic_106, ic_108, ic_110, ic_112, ic_117, ic_119, ic_121, ic_137, ic_132, ic_134, ic_136, ic_144, ic_140, ic_142], 56, 10003)
set_option maxRecDepth 20000 in
theorem iz_158 : pF ih_143 (ih_138.1.length) 9 2 (.int (0 : Int32)) = some ih_144 := rfl
def ic_145 : xC := .inl (.int, 1024, .inl (fun _ => 0))
def ih_145 : xH := ([ic_138, ic_2, ic_32, ic_15, ic_17, ic_19, ic_21, ic_33, ic_25, ic_27, ic_29, ic_34, ic_40, ic_41, ic_39, ic_43, ic_45, ic_55, ic_50, ic_56, ic_54, ic_58, ic_71, ic_62, ic_64, ic_66, ic_68, ic_70, ic_96, ic_83, ic_75, ic_77, ic_79, ic_81, ic_85, ic_87, ic_89, ic_91, ic_93, ic_122, ic_101, ic_114, ic_106, ic_108, ic_110, ic_112, ic_117, ic_119, ic_121, ic_137, ic_132, ic_134, ic_136, ic_144, ic_140, ic_142, ic_145], 57, 11027)
set_option maxRecDepth 20000 in
theorem iz_159 : mkI ih_144 .int (1024 : Int32) = some ih_145 := rfl
def ic_146 : xC := .inr (9, [.ref 54, .ref 55, .int (0 : Int32), .ref 56, .null])
def ih_146 : xH := ([ic_138, ic_2, ic_32, ic_15, ic_17, ic_19, ic_21, ic_33, ic_25, ic_27, ic_29, ic_34, ic_40, ic_41, ic_39, ic_43, ic_45, ic_55, ic_50, ic_56, ic_54, ic_58, ic_71, ic_62, ic_64, ic_66, ic_68, ic_70, ic_96, ic_83, ic_75, ic_77, ic_79, ic_81, ic_85, ic_87, ic_89, ic_91, ic_93, ic_122, ic_101, ic_114, ic_106, ic_108, ic_110, ic_112, ic_117, ic_119, ic_121, ic_137, ic_132, ic_134, ic_136, ic_146, ic_140, ic_142, ic_145], 57, 11027)
set_option maxRecDepth 20000 in
theorem iz_160 : pF ih_145 (ih_138.1.length) 9 3 (.ref (ih_144.1.length)) = some ih_146 := rfl
def ic_147 : xC := .inr (9, [.ref 54, .ref 55, .int (0 : Int32), .ref 56, .null])
def ih_147 : xH := ([ic_138, ic_2, ic_32, ic_15, ic_17, ic_19, ic_21, ic_33, ic_25, ic_27, ic_29, ic_34, ic_40, ic_41, ic_39, ic_43, ic_45, ic_55, ic_50, ic_56, ic_54, ic_58, ic_71, ic_62, ic_64, ic_66, ic_68, ic_70, ic_96, ic_83, ic_75, ic_77, ic_79, ic_81, ic_85, ic_87, ic_89, ic_91, ic_93, ic_122, ic_101, ic_114, ic_106, ic_108, ic_110, ic_112, ic_117, ic_119, ic_121, ic_137, ic_132, ic_134, ic_136, ic_147, ic_140, ic_142, ic_145], 57, 11027)
set_option maxRecDepth 20000 in
theorem iz_161 : pF ih_146 (ih_138.1.length) 9 4 (.null) = some ih_147 := rfl
set_option maxRecDepth 20000 in
theorem iz_153 : f_X9_init ih_139 (ih_138.1.length) = some ih_147 := by
  unfold f_X9_init
  rw [iz_154, Option.bind_some]
  rw [iz_155, Option.bind_some]
  rw [iz_156, Option.bind_some]
  rw [iz_157, Option.bind_some]
  rw [iz_158, Option.bind_some]
  rw [iz_159, Option.bind_some]
  rw [iz_160, Option.bind_some]
  rw [iz_161, Option.bind_some]
def ic_148 : xC := .inr (11, [.ref 1, .int (0 : Int32), .int (0 : Int32), .int (-1 : Int32), .ref 2, .ref 12, .ref 15, .ref 16, .long (0 : Int64), .long (0 : Int64), .ref 17, .ref 21, .ref 22, .ref 28, .ref 39, .ref 49, .ref 53, .null])
def ih_148 : xH := ([ic_148, ic_2, ic_32, ic_15, ic_17, ic_19, ic_21, ic_33, ic_25, ic_27, ic_29, ic_34, ic_40, ic_41, ic_39, ic_43, ic_45, ic_55, ic_50, ic_56, ic_54, ic_58, ic_71, ic_62, ic_64, ic_66, ic_68, ic_70, ic_96, ic_83, ic_75, ic_77, ic_79, ic_81, ic_85, ic_87, ic_89, ic_91, ic_93, ic_122, ic_101, ic_114, ic_106, ic_108, ic_110, ic_112, ic_117, ic_119, ic_121, ic_137, ic_132, ic_134, ic_136, ic_147, ic_140, ic_142, ic_145], 57, 11027)
set_option maxRecDepth 20000 in
theorem iz_162 : pF ih_147 (ih_0.1.length) 11 16 (.ref (ih_138.1.length)) = some ih_148 := rfl
def ic_149 : xC := .inr (11, [.ref 1, .int (0 : Int32), .int (0 : Int32), .int (-1 : Int32), .ref 2, .ref 12, .ref 15, .ref 16, .long (0 : Int64), .long (0 : Int64), .ref 17, .ref 21, .ref 22, .ref 28, .ref 39, .ref 49, .ref 53, .null])
def ih_149 : xH := ([ic_149, ic_2, ic_32, ic_15, ic_17, ic_19, ic_21, ic_33, ic_25, ic_27, ic_29, ic_34, ic_40, ic_41, ic_39, ic_43, ic_45, ic_55, ic_50, ic_56, ic_54, ic_58, ic_71, ic_62, ic_64, ic_66, ic_68, ic_70, ic_96, ic_83, ic_75, ic_77, ic_79, ic_81, ic_85, ic_87, ic_89, ic_91, ic_93, ic_122, ic_101, ic_114, ic_106, ic_108, ic_110, ic_112, ic_117, ic_119, ic_121, ic_137, ic_132, ic_134, ic_136, ic_147, ic_140, ic_142, ic_145], 57, 11027)
set_option maxRecDepth 20000 in
theorem iz_163 : pF ih_148 (ih_0.1.length) 11 17 (.null) = some ih_149 := rfl
theorem iz_164 : f_X11_init ih_1 (ih_0.1.length) = some ih_149 := by
  unfold f_X11_init
  rw [iz_2, Option.bind_some]
  rw [iz_3, Option.bind_some]
  rw [iz_4, Option.bind_some]
  rw [iz_5, Option.bind_some]
  rw [iz_6, Option.bind_some]
  rw [iz_7, Option.bind_some]
  rw [iz_8, Option.bind_some]
  rw [iz_38, Option.bind_some]
  rw [iz_39, Option.bind_some]
  rw [iz_40, Option.bind_some]
  rw [iz_47, Option.bind_some]
  rw [iz_48, Option.bind_some]
  rw [iz_49, Option.bind_some]
  rw [iz_50, Option.bind_some]
  rw [iz_51, Option.bind_some]
  rw [iz_52, Option.bind_some]
  rw [iz_53, Option.bind_some]
  rw [iz_54, Option.bind_some]
  rw [iz_55, Option.bind_some]
  rw [iz_64, Option.bind_some]
  rw [iz_65, Option.bind_some]
  rw [iz_66, Option.bind_some]
  rw [iz_67, Option.bind_some]
  rw [iz_68, Option.bind_some]
  rw [iz_80, Option.bind_some]
  rw [iz_81, Option.bind_some]
  rw [iz_82, Option.bind_some]
  rw [iz_107, Option.bind_some]
  rw [iz_108, Option.bind_some]
  rw [iz_109, Option.bind_some]
  rw [iz_135, Option.bind_some]
  rw [iz_136, Option.bind_some]
  rw [iz_137, Option.bind_some]
  rw [iz_151, Option.bind_some]
  rw [iz_152, Option.bind_some]
  rw [iz_153, Option.bind_some]
  rw [iz_162, Option.bind_some]
  rw [iz_163, Option.bind_some]
def ic_150 : xC := .inr (12, [.null, .null, .null, .null, .int 0, .null, .int 0, .int 0, .int 0, .int 0, .int 0, .int 0, .int 0, .int 0, .int 0, .int 0, .null, .null, .null, .null, .null, .null, .null, .null, .long 0, .long 0, .null, .null, .int 0, .null, .null, .null])
def ih_150 : xH := ([ic_149, ic_2, ic_32, ic_15, ic_17, ic_19, ic_21, ic_33, ic_25, ic_27, ic_29, ic_34, ic_40, ic_41, ic_39, ic_43, ic_45, ic_55, ic_50, ic_56, ic_54, ic_58, ic_71, ic_62, ic_64, ic_66, ic_68, ic_70, ic_96, ic_83, ic_75, ic_77, ic_79, ic_81, ic_85, ic_87, ic_89, ic_91, ic_93, ic_122, ic_101, ic_114, ic_106, ic_108, ic_110, ic_112, ic_117, ic_119, ic_121, ic_137, ic_132, ic_134, ic_136, ic_147, ic_140, ic_142, ic_145, ic_150], 58, 11059)
set_option maxRecDepth 20000 in
theorem iz_165 : mkO ih_149 12 32 [.null, .null, .null, .null, .int 0, .null, .int 0, .int 0, .int 0, .int 0, .int 0, .int 0, .int 0, .int 0, .int 0, .int 0, .null, .null, .null, .null, .null, .null, .null, .null, .long 0, .long 0, .null, .null, .int 0, .null, .null, .null] = some ih_150 := rfl
def ic_151 : xC := .inl (.int, 480, .inl (fun _ => 0))
def ih_151 : xH := ([ic_149, ic_2, ic_32, ic_15, ic_17, ic_19, ic_21, ic_33, ic_25, ic_27, ic_29, ic_34, ic_40, ic_41, ic_39, ic_43, ic_45, ic_55, ic_50, ic_56, ic_54, ic_58, ic_71, ic_62, ic_64, ic_66, ic_68, ic_70, ic_96, ic_83, ic_75, ic_77, ic_79, ic_81, ic_85, ic_87, ic_89, ic_91, ic_93, ic_122, ic_101, ic_114, ic_106, ic_108, ic_110, ic_112, ic_117, ic_119, ic_121, ic_137, ic_132, ic_134, ic_136, ic_147, ic_140, ic_142, ic_145, ic_150, ic_151], 59, 11539)
set_option maxRecDepth 20000 in
theorem iz_166 : mkI ih_150 .int (480 : Int32) = some ih_151 := rfl
def ic_152 : xC := .inr (12, [.ref 58, .null, .null, .null, .int 0, .null, .int 0, .int 0, .int 0, .int 0, .int 0, .int 0, .int 0, .int 0, .int 0, .int 0, .null, .null, .null, .null, .null, .null, .null, .null, .long 0, .long 0, .null, .null, .int 0, .null, .null, .null])
def ih_152 : xH := ([ic_149, ic_2, ic_32, ic_15, ic_17, ic_19, ic_21, ic_33, ic_25, ic_27, ic_29, ic_34, ic_40, ic_41, ic_39, ic_43, ic_45, ic_55, ic_50, ic_56, ic_54, ic_58, ic_71, ic_62, ic_64, ic_66, ic_68, ic_70, ic_96, ic_83, ic_75, ic_77, ic_79, ic_81, ic_85, ic_87, ic_89, ic_91, ic_93, ic_122, ic_101, ic_114, ic_106, ic_108, ic_110, ic_112, ic_117, ic_119, ic_121, ic_137, ic_132, ic_134, ic_136, ic_147, ic_140, ic_142, ic_145, ic_152, ic_151], 59, 11539)
set_option maxRecDepth 20000 in
theorem iz_167 : pF ih_151 (ih_149.1.length) 12 0 (.ref (ih_150.1.length)) = some ih_152 := rfl
def ic_153 : xC := .inl (.int, 1440, .inl (fun _ => 0))
def ih_153 : xH := ([ic_149, ic_2, ic_32, ic_15, ic_17, ic_19, ic_21, ic_33, ic_25, ic_27, ic_29, ic_34, ic_40, ic_41, ic_39, ic_43, ic_45, ic_55, ic_50, ic_56, ic_54, ic_58, ic_71, ic_62, ic_64, ic_66, ic_68, ic_70, ic_96, ic_83, ic_75, ic_77, ic_79, ic_81, ic_85, ic_87, ic_89, ic_91, ic_93, ic_122, ic_101, ic_114, ic_106, ic_108, ic_110, ic_112, ic_117, ic_119, ic_121, ic_137, ic_132, ic_134, ic_136, ic_147, ic_140, ic_142, ic_145, ic_152, ic_151, ic_153], 60, 12979)
set_option maxRecDepth 20000 in
theorem iz_168 : mkI ih_152 .int (1440 : Int32) = some ih_153 := rfl
def ic_154 : xC := .inr (12, [.ref 58, .ref 59, .null, .null, .int 0, .null, .int 0, .int 0, .int 0, .int 0, .int 0, .int 0, .int 0, .int 0, .int 0, .int 0, .null, .null, .null, .null, .null, .null, .null, .null, .long 0, .long 0, .null, .null, .int 0, .null, .null, .null])
def ih_154 : xH := ([ic_149, ic_2, ic_32, ic_15, ic_17, ic_19, ic_21, ic_33, ic_25, ic_27, ic_29, ic_34, ic_40, ic_41, ic_39, ic_43, ic_45, ic_55, ic_50, ic_56, ic_54, ic_58, ic_71, ic_62, ic_64, ic_66, ic_68, ic_70, ic_96, ic_83, ic_75, ic_77, ic_79, ic_81, ic_85, ic_87, ic_89, ic_91, ic_93, ic_122, ic_101, ic_114, ic_106, ic_108, ic_110, ic_112, ic_117, ic_119, ic_121, ic_137, ic_132, ic_134, ic_136, ic_147, ic_140, ic_142, ic_145, ic_154, ic_151, ic_153], 60, 12979)
set_option maxRecDepth 20000 in
theorem iz_169 : pF ih_153 (ih_149.1.length) 12 1 (.ref (ih_152.1.length)) = some ih_154 := rfl
def ic_155 : xC := .inl (.int, 480, .inl (fun _ => 0))
def ih_155 : xH := ([ic_149, ic_2, ic_32, ic_15, ic_17, ic_19, ic_21, ic_33, ic_25, ic_27, ic_29, ic_34, ic_40, ic_41, ic_39, ic_43, ic_45, ic_55, ic_50, ic_56, ic_54, ic_58, ic_71, ic_62, ic_64, ic_66, ic_68, ic_70, ic_96, ic_83, ic_75, ic_77, ic_79, ic_81, ic_85, ic_87, ic_89, ic_91, ic_93, ic_122, ic_101, ic_114, ic_106, ic_108, ic_110, ic_112, ic_117, ic_119, ic_121, ic_137, ic_132, ic_134, ic_136, ic_147, ic_140, ic_142, ic_145, ic_154, ic_151, ic_153, ic_155], 61, 13459)
set_option maxRecDepth 20000 in
theorem iz_170 : mkI ih_154 .int (480 : Int32) = some ih_155 := rfl
def ic_156 : xC := .inr (12, [.ref 58, .ref 59, .ref 60, .null, .int 0, .null, .int 0, .int 0, .int 0, .int 0, .int 0, .int 0, .int 0, .int 0, .int 0, .int 0, .null, .null, .null, .null, .null, .null, .null, .null, .long 0, .long 0, .null, .null, .int 0, .null, .null, .null])
def ih_156 : xH := ([ic_149, ic_2, ic_32, ic_15, ic_17, ic_19, ic_21, ic_33, ic_25, ic_27, ic_29, ic_34, ic_40, ic_41, ic_39, ic_43, ic_45, ic_55, ic_50, ic_56, ic_54, ic_58, ic_71, ic_62, ic_64, ic_66, ic_68, ic_70, ic_96, ic_83, ic_75, ic_77, ic_79, ic_81, ic_85, ic_87, ic_89, ic_91, ic_93, ic_122, ic_101, ic_114, ic_106, ic_108, ic_110, ic_112, ic_117, ic_119, ic_121, ic_137, ic_132, ic_134, ic_136, ic_147, ic_140, ic_142, ic_145, ic_156, ic_151, ic_153, ic_155], 61, 13459)
set_option maxRecDepth 20000 in
theorem iz_171 : pF ih_155 (ih_149.1.length) 12 2 (.ref (ih_154.1.length)) = some ih_156 := rfl
def ic_157 : xC := .inl (.boolean, 3, .inl (fun _ => 0))
def ih_157 : xH := ([ic_149, ic_2, ic_32, ic_15, ic_17, ic_19, ic_21, ic_33, ic_25, ic_27, ic_29, ic_34, ic_40, ic_41, ic_39, ic_43, ic_45, ic_55, ic_50, ic_56, ic_54, ic_58, ic_71, ic_62, ic_64, ic_66, ic_68, ic_70, ic_96, ic_83, ic_75, ic_77, ic_79, ic_81, ic_85, ic_87, ic_89, ic_91, ic_93, ic_122, ic_101, ic_114, ic_106, ic_108, ic_110, ic_112, ic_117, ic_119, ic_121, ic_137, ic_132, ic_134, ic_136, ic_147, ic_140, ic_142, ic_145, ic_156, ic_151, ic_153, ic_155, ic_157], 62, 13462)
set_option maxRecDepth 20000 in
theorem iz_172 : mkI ih_156 .boolean (3 : Int32) = some ih_157 := rfl
def ic_158 : xC := .inr (12, [.ref 58, .ref 59, .ref 60, .ref 61, .int 0, .null, .int 0, .int 0, .int 0, .int 0, .int 0, .int 0, .int 0, .int 0, .int 0, .int 0, .null, .null, .null, .null, .null, .null, .null, .null, .long 0, .long 0, .null, .null, .int 0, .null, .null, .null])
def ih_158 : xH := ([ic_149, ic_2, ic_32, ic_15, ic_17, ic_19, ic_21, ic_33, ic_25, ic_27, ic_29, ic_34, ic_40, ic_41, ic_39, ic_43, ic_45, ic_55, ic_50, ic_56, ic_54, ic_58, ic_71, ic_62, ic_64, ic_66, ic_68, ic_70, ic_96, ic_83, ic_75, ic_77, ic_79, ic_81, ic_85, ic_87, ic_89, ic_91, ic_93, ic_122, ic_101, ic_114, ic_106, ic_108, ic_110, ic_112, ic_117, ic_119, ic_121, ic_137, ic_132, ic_134, ic_136, ic_147, ic_140, ic_142, ic_145, ic_158, ic_151, ic_153, ic_155, ic_157], 62, 13462)
set_option maxRecDepth 20000 in
theorem iz_173 : pF ih_157 (ih_149.1.length) 12 3 (.ref (ih_156.1.length)) = some ih_158 := rfl
def ic_159 : xC := .inl (.int, 800, .inl (fun _ => 0))
def ih_159 : xH := ([ic_149, ic_2, ic_32, ic_15, ic_17, ic_19, ic_21, ic_33, ic_25, ic_27, ic_29, ic_34, ic_40, ic_41, ic_39, ic_43, ic_45, ic_55, ic_50, ic_56, ic_54, ic_58, ic_71, ic_62, ic_64, ic_66, ic_68, ic_70, ic_96, ic_83, ic_75, ic_77, ic_79, ic_81, ic_85, ic_87, ic_89, ic_91, ic_93, ic_122, ic_101, ic_114, ic_106, ic_108, ic_110, ic_112, ic_117, ic_119, ic_121, ic_137, ic_132, ic_134, ic_136, ic_147, ic_140, ic_142, ic_145, ic_158, ic_151, ic_153, ic_155, ic_157, ic_159], 63, 14262)
set_option maxRecDepth 20000 in
theorem iz_174 : mkI ih_158 .int (800 : Int32) = some ih_159 := rfl
def ic_160 : xC := .inr (12, [.ref 58, .ref 59, .ref 60, .ref 61, .int 0, .ref 62, .int 0, .int 0, .int 0, .int 0, .int 0, .int 0, .int 0, .int 0, .int 0, .int 0, .null, .null, .null, .null, .null, .null, .null, .null, .long 0, .long 0, .null, .null, .int 0, .null, .null, .null])
def ih_160 : xH := ([ic_149, ic_2, ic_32, ic_15, ic_17, ic_19, ic_21, ic_33, ic_25, ic_27, ic_29, ic_34, ic_40, ic_41, ic_39, ic_43, ic_45, ic_55, ic_50, ic_56, ic_54, ic_58, ic_71, ic_62, ic_64, ic_66, ic_68, ic_70, ic_96, ic_83, ic_75, ic_77, ic_79, ic_81, ic_85, ic_87, ic_89, ic_91, ic_93, ic_122, ic_101, ic_114, ic_106, ic_108, ic_110, ic_112, ic_117, ic_119, ic_121, ic_137, ic_132, ic_134, ic_136, ic_147, ic_140, ic_142, ic_145, ic_160, ic_151, ic_153, ic_155, ic_157, ic_159], 63, 14262)
set_option maxRecDepth 20000 in
theorem iz_175 : pF ih_159 (ih_149.1.length) 12 5 (.ref (ih_158.1.length)) = some ih_160 := rfl
def ic_161 : xC := .inr (12, [.ref 58, .ref 59, .ref 60, .ref 61, .int 0, .ref 62, .int 0, .int 0, .int 0, .int 0, .int 0, .int 0, .int 0, .int 0, .int 0, .int (-1 : Int32), .null, .null, .null, .null, .null, .null, .null, .null, .long 0, .long 0, .null, .null, .int 0, .null, .null, .null])
def ih_161 : xH := ([ic_149, ic_2, ic_32, ic_15, ic_17, ic_19, ic_21, ic_33, ic_25, ic_27, ic_29, ic_34, ic_40, ic_41, ic_39, ic_43, ic_45, ic_55, ic_50, ic_56, ic_54, ic_58, ic_71, ic_62, ic_64, ic_66, ic_68, ic_70, ic_96, ic_83, ic_75, ic_77, ic_79, ic_81, ic_85, ic_87, ic_89, ic_91, ic_93, ic_122, ic_101, ic_114, ic_106, ic_108, ic_110, ic_112, ic_117, ic_119, ic_121, ic_137, ic_132, ic_134, ic_136, ic_147, ic_140, ic_142, ic_145, ic_161, ic_151, ic_153, ic_155, ic_157, ic_159], 63, 14262)
set_option maxRecDepth 20000 in
theorem iz_176 : pF ih_160 (ih_149.1.length) 12 15 (.int (-1 : Int32)) = some ih_161 := rfl
def ic_162 : xC := .inl (.int, 16, .inl (fun _ => 0))
def ih_162 : xH := ([ic_149, ic_2, ic_32, ic_15, ic_17, ic_19, ic_21, ic_33, ic_25, ic_27, ic_29, ic_34, ic_40, ic_41, ic_39, ic_43, ic_45, ic_55, ic_50, ic_56, ic_54, ic_58, ic_71, ic_62, ic_64, ic_66, ic_68, ic_70, ic_96, ic_83, ic_75, ic_77, ic_79, ic_81, ic_85, ic_87, ic_89, ic_91, ic_93, ic_122, ic_101, ic_114, ic_106, ic_108, ic_110, ic_112, ic_117, ic_119, ic_121, ic_137, ic_132, ic_134, ic_136, ic_147, ic_140, ic_142, ic_145, ic_161, ic_151, ic_153, ic_155, ic_157, ic_159, ic_162], 64, 14278)
set_option maxRecDepth 20000 in
theorem iz_177 : mkI ih_161 .int (16 : Int32) = some ih_162 := rfl
def ic_163 : xC := .inr (12, [.ref 58, .ref 59, .ref 60, .ref 61, .int 0, .ref 62, .int 0, .int 0, .int 0, .int 0, .int 0, .int 0, .int 0, .int 0, .int 0, .int (-1 : Int32), .ref 63, .null, .null, .null, .null, .null, .null, .null, .long 0, .long 0, .null, .null, .int 0, .null, .null, .null])
def ih_163 : xH := ([ic_149, ic_2, ic_32, ic_15, ic_17, ic_19, ic_21, ic_33, ic_25, ic_27, ic_29, ic_34, ic_40, ic_41, ic_39, ic_43, ic_45, ic_55, ic_50, ic_56, ic_54, ic_58, ic_71, ic_62, ic_64, ic_66, ic_68, ic_70, ic_96, ic_83, ic_75, ic_77, ic_79, ic_81, ic_85, ic_87, ic_89, ic_91, ic_93, ic_122, ic_101, ic_114, ic_106, ic_108, ic_110, ic_112, ic_117, ic_119, ic_121, ic_137, ic_132, ic_134, ic_136, ic_147, ic_140, ic_142, ic_145, ic_163, ic_151, ic_153, ic_155, ic_157, ic_159, ic_162], 64, 14278)
set_option maxRecDepth 20000 in
theorem iz_178 : pF ih_162 (ih_149.1.length) 12 16 (.ref (ih_161.1.length)) = some ih_163 := rfl
def ic_164 : xC := .inl (.int, 16, .inl (fun _ => 0))
def ih_164 : xH := ([ic_149, ic_2, ic_32, ic_15, ic_17, ic_19, ic_21, ic_33, ic_25, ic_27, ic_29, ic_34, ic_40, ic_41, ic_39, ic_43, ic_45, ic_55, ic_50, ic_56, ic_54, ic_58, ic_71, ic_62, ic_64, ic_66, ic_68, ic_70, ic_96, ic_83, ic_75, ic_77, ic_79, ic_81, ic_85, ic_87, ic_89, ic_91, ic_93, ic_122, ic_101, ic_114, ic_106, ic_108, ic_110, ic_112, ic_117, ic_119, ic_121, ic_137, ic_132, ic_134, ic_136, ic_147, ic_140, ic_142, ic_145, ic_163, ic_151, ic_153, ic_155, ic_157, ic_159, ic_162, ic_164], 65, 14294)
set_option maxRecDepth 20000 in
theorem iz_179 : mkI ih_163 .int (16 : Int32) = some ih_164 := rfl
def ic_165 : xC := .inr (12, [.ref 58, .ref 59, .ref 60, .ref 61, .int 0, .ref 62, .int 0, .int 0, .int 0, .int 0, .int 0, .int 0, .int 0, .int 0, .int 0, .int (-1 : Int32), .ref 63, .ref 64, .null, .null, .null, .null, .null, .null, .long 0, .long 0, .null, .null, .int 0, .null, .null, .null])
def ih_165 : xH := ([ic_149, ic_2, ic_32, ic_15, ic_17, ic_19, ic_21, ic_33, ic_25, ic_27, ic_29, ic_34, ic_40, ic_41, ic_39, ic_43, ic_45, ic_55, ic_50, ic_56, ic_54, ic_58, ic_71, ic_62, ic_64, ic_66, ic_68, ic_70, ic_96, ic_83, ic_75, ic_77, ic_79, ic_81, ic_85, ic_87, ic_89, ic_91, ic_93, ic_122, ic_101, ic_114, ic_106, ic_108, ic_110, ic_112, ic_117, ic_119, ic_121, ic_137, ic_132, ic_134, ic_136, ic_147, ic_140, ic_142, ic_145, ic_165, ic_151, ic_153, ic_155, ic_157, ic_159, ic_162, ic_164], 65, 14294)
set_option maxRecDepth 20000 in
theorem iz_180 : pF ih_164 (ih_149.1.length) 12 17 (.ref (ih_163.1.length)) = some ih_165 := rfl
def ic_166 : xC := .inl (.int, 8, .inl (fun _ => 0))
def ih_166 : xH := ([ic_149, ic_2, ic_32, ic_15, ic_17, ic_19, ic_21, ic_33, ic_25, ic_27, ic_29, ic_34, ic_40, ic_41, ic_39, ic_43, ic_45, ic_55, ic_50, ic_56, ic_54, ic_58, ic_71, ic_62, ic_64, ic_66, ic_68, ic_70, ic_96, ic_83, ic_75, ic_77, ic_79, ic_81, ic_85, ic_87, ic_89, ic_91, ic_93, ic_122, ic_101, ic_114, ic_106, ic_108, ic_110, ic_112, ic_117, ic_119, ic_121, ic_137, ic_132, ic_134, ic_136, ic_147, ic_140, ic_142, ic_145, ic_165, ic_151, ic_153, ic_155, ic_157, ic_159, ic_162, ic_164, ic_166], 66, 14302)
set_option maxRecDepth 20000 in
theorem iz_181 : mkI ih_165 .int (8 : Int32) = some ih_166 := rfl
def ic_167 : xC := .inr (12, [.ref 58, .ref 59, .ref 60, .ref 61, .int 0, .ref 62, .int 0, .int 0, .int 0, .int 0, .int 0, .int 0, .int 0, .int 0, .int 0, .int (-1 : Int32), .ref 63, .ref 64, .ref 65, .null, .null, .null, .null, .null, .long 0, .long 0, .null, .null, .int 0, .null, .null, .null])
def ih_167 : xH := ([ic_149, ic_2, ic_32, ic_15, ic_17, ic_19, ic_21, ic_33, ic_25, ic_27, ic_29, ic_34, ic_40, ic_41, ic_39, ic_43, ic_45, ic_55, ic_50, ic_56, ic_54, ic_58, ic_71, ic_62, ic_64, ic_66, ic_68, ic_70, ic_96, ic_83, ic_75, ic_77, ic_79, ic_81, ic_85, ic_87, ic_89, ic_91, ic_93, ic_122, ic_101, ic_114, ic_106, ic_108, ic_110, ic_112, ic_117, ic_119, ic_121, ic_137, ic_132, ic_134, ic_136, ic_147, ic_140, ic_142, ic_145, ic_167, ic_151, ic_153, ic_155, ic_157, ic_159, ic_162, ic_164, ic_166], 66, 14302)
set_option maxRecDepth 20000 in
theorem iz_182 : pF ih_166 (ih_149.1.length) 12 18 (.ref (ih_165.1.length)) = some ih_167 := rfl
def ic_168 : xC := .inl (.int, 8, .inl (fun _ => 0))
def ih_168 : xH := ([ic_149, ic_2, ic_32, ic_15, ic_17, ic_19, ic_21, ic_33, ic_25, ic_27, ic_29, ic_34, ic_40, ic_41, ic_39, ic_43, ic_45, ic_55, ic_50, ic_56, ic_54, ic_58, ic_71, ic_62, ic_64, ic_66, ic_68, ic_70, ic_96, ic_83, ic_75, ic_77, ic_79, ic_81, ic_85, ic_87, ic_89, ic_91, ic_93, ic_122, ic_101, ic_114, ic_106, ic_108, ic_110, ic_112, ic_117, ic_119, ic_121, ic_137, ic_132, ic_134, ic_136, ic_147, ic_140, ic_142, ic_145, ic_167, ic_151, ic_153, ic_155, ic_157, ic_159, ic_162, ic_164, ic_166, ic_168], 67, 14310)
set_option maxRecDepth 20000 in
theorem iz_183 : mkI ih_167 .int (8 : Int32) = some ih_168 := rfl
def ic_169 : xC := .inr (12, [.ref 58, .ref 59, .ref 60, .ref 61, .int 0, .ref 62, .int 0, .int 0, .int 0, .int 0, .int 0, .int 0, .int 0, .int 0, .int 0, .int (-1 : Int32), .ref 63, .ref 64, .ref 65, .ref 66, .null, .null, .null, .null, .long 0, .long 0, .null, .null, .int 0, .null, .null, .null])
def ih_169 : xH := ([ic_149, ic_2, ic_32, ic_15, ic_17, ic_19, ic_21, ic_33, ic_25, ic_27, ic_29, ic_34, ic_40, ic_41, ic_39, ic_43, ic_45, ic_55, ic_50, ic_56, ic_54, ic_58, ic_71, ic_62, ic_64, ic_66, ic_68, ic_70, ic_96, ic_83, ic_75, ic_77, ic_79, ic_81, ic_85, ic_87, ic_89, ic_91, ic_93, ic_122, ic_101, ic_114, ic_106, ic_108, ic_110, ic_112, ic_117, ic_119, ic_121, ic_137, ic_132, ic_134, ic_136, ic_147, ic_140, ic_142, ic_145, ic_169, ic_151, ic_153, ic_155, ic_157, ic_159, ic_162, ic_164, ic_166, ic_168], 67, 14310)
set_option maxRecDepth 20000 in
theorem iz_184 : pF ih_168 (ih_149.1.length) 12 19 (.ref (ih_167.1.length)) = some ih_169 := rfl
def ic_170 : xC := .inl (.int, 16, .inl (fun _ => 0))
def ih_170 : xH := ([ic_149, ic_2, ic_32, ic_15, ic_17, ic_19, ic_21, ic_33, ic_25, ic_27, ic_29, ic_34, ic_40, ic_41, ic_39, ic_43, ic_45, ic_55, ic_50, ic_56, ic_54, ic_58, ic_71, ic_62, ic_64, ic_66, ic_68, ic_70, ic_96, ic_83, ic_75, ic_77, ic_79, ic_81, ic_85, ic_87, ic_89, ic_91, ic_93, ic_122, ic_101, ic_114, ic_106, ic_108, ic_110, ic_112, ic_117, ic_119, ic_121, ic_137, ic_132, ic_134, ic_136, ic_147, ic_140, ic_142, ic_145, ic_169, ic_151, ic_153, ic_155, ic_157, ic_159, ic_162, ic_164, ic_166, ic_168, ic_170], 68, 14326)
set_option maxRecDepth 20000 in
theorem iz_185 : mkI ih_169 .int (16 : Int32) = some ih_170 := rfl
def ic_171 : xC := .inr (12, [.ref 58, .ref 59, .ref 60, .ref 61, .int 0, .ref 62, .int 0, .int 0, .int 0, .int 0, .int 0, .int 0, .int 0, .int 0, .int 0, .int (-1 : Int32), .ref 63, .ref 64, .ref 65, .ref 66, .ref 67, .null, .null, .null, .long 0, .long 0, .null, .null, .int 0, .null, .null, .null])
def ih_171 : xH := ([ic_149, ic_2, ic_32, ic_15, ic_17, ic_19, ic_21, ic_33, ic_25, ic_27, ic_29, ic_34, ic_40, ic_41, ic_39, ic_43, ic_45, ic_55, ic_50, ic_56, ic_54, ic_58, ic_71, ic_62, ic_64, ic_66, ic_68, ic_70, ic_96, ic_83, ic_75, ic_77, ic_79, ic_81, ic_85, ic_87, ic_89, ic_91, ic_93, ic_122, ic_101, ic_114, ic_106, ic_108, ic_110, ic_112, ic_117, ic_119, ic_121, ic_137, ic_132, ic_134, ic_136, ic_147, ic_140, ic_142, ic_145, ic_171, ic_151, ic_153, ic_155, ic_157, ic_159, ic_162, ic_164, ic_166, ic_168, ic_170], 68, 14326)
set_option maxRecDepth 20000 in
theorem iz_186 : pF ih_170 (ih_149.1.length) 12 20 (.ref (ih_169.1.length)) = some ih_171 := rfl
def ic_172 : xC := .inl (.int, 256, .inl (fun _ => 0))
def ih_172 : xH := ([ic_149, ic_2, ic_32, ic_15, ic_17, ic_19, ic_21, ic_33, ic_25, ic_27, ic_29, ic_34, ic_40, ic_41, ic_39, ic_43, ic_45, ic_55, ic_50, ic_56, ic_54, ic_58, ic_71, ic_62, ic_64, ic_66, ic_68, ic_70, ic_96, ic_83, ic_75, ic_77, ic_79, ic_81, ic_85, ic_87, ic_89, ic_91, ic_93, ic_122, ic_101, ic_114, ic_106, ic_108, ic_110, ic_112, ic_117, ic_119, ic_121, ic_137, ic_132, ic_134, ic_136, ic_147, ic_140, ic_142, ic_145, ic_171, ic_151, ic_153, ic_155, ic_157, ic_159, ic_162, ic_164, ic_166, ic_168, ic_170, ic_172], 69, 14582)
set_option maxRecDepth 20000 in
theorem iz_187 : mkI ih_171 .int (256 : Int32) = some ih_172 := rfl
def ic_173 : xC := .inr (12, [.ref 58, .ref 59, .ref 60, .ref 61, .int 0, .ref 62, .int 0, .int 0, .int 0, .int 0, .int 0, .int 0, .int 0, .int 0, .int 0, .int (-1 : Int32), .ref 63, .ref 64, .ref 65, .ref 66, .ref 67, .ref 68, .null, .null, .long 0, .long 0, .null, .null, .int 0, .null, .null, .null])
def ih_173 : xH := ([ic_149, ic_2, ic_32, ic_15, ic_17, ic_19, ic_21, ic_33, ic_25, ic_27, ic_29, ic_34, ic_40, ic_41, ic_39, ic_43, ic_45, ic_55, ic_50, ic_56, ic_54, ic_58, ic_71, ic_62, ic_64, ic_66, ic_68, ic_70, ic_96, ic_83, ic_75, ic_77, ic_79, ic_81, ic_85, ic_87, ic_89, ic_91, ic_93, ic_122, ic_101, ic_114, ic_106, ic_108, ic_110, ic_112, ic_117, ic_119, ic_121, ic_137, ic_132, ic_134, ic_136, ic_147, ic_140, ic_142, ic_145, ic_173, ic_151, ic_153, ic_155, ic_157, ic_159, ic_162, ic_164, ic_166, ic_168, ic_170, ic_172], 69, 14582)
set_option maxRecDepth 20000 in
theorem iz_188 : pF ih_172 (ih_149.1.length) 12 21 (.ref (ih_171.1.length)) = some ih_173 := rfl
def ic_174 : xC := .inl (.int, 6144, .inl (fun _ => 0))
def ih_174 : xH := ([ic_149, ic_2, ic_32, ic_15, ic_17, ic_19, ic_21, ic_33, ic_25, ic_27, ic_29, ic_34, ic_40, ic_41, ic_39, ic_43, ic_45, ic_55, ic_50, ic_56, ic_54, ic_58, ic_71, ic_62, ic_64, ic_66, ic_68, ic_70, ic_96, ic_83, ic_75, ic_77, ic_79, ic_81, ic_85, ic_87, ic_89, ic_91, ic_93, ic_122, ic_101, ic_114, ic_106, ic_108, ic_110, ic_112, ic_117, ic_119, ic_121, ic_137, ic_132, ic_134, ic_136, ic_147, ic_140, ic_142, ic_145, ic_173, ic_151, ic_153, ic_155, ic_157, ic_159, ic_162, ic_164, ic_166, ic_168, ic_170, ic_172, ic_174], 70, 20726)
set_option maxRecDepth 20000 in
theorem iz_189 : mkI ih_173 .int (6144 : Int32) = some ih_174 := rfl
def ic_175 : xC := .inr (12, [.ref 58, .ref 59, .ref 60, .ref 61, .int 0, .ref 62, .int 0, .int 0, .int 0, .int 0, .int 0, .int 0, .int 0, .int 0, .int 0, .int (-1 : Int32), .ref 63, .ref 64, .ref 65, .ref 66, .ref 67, .ref 68, .ref 69, .null, .long 0, .long 0, .null, .null, .int 0, .null, .null, .null])
def ih_175 : xH := ([ic_149, ic_2, ic_32, ic_15, ic_17, ic_19, ic_21, ic_33, ic_25, ic_27, ic_29, ic_34, ic_40, ic_41, ic_39, ic_43, ic_45, ic_55, ic_50, ic_56, ic_54, ic_58, ic_71, ic_62, ic_64, ic_66, ic_68, ic_70, ic_96, ic_83, ic_75, ic_77, ic_79, ic_81, ic_85, ic_87, ic_89, ic_91, ic_93, ic_122, ic_101, ic_114, ic_106, ic_108, ic_110, ic_112, ic_117, ic_119, ic_121, ic_137, ic_132, ic_134, ic_136, ic_147, ic_140, ic_142, ic_145, ic_175, ic_151, ic_153, ic_155, ic_157, ic_159, ic_162, ic_164, ic_166, ic_168, ic_170, ic_172, ic_174], 70, 20726)
set_option maxRecDepth 20000 in
theorem iz_190 : pF ih_174 (ih_149.1.length) 12 22 (.ref (ih_173.1.length)) = some ih_175 := rfl
def ic_176 : xC := .inl (.int, 1024, .inl (fun _ => 0))
def ih_176 : xH := ([ic_149, ic_2, ic_32, ic_15, ic_17, ic_19, ic_21, ic_33, ic_25, ic_27, ic_29, ic_34, ic_40, ic_41, ic_39, ic_43, ic_45, ic_55, ic_50, ic_56, ic_54, ic_58, ic_71, ic_62, ic_64, ic_66, ic_68, ic_70, ic_96, ic_83, ic_75, ic_77, ic_79, ic_81, ic_85, ic_87, ic_89, ic_91, ic_93, ic_122, ic_101, ic_114, ic_106, ic_108, ic_110, ic_112, ic_117, ic_119, ic_121, ic_137, ic_132, ic_134, ic_136, ic_147, ic_140, ic_142, ic_145, ic_175, ic_151, ic_153, ic_155, ic_157, ic_159, ic_162, ic_164, ic_166, ic_168, ic_170, ic_172, ic_174, ic_176], 71, 21750)
set_option maxRecDepth 20000 in
theorem iz_191 : mkI ih_175 .int (1024 : Int32) = some ih_176 := rfl
def ic_177 : xC := .inr (12, [.ref 58, .ref 59, .ref 60, .ref 61, .int 0, .ref 62, .int 0, .int 0, .int 0, .int 0, .int 0, .int 0, .int 0, .int 0, .int 0, .int (-1 : Int32), .ref 63, .ref 64, .ref 65, .ref 66, .ref 67, .ref 68, .ref 69, .ref 70, .long 0, .long 0, .null, .null, .int 0, .null, .null, .null])
def ih_177 : xH := ([ic_149, ic_2, ic_32, ic_15, ic_17, ic_19, ic_21, ic_33, ic_25, ic_27, ic_29, ic_34, ic_40, ic_41, ic_39, ic_43, ic_45, ic_55, ic_50, ic_56, ic_54, ic_58, ic_71, ic_62, ic_64, ic_66, ic_68, ic_70, ic_96, ic_83, ic_75, ic_77, ic_79, ic_81, ic_85, ic_87, ic_89, ic_91, ic_93, ic_122, ic_101, ic_114, ic_106, ic_108, ic_110, ic_112, ic_117, ic_119, ic_121, ic_137, ic_132, ic_134, ic_136, ic_147, ic_140, ic_142, ic_145, ic_177, ic_151, ic_153, ic_155, ic_157, ic_159, ic_162, ic_164, ic_166, ic_168, ic_170, ic_172, ic_174, ic_176], 71, 21750)
set_option maxRecDepth 20000 in
theorem iz_192 : pF ih_176 (ih_149.1.length) 12 23 (.ref (ih_175.1.length)) = some ih_177 := rfl
def ic_178 : xC := .inl (.int, 49152, .inl (fun _ => 0))
def ih_178 : xH := ([ic_149, ic_2, ic_32, ic_15, ic_17, ic_19, ic_21, ic_33, ic_25, ic_27, ic_29, ic_34, ic_40, ic_41, ic_39, ic_43, ic_45, ic_55, ic_50, ic_56, ic_54, ic_58, ic_71, ic_62, ic_64, ic_66, ic_68, ic_70, ic_96, ic_83, ic_75, ic_77, ic_79, ic_81, ic_85, ic_87, ic_89, ic_91, ic_93, ic_122, ic_101, ic_114, ic_106, ic_108, ic_110, ic_112, ic_117, ic_119, ic_121, ic_137, ic_132, ic_134, ic_136, ic_147, ic_140, ic_142, ic_145, ic_177, ic_151, ic_153, ic_155, ic_157, ic_159, ic_162, ic_164, ic_166, ic_168, ic_170, ic_172, ic_174, ic_176, ic_178], 72, 70902)
set_option maxRecDepth 20000 in
theorem iz_193 : mkI ih_177 .int (49152 : Int32) = some ih_178 := rfl
def ic_179 : xC := .inr (12, [.ref 58, .ref 59, .ref 60, .ref 61, .int 0, .ref 62, .int 0, .int 0, .int 0, .int 0, .int 0, .int 0, .int 0, .int 0, .int 0, .int (-1 : Int32), .ref 63, .ref 64, .ref 65, .ref 66, .ref 67, .ref 68, .ref 69, .ref 70, .long 0, .long 0, .ref 71, .null, .int 0, .null, .null, .null])
def ih_179 : xH := ([ic_149, ic_2, ic_32, ic_15, ic_17, ic_19, ic_21, ic_33, ic_25, ic_27, ic_29, ic_34, ic_40, ic_41, ic_39, ic_43, ic_45, ic_55, ic_50, ic_56, ic_54, ic_58, ic_71, ic_62, ic_64, ic_66, ic_68, ic_70, ic_96, ic_83, ic_75, ic_77, ic_79, ic_81, ic_85, ic_87, ic_89, ic_91, ic_93, ic_122, ic_101, ic_114, ic_106, ic_108, ic_110, ic_112, ic_117, ic_119, ic_121, ic_137, ic_132, ic_134, ic_136, ic_147, ic_140, ic_142, ic_145, ic_179, ic_151, ic_153, ic_155, ic_157, ic_159, ic_162, ic_164, ic_166, ic_168, ic_170, ic_172, ic_174, ic_176, ic_178], 72, 70902)
set_option maxRecDepth 20000 in
theorem iz_194 : pF ih_178 (ih_149.1.length) 12 26 (.ref (ih_177.1.length)) = some ih_179 := rfl
def ic_180 : xC := .inl (.int, 49152, .inl (fun _ => 0))
def ih_180 : xH := ([ic_149, ic_2, ic_32, ic_15, ic_17, ic_19, ic_21, ic_33, ic_25, ic_27, ic_29, ic_34, ic_40, ic_41, ic_39, ic_43, ic_45, ic_55, ic_50, ic_56, ic_54, ic_58, ic_71, ic_62, ic_64, ic_66, ic_68, ic_70, ic_96, ic_83, ic_75, ic_77, ic_79, ic_81, ic_85, ic_87, ic_89, ic_91, ic_93, ic_122, ic_101, ic_114, ic_106, ic_108, ic_110, ic_112, ic_117, ic_119, ic_121, ic_137, ic_132, ic_134, ic_136, ic_147, ic_140, ic_142, ic_145, ic_179, ic_151, ic_153, ic_155, ic_157, ic_159, ic_162, ic_164, ic_166, ic_168, ic_170, ic_172, ic_174, ic_176, ic_178, ic_180], 73, 120054)
set_option maxRecDepth 20000 in
theorem iz_195 : mkI ih_179 .int (49152 : Int32) = some ih_180 := rfl
def ic_181 : xC := .inr (12, [.ref 58, .ref 59, .ref 60, .ref 61, .int 0, .ref 62, .int 0, .int 0, .int 0, .int 0, .int 0, .int 0, .int 0, .int 0, .int 0, .int (-1 : Int32), .ref 63, .ref 64, .ref 65, .ref 66, .ref 67, .ref 68, .ref 69, .ref 70, .long 0, .long 0, .ref 71, .ref 72, .int 0, .null, .null, .null])
def ih_181 : xH := ([ic_149, ic_2, ic_32, ic_15, ic_17, ic_19, ic_21, ic_33, ic_25, ic_27, ic_29, ic_34, ic_40, ic_41, ic_39, ic_43, ic_45, ic_55, ic_50, ic_56, ic_54, ic_58, ic_71, ic_62, ic_64, ic_66, ic_68, ic_70, ic_96, ic_83, ic_75, ic_77, ic_79, ic_81, ic_85, ic_87, ic_89, ic_91, ic_93, ic_122, ic_101, ic_114, ic_106, ic_108, ic_110, ic_112, ic_117, ic_119, ic_121, ic_137, ic_132, ic_134, ic_136, ic_147, ic_140, ic_142, ic_145, ic_181, ic_151, ic_153, ic_155, ic_157, ic_159, ic_162, ic_164, ic_166, ic_168, ic_170, ic_172, ic_174, ic_176, ic_178, ic_180], 73, 120054)
set_option maxRecDepth 20000 in
theorem iz_196 : pF ih_180 (ih_149.1.length) 12 27 (.ref (ih_179.1.length)) = some ih_181 := rfl
def ic_182 : xC := .inl (.int, 4, .inl (fun _ => 0))
def ih_182 : xH := ([ic_149, ic_2, ic_32, ic_15, ic_17, ic_19, ic_21, ic_33, ic_25, ic_27, ic_29, ic_34, ic_40, ic_41, ic_39, ic_43, ic_45, ic_55, ic_50, ic_56, ic_54, ic_58, ic_71, ic_62, ic_64, ic_66, ic_68, ic_70, ic_96, ic_83, ic_75, ic_77, ic_79, ic_81, ic_85, ic_87, ic_89, ic_91, ic_93, ic_122, ic_101, ic_114, ic_106, ic_108, ic_110, ic_112, ic_117, ic_119, ic_121, ic_137, ic_132, ic_134, ic_136, ic_147, ic_140, ic_142, ic_145, ic_181, ic_151, ic_153, ic_155, ic_157, ic_159, ic_162, ic_164, ic_166, ic_168, ic_170, ic_172, ic_174, ic_176, ic_178, ic_180, ic_182], 74, 120058)
set_option maxRecDepth 20000 in
theorem iz_197 : mkI ih_181 .int (4 : Int32) = some ih_182 := rfl
def ic_183 : xC := .inl (.int, 4, .inl (va_up (fun _ => 0) 0 (-1 : Int32)))
def ih_183 : xH := ([ic_149, ic_2, ic_32, ic_15, ic_17, ic_19, ic_21, ic_33, ic_25, ic_27, ic_29, ic_34, ic_40, ic_41, ic_39, ic_43, ic_45, ic_55, ic_50, ic_56, ic_54, ic_58, ic_71, ic_62, ic_64, ic_66, ic_68, ic_70, ic_96, ic_83, ic_75, ic_77, ic_79, ic_81, ic_85, ic_87, ic_89, ic_91, ic_93, ic_122, ic_101, ic_114, ic_106, ic_108, ic_110, ic_112, ic_117, ic_119, ic_121, ic_137, ic_132, ic_134, ic_136, ic_147, ic_140, ic_142, ic_145, ic_181, ic_151, ic_153, ic_155, ic_157, ic_159, ic_162, ic_164, ic_166, ic_168, ic_170, ic_172, ic_174, ic_176, ic_178, ic_180, ic_183], 74, 120058)
set_option maxRecDepth 20000 in
theorem iz_198 : stI ih_182 .int (ih_181.1.length) (0 : Int32) (-1 : Int32) = some ih_183 := rfl
def ic_184 : xC := .inl (.int, 4, .inl (va_up (va_up (fun _ => 0) 0 (-1 : Int32)) 1 (-1 : Int32)))
def ih_184 : xH := ([ic_149, ic_2, ic_32, ic_15, ic_17, ic_19, ic_21, ic_33, ic_25, ic_27, ic_29, ic_34, ic_40, ic_41, ic_39, ic_43, ic_45, ic_55, ic_50, ic_56, ic_54, ic_58, ic_71, ic_62, ic_64, ic_66, ic_68, ic_70, ic_96, ic_83, ic_75, ic_77, ic_79, ic_81, ic_85, ic_87, ic_89, ic_91, ic_93, ic_122, ic_101, ic_114, ic_106, ic_108, ic_110, ic_112, ic_117, ic_119, ic_121, ic_137, ic_132, ic_134, ic_136, ic_147, ic_140, ic_142, ic_145, ic_181, ic_151, ic_153, ic_155, ic_157, ic_159, ic_162, ic_164, ic_166, ic_168, ic_170, ic_172, ic_174, ic_176, ic_178, ic_180, ic_184], 74, 120058)
set_option maxRecDepth 20000 in
theorem iz_199 : stI ih_183 .int (ih_181.1.length) (1 : Int32) (-1 : Int32) = some ih_184 := rfl
def ic_185 : xC := .inl (.int, 4, .inl (va_up (va_up (va_up (fun _ => 0) 0 (-1 : Int32)) 1 (-1 : Int32)) 2 (-1 : Int32)))
def ih_185 : xH := ([ic_149, ic_2, ic_32, ic_15, ic_17, ic_19, ic_21, ic_33, ic_25, ic_27, ic_29, ic_34, ic_40, ic_41, ic_39, ic_43, ic_45, ic_55, ic_50, ic_56, ic_54, ic_58, ic_71, ic_62, ic_64, ic_66, ic_68, ic_70, ic_96, ic_83, ic_75, ic_77, ic_79, ic_81, ic_85, ic_87, ic_89, ic_91, ic_93, ic_122, ic_101, ic_114, ic_106, ic_108, ic_110, ic_112, ic_117, ic_119, ic_121, ic_137, ic_132, ic_134, ic_136, ic_147, ic_140, ic_142, ic_145, ic_181, ic_151, ic_153, ic_155, ic_157, ic_159, ic_162, ic_164, ic_166, ic_168, ic_170, ic_172, ic_174, ic_176, ic_178, ic_180, ic_185], 74, 120058)
set_option maxRecDepth 20000 in
theorem iz_200 : stI ih_184 .int (ih_181.1.length) (2 : Int32) (-1 : Int32) = some ih_185 := rfl
def ic_186 : xC := .inl (.int, 4, .inl (va_up (va_up (va_up (va_up (fun _ => 0) 0 (-1 : Int32)) 1 (-1 : Int32)) 2 (-1 : Int32)) 3 (-1 : Int32)))
def ih_186 : xH := ([ic_149, ic_2, ic_32, ic_15, ic_17, ic_19, ic_21, ic_33, ic_25, ic_27, ic_29, ic_34, ic_40, ic_41, ic_39, ic_43, ic_45, ic_55, ic_50, ic_56, ic_54, ic_58, ic_71, ic_62, ic_64, ic_66, ic_68, ic_70, ic_96, ic_83, ic_75, ic_77, ic_79, ic_81, ic_85, ic_87, ic_89, ic_91, ic_93, ic_122, ic_101, ic_114, ic_106, ic_108, ic_110, ic_112, ic_117, ic_119, ic_121, ic_137, ic_132, ic_134, ic_136, ic_147, ic_140, ic_142, ic_145, ic_181, ic_151, ic_153, ic_155, ic_157, ic_159, ic_162, ic_164, ic_166, ic_168, ic_170, ic_172, ic_174, ic_176, ic_178, ic_180, ic_186], 74, 120058)
set_option maxRecDepth 20000 in
theorem iz_201 : stI ih_185 .int (ih_181.1.length) (3 : Int32) (-1 : Int32) = some ih_186 := rfl
def ic_187 : xC := .inr (12, [.ref 58, .ref 59, .ref 60, .ref 61, .int 0, .ref 62, .int 0, .int 0, .int 0, .int 0, .int 0, .int 0, .int 0, .int 0, .int 0, .int (-1 : Int32), .ref 63, .ref 64, .ref 65, .ref 66, .ref 67, .ref 68, .ref 69, .ref 70, .long 0, .long 0, .ref 71, .ref 72, .int 0, .ref 73, .null, .null])
def ih_187 : xH := ([ic_149, ic_2, ic_32, ic_15, ic_17, ic_19, ic_21, ic_33, ic_25, ic_27, ic_29, ic_34, ic_40, ic_41, ic_39, ic_43, ic_45, ic_55, ic_50, ic_56, ic_54, ic_58, ic_71, ic_62, ic_64, ic_66, ic_68, ic_70, ic_96, ic_83, ic_75, ic_77, ic_79, ic_81, ic_85, ic_87, ic_89, ic_91, ic_93, ic_122, ic_101, ic_114, ic_106, ic_108, ic_110, ic_112, ic_117, ic_119, ic_121, ic_137, ic_132, ic_134, ic_136, ic_147, ic_140, ic_142, ic_145, ic_187, ic_151, ic_153, ic_155, ic_157, ic_159, ic_162, ic_164, ic_166, ic_168, ic_170, ic_172, ic_174, ic_176, ic_178, ic_180, ic_186], 74, 120058)
set_option maxRecDepth 20000 in
theorem iz_202 : pF ih_186 (ih_149.1.length) 12 29 (.ref (ih_181.1.length)) = some ih_187 := rfl
def ic_188 : xC := .inl (.int, 4, .inl (fun _ => 0))
def ih_188 : xH := ([ic_149, ic_2, ic_32, ic_15, ic_17, ic_19, ic_21, ic_33, ic_25, ic_27, ic_29, ic_34, ic_40, ic_41, ic_39, ic_43, ic_45, ic_55, ic_50, ic_56, ic_54, ic_58, ic_71, ic_62, ic_64, ic_66, ic_68, ic_70, ic_96, ic_83, ic_75, ic_77, ic_79, ic_81, ic_85, ic_87, ic_89, ic_91, ic_93, ic_122, ic_101, ic_114, ic_106, ic_108, ic_110, ic_112, ic_117, ic_119, ic_121, ic_137, ic_132, ic_134, ic_136, ic_147, ic_140, ic_142, ic_145, ic_187, ic_151, ic_153, ic_155, ic_157, ic_159, ic_162, ic_164, ic_166, ic_168, ic_170, ic_172, ic_174, ic_176, ic_178, ic_180, ic_186, ic_188], 75, 120062)
set_option maxRecDepth 20000 in
theorem iz_203 : mkI ih_187 .int (4 : Int32) = some ih_188 := rfl
def ic_189 : xC := .inr (12, [.ref 58, .ref 59, .ref 60, .ref 61, .int 0, .ref 62, .int 0, .int 0, .int 0, .int 0, .int 0, .int 0, .int 0, .int 0, .int 0, .int (-1 : Int32), .ref 63, .ref 64, .ref 65, .ref 66, .ref 67, .ref 68, .ref 69, .ref 70, .long 0, .long 0, .ref 71, .ref 72, .int 0, .ref 73, .ref 74, .null])
def ih_189 : xH := ([ic_149, ic_2, ic_32, ic_15, ic_17, ic_19, ic_21, ic_33, ic_25, ic_27, ic_29, ic_34, ic_40, ic_41, ic_39, ic_43, ic_45, ic_55, ic_50, ic_56, ic_54, ic_58, ic_71, ic_62, ic_64, ic_66, ic_68, ic_70, ic_96, ic_83, ic_75, ic_77, ic_79, ic_81, ic_85, ic_87, ic_89, ic_91, ic_93, ic_122, ic_101, ic_114, ic_106, ic_108, ic_110, ic_112, ic_117, ic_119, ic_121, ic_137, ic_132, ic_134, ic_136, ic_147, ic_140, ic_142, ic_145, ic_189, ic_151, ic_153, ic_155, ic_157, ic_159, ic_162, ic_164, ic_166, ic_168, ic_170, ic_172, ic_174, ic_176, ic_178, ic_180, ic_186, ic_188], 75, 120062)
set_option maxRecDepth 20000 in
theorem iz_204 : pF ih_188 (ih_149.1.length) 12 30 (.ref (ih_187.1.length)) = some ih_189 := rfl
def ic_190 : xC := .inl (.long, 160, .inr (.inl (fun _ => 0)))
def ih_190 : xH := ([ic_149, ic_2, ic_32, ic_15, ic_17, ic_19, ic_21, ic_33, ic_25, ic_27, ic_29, ic_34, ic_40, ic_41, ic_39, ic_43, ic_45, ic_55, ic_50, ic_56, ic_54, ic_58, ic_71, ic_62, ic_64, ic_66, ic_68, ic_70, ic_96, ic_83, ic_75, ic_77, ic_79, ic_81, ic_85, ic_87, ic_89, ic_91, ic_93, ic_122, ic_101, ic_114, ic_106, ic_108, ic_110, ic_112, ic_117, ic_119, ic_121, ic_137, ic_132, ic_134, ic_136, ic_147, ic_140, ic_142, ic_145, ic_189, ic_151, ic_153, ic_155, ic_157, ic_159, ic_162, ic_164, ic_166, ic_168, ic_170, ic_172, ic_174, ic_176, ic_178, ic_180, ic_186, ic_188, ic_190], 76, 120222)
set_option maxRecDepth 20000 in
theorem iz_205 : mkJ ih_189 (160 : Int32) = some ih_190 := rfl
def ic_191 : xC := .inr (12, [.ref 58, .ref 59, .ref 60, .ref 61, .int 0, .ref 62, .int 0, .int 0, .int 0, .int 0, .int 0, .int 0, .int 0, .int 0, .int 0, .int (-1 : Int32), .ref 63, .ref 64, .ref 65, .ref 66, .ref 67, .ref 68, .ref 69, .ref 70, .long 0, .long 0, .ref 71, .ref 72, .int 0, .ref 73, .ref 74, .ref 75])
def ih_191 : xH := ([ic_149, ic_2, ic_32, ic_15, ic_17, ic_19, ic_21, ic_33, ic_25, ic_27, ic_29, ic_34, ic_40, ic_41, ic_39, ic_43, ic_45, ic_55, ic_50, ic_56, ic_54, ic_58, ic_71, ic_62, ic_64, ic_66, ic_68, ic_70, ic_96, ic_83, ic_75, ic_77, ic_79, ic_81, ic_85, ic_87, ic_89, ic_91, ic_93, ic_122, ic_101, ic_114, ic_106, ic_108, ic_110, ic_112, ic_117, ic_119, ic_121, ic_137, ic_132, ic_134, ic_136, ic_147, ic_140, ic_142, ic_145, ic_191, ic_151, ic_153, ic_155, ic_157, ic_159, ic_162, ic_164, ic_166, ic_168, ic_170, ic_172, ic_174, ic_176, ic_178, ic_180, ic_186, ic_188, ic_190], 76, 120222)
set_option maxRecDepth 20000 in
theorem iz_206 : pF ih_190 (ih_149.1.length) 12 31 (.ref (ih_189.1.length)) = some ih_191 := rfl
set_option maxRecDepth 20000 in
theorem iz_207 : gR ih_191 (ih_149.1.length) 12 0 = some 58 := rfl
def iA (g : Nat → Int32) (k : Nat) : Nat → Int32 := if k = 58 then g else if k = 13 then (fun j => if j < 16 then (-1) else 0) else if k = 19 then (fun j => if j < 4 then (-1) else 0) else if k = 73 then (va_up (va_up (va_up (va_up (fun _ => 0) 0 (-1)) 1 (-1)) 2 (-1)) 3 (-1)) else fun _ => 0
def iZ (k : Nat) : Int32 := if k = 2 then -1 else if k = 28 then -1 else if k = 4 then -1 else if k = 16 then 1000000 else 0
def iT (k : Nat) : Nat := if k = 6 then 50 else if 416 ≤ k ∧ k < 432 then 10 else 0
theorem iT_W : HWf iT := by
  have b : ∀ k, iT k ≤ 50 := fun k => by unfold iT; split; omega; split <;> omega
  have z : ∀ k, k < 6 → iT k = 0 := fun k hk => by unfold iT; rw [if_neg (by omega), if_neg (by omega)]
  have z1 := z 1 (by decide)
  have z0 := z 0 (by decide)
  have z2 := z 2 (by decide)
  have z3 := z 3 (by decide)
  have z4 := z 4 (by decide)
  have z5 := z 5 (by decide)
  refine ⟨fun k => by have := b k; omega, by omega, by omega, by omega, by omega, by omega, by omega, by have := b 6; omega, fun i hi => by omega, fun i hi => by omega, fun i hi => by omega, fun i hi => by omega, fun r _ => by have := b (416 + r); omega, fun r hr => ?_⟩
  have : iT (432 + r) = 0 := by unfold iT; rw [if_neg (by omega), if_neg (by omega)]
  rw [this]
  exact Nat.two_pow_pos _
theorem iT_n (r : Nat) : nxt iT r = 0 ∧ ltt iT r = 0 := ⟨rfl, rfl⟩
theorem iH_s : Hs (fun _ => 0) [] 2 iT := by
  refine ⟨fun _ _ => rfl, rfl, ⟨_, rfl, fun k hk => ?_⟩, ⟨_, rfl, fun k hk => ?_⟩, ⟨_, rfl, fun k hk => ?_⟩, ⟨_, rfl, fun k hk => ?_⟩, ⟨_, rfl, fun k hk => ?_⟩, ⟨_, rfl, fun k hk => ?_⟩, ⟨_, rfl, fun k hk => ?_⟩, ⟨_, rfl, fun k hk => ?_⟩, ⟨_, rfl, fun k hk => ?_⟩⟩
  · have : iT (8 + k) = 0 := by unfold iT; rw [if_neg (by omega), if_neg (by omega)]
    show (0 : Int32) = nI (iT (8 + k))
    rw [this]; rfl
  · have : iT (248 + k) = 0 := by unfold iT; rw [if_neg (by omega), if_neg (by omega)]
    show (0 : Int32) = nI (iT (248 + k))
    rw [this]; rfl
  · have : iT (256 + k) = 0 := by unfold iT; rw [if_neg (by omega), if_neg (by omega)]
    show (0 : Int32) = nI (iT (256 + k))
    rw [this]; rfl
  · have : iT (376 + k) = 0 := by unfold iT; rw [if_neg (by omega), if_neg (by omega)]
    show (0 : Int32) = nI (iT (376 + k))
    rw [this]; rfl
  · have : iT (416 + k) = 10 := by unfold iT; rw [if_neg (by omega), if_pos (by omega)]
    show (if k < 16 then (10 : Int32) else 0) = nI (iT (416 + k))
    rw [this]
    exact if_pos hk
  · have : iT (432 + k) = 0 := by unfold iT; rw [if_neg (by omega), if_neg (by omega)]
    show (0 : Int32) = nI (iT (432 + k))
    rw [this]; rfl
  · rfl
  · rfl
  · have e : wv iT k = nM := by
      unfold wv
      rw [if_neg (fun h => by have h1 : iT 1 = 0 := rfl; rw [h1] at h; omega)]
    rw [e]
    exact if_pos hk
theorem h_init : ∃ h0 : xH, JJ h0 0 ∧ ∀ (L : Nat) (xs : Nat → Int32), f_L_law L xs ([], 0, 0) = f_L_law_23 L xs xFU h0 0 57 76 0 := by
  obtain ⟨g, eb, hg⟩ := beg_spec (hc := ih_191.1) (hk := ih_191.2) (a := 58) (f := fun _ => 0) rfl
  refine ⟨HH (iA g) iZ (fun _ _ => 0) (fun _ => 0) (fun _ => none) (fun _ _ => none) 2 [] (77, 120223), ?_, fun L xs => ?_⟩
  · refine ⟨fun _ => 0, _, _, _, _, _, _, _, _, _, iT, fun _ => 0, fun _ => 0, 0, rfl, ⟨iH_s, iT_W, fun r => ⟨Nat.zero_le _, Nat.two_pow_pos _, fun _ => rfl, fun _ => rfl⟩, ⟨fun k hk => ?_, fun r hr => ?_, fun r hr => ?_⟩, fun r hr => ⟨if_pos hr, rfl⟩⟩, ⟨fun i hi => Or.inl ⟨rfl, rfl, rfl⟩, ⟨0, by decide, rfl, rfl, fun k hk => by omega⟩, ⟨fun t ht => Or.inl ⟨if_pos ht, ?_⟩, fun _ _ => rfl⟩, rfl, rfl, rfl, rfl, rfl, fun _ _ => rfl⟩, ⟨Or.inl rfl, ⟨Or.inl rfl, Or.inl rfl⟩, Or.inl ⟨rfl, rfl⟩⟩, ⟨rfl, rfl, rfl, rfl⟩, by decide, by decide, by decide, by decide⟩
    · show g k = nI (iT k)
      rw [hg k (by omega)]
      unfold beg iT
      by_cases c1 : k = 6
      · rw [if_pos c1, if_pos c1]; rfl
      · rw [if_neg c1, if_neg c1]
        by_cases c2 : 416 ≤ k ∧ k < 432
        · rw [if_pos c2, if_pos c2]; rfl
        · rw [if_neg c2, if_neg c2, if_neg (by omega)]; rfl
    · show g (448 + 2 * r) = kv 0
      rw [hg _ (by omega)]
      unfold beg
      rw [if_neg (by omega), if_neg (by omega), if_pos (by omega)]
      rfl
    · show g (448 + 2 * r + 1) = nI 0
      rw [hg _ (by omega)]
      unfold beg
      rw [if_neg (by omega), if_neg (by omega), if_neg (by omega)]
      rfl
    · have hc : t = 0 ∨ t = 1 ∨ t = 2 ∨ t = 3 := by omega
      rcases hc with rfl | rfl | rfl | rfl <;> rfl
  · show f_L_law L xs ih_0 = _
    unfold f_L_law
    generalize f_L_law_23 L xs xFU = G
    have ex : f_X12_init ih_150 (ih_149.1.length) = some (ih_191.1.set 58 (.inl (.int, 480, .inl g)), ih_191.2) := by
      unfold f_X12_init
      rw [iz_166, Option.bind_some]
      rw [iz_167, Option.bind_some]
      rw [iz_168, Option.bind_some]
      rw [iz_169, Option.bind_some]
      rw [iz_170, Option.bind_some]
      rw [iz_171, Option.bind_some]
      rw [iz_172, Option.bind_some]
      rw [iz_173, Option.bind_some]
      rw [iz_174, Option.bind_some]
      rw [iz_175, Option.bind_some]
      rw [iz_176, Option.bind_some]
      rw [iz_177, Option.bind_some]
      rw [iz_178, Option.bind_some]
      rw [iz_179, Option.bind_some]
      rw [iz_180, Option.bind_some]
      rw [iz_181, Option.bind_some]
      rw [iz_182, Option.bind_some]
      rw [iz_183, Option.bind_some]
      rw [iz_184, Option.bind_some]
      rw [iz_185, Option.bind_some]
      rw [iz_186, Option.bind_some]
      rw [iz_187, Option.bind_some]
      rw [iz_188, Option.bind_some]
      rw [iz_189, Option.bind_some]
      rw [iz_190, Option.bind_some]
      rw [iz_191, Option.bind_some]
      rw [iz_192, Option.bind_some]
      rw [iz_193, Option.bind_some]
      rw [iz_194, Option.bind_some]
      rw [iz_195, Option.bind_some]
      rw [iz_196, Option.bind_some]
      rw [iz_197, Option.bind_some]
      rw [iz_198, Option.bind_some]
      rw [iz_199, Option.bind_some]
      rw [iz_200, Option.bind_some]
      rw [iz_201, Option.bind_some]
      rw [iz_202, Option.bind_some]
      rw [iz_203, Option.bind_some]
      rw [iz_204, Option.bind_some]
      rw [iz_205, Option.bind_some]
      rw [iz_206, Option.bind_some]
      rw [iz_207, Option.bind_some]
      exact congrArg (fun o => Option.bind o some) eb
    rw [iz_1, Option.bind_some]
    rw [iz_164, Option.bind_some]
    rw [iz_165, Option.bind_some]
    rw [ex, Option.bind_some]
    have ej : mkJ (ih_191.1.set 58 (.inl (.int, 480, .inl g)), ih_191.2) (1 : Int32) = some (HH (iA g) iZ (fun _ _ => 0) (fun _ => 0) (fun _ => none) (fun _ _ => none) 2 [] (77, 120223)) := rfl
    rw [ej, Option.bind_some]
    rfl
