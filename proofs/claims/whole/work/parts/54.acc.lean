/-! ===== the fixed cells read and written ===== -/
abbrev HH (A : Nat → Nat → Int32) (Z : Nat → Int32) (B : Nat → Nat → Int64) (Q : Nat → Int64) (P : Nat → Option Nat) (F : Nat → Nat → Option Nat) (q : Nat) (D : List xC) (c : Nat × Nat) : xH := (LL A Z B Q P F q ++ D, c)
theorem ldI_nI {h : xH} {ty : FieldType} {a n i : Nat} {f : Nat → Int32} (H : h.1[a]? = some (.inl (ty, n, .inl f))) (hn : n < 2 ^ 31) (hi : i < n) : ldI h ty a (nI i) = some (f i) := by
  rw [ldI_of H (inB_nI hi hn), nI_clamp (by omega)]
theorem stI_nI {h : xH} {ty : FieldType} {a n i : Nat} {x : Int32} {f : Nat → Int32} (H : h.1[a]? = some (.inl (ty, n, .inl f))) (hn : n < 2 ^ 31) (hi : i < n) : stI h ty a (nI i) x = some (h.1.set a (.inl (ty, n, .inl (va_up f i x))), h.2) := by
  rw [stI_of H (inB_nI hi hn), nI_clamp (by omega)]
theorem ldJ_nI {h : xH} {a n i : Nat} {f : Nat → Int64} (H : h.1[a]? = some (.inl (.long, n, .inr (.inl f)))) (hn : n < 2 ^ 31) (hi : i < n) : ldJ h a (nI i) = some (f i) := by
  rw [ldJ_of H (inB_nI hi hn), nI_clamp (by omega)]
theorem stJ_nI {h : xH} {a n i : Nat} {x : Int64} {f : Nat → Int64} (H : h.1[a]? = some (.inl (.long, n, .inr (.inl f)))) (hn : n < 2 ^ 31) (hi : i < n) : stJ h a (nI i) x = some (h.1.set a (.inl (.long, n, .inr (.inl (va_up f i x)))), h.2) := by
  rw [stJ_of H (inB_nI hi hn), nI_clamp (by omega)]
theorem ldN_nI {h : xH} {C : String} {a n i : Nat} {f : Nat → Option Nat} (H : h.1[a]? = some (.inl (.object C, n, .inr (.inr f)))) (hn : n < 2 ^ 31) (hi : i < n) : ldN h C a (nI i) = some (f i) := by
  unfold ldN
  rw [gA_of H]
  show (if FieldType.object C = .object C ∧ inB (nI i) n = true then some (f (nI i).toNatClampNeg) else none) = _
  rw [if_pos ⟨rfl, inB_nI hi hn⟩, nI_clamp (by omega)]
section Acc2
variable {A : Nat → Nat → Int32} {Z : Nat → Int32} {B : Nat → Nat → Int64} {Q : Nat → Int64} {P : Nat → Option Nat} {F : Nat → Nat → Option Nat} {q : Nat} {D : List xC} {c : Nat × Nat}
theorem gO_0 : gO (HH A Z B Q P F q D c) 0 11 = some [.ref 1, .int (Z 0), .int (Z 1), .int (Z 2), .ref q, .ref 12, .ref 15, .ref 16, .long (Q 0), .long (Q 1), .ref 17, .ref 21, .ref 22, .ref 28, .ref 39, .ref 49, .ref 53, va_rf (P 0)] := gO_of (h := (HH A Z B Q P F q D c)) (LLg_0 A Z B Q P F q D)
theorem gf_0_0 : gR (HH A Z B Q P F q D c) 0 11 0 = some 1 := rfl
theorem gf_0_1 : gI (HH A Z B Q P F q D c) 0 11 1 = some (Z 0) := rfl
theorem pf_0_1 {v : Int32} : pF (HH A Z B Q P F q D c) 0 11 1 (.int v) = some (HH A (upA Z 0 v) B Q P F q D c) := rfl
theorem gf_0_2 : gI (HH A Z B Q P F q D c) 0 11 2 = some (Z 1) := rfl
theorem pf_0_2 {v : Int32} : pF (HH A Z B Q P F q D c) 0 11 2 (.int v) = some (HH A (upA Z 1 v) B Q P F q D c) := rfl
theorem gf_0_3 : gI (HH A Z B Q P F q D c) 0 11 3 = some (Z 2) := rfl
theorem pf_0_3 {v : Int32} : pF (HH A Z B Q P F q D c) 0 11 3 (.int v) = some (HH A (upA Z 2 v) B Q P F q D c) := rfl
theorem gf_0_4 : gR (HH A Z B Q P F q D c) 0 11 4 = some q := rfl
theorem pf_0_4 {v : Nat} : pF (HH A Z B Q P F q D c) 0 11 4 (.ref v) = some (HH A Z B Q P F v D c) := rfl
theorem gf_0_5 : gR (HH A Z B Q P F q D c) 0 11 5 = some 12 := rfl
theorem gf_0_6 : gR (HH A Z B Q P F q D c) 0 11 6 = some 15 := rfl
theorem gf_0_7 : gR (HH A Z B Q P F q D c) 0 11 7 = some 16 := rfl
theorem gf_0_8 : gJ (HH A Z B Q P F q D c) 0 11 8 = some (Q 0) := rfl
theorem pf_0_8 {v : Int64} : pF (HH A Z B Q P F q D c) 0 11 8 (.long v) = some (HH A Z B (upA Q 0 v) P F q D c) := rfl
theorem gf_0_9 : gJ (HH A Z B Q P F q D c) 0 11 9 = some (Q 1) := rfl
theorem pf_0_9 {v : Int64} : pF (HH A Z B Q P F q D c) 0 11 9 (.long v) = some (HH A Z B (upA Q 1 v) P F q D c) := rfl
theorem gf_0_10 : gR (HH A Z B Q P F q D c) 0 11 10 = some 17 := rfl
theorem gf_0_11 : gR (HH A Z B Q P F q D c) 0 11 11 = some 21 := rfl
theorem gf_0_12 : gR (HH A Z B Q P F q D c) 0 11 12 = some 22 := rfl
theorem gf_0_13 : gR (HH A Z B Q P F q D c) 0 11 13 = some 28 := rfl
theorem gf_0_14 : gR (HH A Z B Q P F q D c) 0 11 14 = some 39 := rfl
theorem gf_0_15 : gR (HH A Z B Q P F q D c) 0 11 15 = some 49 := rfl
theorem gf_0_16 : gR (HH A Z B Q P F q D c) 0 11 16 = some 53 := rfl
theorem gf_0_17 : gN (HH A Z B Q P F q D c) 0 11 17 = some (P 0) := by
  unfold gN
  rw [gO_0]
  cases hp : P 0 <;> simp [va_rf, hp]
theorem pf_0_17 {v : Nat} : pF (HH A Z B Q P F q D c) 0 11 17 (.ref v) = some (HH A Z B Q (upA P 0 (some v)) F q D c) := rfl
theorem ld_1 {i : Nat} (hi : i < 800) : ldI (HH A Z B Q P F q D c) .byte 1 (nI i) = some (A 1 i) := ldI_nI (h := (HH A Z B Q P F q D c)) (LLg_1 A Z B Q P F q D) (by decide) hi
theorem st_1 {i : Nat} {x : Int32} (hi : i < 800) : stI (HH A Z B Q P F q D c) .byte 1 (nI i) x = some (HH (upA A 1 (va_up (A 1) i x)) Z B Q P F q D c) := stI_nI (h := (HH A Z B Q P F q D c)) (LLg_1 A Z B Q P F q D) (by decide) hi
theorem al_1 : aln (HH A Z B Q P F q D c) 1 = some (nI 800) := aln_of (h := (HH A Z B Q P F q D c)) (LLg_1 A Z B Q P F q D)
theorem gO_12 : gO (HH A Z B Q P F q D c) 12 5 = some [.ref 13, .ref 14] := gO_of (h := (HH A Z B Q P F q D c)) (LLg_12 A Z B Q P F q D)
theorem gf_12_0 : gR (HH A Z B Q P F q D c) 12 5 0 = some 13 := rfl
theorem gf_12_1 : gR (HH A Z B Q P F q D c) 12 5 1 = some 14 := rfl
theorem ld_13 {i : Nat} (hi : i < 16) : ldI (HH A Z B Q P F q D c) .int 13 (nI i) = some (A 13 i) := ldI_nI (h := (HH A Z B Q P F q D c)) (LLg_13 A Z B Q P F q D) (by decide) hi
theorem st_13 {i : Nat} {x : Int32} (hi : i < 16) : stI (HH A Z B Q P F q D c) .int 13 (nI i) x = some (HH (upA A 13 (va_up (A 13) i x)) Z B Q P F q D c) := stI_nI (h := (HH A Z B Q P F q D c)) (LLg_13 A Z B Q P F q D) (by decide) hi
theorem al_13 : aln (HH A Z B Q P F q D c) 13 = some (nI 16) := aln_of (h := (HH A Z B Q P F q D c)) (LLg_13 A Z B Q P F q D)
theorem ld_14 {i : Nat} (hi : i < 16) : ldI (HH A Z B Q P F q D c) .int 14 (nI i) = some (A 14 i) := ldI_nI (h := (HH A Z B Q P F q D c)) (LLg_14 A Z B Q P F q D) (by decide) hi
theorem st_14 {i : Nat} {x : Int32} (hi : i < 16) : stI (HH A Z B Q P F q D c) .int 14 (nI i) x = some (HH (upA A 14 (va_up (A 14) i x)) Z B Q P F q D c) := stI_nI (h := (HH A Z B Q P F q D c)) (LLg_14 A Z B Q P F q D) (by decide) hi
theorem al_14 : aln (HH A Z B Q P F q D c) 14 = some (nI 16) := aln_of (h := (HH A Z B Q P F q D c)) (LLg_14 A Z B Q P F q D)
theorem ld_15 {i : Nat} (hi : i < 3) : ldN (HH A Z B Q P F q D c) "LitNextDoor$House" 15 (nI i) = some (F 15 i) := ldN_nI (h := (HH A Z B Q P F q D c)) (LLg_15 A Z B Q P F q D) (by decide) hi
theorem ld_16 {i : Nat} (hi : i < 3) : ldN (HH A Z B Q P F q D c) "LitNextDoor$Lamps" 16 (nI i) = some (F 16 i) := ldN_nI (h := (HH A Z B Q P F q D c)) (LLg_16 A Z B Q P F q D) (by decide) hi
theorem gO_17 : gO (HH A Z B Q P F q D c) 17 10 = some [.ref 18, .ref 19, .ref 20] := gO_of (h := (HH A Z B Q P F q D c)) (LLg_17 A Z B Q P F q D)
theorem gf_17_0 : gR (HH A Z B Q P F q D c) 17 10 0 = some 18 := rfl
theorem gf_17_1 : gR (HH A Z B Q P F q D c) 17 10 1 = some 19 := rfl
theorem gf_17_2 : gR (HH A Z B Q P F q D c) 17 10 2 = some 20 := rfl
theorem ld_18 {i : Nat} (hi : i < 160) : ldJ (HH A Z B Q P F q D c) 18 (nI i) = some (B 18 i) := ldJ_nI (h := (HH A Z B Q P F q D c)) (LLg_18 A Z B Q P F q D) (by decide) hi
theorem st_18 {i : Nat} {x : Int64} (hi : i < 160) : stJ (HH A Z B Q P F q D c) 18 (nI i) x = some (HH A Z (upA B 18 (va_up (B 18) i x)) Q P F q D c) := stJ_nI (h := (HH A Z B Q P F q D c)) (LLg_18 A Z B Q P F q D) (by decide) hi
theorem ld_19 {i : Nat} (hi : i < 4) : ldI (HH A Z B Q P F q D c) .int 19 (nI i) = some (A 19 i) := ldI_nI (h := (HH A Z B Q P F q D c)) (LLg_19 A Z B Q P F q D) (by decide) hi
theorem st_19 {i : Nat} {x : Int32} (hi : i < 4) : stI (HH A Z B Q P F q D c) .int 19 (nI i) x = some (HH (upA A 19 (va_up (A 19) i x)) Z B Q P F q D c) := stI_nI (h := (HH A Z B Q P F q D c)) (LLg_19 A Z B Q P F q D) (by decide) hi
theorem al_19 : aln (HH A Z B Q P F q D c) 19 = some (nI 4) := aln_of (h := (HH A Z B Q P F q D c)) (LLg_19 A Z B Q P F q D)
theorem ld_20 {i : Nat} (hi : i < 4) : ldI (HH A Z B Q P F q D c) .int 20 (nI i) = some (A 20 i) := ldI_nI (h := (HH A Z B Q P F q D c)) (LLg_20 A Z B Q P F q D) (by decide) hi
theorem st_20 {i : Nat} {x : Int32} (hi : i < 4) : stI (HH A Z B Q P F q D c) .int 20 (nI i) x = some (HH (upA A 20 (va_up (A 20) i x)) Z B Q P F q D c) := stI_nI (h := (HH A Z B Q P F q D c)) (LLg_20 A Z B Q P F q D) (by decide) hi
theorem al_20 : aln (HH A Z B Q P F q D c) 20 = some (nI 4) := aln_of (h := (HH A Z B Q P F q D c)) (LLg_20 A Z B Q P F q D)
theorem ld_21 {i : Nat} (hi : i < 16) : ldI (HH A Z B Q P F q D c) .int 21 (nI i) = some (A 21 i) := ldI_nI (h := (HH A Z B Q P F q D c)) (LLg_21 A Z B Q P F q D) (by decide) hi
theorem st_21 {i : Nat} {x : Int32} (hi : i < 16) : stI (HH A Z B Q P F q D c) .int 21 (nI i) x = some (HH (upA A 21 (va_up (A 21) i x)) Z B Q P F q D c) := stI_nI (h := (HH A Z B Q P F q D c)) (LLg_21 A Z B Q P F q D) (by decide) hi
theorem al_21 : aln (HH A Z B Q P F q D c) 21 = some (nI 16) := aln_of (h := (HH A Z B Q P F q D c)) (LLg_21 A Z B Q P F q D)
theorem gO_22 : gO (HH A Z B Q P F q D c) 22 2 = some [.int (Z 3), .ref 23, .ref 24, .ref 25, .ref 26, .ref 27] := gO_of (h := (HH A Z B Q P F q D c)) (LLg_22 A Z B Q P F q D)
theorem gf_22_0 : gI (HH A Z B Q P F q D c) 22 2 0 = some (Z 3) := rfl
theorem pf_22_0 {v : Int32} : pF (HH A Z B Q P F q D c) 22 2 0 (.int v) = some (HH A (upA Z 3 v) B Q P F q D c) := rfl
theorem gf_22_1 : gR (HH A Z B Q P F q D c) 22 2 1 = some 23 := rfl
theorem gf_22_2 : gR (HH A Z B Q P F q D c) 22 2 2 = some 24 := rfl
theorem gf_22_3 : gR (HH A Z B Q P F q D c) 22 2 3 = some 25 := rfl
theorem gf_22_4 : gR (HH A Z B Q P F q D c) 22 2 4 = some 26 := rfl
theorem gf_22_5 : gR (HH A Z B Q P F q D c) 22 2 5 = some 27 := rfl
theorem ld_23 {i : Nat} (hi : i < 16) : ldI (HH A Z B Q P F q D c) .int 23 (nI i) = some (A 23 i) := ldI_nI (h := (HH A Z B Q P F q D c)) (LLg_23 A Z B Q P F q D) (by decide) hi
theorem st_23 {i : Nat} {x : Int32} (hi : i < 16) : stI (HH A Z B Q P F q D c) .int 23 (nI i) x = some (HH (upA A 23 (va_up (A 23) i x)) Z B Q P F q D c) := stI_nI (h := (HH A Z B Q P F q D c)) (LLg_23 A Z B Q P F q D) (by decide) hi
theorem al_23 : aln (HH A Z B Q P F q D c) 23 = some (nI 16) := aln_of (h := (HH A Z B Q P F q D c)) (LLg_23 A Z B Q P F q D)
theorem ld_24 {i : Nat} (hi : i < 17) : ldI (HH A Z B Q P F q D c) .int 24 (nI i) = some (A 24 i) := ldI_nI (h := (HH A Z B Q P F q D c)) (LLg_24 A Z B Q P F q D) (by decide) hi
theorem st_24 {i : Nat} {x : Int32} (hi : i < 17) : stI (HH A Z B Q P F q D c) .int 24 (nI i) x = some (HH (upA A 24 (va_up (A 24) i x)) Z B Q P F q D c) := stI_nI (h := (HH A Z B Q P F q D c)) (LLg_24 A Z B Q P F q D) (by decide) hi
theorem al_24 : aln (HH A Z B Q P F q D c) 24 = some (nI 17) := aln_of (h := (HH A Z B Q P F q D c)) (LLg_24 A Z B Q P F q D)
theorem ld_25 {i : Nat} (hi : i < 17) : ldI (HH A Z B Q P F q D c) .int 25 (nI i) = some (A 25 i) := ldI_nI (h := (HH A Z B Q P F q D c)) (LLg_25 A Z B Q P F q D) (by decide) hi
theorem st_25 {i : Nat} {x : Int32} (hi : i < 17) : stI (HH A Z B Q P F q D c) .int 25 (nI i) x = some (HH (upA A 25 (va_up (A 25) i x)) Z B Q P F q D c) := stI_nI (h := (HH A Z B Q P F q D c)) (LLg_25 A Z B Q P F q D) (by decide) hi
theorem al_25 : aln (HH A Z B Q P F q D c) 25 = some (nI 17) := aln_of (h := (HH A Z B Q P F q D c)) (LLg_25 A Z B Q P F q D)
theorem ld_26 {i : Nat} (hi : i < 17) : ldI (HH A Z B Q P F q D c) .int 26 (nI i) = some (A 26 i) := ldI_nI (h := (HH A Z B Q P F q D c)) (LLg_26 A Z B Q P F q D) (by decide) hi
theorem st_26 {i : Nat} {x : Int32} (hi : i < 17) : stI (HH A Z B Q P F q D c) .int 26 (nI i) x = some (HH (upA A 26 (va_up (A 26) i x)) Z B Q P F q D c) := stI_nI (h := (HH A Z B Q P F q D c)) (LLg_26 A Z B Q P F q D) (by decide) hi
theorem al_26 : aln (HH A Z B Q P F q D c) 26 = some (nI 17) := aln_of (h := (HH A Z B Q P F q D c)) (LLg_26 A Z B Q P F q D)
theorem ld_27 {i : Nat} (hi : i < 16) : ldI (HH A Z B Q P F q D c) .int 27 (nI i) = some (A 27 i) := ldI_nI (h := (HH A Z B Q P F q D c)) (LLg_27 A Z B Q P F q D) (by decide) hi
theorem st_27 {i : Nat} {x : Int32} (hi : i < 16) : stI (HH A Z B Q P F q D c) .int 27 (nI i) x = some (HH (upA A 27 (va_up (A 27) i x)) Z B Q P F q D c) := stI_nI (h := (HH A Z B Q P F q D c)) (LLg_27 A Z B Q P F q D) (by decide) hi
theorem al_27 : aln (HH A Z B Q P F q D c) 27 = some (nI 16) := aln_of (h := (HH A Z B Q P F q D c)) (LLg_27 A Z B Q P F q D)
theorem gO_28 : gO (HH A Z B Q P F q D c) 28 4 = some [.ref 29, .ref 34, .ref 35, .ref 36, .ref 37, .ref 38, .int (Z 4), .int (Z 5)] := gO_of (h := (HH A Z B Q P F q D c)) (LLg_28 A Z B Q P F q D)
theorem gf_28_0 : gR (HH A Z B Q P F q D c) 28 4 0 = some 29 := rfl
theorem gf_28_1 : gR (HH A Z B Q P F q D c) 28 4 1 = some 34 := rfl
theorem gf_28_2 : gR (HH A Z B Q P F q D c) 28 4 2 = some 35 := rfl
theorem gf_28_3 : gR (HH A Z B Q P F q D c) 28 4 3 = some 36 := rfl
theorem gf_28_4 : gR (HH A Z B Q P F q D c) 28 4 4 = some 37 := rfl
theorem gf_28_5 : gR (HH A Z B Q P F q D c) 28 4 5 = some 38 := rfl
theorem gf_28_6 : gI (HH A Z B Q P F q D c) 28 4 6 = some (Z 4) := rfl
theorem pf_28_6 {v : Int32} : pF (HH A Z B Q P F q D c) 28 4 6 (.int v) = some (HH A (upA Z 4 v) B Q P F q D c) := rfl
theorem gf_28_7 : gI (HH A Z B Q P F q D c) 28 4 7 = some (Z 5) := rfl
theorem pf_28_7 {v : Int32} : pF (HH A Z B Q P F q D c) 28 4 7 (.int v) = some (HH A (upA Z 5 v) B Q P F q D c) := rfl
theorem gO_29 : gO (HH A Z B Q P F q D c) 29 0 = some [.ref 30, .ref 31, .ref 32, .ref 33, .int (Z 6)] := gO_of (h := (HH A Z B Q P F q D c)) (LLg_29 A Z B Q P F q D)
theorem gf_29_0 : gR (HH A Z B Q P F q D c) 29 0 0 = some 30 := rfl
theorem gf_29_1 : gR (HH A Z B Q P F q D c) 29 0 1 = some 31 := rfl
theorem gf_29_2 : gR (HH A Z B Q P F q D c) 29 0 2 = some 32 := rfl
theorem gf_29_3 : gR (HH A Z B Q P F q D c) 29 0 3 = some 33 := rfl
theorem gf_29_4 : gI (HH A Z B Q P F q D c) 29 0 4 = some (Z 6) := rfl
theorem pf_29_4 {v : Int32} : pF (HH A Z B Q P F q D c) 29 0 4 (.int v) = some (HH A (upA Z 6 v) B Q P F q D c) := rfl
theorem ld_30 {i : Nat} (hi : i < 16) : ldI (HH A Z B Q P F q D c) .int 30 (nI i) = some (A 30 i) := ldI_nI (h := (HH A Z B Q P F q D c)) (LLg_30 A Z B Q P F q D) (by decide) hi
theorem st_30 {i : Nat} {x : Int32} (hi : i < 16) : stI (HH A Z B Q P F q D c) .int 30 (nI i) x = some (HH (upA A 30 (va_up (A 30) i x)) Z B Q P F q D c) := stI_nI (h := (HH A Z B Q P F q D c)) (LLg_30 A Z B Q P F q D) (by decide) hi
theorem al_30 : aln (HH A Z B Q P F q D c) 30 = some (nI 16) := aln_of (h := (HH A Z B Q P F q D c)) (LLg_30 A Z B Q P F q D)
theorem ld_31 {i : Nat} (hi : i < 16) : ldI (HH A Z B Q P F q D c) .int 31 (nI i) = some (A 31 i) := ldI_nI (h := (HH A Z B Q P F q D c)) (LLg_31 A Z B Q P F q D) (by decide) hi
theorem st_31 {i : Nat} {x : Int32} (hi : i < 16) : stI (HH A Z B Q P F q D c) .int 31 (nI i) x = some (HH (upA A 31 (va_up (A 31) i x)) Z B Q P F q D c) := stI_nI (h := (HH A Z B Q P F q D c)) (LLg_31 A Z B Q P F q D) (by decide) hi
theorem al_31 : aln (HH A Z B Q P F q D c) 31 = some (nI 16) := aln_of (h := (HH A Z B Q P F q D c)) (LLg_31 A Z B Q P F q D)
theorem ld_32 {i : Nat} (hi : i < 16) : ldI (HH A Z B Q P F q D c) .int 32 (nI i) = some (A 32 i) := ldI_nI (h := (HH A Z B Q P F q D c)) (LLg_32 A Z B Q P F q D) (by decide) hi
theorem st_32 {i : Nat} {x : Int32} (hi : i < 16) : stI (HH A Z B Q P F q D c) .int 32 (nI i) x = some (HH (upA A 32 (va_up (A 32) i x)) Z B Q P F q D c) := stI_nI (h := (HH A Z B Q P F q D c)) (LLg_32 A Z B Q P F q D) (by decide) hi
theorem al_32 : aln (HH A Z B Q P F q D c) 32 = some (nI 16) := aln_of (h := (HH A Z B Q P F q D c)) (LLg_32 A Z B Q P F q D)
theorem ld_33 {i : Nat} (hi : i < 16) : ldI (HH A Z B Q P F q D c) .int 33 (nI i) = some (A 33 i) := ldI_nI (h := (HH A Z B Q P F q D c)) (LLg_33 A Z B Q P F q D) (by decide) hi
theorem st_33 {i : Nat} {x : Int32} (hi : i < 16) : stI (HH A Z B Q P F q D c) .int 33 (nI i) x = some (HH (upA A 33 (va_up (A 33) i x)) Z B Q P F q D c) := stI_nI (h := (HH A Z B Q P F q D c)) (LLg_33 A Z B Q P F q D) (by decide) hi
theorem al_33 : aln (HH A Z B Q P F q D c) 33 = some (nI 16) := aln_of (h := (HH A Z B Q P F q D c)) (LLg_33 A Z B Q P F q D)
theorem ld_34 {i : Nat} (hi : i < 256) : ldI (HH A Z B Q P F q D c) .int 34 (nI i) = some (A 34 i) := ldI_nI (h := (HH A Z B Q P F q D c)) (LLg_34 A Z B Q P F q D) (by decide) hi
theorem st_34 {i : Nat} {x : Int32} (hi : i < 256) : stI (HH A Z B Q P F q D c) .int 34 (nI i) x = some (HH (upA A 34 (va_up (A 34) i x)) Z B Q P F q D c) := stI_nI (h := (HH A Z B Q P F q D c)) (LLg_34 A Z B Q P F q D) (by decide) hi
theorem al_34 : aln (HH A Z B Q P F q D c) 34 = some (nI 256) := aln_of (h := (HH A Z B Q P F q D c)) (LLg_34 A Z B Q P F q D)
theorem ld_35 {i : Nat} (hi : i < 272) : ldI (HH A Z B Q P F q D c) .int 35 (nI i) = some (A 35 i) := ldI_nI (h := (HH A Z B Q P F q D c)) (LLg_35 A Z B Q P F q D) (by decide) hi
theorem st_35 {i : Nat} {x : Int32} (hi : i < 272) : stI (HH A Z B Q P F q D c) .int 35 (nI i) x = some (HH (upA A 35 (va_up (A 35) i x)) Z B Q P F q D c) := stI_nI (h := (HH A Z B Q P F q D c)) (LLg_35 A Z B Q P F q D) (by decide) hi
theorem al_35 : aln (HH A Z B Q P F q D c) 35 = some (nI 272) := aln_of (h := (HH A Z B Q P F q D c)) (LLg_35 A Z B Q P F q D)
theorem ld_36 {i : Nat} (hi : i < 17) : ldI (HH A Z B Q P F q D c) .int 36 (nI i) = some (A 36 i) := ldI_nI (h := (HH A Z B Q P F q D c)) (LLg_36 A Z B Q P F q D) (by decide) hi
theorem st_36 {i : Nat} {x : Int32} (hi : i < 17) : stI (HH A Z B Q P F q D c) .int 36 (nI i) x = some (HH (upA A 36 (va_up (A 36) i x)) Z B Q P F q D c) := stI_nI (h := (HH A Z B Q P F q D c)) (LLg_36 A Z B Q P F q D) (by decide) hi
theorem al_36 : aln (HH A Z B Q P F q D c) 36 = some (nI 17) := aln_of (h := (HH A Z B Q P F q D c)) (LLg_36 A Z B Q P F q D)
theorem ld_37 {i : Nat} (hi : i < 24) : ldI (HH A Z B Q P F q D c) .int 37 (nI i) = some (A 37 i) := ldI_nI (h := (HH A Z B Q P F q D c)) (LLg_37 A Z B Q P F q D) (by decide) hi
theorem st_37 {i : Nat} {x : Int32} (hi : i < 24) : stI (HH A Z B Q P F q D c) .int 37 (nI i) x = some (HH (upA A 37 (va_up (A 37) i x)) Z B Q P F q D c) := stI_nI (h := (HH A Z B Q P F q D c)) (LLg_37 A Z B Q P F q D) (by decide) hi
theorem al_37 : aln (HH A Z B Q P F q D c) 37 = some (nI 24) := aln_of (h := (HH A Z B Q P F q D c)) (LLg_37 A Z B Q P F q D)
theorem ld_38 {i : Nat} (hi : i < 24) : ldI (HH A Z B Q P F q D c) .int 38 (nI i) = some (A 38 i) := ldI_nI (h := (HH A Z B Q P F q D c)) (LLg_38 A Z B Q P F q D) (by decide) hi
theorem st_38 {i : Nat} {x : Int32} (hi : i < 24) : stI (HH A Z B Q P F q D c) .int 38 (nI i) x = some (HH (upA A 38 (va_up (A 38) i x)) Z B Q P F q D c) := stI_nI (h := (HH A Z B Q P F q D c)) (LLg_38 A Z B Q P F q D) (by decide) hi
theorem al_38 : aln (HH A Z B Q P F q D c) 38 = some (nI 24) := aln_of (h := (HH A Z B Q P F q D c)) (LLg_38 A Z B Q P F q D)
theorem gO_39 : gO (HH A Z B Q P F q D c) 39 6 = some [.int (Z 7), .int (Z 8), .ref 40, va_rf (P 3), .int (Z 30), .ref 41, .int (Z 9), .ref 46, .ref 47, .ref 48] := gO_of (h := (HH A Z B Q P F q D c)) (LLg_39 A Z B Q P F q D)
theorem gf_39_0 : gI (HH A Z B Q P F q D c) 39 6 0 = some (Z 7) := rfl
theorem pf_39_0 {v : Int32} : pF (HH A Z B Q P F q D c) 39 6 0 (.int v) = some (HH A (upA Z 7 v) B Q P F q D c) := rfl
theorem gf_39_1 : gI (HH A Z B Q P F q D c) 39 6 1 = some (Z 8) := rfl
theorem pf_39_1 {v : Int32} : pF (HH A Z B Q P F q D c) 39 6 1 (.int v) = some (HH A (upA Z 8 v) B Q P F q D c) := rfl
theorem gf_39_2 : gR (HH A Z B Q P F q D c) 39 6 2 = some 40 := rfl
theorem gf_39_3 : gN (HH A Z B Q P F q D c) 39 6 3 = some (P 3) := by
  unfold gN
  rw [gO_39]
  cases hp : P 3 <;> simp [va_rf, hp]
theorem pf_39_3 {v : Nat} : pF (HH A Z B Q P F q D c) 39 6 3 (.ref v) = some (HH A Z B Q (upA P 3 (some v)) F q D c) := rfl
theorem gf_39_4 : gI (HH A Z B Q P F q D c) 39 6 4 = some (Z 30) := rfl
theorem pf_39_4 {v : Int32} : pF (HH A Z B Q P F q D c) 39 6 4 (.int v) = some (HH A (upA Z 30 v) B Q P F q D c) := rfl
theorem gf_39_5 : gR (HH A Z B Q P F q D c) 39 6 5 = some 41 := rfl
theorem gf_39_6 : gI (HH A Z B Q P F q D c) 39 6 6 = some (Z 9) := rfl
theorem pf_39_6 {v : Int32} : pF (HH A Z B Q P F q D c) 39 6 6 (.int v) = some (HH A (upA Z 9 v) B Q P F q D c) := rfl
theorem gf_39_7 : gR (HH A Z B Q P F q D c) 39 6 7 = some 46 := rfl
theorem gf_39_8 : gR (HH A Z B Q P F q D c) 39 6 8 = some 47 := rfl
theorem gf_39_9 : gR (HH A Z B Q P F q D c) 39 6 9 = some 48 := rfl
theorem ld_40 {i : Nat} (hi : i < 8) : ldI (HH A Z B Q P F q D c) .int 40 (nI i) = some (A 40 i) := ldI_nI (h := (HH A Z B Q P F q D c)) (LLg_40 A Z B Q P F q D) (by decide) hi
theorem st_40 {i : Nat} {x : Int32} (hi : i < 8) : stI (HH A Z B Q P F q D c) .int 40 (nI i) x = some (HH (upA A 40 (va_up (A 40) i x)) Z B Q P F q D c) := stI_nI (h := (HH A Z B Q P F q D c)) (LLg_40 A Z B Q P F q D) (by decide) hi
theorem al_40 : aln (HH A Z B Q P F q D c) 40 = some (nI 8) := aln_of (h := (HH A Z B Q P F q D c)) (LLg_40 A Z B Q P F q D)
theorem gO_41 : gO (HH A Z B Q P F q D c) 41 0 = some [.ref 42, .ref 43, .ref 44, .ref 45, .int (Z 10)] := gO_of (h := (HH A Z B Q P F q D c)) (LLg_41 A Z B Q P F q D)
theorem gf_41_0 : gR (HH A Z B Q P F q D c) 41 0 0 = some 42 := rfl
theorem gf_41_1 : gR (HH A Z B Q P F q D c) 41 0 1 = some 43 := rfl
theorem gf_41_2 : gR (HH A Z B Q P F q D c) 41 0 2 = some 44 := rfl
theorem gf_41_3 : gR (HH A Z B Q P F q D c) 41 0 3 = some 45 := rfl
theorem gf_41_4 : gI (HH A Z B Q P F q D c) 41 0 4 = some (Z 10) := rfl
theorem pf_41_4 {v : Int32} : pF (HH A Z B Q P F q D c) 41 0 4 (.int v) = some (HH A (upA Z 10 v) B Q P F q D c) := rfl
theorem ld_42 {i : Nat} (hi : i < 16) : ldI (HH A Z B Q P F q D c) .int 42 (nI i) = some (A 42 i) := ldI_nI (h := (HH A Z B Q P F q D c)) (LLg_42 A Z B Q P F q D) (by decide) hi
theorem st_42 {i : Nat} {x : Int32} (hi : i < 16) : stI (HH A Z B Q P F q D c) .int 42 (nI i) x = some (HH (upA A 42 (va_up (A 42) i x)) Z B Q P F q D c) := stI_nI (h := (HH A Z B Q P F q D c)) (LLg_42 A Z B Q P F q D) (by decide) hi
theorem al_42 : aln (HH A Z B Q P F q D c) 42 = some (nI 16) := aln_of (h := (HH A Z B Q P F q D c)) (LLg_42 A Z B Q P F q D)
theorem ld_43 {i : Nat} (hi : i < 16) : ldI (HH A Z B Q P F q D c) .int 43 (nI i) = some (A 43 i) := ldI_nI (h := (HH A Z B Q P F q D c)) (LLg_43 A Z B Q P F q D) (by decide) hi
theorem st_43 {i : Nat} {x : Int32} (hi : i < 16) : stI (HH A Z B Q P F q D c) .int 43 (nI i) x = some (HH (upA A 43 (va_up (A 43) i x)) Z B Q P F q D c) := stI_nI (h := (HH A Z B Q P F q D c)) (LLg_43 A Z B Q P F q D) (by decide) hi
theorem al_43 : aln (HH A Z B Q P F q D c) 43 = some (nI 16) := aln_of (h := (HH A Z B Q P F q D c)) (LLg_43 A Z B Q P F q D)
theorem ld_44 {i : Nat} (hi : i < 16) : ldI (HH A Z B Q P F q D c) .int 44 (nI i) = some (A 44 i) := ldI_nI (h := (HH A Z B Q P F q D c)) (LLg_44 A Z B Q P F q D) (by decide) hi
theorem st_44 {i : Nat} {x : Int32} (hi : i < 16) : stI (HH A Z B Q P F q D c) .int 44 (nI i) x = some (HH (upA A 44 (va_up (A 44) i x)) Z B Q P F q D c) := stI_nI (h := (HH A Z B Q P F q D c)) (LLg_44 A Z B Q P F q D) (by decide) hi
theorem al_44 : aln (HH A Z B Q P F q D c) 44 = some (nI 16) := aln_of (h := (HH A Z B Q P F q D c)) (LLg_44 A Z B Q P F q D)
theorem ld_45 {i : Nat} (hi : i < 16) : ldI (HH A Z B Q P F q D c) .int 45 (nI i) = some (A 45 i) := ldI_nI (h := (HH A Z B Q P F q D c)) (LLg_45 A Z B Q P F q D) (by decide) hi
theorem st_45 {i : Nat} {x : Int32} (hi : i < 16) : stI (HH A Z B Q P F q D c) .int 45 (nI i) x = some (HH (upA A 45 (va_up (A 45) i x)) Z B Q P F q D c) := stI_nI (h := (HH A Z B Q P F q D c)) (LLg_45 A Z B Q P F q D) (by decide) hi
theorem al_45 : aln (HH A Z B Q P F q D c) 45 = some (nI 16) := aln_of (h := (HH A Z B Q P F q D c)) (LLg_45 A Z B Q P F q D)
theorem ld_46 {i : Nat} (hi : i < 8) : ldI (HH A Z B Q P F q D c) .int 46 (nI i) = some (A 46 i) := ldI_nI (h := (HH A Z B Q P F q D c)) (LLg_46 A Z B Q P F q D) (by decide) hi
theorem st_46 {i : Nat} {x : Int32} (hi : i < 8) : stI (HH A Z B Q P F q D c) .int 46 (nI i) x = some (HH (upA A 46 (va_up (A 46) i x)) Z B Q P F q D c) := stI_nI (h := (HH A Z B Q P F q D c)) (LLg_46 A Z B Q P F q D) (by decide) hi
theorem al_46 : aln (HH A Z B Q P F q D c) 46 = some (nI 8) := aln_of (h := (HH A Z B Q P F q D c)) (LLg_46 A Z B Q P F q D)
theorem ld_47 {i : Nat} (hi : i < 512) : ldI (HH A Z B Q P F q D c) .int 47 (nI i) = some (A 47 i) := ldI_nI (h := (HH A Z B Q P F q D c)) (LLg_47 A Z B Q P F q D) (by decide) hi
theorem st_47 {i : Nat} {x : Int32} (hi : i < 512) : stI (HH A Z B Q P F q D c) .int 47 (nI i) x = some (HH (upA A 47 (va_up (A 47) i x)) Z B Q P F q D c) := stI_nI (h := (HH A Z B Q P F q D c)) (LLg_47 A Z B Q P F q D) (by decide) hi
theorem al_47 : aln (HH A Z B Q P F q D c) 47 = some (nI 512) := aln_of (h := (HH A Z B Q P F q D c)) (LLg_47 A Z B Q P F q D)
theorem ld_48 {i : Nat} (hi : i < 144) : ldI (HH A Z B Q P F q D c) .int 48 (nI i) = some (A 48 i) := ldI_nI (h := (HH A Z B Q P F q D c)) (LLg_48 A Z B Q P F q D) (by decide) hi
theorem st_48 {i : Nat} {x : Int32} (hi : i < 144) : stI (HH A Z B Q P F q D c) .int 48 (nI i) x = some (HH (upA A 48 (va_up (A 48) i x)) Z B Q P F q D c) := stI_nI (h := (HH A Z B Q P F q D c)) (LLg_48 A Z B Q P F q D) (by decide) hi
theorem al_48 : aln (HH A Z B Q P F q D c) 48 = some (nI 144) := aln_of (h := (HH A Z B Q P F q D c)) (LLg_48 A Z B Q P F q D)
theorem gO_49 : gO (HH A Z B Q P F q D c) 49 1 = some [va_rf (P 1), .int (Z 11), .int (Z 12), .int (Z 13), .int (Z 14), .int (Z 15), .int (Z 16), .ref 50, .ref 51, .ref 52] := gO_of (h := (HH A Z B Q P F q D c)) (LLg_49 A Z B Q P F q D)
theorem gf_49_0 : gN (HH A Z B Q P F q D c) 49 1 0 = some (P 1) := by
  unfold gN
  rw [gO_49]
  cases hp : P 1 <;> simp [va_rf, hp]
theorem pf_49_0 {v : Nat} : pF (HH A Z B Q P F q D c) 49 1 0 (.ref v) = some (HH A Z B Q (upA P 1 (some v)) F q D c) := rfl
theorem gf_49_1 : gI (HH A Z B Q P F q D c) 49 1 1 = some (Z 11) := rfl
theorem pf_49_1 {v : Int32} : pF (HH A Z B Q P F q D c) 49 1 1 (.int v) = some (HH A (upA Z 11 v) B Q P F q D c) := rfl
theorem gf_49_2 : gI (HH A Z B Q P F q D c) 49 1 2 = some (Z 12) := rfl
theorem pf_49_2 {v : Int32} : pF (HH A Z B Q P F q D c) 49 1 2 (.int v) = some (HH A (upA Z 12 v) B Q P F q D c) := rfl
theorem gf_49_3 : gI (HH A Z B Q P F q D c) 49 1 3 = some (Z 13) := rfl
theorem pf_49_3 {v : Int32} : pF (HH A Z B Q P F q D c) 49 1 3 (.int v) = some (HH A (upA Z 13 v) B Q P F q D c) := rfl
theorem gf_49_4 : gI (HH A Z B Q P F q D c) 49 1 4 = some (Z 14) := rfl
theorem pf_49_4 {v : Int32} : pF (HH A Z B Q P F q D c) 49 1 4 (.int v) = some (HH A (upA Z 14 v) B Q P F q D c) := rfl
theorem gf_49_5 : gI (HH A Z B Q P F q D c) 49 1 5 = some (Z 15) := rfl
theorem pf_49_5 {v : Int32} : pF (HH A Z B Q P F q D c) 49 1 5 (.int v) = some (HH A (upA Z 15 v) B Q P F q D c) := rfl
theorem gf_49_6 : gI (HH A Z B Q P F q D c) 49 1 6 = some (Z 16) := rfl
theorem pf_49_6 {v : Int32} : pF (HH A Z B Q P F q D c) 49 1 6 (.int v) = some (HH A (upA Z 16 v) B Q P F q D c) := rfl
theorem gf_49_7 : gR (HH A Z B Q P F q D c) 49 1 7 = some 50 := rfl
theorem gf_49_8 : gR (HH A Z B Q P F q D c) 49 1 8 = some 51 := rfl
theorem gf_49_9 : gR (HH A Z B Q P F q D c) 49 1 9 = some 52 := rfl
theorem ld_50 {i : Nat} (hi : i < 256) : ldI (HH A Z B Q P F q D c) .int 50 (nI i) = some (A 50 i) := ldI_nI (h := (HH A Z B Q P F q D c)) (LLg_50 A Z B Q P F q D) (by decide) hi
theorem st_50 {i : Nat} {x : Int32} (hi : i < 256) : stI (HH A Z B Q P F q D c) .int 50 (nI i) x = some (HH (upA A 50 (va_up (A 50) i x)) Z B Q P F q D c) := stI_nI (h := (HH A Z B Q P F q D c)) (LLg_50 A Z B Q P F q D) (by decide) hi
theorem al_50 : aln (HH A Z B Q P F q D c) 50 = some (nI 256) := aln_of (h := (HH A Z B Q P F q D c)) (LLg_50 A Z B Q P F q D)
theorem ld_51 {i : Nat} (hi : i < 6144) : ldI (HH A Z B Q P F q D c) .int 51 (nI i) = some (A 51 i) := ldI_nI (h := (HH A Z B Q P F q D c)) (LLg_51 A Z B Q P F q D) (by decide) hi
theorem st_51 {i : Nat} {x : Int32} (hi : i < 6144) : stI (HH A Z B Q P F q D c) .int 51 (nI i) x = some (HH (upA A 51 (va_up (A 51) i x)) Z B Q P F q D c) := stI_nI (h := (HH A Z B Q P F q D c)) (LLg_51 A Z B Q P F q D) (by decide) hi
theorem al_51 : aln (HH A Z B Q P F q D c) 51 = some (nI 6144) := aln_of (h := (HH A Z B Q P F q D c)) (LLg_51 A Z B Q P F q D)
theorem ld_52 {i : Nat} (hi : i < 256) : ldI (HH A Z B Q P F q D c) .int 52 (nI i) = some (A 52 i) := ldI_nI (h := (HH A Z B Q P F q D c)) (LLg_52 A Z B Q P F q D) (by decide) hi
theorem st_52 {i : Nat} {x : Int32} (hi : i < 256) : stI (HH A Z B Q P F q D c) .int 52 (nI i) x = some (HH (upA A 52 (va_up (A 52) i x)) Z B Q P F q D c) := stI_nI (h := (HH A Z B Q P F q D c)) (LLg_52 A Z B Q P F q D) (by decide) hi
theorem al_52 : aln (HH A Z B Q P F q D c) 52 = some (nI 256) := aln_of (h := (HH A Z B Q P F q D c)) (LLg_52 A Z B Q P F q D)
theorem gO_53 : gO (HH A Z B Q P F q D c) 53 9 = some [.ref 54, .ref 55, .int (Z 17), .ref 56, va_rf (P 2)] := gO_of (h := (HH A Z B Q P F q D c)) (LLg_53 A Z B Q P F q D)
theorem gf_53_0 : gR (HH A Z B Q P F q D c) 53 9 0 = some 54 := rfl
theorem gf_53_1 : gR (HH A Z B Q P F q D c) 53 9 1 = some 55 := rfl
theorem gf_53_2 : gI (HH A Z B Q P F q D c) 53 9 2 = some (Z 17) := rfl
theorem pf_53_2 {v : Int32} : pF (HH A Z B Q P F q D c) 53 9 2 (.int v) = some (HH A (upA Z 17 v) B Q P F q D c) := rfl
theorem gf_53_3 : gR (HH A Z B Q P F q D c) 53 9 3 = some 56 := rfl
theorem gf_53_4 : gN (HH A Z B Q P F q D c) 53 9 4 = some (P 2) := by
  unfold gN
  rw [gO_53]
  cases hp : P 2 <;> simp [va_rf, hp]
theorem pf_53_4 {v : Nat} : pF (HH A Z B Q P F q D c) 53 9 4 (.ref v) = some (HH A Z B Q (upA P 2 (some v)) F q D c) := rfl
theorem ld_54 {i : Nat} (hi : i < 16) : ldI (HH A Z B Q P F q D c) .int 54 (nI i) = some (A 54 i) := ldI_nI (h := (HH A Z B Q P F q D c)) (LLg_54 A Z B Q P F q D) (by decide) hi
theorem st_54 {i : Nat} {x : Int32} (hi : i < 16) : stI (HH A Z B Q P F q D c) .int 54 (nI i) x = some (HH (upA A 54 (va_up (A 54) i x)) Z B Q P F q D c) := stI_nI (h := (HH A Z B Q P F q D c)) (LLg_54 A Z B Q P F q D) (by decide) hi
theorem al_54 : aln (HH A Z B Q P F q D c) 54 = some (nI 16) := aln_of (h := (HH A Z B Q P F q D c)) (LLg_54 A Z B Q P F q D)
theorem ld_55 {i : Nat} (hi : i < 17) : ldI (HH A Z B Q P F q D c) .int 55 (nI i) = some (A 55 i) := ldI_nI (h := (HH A Z B Q P F q D c)) (LLg_55 A Z B Q P F q D) (by decide) hi
theorem st_55 {i : Nat} {x : Int32} (hi : i < 17) : stI (HH A Z B Q P F q D c) .int 55 (nI i) x = some (HH (upA A 55 (va_up (A 55) i x)) Z B Q P F q D c) := stI_nI (h := (HH A Z B Q P F q D c)) (LLg_55 A Z B Q P F q D) (by decide) hi
theorem al_55 : aln (HH A Z B Q P F q D c) 55 = some (nI 17) := aln_of (h := (HH A Z B Q P F q D c)) (LLg_55 A Z B Q P F q D)
theorem ld_56 {i : Nat} (hi : i < 1024) : ldI (HH A Z B Q P F q D c) .int 56 (nI i) = some (A 56 i) := ldI_nI (h := (HH A Z B Q P F q D c)) (LLg_56 A Z B Q P F q D) (by decide) hi
theorem st_56 {i : Nat} {x : Int32} (hi : i < 1024) : stI (HH A Z B Q P F q D c) .int 56 (nI i) x = some (HH (upA A 56 (va_up (A 56) i x)) Z B Q P F q D c) := stI_nI (h := (HH A Z B Q P F q D c)) (LLg_56 A Z B Q P F q D) (by decide) hi
theorem al_56 : aln (HH A Z B Q P F q D c) 56 = some (nI 1024) := aln_of (h := (HH A Z B Q P F q D c)) (LLg_56 A Z B Q P F q D)
theorem gO_57 : gO (HH A Z B Q P F q D c) 57 12 = some [.ref 58, .ref 59, .ref 60, .ref 61, .int (Z 18), .ref 62, .int (Z 19), .int (Z 20), .int (Z 21), .int (Z 22), .int (Z 23), .int (Z 24), .int (Z 25), .int (Z 26), .int (Z 27), .int (Z 28), .ref 63, .ref 64, .ref 65, .ref 66, .ref 67, .ref 68, .ref 69, .ref 70, .long (Q 2), .long (Q 3), .ref 71, .ref 72, .int (Z 29), .ref 73, .ref 74, .ref 75] := gO_of (h := (HH A Z B Q P F q D c)) (LLg_57 A Z B Q P F q D)
theorem gf_57_0 : gR (HH A Z B Q P F q D c) 57 12 0 = some 58 := rfl
theorem gf_57_1 : gR (HH A Z B Q P F q D c) 57 12 1 = some 59 := rfl
theorem gf_57_2 : gR (HH A Z B Q P F q D c) 57 12 2 = some 60 := rfl
theorem gf_57_3 : gR (HH A Z B Q P F q D c) 57 12 3 = some 61 := rfl
theorem gf_57_4 : gI (HH A Z B Q P F q D c) 57 12 4 = some (Z 18) := rfl
theorem pf_57_4 {v : Int32} : pF (HH A Z B Q P F q D c) 57 12 4 (.int v) = some (HH A (upA Z 18 v) B Q P F q D c) := rfl
theorem gf_57_5 : gR (HH A Z B Q P F q D c) 57 12 5 = some 62 := rfl
theorem gf_57_6 : gI (HH A Z B Q P F q D c) 57 12 6 = some (Z 19) := rfl
theorem pf_57_6 {v : Int32} : pF (HH A Z B Q P F q D c) 57 12 6 (.int v) = some (HH A (upA Z 19 v) B Q P F q D c) := rfl
theorem gf_57_7 : gI (HH A Z B Q P F q D c) 57 12 7 = some (Z 20) := rfl
theorem pf_57_7 {v : Int32} : pF (HH A Z B Q P F q D c) 57 12 7 (.int v) = some (HH A (upA Z 20 v) B Q P F q D c) := rfl
theorem gf_57_8 : gI (HH A Z B Q P F q D c) 57 12 8 = some (Z 21) := rfl
theorem pf_57_8 {v : Int32} : pF (HH A Z B Q P F q D c) 57 12 8 (.int v) = some (HH A (upA Z 21 v) B Q P F q D c) := rfl
theorem gf_57_9 : gI (HH A Z B Q P F q D c) 57 12 9 = some (Z 22) := rfl
theorem pf_57_9 {v : Int32} : pF (HH A Z B Q P F q D c) 57 12 9 (.int v) = some (HH A (upA Z 22 v) B Q P F q D c) := rfl
theorem gf_57_10 : gI (HH A Z B Q P F q D c) 57 12 10 = some (Z 23) := rfl
theorem pf_57_10 {v : Int32} : pF (HH A Z B Q P F q D c) 57 12 10 (.int v) = some (HH A (upA Z 23 v) B Q P F q D c) := rfl
theorem gf_57_11 : gI (HH A Z B Q P F q D c) 57 12 11 = some (Z 24) := rfl
theorem pf_57_11 {v : Int32} : pF (HH A Z B Q P F q D c) 57 12 11 (.int v) = some (HH A (upA Z 24 v) B Q P F q D c) := rfl
theorem gf_57_12 : gI (HH A Z B Q P F q D c) 57 12 12 = some (Z 25) := rfl
theorem pf_57_12 {v : Int32} : pF (HH A Z B Q P F q D c) 57 12 12 (.int v) = some (HH A (upA Z 25 v) B Q P F q D c) := rfl
theorem gf_57_13 : gI (HH A Z B Q P F q D c) 57 12 13 = some (Z 26) := rfl
theorem pf_57_13 {v : Int32} : pF (HH A Z B Q P F q D c) 57 12 13 (.int v) = some (HH A (upA Z 26 v) B Q P F q D c) := rfl
theorem gf_57_14 : gI (HH A Z B Q P F q D c) 57 12 14 = some (Z 27) := rfl
theorem pf_57_14 {v : Int32} : pF (HH A Z B Q P F q D c) 57 12 14 (.int v) = some (HH A (upA Z 27 v) B Q P F q D c) := rfl
theorem gf_57_15 : gI (HH A Z B Q P F q D c) 57 12 15 = some (Z 28) := rfl
theorem pf_57_15 {v : Int32} : pF (HH A Z B Q P F q D c) 57 12 15 (.int v) = some (HH A (upA Z 28 v) B Q P F q D c) := rfl
theorem gf_57_16 : gR (HH A Z B Q P F q D c) 57 12 16 = some 63 := rfl
theorem gf_57_17 : gR (HH A Z B Q P F q D c) 57 12 17 = some 64 := rfl
theorem gf_57_18 : gR (HH A Z B Q P F q D c) 57 12 18 = some 65 := rfl
theorem gf_57_19 : gR (HH A Z B Q P F q D c) 57 12 19 = some 66 := rfl
theorem gf_57_20 : gR (HH A Z B Q P F q D c) 57 12 20 = some 67 := rfl
theorem gf_57_21 : gR (HH A Z B Q P F q D c) 57 12 21 = some 68 := rfl
theorem gf_57_22 : gR (HH A Z B Q P F q D c) 57 12 22 = some 69 := rfl
theorem gf_57_23 : gR (HH A Z B Q P F q D c) 57 12 23 = some 70 := rfl
theorem gf_57_24 : gJ (HH A Z B Q P F q D c) 57 12 24 = some (Q 2) := rfl
theorem pf_57_24 {v : Int64} : pF (HH A Z B Q P F q D c) 57 12 24 (.long v) = some (HH A Z B (upA Q 2 v) P F q D c) := rfl
theorem gf_57_25 : gJ (HH A Z B Q P F q D c) 57 12 25 = some (Q 3) := rfl
theorem pf_57_25 {v : Int64} : pF (HH A Z B Q P F q D c) 57 12 25 (.long v) = some (HH A Z B (upA Q 3 v) P F q D c) := rfl
theorem gf_57_26 : gR (HH A Z B Q P F q D c) 57 12 26 = some 71 := rfl
theorem gf_57_27 : gR (HH A Z B Q P F q D c) 57 12 27 = some 72 := rfl
theorem gf_57_28 : gI (HH A Z B Q P F q D c) 57 12 28 = some (Z 29) := rfl
theorem pf_57_28 {v : Int32} : pF (HH A Z B Q P F q D c) 57 12 28 (.int v) = some (HH A (upA Z 29 v) B Q P F q D c) := rfl
theorem gf_57_29 : gR (HH A Z B Q P F q D c) 57 12 29 = some 73 := rfl
theorem gf_57_30 : gR (HH A Z B Q P F q D c) 57 12 30 = some 74 := rfl
theorem gf_57_31 : gR (HH A Z B Q P F q D c) 57 12 31 = some 75 := rfl
theorem ld_58 {i : Nat} (hi : i < 480) : ldI (HH A Z B Q P F q D c) .int 58 (nI i) = some (A 58 i) := ldI_nI (h := (HH A Z B Q P F q D c)) (LLg_58 A Z B Q P F q D) (by decide) hi
theorem st_58 {i : Nat} {x : Int32} (hi : i < 480) : stI (HH A Z B Q P F q D c) .int 58 (nI i) x = some (HH (upA A 58 (va_up (A 58) i x)) Z B Q P F q D c) := stI_nI (h := (HH A Z B Q P F q D c)) (LLg_58 A Z B Q P F q D) (by decide) hi
theorem al_58 : aln (HH A Z B Q P F q D c) 58 = some (nI 480) := aln_of (h := (HH A Z B Q P F q D c)) (LLg_58 A Z B Q P F q D)
theorem ld_59 {i : Nat} (hi : i < 1440) : ldI (HH A Z B Q P F q D c) .int 59 (nI i) = some (A 59 i) := ldI_nI (h := (HH A Z B Q P F q D c)) (LLg_59 A Z B Q P F q D) (by decide) hi
theorem st_59 {i : Nat} {x : Int32} (hi : i < 1440) : stI (HH A Z B Q P F q D c) .int 59 (nI i) x = some (HH (upA A 59 (va_up (A 59) i x)) Z B Q P F q D c) := stI_nI (h := (HH A Z B Q P F q D c)) (LLg_59 A Z B Q P F q D) (by decide) hi
theorem al_59 : aln (HH A Z B Q P F q D c) 59 = some (nI 1440) := aln_of (h := (HH A Z B Q P F q D c)) (LLg_59 A Z B Q P F q D)
theorem ld_60 {i : Nat} (hi : i < 480) : ldI (HH A Z B Q P F q D c) .int 60 (nI i) = some (A 60 i) := ldI_nI (h := (HH A Z B Q P F q D c)) (LLg_60 A Z B Q P F q D) (by decide) hi
theorem st_60 {i : Nat} {x : Int32} (hi : i < 480) : stI (HH A Z B Q P F q D c) .int 60 (nI i) x = some (HH (upA A 60 (va_up (A 60) i x)) Z B Q P F q D c) := stI_nI (h := (HH A Z B Q P F q D c)) (LLg_60 A Z B Q P F q D) (by decide) hi
theorem al_60 : aln (HH A Z B Q P F q D c) 60 = some (nI 480) := aln_of (h := (HH A Z B Q P F q D c)) (LLg_60 A Z B Q P F q D)
theorem ld_61 {i : Nat} (hi : i < 3) : ldI (HH A Z B Q P F q D c) .boolean 61 (nI i) = some (A 61 i) := ldI_nI (h := (HH A Z B Q P F q D c)) (LLg_61 A Z B Q P F q D) (by decide) hi
theorem st_61 {i : Nat} {x : Int32} (hi : i < 3) : stI (HH A Z B Q P F q D c) .boolean 61 (nI i) x = some (HH (upA A 61 (va_up (A 61) i x)) Z B Q P F q D c) := stI_nI (h := (HH A Z B Q P F q D c)) (LLg_61 A Z B Q P F q D) (by decide) hi
theorem al_61 : aln (HH A Z B Q P F q D c) 61 = some (nI 3) := aln_of (h := (HH A Z B Q P F q D c)) (LLg_61 A Z B Q P F q D)
theorem ld_62 {i : Nat} (hi : i < 800) : ldI (HH A Z B Q P F q D c) .int 62 (nI i) = some (A 62 i) := ldI_nI (h := (HH A Z B Q P F q D c)) (LLg_62 A Z B Q P F q D) (by decide) hi
theorem st_62 {i : Nat} {x : Int32} (hi : i < 800) : stI (HH A Z B Q P F q D c) .int 62 (nI i) x = some (HH (upA A 62 (va_up (A 62) i x)) Z B Q P F q D c) := stI_nI (h := (HH A Z B Q P F q D c)) (LLg_62 A Z B Q P F q D) (by decide) hi
theorem al_62 : aln (HH A Z B Q P F q D c) 62 = some (nI 800) := aln_of (h := (HH A Z B Q P F q D c)) (LLg_62 A Z B Q P F q D)
theorem ld_63 {i : Nat} (hi : i < 16) : ldI (HH A Z B Q P F q D c) .int 63 (nI i) = some (A 63 i) := ldI_nI (h := (HH A Z B Q P F q D c)) (LLg_63 A Z B Q P F q D) (by decide) hi
theorem st_63 {i : Nat} {x : Int32} (hi : i < 16) : stI (HH A Z B Q P F q D c) .int 63 (nI i) x = some (HH (upA A 63 (va_up (A 63) i x)) Z B Q P F q D c) := stI_nI (h := (HH A Z B Q P F q D c)) (LLg_63 A Z B Q P F q D) (by decide) hi
theorem al_63 : aln (HH A Z B Q P F q D c) 63 = some (nI 16) := aln_of (h := (HH A Z B Q P F q D c)) (LLg_63 A Z B Q P F q D)
theorem ld_64 {i : Nat} (hi : i < 16) : ldI (HH A Z B Q P F q D c) .int 64 (nI i) = some (A 64 i) := ldI_nI (h := (HH A Z B Q P F q D c)) (LLg_64 A Z B Q P F q D) (by decide) hi
theorem st_64 {i : Nat} {x : Int32} (hi : i < 16) : stI (HH A Z B Q P F q D c) .int 64 (nI i) x = some (HH (upA A 64 (va_up (A 64) i x)) Z B Q P F q D c) := stI_nI (h := (HH A Z B Q P F q D c)) (LLg_64 A Z B Q P F q D) (by decide) hi
theorem al_64 : aln (HH A Z B Q P F q D c) 64 = some (nI 16) := aln_of (h := (HH A Z B Q P F q D c)) (LLg_64 A Z B Q P F q D)
theorem ld_65 {i : Nat} (hi : i < 8) : ldI (HH A Z B Q P F q D c) .int 65 (nI i) = some (A 65 i) := ldI_nI (h := (HH A Z B Q P F q D c)) (LLg_65 A Z B Q P F q D) (by decide) hi
theorem st_65 {i : Nat} {x : Int32} (hi : i < 8) : stI (HH A Z B Q P F q D c) .int 65 (nI i) x = some (HH (upA A 65 (va_up (A 65) i x)) Z B Q P F q D c) := stI_nI (h := (HH A Z B Q P F q D c)) (LLg_65 A Z B Q P F q D) (by decide) hi
theorem al_65 : aln (HH A Z B Q P F q D c) 65 = some (nI 8) := aln_of (h := (HH A Z B Q P F q D c)) (LLg_65 A Z B Q P F q D)
theorem ld_66 {i : Nat} (hi : i < 8) : ldI (HH A Z B Q P F q D c) .int 66 (nI i) = some (A 66 i) := ldI_nI (h := (HH A Z B Q P F q D c)) (LLg_66 A Z B Q P F q D) (by decide) hi
theorem st_66 {i : Nat} {x : Int32} (hi : i < 8) : stI (HH A Z B Q P F q D c) .int 66 (nI i) x = some (HH (upA A 66 (va_up (A 66) i x)) Z B Q P F q D c) := stI_nI (h := (HH A Z B Q P F q D c)) (LLg_66 A Z B Q P F q D) (by decide) hi
theorem al_66 : aln (HH A Z B Q P F q D c) 66 = some (nI 8) := aln_of (h := (HH A Z B Q P F q D c)) (LLg_66 A Z B Q P F q D)
theorem ld_67 {i : Nat} (hi : i < 16) : ldI (HH A Z B Q P F q D c) .int 67 (nI i) = some (A 67 i) := ldI_nI (h := (HH A Z B Q P F q D c)) (LLg_67 A Z B Q P F q D) (by decide) hi
theorem st_67 {i : Nat} {x : Int32} (hi : i < 16) : stI (HH A Z B Q P F q D c) .int 67 (nI i) x = some (HH (upA A 67 (va_up (A 67) i x)) Z B Q P F q D c) := stI_nI (h := (HH A Z B Q P F q D c)) (LLg_67 A Z B Q P F q D) (by decide) hi
theorem al_67 : aln (HH A Z B Q P F q D c) 67 = some (nI 16) := aln_of (h := (HH A Z B Q P F q D c)) (LLg_67 A Z B Q P F q D)
theorem ld_68 {i : Nat} (hi : i < 256) : ldI (HH A Z B Q P F q D c) .int 68 (nI i) = some (A 68 i) := ldI_nI (h := (HH A Z B Q P F q D c)) (LLg_68 A Z B Q P F q D) (by decide) hi
theorem st_68 {i : Nat} {x : Int32} (hi : i < 256) : stI (HH A Z B Q P F q D c) .int 68 (nI i) x = some (HH (upA A 68 (va_up (A 68) i x)) Z B Q P F q D c) := stI_nI (h := (HH A Z B Q P F q D c)) (LLg_68 A Z B Q P F q D) (by decide) hi
theorem al_68 : aln (HH A Z B Q P F q D c) 68 = some (nI 256) := aln_of (h := (HH A Z B Q P F q D c)) (LLg_68 A Z B Q P F q D)
theorem ld_69 {i : Nat} (hi : i < 6144) : ldI (HH A Z B Q P F q D c) .int 69 (nI i) = some (A 69 i) := ldI_nI (h := (HH A Z B Q P F q D c)) (LLg_69 A Z B Q P F q D) (by decide) hi
theorem st_69 {i : Nat} {x : Int32} (hi : i < 6144) : stI (HH A Z B Q P F q D c) .int 69 (nI i) x = some (HH (upA A 69 (va_up (A 69) i x)) Z B Q P F q D c) := stI_nI (h := (HH A Z B Q P F q D c)) (LLg_69 A Z B Q P F q D) (by decide) hi
theorem al_69 : aln (HH A Z B Q P F q D c) 69 = some (nI 6144) := aln_of (h := (HH A Z B Q P F q D c)) (LLg_69 A Z B Q P F q D)
theorem ld_70 {i : Nat} (hi : i < 1024) : ldI (HH A Z B Q P F q D c) .int 70 (nI i) = some (A 70 i) := ldI_nI (h := (HH A Z B Q P F q D c)) (LLg_70 A Z B Q P F q D) (by decide) hi
theorem st_70 {i : Nat} {x : Int32} (hi : i < 1024) : stI (HH A Z B Q P F q D c) .int 70 (nI i) x = some (HH (upA A 70 (va_up (A 70) i x)) Z B Q P F q D c) := stI_nI (h := (HH A Z B Q P F q D c)) (LLg_70 A Z B Q P F q D) (by decide) hi
theorem al_70 : aln (HH A Z B Q P F q D c) 70 = some (nI 1024) := aln_of (h := (HH A Z B Q P F q D c)) (LLg_70 A Z B Q P F q D)
theorem ld_71 {i : Nat} (hi : i < 49152) : ldI (HH A Z B Q P F q D c) .int 71 (nI i) = some (A 71 i) := ldI_nI (h := (HH A Z B Q P F q D c)) (LLg_71 A Z B Q P F q D) (by decide) hi
theorem st_71 {i : Nat} {x : Int32} (hi : i < 49152) : stI (HH A Z B Q P F q D c) .int 71 (nI i) x = some (HH (upA A 71 (va_up (A 71) i x)) Z B Q P F q D c) := stI_nI (h := (HH A Z B Q P F q D c)) (LLg_71 A Z B Q P F q D) (by decide) hi
theorem al_71 : aln (HH A Z B Q P F q D c) 71 = some (nI 49152) := aln_of (h := (HH A Z B Q P F q D c)) (LLg_71 A Z B Q P F q D)
theorem ld_72 {i : Nat} (hi : i < 49152) : ldI (HH A Z B Q P F q D c) .int 72 (nI i) = some (A 72 i) := ldI_nI (h := (HH A Z B Q P F q D c)) (LLg_72 A Z B Q P F q D) (by decide) hi
theorem st_72 {i : Nat} {x : Int32} (hi : i < 49152) : stI (HH A Z B Q P F q D c) .int 72 (nI i) x = some (HH (upA A 72 (va_up (A 72) i x)) Z B Q P F q D c) := stI_nI (h := (HH A Z B Q P F q D c)) (LLg_72 A Z B Q P F q D) (by decide) hi
theorem al_72 : aln (HH A Z B Q P F q D c) 72 = some (nI 49152) := aln_of (h := (HH A Z B Q P F q D c)) (LLg_72 A Z B Q P F q D)
theorem ld_73 {i : Nat} (hi : i < 4) : ldI (HH A Z B Q P F q D c) .int 73 (nI i) = some (A 73 i) := ldI_nI (h := (HH A Z B Q P F q D c)) (LLg_73 A Z B Q P F q D) (by decide) hi
theorem st_73 {i : Nat} {x : Int32} (hi : i < 4) : stI (HH A Z B Q P F q D c) .int 73 (nI i) x = some (HH (upA A 73 (va_up (A 73) i x)) Z B Q P F q D c) := stI_nI (h := (HH A Z B Q P F q D c)) (LLg_73 A Z B Q P F q D) (by decide) hi
theorem al_73 : aln (HH A Z B Q P F q D c) 73 = some (nI 4) := aln_of (h := (HH A Z B Q P F q D c)) (LLg_73 A Z B Q P F q D)
theorem ld_74 {i : Nat} (hi : i < 4) : ldI (HH A Z B Q P F q D c) .int 74 (nI i) = some (A 74 i) := ldI_nI (h := (HH A Z B Q P F q D c)) (LLg_74 A Z B Q P F q D) (by decide) hi
theorem st_74 {i : Nat} {x : Int32} (hi : i < 4) : stI (HH A Z B Q P F q D c) .int 74 (nI i) x = some (HH (upA A 74 (va_up (A 74) i x)) Z B Q P F q D c) := stI_nI (h := (HH A Z B Q P F q D c)) (LLg_74 A Z B Q P F q D) (by decide) hi
theorem al_74 : aln (HH A Z B Q P F q D c) 74 = some (nI 4) := aln_of (h := (HH A Z B Q P F q D c)) (LLg_74 A Z B Q P F q D)
theorem ld_75 {i : Nat} (hi : i < 160) : ldJ (HH A Z B Q P F q D c) 75 (nI i) = some (B 75 i) := ldJ_nI (h := (HH A Z B Q P F q D c)) (LLg_75 A Z B Q P F q D) (by decide) hi
theorem st_75 {i : Nat} {x : Int64} (hi : i < 160) : stJ (HH A Z B Q P F q D c) 75 (nI i) x = some (HH A Z (upA B 75 (va_up (B 75) i x)) Q P F q D c) := stJ_nI (h := (HH A Z B Q P F q D c)) (LLg_75 A Z B Q P F q D) (by decide) hi
theorem ld_76 {i : Nat} (hi : i < 1) : ldJ (HH A Z B Q P F q D c) 76 (nI i) = some (B 76 i) := ldJ_nI (h := (HH A Z B Q P F q D c)) (LLg_76 A Z B Q P F q D) (by decide) hi
theorem st_76 {i : Nat} {x : Int64} (hi : i < 1) : stJ (HH A Z B Q P F q D c) 76 (nI i) x = some (HH A Z (upA B 76 (va_up (B 76) i x)) Q P F q D c) := stJ_nI (h := (HH A Z B Q P F q D c)) (LLg_76 A Z B Q P F q D) (by decide) hi
end Acc2
