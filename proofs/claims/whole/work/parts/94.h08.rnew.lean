/-! ===== round: Rounds made new ===== -/
section RNew
variable {A : Nat → Nat → Int32} {Z : Nat → Int32} {B : Nat → Nat → Int64} {Q : Nat → Int64} {P : Nat → Option Nat} {F : Nat → Nat → Option Nat} {q : Nat} {D : List xC} {c : Nat × Nat} {K : Nat → Nat} {tt lk lh : Nat → Nat} {R i : Nat}
theorem HH_len : (HH A Z B Q P F q D c).1.length = 77 + D.length := by
  show (LL A Z B Q P F q ++ D).length = _
  rw [List.length_append, LL_len]
theorem mkI_D {n : Nat} (hlen : 77 + D.length < 1000000000) (hn : n ≤ 1000000) : mkI (HH A Z B Q P F q D c) .int (nI n) = some (HH A Z B Q P F q (D ++ [.inl (.int, n, .inl (fun _ => 0))]) (c.1 + 1, c.2 + n)) := by
  have hx : xS0 = 1000000000 := rfl
  unfold mkI
  rw [HH_len, nI_clamp (by omega), if_pos ⟨by omega, nI_pos (by omega), hn⟩]
  show some (_, _, _) = some (_, _, _)
  rw [List.append_assoc]
theorem mkO_D {ci n : Nat} {fs : List Value} (hlen : 77 + D.length < 1000000000) : mkO (HH A Z B Q P F q D c) ci n fs = some (HH A Z B Q P F q (D ++ [.inr (ci, fs)]) (c.1 + 1, c.2 + n)) := by
  have hx : xS0 = 1000000000 := rfl
  unfold mkO
  rw [HH_len, if_pos (by omega)]
  show some (_, _, _) = some (_, _, _)
  rw [List.append_assoc]
theorem pF_D {ci k : Nat} {fs : List Value} {v : Value} {E : List xC} (hk : k < fs.length) : pF (HH A Z B Q P F q (D ++ (.inr (ci, fs) :: E)) c) (77 + D.length) ci k v = some (HH A Z B Q P F q (D ++ (.inr (ci, fs.set k v) :: E)) c) := by
  have h3 : HC (D ++ (.inr (ci, fs) :: E)) (77 + D.length) = some (.inr (ci, fs)) := HC_new (D := D) (E := .inr (ci, fs) :: E) (j := 0)
  rw [pF_of (h := HH A Z B Q P F q (D ++ (.inr (ci, fs) :: E)) c) (HC_get h3) hk, LL_set (by omega), Nat.add_sub_cancel_left, List.set_append_right _ _ (by omega), Nat.sub_self]
  rfl
theorem gI_D {ci k : Nat} {fs : List Value} {v : Int32} {E : List xC} (hk : fs[k]? = some (.int v)) : gI (HH A Z B Q P F q (D ++ (.inr (ci, fs) :: E)) c) (77 + D.length) ci k = some v := by
  have h3 : HC (D ++ (.inr (ci, fs) :: E)) (77 + D.length) = some (.inr (ci, fs)) := HC_new (D := D) (E := .inr (ci, fs) :: E) (j := 0)
  exact gI_of (h := HH A Z B Q P F q (D ++ (.inr (ci, fs) :: E)) c) (HC_get h3) hk
theorem mkI_E {n ci : Nat} {fs : List Value} {E : List xC} (hlen : 77 + D.length + E.length < 900000000) (hn : n ≤ 1000000) : mkI (HH A Z B Q P F q (D ++ (.inr (ci, fs) :: E)) c) .int (nI n) = some (HH A Z B Q P F q (D ++ (.inr (ci, fs) :: (E ++ [.inl (.int, n, .inl (fun _ => 0))]))) (c.1 + 1, c.2 + n)) := by
  rw [mkI_D (by rw [List.length_append, List.length_cons]; omega) hn, List.append_assoc]
  rfl
theorem len_E {ci : Nat} {fs : List Value} {E : List xC} : (HH A Z B Q P F q (D ++ (.inr (ci, fs) :: E)) c).1.length = 77 + D.length + 1 + E.length := by
  rw [HH_len, List.length_append, List.length_cons]; omega
theorem n_shlR : ∀ R, R < 13 → nI R <<< (nI R &&& 31) = nI (R * 2 ^ R) := by decide
/-- the cells of Rounds, just made -/
def RC (a R : Nat) : List xC := [.inr (8, [.int (nI R), .ref (a + 1), .ref (a + 2), .ref (a + 3), .int (nI 0), .null, .int (-1), .int (-1)]), .inl (.int, 24, .inl (fun _ => 0)), .inl (.int, R * 2 ^ R, .inl (fun _ => 0)), .inl (.int, R * 2 ^ R, .inl (fun _ => 0))]
theorem c_initR (hlen : 77 + D.length < 800000000) (h1 : 1 ≤ R) (hR : R ≤ 12) : f_X8_init (HH A Z B Q P F q (D ++ [.inr (8, [.int 0, .null, .null, .null, .int 0, .null, .int 0, .int 0])]) c) (77 + D.length) (nI R) = some (HH A Z B Q P F q (D ++ RC (77 + D.length) R) (c.1 + 1 + 1 + 1, c.2 + 24 + R * 2 ^ R + R * 2 ^ R)) := by
  have hm := rm_le hR
  have hmin : (if (1 : Int32) < (if (12 : Int32) < nI R then (12 : Int32) else nI R) then (if (12 : Int32) < nI R then (12 : Int32) else nI R) else (1 : Int32)) = nI R := by
    have e1 : (if (12 : Int32) < nI R then (12 : Int32) else nI R) = nI R := if_neg (by rw [show (12 : Int32) = nI 12 from rfl, y_lt (by omega) (by omega)]; omega)
    rw [e1]
    by_cases e : 1 < R
    · exact if_pos (by rw [show (1 : Int32) = nI 1 from rfl, y_lt (by omega) (by omega)]; exact e)
    · refine (if_neg (by rw [show (1 : Int32) = nI 1 from rfl, y_lt (by omega) (by omega)]; exact e)).trans ?_
      rw [show R = 1 by omega]
      rfl
  unfold f_X8_init
  rw [hmin, show (24 : Int32) = nI 24 from rfl, mkI_E (by simp; omega) (by omega), Option.bind_some, pF_D (by decide), Option.bind_some, pF_D (by simp), Option.bind_some, pF_D (by simp), Option.bind_some, pF_D (by simp), Option.bind_some, pF_D (by simp), Option.bind_some, pF_D (by simp), Option.bind_some, gI_D rfl, Option.bind_some, Option.bind_some, n_shlR R (by omega), mkI_E (by simp; omega) (by omega), Option.bind_some, pF_D (by simp), Option.bind_some, gI_D rfl, Option.bind_some, Option.bind_some, n_shlR R (by omega), mkI_E (by simp; omega) (by omega), Option.bind_some, pF_D (by simp), Option.bind_some, len_E, len_E, len_E]
  rfl
end RNew
