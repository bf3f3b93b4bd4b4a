/-! ===== image, restore ===== -/
theorem cpI_of {h : xH} {a b na nb : Nat} {f g : Nat → Int32} (ha : h.1[a]? = some (.inl (.int, na, .inl f))) (hb : h.1[b]? = some (.inl (.int, nb, .inl g))) {sp dp n : Nat} (h1 : sp + n ≤ na) (h2 : dp + n ≤ nb) (h3 : sp < 2147483648) (h4 : dp < 2147483648) (h5 : n < 2147483648) : cpI h a (nI sp) b (nI dp) (nI n) = some (h.1.set b (.inl (.int, nb, .inl (va_cpy f g sp dp n))), h.2) := by
  unfold cpI
  rw [gA_of ha, gA_of hb]
  show (if _ then _ else _) = _
  rw [nI_clamp h3, nI_clamp h4, nI_clamp h5, if_pos ⟨rfl, rfl, nI_pos h3, nI_pos h4, nI_pos h5, h1, h2⟩]
section Img
variable {A : Nat → Nat → Int32} {Z : Nat → Int32} {B : Nat → Nat → Int64} {Q : Nat → Int64} {P : Nat → Option Nat} {F : Nat → Nat → Option Nat} {q : Nat} {D : List xC} {c : Nat × Nat} {K : Nat → Nat} {tt lk lh : Nat → Nat} {R i : Nat}
theorem st_15N {j b : Nat} {x : List Value} (hj : j < 3) (hb : gO (HH A Z B Q P F q D c) b 3 = some x) : stN (HH A Z B Q P F q D c) "LitNextDoor$House" 3 15 (nI j) b = some (HH A Z B Q P (upA F 15 (va_up (F 15) j (some b))) q D c) := by
  unfold stN
  rw [gA_of (h := HH A Z B Q P F q D c) (LLg_15 A Z B Q P F q D), hb]
  show (if _ then _ else _) = _
  rw [if_pos ⟨rfl, inB_nI hj (by decide)⟩, nI_clamp (by omega), LLs_15]
theorem st_16N {j b : Nat} {x : List Value} (hj : j < 3) (hb : gO (HH A Z B Q P F q D c) b 5 = some x) : stN (HH A Z B Q P F q D c) "LitNextDoor$Lamps" 5 16 (nI j) b = some (HH A Z B Q P (upA F 16 (va_up (F 16) j (some b))) q D c) := by
  unfold stN
  rw [gA_of (h := HH A Z B Q P F q D c) (LLg_16 A Z B Q P F q D), hb]
  show (if _ then _ else _) = _
  rw [if_pos ⟨rfl, inB_nI hj (by decide)⟩, nI_clamp (by omega), LLs_16]
theorem RndOK_ne {R j : Nat} {y : xC} (hj : 77 ≤ j) (hK : K j ≠ 5) (hK0 : K j ≠ 0) (H : RndOK K P D R) : RndOK K P (D.set (j - 77) y) R := by
  rcases H with h | ⟨a, qd, wk, wf, ws, h1, h2, h3, h4, h5, h6, ⟨f, h7, hw⟩, h8, g, h9⟩
  · exact Or.inl h
  · have n : ∀ k, k < 4 → a + k ≠ j := fun k hk e => hK (e ▸ h3 k hk)
    exact Or.inr ⟨a, qd, wk, wf, ws, h1, h2, h3, h4, h5, by rw [HC_ne hj (show a ≠ j from n 0 (by decide))]; exact h6, ⟨f, by rw [HC_ne hj (n 1 (by decide))]; exact h7, Wk_D (fun _ _ h => Hs_ne hj hK0 h) hw⟩, Ar_ne hj (n 2 (by decide)) h8, g, by rw [HC_ne hj (n 3 (by decide))]; exact h9⟩
theorem RndOK_K {K' : Nat → Nat} {R : Nat} (hK : ∀ k, k < 77 + D.length → K' k = K k) (H : RndOK K P D R) : RndOK K' P D R := by
  rcases H with h | ⟨a, qd, wk, wf, ws, h1, h2, h3, h4, h5, h6, ⟨f, h7, hw⟩, h8, g, h9⟩
  · exact Or.inl h
  · have l := HC_lt h9
    exact Or.inr ⟨a, qd, wk, wf, ws, h1, h2, fun j hj => by rw [hK _ (by omega)]; exact h3 j hj, h4, h5, h6, ⟨f, h7, Wk_D (fun _ _ h => Hs_K hK h) hw⟩, h8, g, h9⟩
/-- the lamps' rows of an image, as copyFrom leaves them -/
theorem c_copyTo {l j : Nat} {lk0 lh0 : Nat → Nat} (hL : Lm K D l j lk0 lh0) (hLm : Lam (A 13) (A 14) lk lh) : ∃ D', f_X5_copyFrom (HH A Z B Q P F q D c) l 12 = some (HH A Z B Q P F q D' c) ∧ D'.length = D.length ∧ Lm K D' l j lk lh ∧ (∀ q tt, j < 3 → Hs K D q tt → Hs K D' q tt) ∧ (∀ l2 j2 lk2 lh2, j2 ≠ j → Lm K D l2 j2 lk2 lh2 → Lm K D' l2 j2 lk2 lh2) ∧ (∀ R, j < 3 → RndOK K P D R → RndOK K P D' R) := by
  obtain ⟨h0, h1, h2, ⟨f, hf, hf2⟩, ⟨g, hg, hg2⟩⟩ := hL
  have k0 := h1 0 (by decide)
  have k1 := h1 1 (by decide)
  have k2 := h1 2 (by decide)
  have hg' : HC (D.set (l + 1 - 77) (.inl (.int, 16, .inl (va_cpy (A 13) f 0 0 16)))) (l + 2) = some (.inl (.int, 16, .inl g)) := by rw [HC_ne (by omega) (by omega)]; exact hg
  refine ⟨(D.set (l + 1 - 77) (.inl (.int, 16, .inl (va_cpy (A 13) f 0 0 16)))).set (l + 2 - 77) (.inl (.int, 16, .inl (va_cpy (A 14) g 0 0 16))), ?_, ?_, ?_, ?_, ?_, ?_⟩
  · unfold f_X5_copyFrom
    have a1 : gR (HH A Z B Q P F q D c) l 5 0 = some (l + 1) := gR_of (h := HH A Z B Q P F q D c) (HC_get h2) rfl
    have h2' : HC (D.set (l + 1 - 77) (.inl (.int, 16, .inl (va_cpy (A 13) f 0 0 16)))) l = some (.inr (5, [.ref (l + 1), .ref (l + 2)])) := by rw [HC_ne (by omega) (by omega)]; exact h2
    have a2 : gR (HH A Z B Q P F q (D.set (l + 1 - 77) (.inl (.int, 16, .inl (va_cpy (A 13) f 0 0 16)))) c) l 5 1 = some (l + 2) := gR_of (h := HH A Z B Q P F q (D.set (l + 1 - 77) (.inl (.int, 16, .inl (va_cpy (A 13) f 0 0 16)))) c) (HC_get h2') rfl
    rw [gf_12_0, Option.bind_some, a1, Option.bind_some, show (0 : Int32) = nI 0 from rfl, show (16 : Int32) = nI 16 from rfl, cpI_of (h := HH A Z B Q P F q D c) (LLg_13 A Z B Q P F q D) (HC_get hf) (by decide) (by decide) (by decide) (by decide) (by decide), Option.bind_some, LL_set (by omega), gf_12_1, Option.bind_some, a2, Option.bind_some, cpI_of (h := HH A Z B Q P F q (D.set (l + 1 - 77) (.inl (.int, 16, .inl (va_cpy (A 13) f 0 0 16)))) c) (LLg_14 A Z B Q P F q _) (HC_get hg') (by decide) (by decide) (by decide) (by decide) (by decide), Option.bind_some, LL_set (by omega)]
  · rw [List.length_set, List.length_set]
  · refine ⟨h0, h1, ?_, ⟨_, by rw [HC_ne (by omega) (by omega)]; exact HC_se (by omega) hf, fun k hk => ?_⟩, ⟨_, HC_se (by omega) hg', fun k hk => ?_⟩⟩
    · rw [HC_ne (by omega) (by omega), HC_ne (by omega) (by omega)]
      exact h2
    · rw [pk_cpy_in (by omega) (by omega)]
      simp only [Nat.zero_add, Nat.sub_zero]
      exact (hLm k hk).1
    · rw [pk_cpy_in (by omega) (by omega)]
      simp only [Nat.zero_add, Nat.sub_zero]
      exact (hLm k hk).2
  · exact fun q2 t2 hj h => Hs_ne (by omega) (by omega) (Hs_ne (by omega) (by omega) h)
  · exact fun l2 j2 _ _ hj h => Lm_ne (by omega) (by omega) (Lm_ne (by omega) (by omega) h)
  · exact fun R hj h => RndOK_ne (by omega) (by omega) (by omega) (RndOK_ne (by omega) (by omega) (by omega) h)
theorem c_newLamps (hlen : 77 + D.length < 900000000) : ∃ E : List xC, E.length = 3 ∧ E[0]? = some (.inr (5, [.ref (77 + D.length + 1), .ref (77 + D.length + 2)])) ∧ E[1]? = some (.inl (.int, 16, .inl (fun j => if j < 16 then (-1) else 0))) ∧ E[2]? = some (.inl (.int, 16, .inl (fun _ => 0))) ∧ ((mkO (HH A Z B Q P F q D c) 5 2 [.null, .null]).bind fun h7 => f_X5_init h7 (77 + D.length)) = some (HH A Z B Q P F q (D ++ E) (c.1 + 3, c.2 + 34)) := by
  refine ⟨[.inr (5, [.ref (77 + D.length + 1), .ref (77 + D.length + 2)]), .inl (.int, 16, .inl (fun j => if j < 16 then (-1) else 0)), .inl (.int, 16, .inl (fun _ => 0))], rfl, rfl, rfl, rfl, ?_⟩
  have hL : (LL A Z B Q P F q ++ D).length = 77 + D.length := by rw [List.length_append, LL_len]
  have hx : xS0 = 1000000000 := rfl
  have mO : mkO (HH A Z B Q P F q D c) 5 2 [.null, .null] = some (HH A Z B Q P F q (D ++ [.inr (5, [.null, .null])]) (c.1 + 1, c.2 + 2)) := by
    unfold mkO
    rw [if_pos (by rw [hL]; omega)]
    show some (_, _, _) = some (_, _, _)
    rw [List.append_assoc]
  rw [mO, Option.bind_some]
  unfold f_X5_init
  have hn : ∀ (E : List xC), (HH A Z B Q P F q (D ++ E) c).1.length = 77 + D.length + E.length := fun E => by
    show (LL A Z B Q P F q ++ (D ++ E)).length = _
    rw [List.length_append, List.length_append, LL_len]
    omega
  have mI : ∀ (E : List xC) (c' : Nat × Nat), E.length < 10 → mkI (HH A Z B Q P F q (D ++ E) c') .int 16 = some (HH A Z B Q P F q (D ++ (E ++ [.inl (.int, 16, .inl (fun _ => 0))])) (c'.1 + 1, c'.2 + 16)) := fun E c' hE => by
    unfold mkI
    rw [if_pos ⟨by have := hn E; show (LL A Z B Q P F q ++ (D ++ E)).length < _; have h2 : (LL A Z B Q P F q ++ (D ++ E)).length = 77 + D.length + E.length := hn E; omega, by decide, by decide⟩]
    show some (_, _, _) = some (_, _, _)
    rw [List.append_assoc, List.append_assoc]
    rfl
  have pFF : ∀ (E : List xC) (c' : Nat × Nat) (fs : List Value) (k : Nat) (v : Value), E[0]? = some (.inr (5, fs)) → k < fs.length → pF (HH A Z B Q P F q (D ++ E) c') (77 + D.length) 5 k v = some (HH A Z B Q P F q (D ++ E.set 0 (.inr (5, fs.set k v))) c') := fun E c' fs k v h1 h2 => by
    have h3 : HC (D ++ E) (77 + D.length) = some (.inr (5, fs)) := by
      have := HC_new (D := D) (E := E) (j := 0)
      rw [Nat.add_zero] at this
      rw [this]
      exact h1
    rw [pF_of (h := HH A Z B Q P F q (D ++ E) c') (HC_get h3) h2, LL_set (by omega), Nat.add_sub_cancel_left, List.set_append_right _ _ (by omega), Nat.sub_self]
  have l1 : (HH A Z B Q P F q (D ++ [.inr (5, [.null, .null])]) (c.1 + 1, c.2 + 2)).1.length = 77 + D.length + 1 := hn _
  rw [mI _ _ (by decide), Option.bind_some, l1, pFF _ _ [.null, .null] 0 _ rfl (by decide), Option.bind_some]
  have l2 : (HH A Z B Q P F q (D ++ (([.inr (5, [.null, .null])] ++ [.inl (.int, 16, .inl (fun _ => 0))] : List xC).set 0 (.inr (5, [Value.null, .null].set 0 (.ref (77 + D.length + 1)))))) ((c.1 + 1, c.2 + 2).1 + 1, (c.1 + 1, c.2 + 2).2 + 16)).1.length = 77 + D.length + 2 := hn _
  have hE2 : (([.inr (5, [.null, .null])] ++ [.inl (.int, 16, .inl (fun _ => 0))] : List xC).set 0 (.inr (5, [Value.null, .null].set 0 (.ref (77 + D.length + 1))))).length < 10 := Nat.lt_of_lt_of_le (Nat.lt_succ_self 2) (by decide)
  rw [mI _ _ hE2, Option.bind_some, l2, pFF _ _ [.ref (77 + D.length + 1), .null] 1 _ rfl (Nat.lt_succ_self 1), Option.bind_some]
  have h4 : HC (D ++ [.inr (5, [.ref (77 + D.length + 1), .ref (77 + D.length + 2)]), .inl (.int, 16, .inl (fun _ => 0)), .inl (.int, 16, .inl (fun _ => 0))]) (77 + D.length) = some (.inr (5, [.ref (77 + D.length + 1), .ref (77 + D.length + 2)])) := by
    exact HC_new (D := D) (E := [.inr (5, [.ref (77 + D.length + 1), .ref (77 + D.length + 2)]), .inl (.int, 16, .inl (fun _ => 0)), .inl (.int, 16, .inl (fun _ => 0))]) (j := 0)
  have h5 : HC (D ++ [.inr (5, [.ref (77 + D.length + 1), .ref (77 + D.length + 2)]), .inl (.int, 16, .inl (fun _ => 0)), .inl (.int, 16, .inl (fun _ => 0))]) (77 + D.length + 1) = some (.inl (.int, 16, .inl (fun _ => 0))) := by
    rw [HC_new]
    rfl
  show ((gR (HH A Z B Q P F q (D ++ [.inr (5, [.ref (77 + D.length + 1), .ref (77 + D.length + 2)]), .inl (.int, 16, .inl (fun _ => 0)), .inl (.int, 16, .inl (fun _ => 0))]) (c.1 + 3, c.2 + 34)) (77 + D.length) 5 0).bind fun v5 => (f_J7_fill_53178 (HH A Z B Q P F q (D ++ [.inr (5, [.ref (77 + D.length + 1), .ref (77 + D.length + 2)]), .inl (.int, 16, .inl (fun _ => 0)), .inl (.int, 16, .inl (fun _ => 0))]) (c.1 + 3, c.2 + 34)) v5 (-1)).bind fun r6 => some r6) = _
  rw [gR_of (h := HH A Z B Q P F q _ _) (HC_get h4) rfl, Option.bind_some, fill_spec (HC_get h5) (by decide), Option.bind_some, LL_set (by omega), show 77 + D.length + 1 - 77 = D.length + 1 by omega, List.set_append_right _ _ (by omega), Nat.add_sub_cancel_left]
  rfl
end Img
section Img2
variable {A : Nat → Nat → Int32} {Z : Nat → Int32} {B : Nat → Nat → Int64} {Q : Nat → Int64} {P : Nat → Option Nat} {F : Nat → Nat → Option Nat} {q : Nat} {D : List xC} {c : Nat × Nat} {K : Nat → Nat} {tt lk lh : Nat → Nat} {R i : Nat}
theorem m_image {j : Nat} (hj : j < 3) : ∃ f, f_X12_image_38 xFU (HH A Z B Q P F q D c) 57 (nI j) (nI 0) = some (HH (upA A 59 f) Z B Q P F q D c) ∧ ∀ k, f k = if 480 * j ≤ k ∧ k < 480 * j + 480 then A 58 (k - 480 * j) else A 59 k := by
  have key := loop_J (F := fun n i (s : xH) => f_X12_image_38 n s 57 (nI j) (nI i)) (N := 480) some (fun i s => ∃ f, s = HH (upA A 59 f) Z B Q P F q D c ∧ ∀ k, f k = if 480 * j ≤ k ∧ k < 480 * j + i then A 58 (k - 480 * j) else A 59 k) (fun n i s hi hs => ?_) (fun n s hs => ?_) (by omega) (s := HH A Z B Q P F q D c) ⟨A 59, by rw [y_ua], fun k => by rw [if_neg (by omega)]⟩
  · obtain ⟨s, e1, f, e2, hf⟩ := key
    exact ⟨f, by rw [← e2]; exact e1, hf⟩
  · obtain ⟨f, rfl, hf⟩ := hs
    refine ⟨_, ?_, va_up f (480 * j + i) (A 58 i), rfl, fun k => ?_⟩
    · simp (disch := omega) only [f_X12_image_38, if_true, if_false, Bool.false_eq_true, Bool.true_eq_false, y_lit, y_m1, nI_add, pk_mul, fa_and, fa_or, y_bs, if_pos, if_neg, y_shl, y_shr, y_le, y_lt, y_eq, y_sub, y_dv, y_rm, y_b0, y_b1, y_sdf, y_ltM, y_Mlt, y_leM, y_Mle, y_eqM, y_Meq, s_e1, s_e2, s_e3, s_e4, s_e5, s_e6, gf_57_0, gf_57_1, ld_58, st_59, y_us, y_un, y_vs, y_vn, y_uu, y_vv, ne_eq, not_false_eq_true, not_true_eq_false]
    · unfold va_up
      by_cases e : k = 480 * j + i
      · rw [if_pos e, if_pos (by omega), e, Nat.add_sub_cancel_left]
      · rw [if_neg e, hf k]
        by_cases h : 480 * j ≤ k ∧ k < 480 * j + i
        · rw [if_pos h, if_pos (by omega)]
        · rw [if_neg h, if_neg (by omega)]
  · obtain ⟨f, rfl, hf⟩ := hs
    simp (disch := omega) only [f_X12_image_38, if_true, if_false, Bool.false_eq_true, Bool.true_eq_false, y_lit, y_m1, nI_add, pk_mul, fa_and, fa_or, y_bs, if_pos, if_neg, y_shl, y_shr, y_le, y_lt, y_eq, y_sub, y_dv, y_rm, y_b0, y_b1, y_sdf, y_ltM, y_Mlt, y_leM, y_Mle, y_eqM, y_Meq, s_e1, s_e2, s_e3, s_e4, s_e5, s_e6]
theorem m_restore {j : Nat} (hj : j < 3) : ∃ f, f_X12_restore_44 xFU (HH A Z B Q P F q D c) 57 (nI j) (nI 0) = some (HH (upA A 58 f) Z B Q P F q D c) ∧ ∀ k, k < 480 → f k = A 59 (480 * j + k) := by
  have key := loop_J (F := fun n i (s : xH) => f_X12_restore_44 n s 57 (nI j) (nI i)) (N := 480) some (fun i s => ∃ f, s = HH (upA A 58 f) Z B Q P F q D c ∧ ∀ k, k < i → f k = A 59 (480 * j + k)) (fun n i s hi hs => ?_) (fun n s hs => ?_) (by omega) (s := HH A Z B Q P F q D c) ⟨A 58, by rw [y_ua], fun k hk => by omega⟩
  · obtain ⟨s, e1, f, e2, hf⟩ := key
    exact ⟨f, by rw [← e2]; exact e1, hf⟩
  · obtain ⟨f, rfl, hf⟩ := hs
    refine ⟨_, ?_, va_up f i (A 59 (480 * j + i)), rfl, fun k hk => ?_⟩
    · simp (disch := omega) only [f_X12_restore_44, if_true, if_false, Bool.false_eq_true, Bool.true_eq_false, y_lit, y_m1, nI_add, pk_mul, fa_and, fa_or, y_bs, if_pos, if_neg, y_shl, y_shr, y_le, y_lt, y_eq, y_sub, y_dv, y_rm, y_b0, y_b1, y_sdf, y_ltM, y_Mlt, y_leM, y_Mle, y_eqM, y_Meq, s_e1, s_e2, s_e3, s_e4, s_e5, s_e6, gf_57_0, gf_57_1, ld_59, st_58, y_us, y_un, y_vs, y_vn, y_uu, y_vv, ne_eq, not_false_eq_true, not_true_eq_false]
    · by_cases e : k = i
      · subst e
        rw [y_vs]
      · rw [y_vn e]
        exact hf k (by omega)
  · obtain ⟨f, rfl, hf⟩ := hs
    simp (disch := omega) only [f_X12_restore_44, if_true, if_false, Bool.false_eq_true, Bool.true_eq_false, y_lit, y_m1, nI_add, pk_mul, fa_and, fa_or, y_bs, if_pos, if_neg, y_shl, y_shr, y_le, y_lt, y_eq, y_sub, y_dv, y_rm, y_b0, y_b1, y_sdf, y_ltM, y_Mlt, y_leM, y_Mle, y_eqM, y_Meq, s_e1, s_e2, s_e3, s_e4, s_e5, s_e6]
theorem Told_ext {f g : Nat → Int32} (h : Told f tt lk lh) (e : ∀ k, k < 480 → g k = f k) : Told g tt lk lh := by
  obtain ⟨h1, h2, h3⟩ := h
  exact ⟨fun k hk => by rw [e k (by omega)]; exact h1 k hk, fun r hr => by rw [e _ (by omega)]; exact h2 r hr, fun r hr => by rw [e _ (by omega)]; exact h3 r hr⟩
theorem m_imageCall {j : Nat} (hj : j < 3) : ∃ f, f_X12_image (HH A Z B Q P F q D c) 57 (nI j) = some (HH (upA (upA A 61 (va_up (A 61) j 1)) 59 f) (upA Z 18 (nI 0)) B Q P F q D c) ∧ ∀ k, f k = if 480 * j ≤ k ∧ k < 480 * j + 480 then A 58 (k - 480 * j) else A 59 k := by
  obtain ⟨f, e1, hf⟩ := m_image (A := upA A 61 (va_up (A 61) j 1)) (Z := upA Z 18 (nI 0)) (B := B) (Q := Q) (P := P) (F := F) (q := q) (D := D) (c := c) hj
  refine ⟨f, ?_, hf⟩
  have hx : rk (nI j) 3 = true := rk_k hj (by decide)
  unfold f_X12_image f_X12_image_18
  rw [m_w3, Option.bind_some, hx, if_neg (by decide), pf_57_4, Option.bind_some, gf_57_4, Option.bind_some, y_us, if_pos (by decide), gf_57_3, Option.bind_some, show vp_nar .boolean (1 : Int32) = 1 from by decide, st_61 hj, Option.bind_some]
  exact e1
theorem m_imageThrow {x : Int32} (hx : rk x 3 = false) : f_X12_image (HH A Z B Q P F q D c) 57 x = some (HH A (upA Z 18 (nI 1)) B Q P F q D c) := by
  unfold f_X12_image f_X12_image_18
  rw [m_w3, Option.bind_some, hx, if_pos (by decide), pf_57_4, Option.bind_some, gf_57_4, Option.bind_some, y_us, if_neg (by decide)]
  rfl
end Img2
