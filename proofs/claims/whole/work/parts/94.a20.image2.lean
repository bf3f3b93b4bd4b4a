section Img3
variable {A : Nat → Nat → Int32} {Z : Nat → Int32} {B : Nat → Nat → Int64} {Q : Nat → Int64} {P : Nat → Option Nat} {F : Nat → Nat → Option Nat} {q : Nat} {D : List xC} {c : Nat × Nat} {K : Nat → Nat} {tt lk lh : Nat → Nat} {R i : Nat}
theorem c_image30 {j l : Nat} (hj : j < 3) {lk0 lh0 : Nat → Nat} (H : Hs K D q tt) (hLm : Lam (A 13) (A 14) lk lh) (hL : Lm K D l j lk0 lh0) : ∃ D', f_X11_image_30 (HH A Z B Q P F q D c) 0 (nI j) l = some (.inr (HH A Z B Q P (upA F 15 (va_up (F 15) j (some q))) q D' c)) ∧ D'.length = D.length ∧ Lm K D' l j lk lh ∧ (∀ q tt, Hs K D q tt → Hs K D' q tt) ∧ (∀ l2 j2 lk2 lh2, j2 ≠ j → Lm K D l2 j2 lk2 lh2 → Lm K D' l2 j2 lk2 lh2) ∧ (∀ R, RndOK K P D R → RndOK K P D' R) := by
  obtain ⟨D', e1, h1, h2, h3, h4, h5⟩ := c_copyTo (A := A) (Z := Z) (B := B) (Q := Q) (P := P) (F := F) (q := q) (c := c) hL hLm
  refine ⟨D', ?_, h1, h2, fun q tt h => h3 q tt hj h, h4, fun R h => h5 R hj h⟩
  unfold f_X11_image_30
  rw [gf_0_5, Option.bind_some, gO_of (h := HH A Z B Q P F q D c) (HC_get hL.2.2.1), Option.bind_some, e1, Option.bind_some, gf_0_6, Option.bind_some, gf_0_4, Option.bind_some, st_15N hj (hs_gO (h3 q tt hj H)), Option.bind_some]
theorem c_imageCall {j : Nat} (hj : j < 3) (hlen : 77 + D.length < 900000000) (H : Hs K D q tt) (hLm : Lam (A 13) (A 14) lk lh) (hF : F 16 j = none ∨ ∃ l lk0 lh0, F 16 j = some l ∧ Lm K D l j lk0 lh0) : ∃ K' D' c' l, f_L_image (HH A Z B Q P F q D c) 0 (nI j) = some (nI 0, HH A Z B Q P (upA (upA F 16 (va_up (F 16) j (some l))) 15 (va_up (F 15) j (some q))) q D' c') ∧ Lm K' D' l j lk lh ∧ (∀ q tt, Hs K D q tt → Hs K' D' q tt) ∧ (∀ l2 j2 lk2 lh2, j2 ≠ j → Lm K D l2 j2 lk2 lh2 → Lm K' D' l2 j2 lk2 lh2) ∧ (∀ R, RndOK K P D R → RndOK K' P D' R) ∧ c'.1 + D.length = c.1 + D'.length ∧ c'.1 ≤ c.1 + 3 ∧ c'.2 ≤ c.2 + 34 := by
  have hx : rk (nI j) 3 = true := rk_k hj (by decide)
  rcases hF with hF | ⟨l, lk0, lh0, hF, hL⟩
  · obtain ⟨E, hE, E0, E1, E2, e1⟩ := c_newLamps (A := A) (Z := Z) (B := B) (Q := Q) (P := P) (F := F) (q := q) (c := c) hlen
    have hK : ∀ k, k < 77 + D.length → (fun k => if 77 + D.length ≤ k then j + 1 else K k) k = K k := fun k hk => if_neg (by omega)
    have n0 : HC (D ++ E) (77 + D.length) = some (.inr (5, [.ref (77 + D.length + 1), .ref (77 + D.length + 2)])) := (HC_new (j := 0)).trans E0
    have n1 : HC (D ++ E) (77 + D.length + 1) = _ := (HC_new (j := 1)).trans E1
    have n2 : HC (D ++ E) (77 + D.length + 2) = _ := (HC_new (j := 2)).trans E2
    have hL : Lm (fun k => if 77 + D.length ≤ k then j + 1 else K k) (D ++ E) (77 + D.length) j (fun _ => 0) (fun _ => 0) := ⟨by omega, fun k _ => if_pos (by omega), n0, ⟨_, n1, fun k hk => if_pos hk⟩, ⟨_, n2, fun k hk => rfl⟩⟩
    have H2 : ∀ q tt, Hs K D q tt → Hs (fun k => if 77 + D.length ≤ k then j + 1 else K k) (D ++ E) q tt := fun q tt h => Hs_app (Hs_K hK h)
    obtain ⟨D', e2, h1, h2, h3, h4, h5⟩ := c_image30 (A := A) (Z := Z) (B := B) (Q := Q) (P := P) (F := upA F 16 (va_up (F 16) j (some (77 + D.length)))) (c := (c.1 + 3, c.2 + 34)) hj (H2 q tt H) hLm hL
    refine ⟨_, D', (c.1 + 3, c.2 + 34), 77 + D.length, ?_, h2, fun q tt h => h3 q tt (H2 q tt h), fun l2 j2 _ _ hj2 h => h4 l2 j2 _ _ hj2 (Lm_app (Lm_K hK h)), fun R h => h5 R (DokR_app P R (RndOK_K hK h)), ?_, Nat.le_refl _, Nat.le_refl _⟩
    · have hl : (HH A Z B Q P F q D c).1.length = 77 + D.length := by
        show (LL A Z B Q P F q ++ D).length = _
        rw [List.length_append, LL_len]
      have e3 : ((mkO (HH A Z B Q P F q D c) 5 2 [.null, .null]).bind fun h7 => (f_X5_init h7 (77 + D.length)).bind fun r8 => (gR r8 0 11 7).bind fun v9 => (stN r8 "LitNextDoor$Lamps" 5 v9 (nI j) (77 + D.length)).bind fun h10 => f_X11_image_30 h10 0 (nI j) (77 + D.length)) = ((mkO (HH A Z B Q P F q D c) 5 2 [.null, .null]).bind fun h7 => f_X5_init h7 (77 + D.length)).bind fun r8 => (gR r8 0 11 7).bind fun v9 => (stN r8 "LitNextDoor$Lamps" 5 v9 (nI j) (77 + D.length)).bind fun h10 => f_X11_image_30 h10 0 (nI j) (77 + D.length) := by
        rw [Option.bind_assoc]
      unfold f_L_image f_X11_image
      rw [gO_0, Option.bind_some, c_checkImage, Option.bind_some, hx, if_pos rfl]
      simp only
      rw [gf_0_7, Option.bind_some, ld_16 hj, Option.bind_some, hF]
      simp only
      rw [hl, e3, e1, Option.bind_some, gf_0_7, Option.bind_some, st_16N hj (gO_of (h := HH A Z B Q P F q (D ++ E) (c.1 + 3, c.2 + 34)) (HC_get n0)), Option.bind_some, e2, Option.bind_some]
      rfl
    · rw [h1, List.length_append, hE]
      omega
  · obtain ⟨D', e2, h1, h2, h3, h4, h5⟩ := c_image30 (A := A) (Z := Z) (B := B) (Q := Q) (P := P) (F := F) (c := c) hj H hLm hL
    have eF : va_up (F 16) j (some l) = F 16 := by
      funext k
      unfold va_up
      split
      · rename_i e; rw [e, hF]
      · rfl
    refine ⟨K, D', c, l, ?_, h2, h3, h4, h5, by rw [h1], by omega, by omega⟩
    rw [eF, y_ua]
    unfold f_L_image f_X11_image
    rw [gO_0, Option.bind_some, c_checkImage, Option.bind_some, hx, if_pos rfl]
    simp only
    rw [gf_0_7, Option.bind_some, ld_16 hj, Option.bind_some, hF]
    simp only
    rw [e2, Option.bind_some]
    rfl
end Img3
theorem ok_image : ∀ x0, MV (fun h => f_L_image h 0 x0) (fun h => f_X12_image h 57 x0) := by
  intro x h i hJ hi
  obtain ⟨K, A, Z, B, Q, P, F, q, D, c, tt, lk, lh, R, rfl, hI⟩ := hJ
  cases hx : rk x 3
  · refine MV_t hI (k := 1) ?_ (m_imageThrow hx) (oZ18 (nI 1)) rfl
    unfold f_L_image f_X11_image
    simp (disch := omega) only [if_true, if_false, Bool.false_eq_true, Bool.true_eq_false, y_lit, y_m1, nI_add, pk_mul, fa_and, fa_or, y_bs, if_pos, if_neg, y_shl, y_shr, y_le, y_lt, y_eq, y_sub, y_dv, y_rm, y_b0, y_b1, y_sdf, y_ltM, y_Mlt, y_leM, y_Mle, y_eqM, y_Meq, s_e1, s_e2, s_e3, s_e4, s_e5, s_e6, gO_0, c_checkImage, hx]
  · obtain ⟨j, hj, rfl⟩ := rk_t (by decide) hx
    obtain ⟨⟨a1, a2, a3, a4, a5⟩, ⟨b1, b2, b3, b4⟩, ⟨p1, p2, p3⟩, ⟨z1, z2, z3, z4⟩, r1, r2, r3, r4⟩ := hI
    have hF : F 16 j = none ∨ ∃ l lk0 lh0, F 16 j = some l ∧ Lm K D l j lk0 lh0 := by
      rcases b1 j hj with ⟨_, _, h⟩ | ⟨_, qi, li, tti, lki, lhi, _, h, _, _, _, h2, _⟩
      · exact Or.inl h
      · exact Or.inr ⟨li, lki, lhi, h, h2⟩
    obtain ⟨K', D', c', l, e1, h2, h3, h4, h5, d1, d2, d3⟩ := c_imageCall (A := A) (Z := Z) (B := B) (Q := Q) (P := P) (F := F) (c := c) hj (by omega) a1 a5 hF
    obtain ⟨f, e2, hf⟩ := m_imageCall (A := A) (Z := Z) (B := B) (Q := Q) (P := P) (F := upA (upA F 16 (va_up (F 16) j (some l))) 15 (va_up (F 15) j (some q))) (q := q) (D := D') (c := c') hj
    refine ⟨nI 0, _, _, e1, ⟨_, _, _, _, _, _, _, _, _, rfl⟩, e2, gf_57_4, K', upA (upA A 61 (va_up (A 61) j 1)) 59 f, upA Z 18 (nI 0), B, Q, P, _, q, D', c', tt, lk, lh, R, rfl, ⟨h3 _ _ a1, a2, a3, a4, a5⟩, ⟨fun k hk => ?_, b2, b3, b4⟩, ⟨Plan_D h3 rfl rfl (fun k k1 k2 => y_un (by omega)) p1, Sav_D h3 rfl rfl rfl rfl rfl p2, h5 R p3⟩, ⟨z1, z2, z3, z4⟩, r1, by omega, by omega, by omega⟩
    by_cases e : k = j
    · subst e
      right
      refine ⟨if_pos rfl, q, l, tt, lk, lh, if_pos rfl, if_pos rfl, h3 _ _ a1, a2, a3, h2, Told_ext a4 (fun m hm => ?_)⟩
      show f (480 * k + m) = A 58 m
      rw [hf, if_pos (by omega), Nat.add_sub_cancel_left]
    · rcases b1 k hk with ⟨u1, u2, u3⟩ | ⟨u0, qi, li, tti, lki, lhi, u1, u2, u3, u4, u5, u6, u7⟩
      · left
        exact ⟨(y_vn e).trans u1, (y_vn e).trans u2, (y_vn e).trans u3⟩
      · right
        refine ⟨(y_vn e).trans u0, qi, li, tti, lki, lhi, (y_vn e).trans u1, (y_vn e).trans u2, h3 _ _ u3, u4, u5, h4 _ _ _ _ e u6, Told_ext u7 (fun m hm => ?_)⟩
        show f (480 * k + m) = A 59 (480 * k + m)
        rw [hf, if_neg (by omega)]
section Rst
variable {A : Nat → Nat → Int32} {Z : Nat → Int32} {B : Nat → Nat → Int64} {Q : Nat → Int64} {P : Nat → Option Nat} {F : Nat → Nat → Option Nat} {q : Nat} {D : List xC} {c : Nat × Nat} {K : Nat → Nat} {tt lk lh : Nat → Nat} {R i : Nat}
theorem c_copyBack {l j : Nat} (hL : Lm K D l j lk lh) : ∃ f g, f_X5_copyFrom (HH A Z B Q P F q D c) 12 l = some (HH (upA (upA A 13 f) 14 g) Z B Q P F q D c) ∧ Lam f g lk lh := by
  obtain ⟨h0, h1, h2, ⟨f, hf, hf2⟩, ⟨g, hg, hg2⟩⟩ := hL
  refine ⟨va_cpy f (A 13) 0 0 16, va_cpy g (A 14) 0 0 16, ?_, fun k hk => ⟨?_, ?_⟩⟩
  · unfold f_X5_copyFrom
    have a1 : ∀ A', gR (HH A' Z B Q P F q D c) l 5 0 = some (l + 1) := fun A' => gR_of (h := HH A' Z B Q P F q D c) (HC_get h2) rfl
    have a2 : ∀ A', gR (HH A' Z B Q P F q D c) l 5 1 = some (l + 2) := fun A' => gR_of (h := HH A' Z B Q P F q D c) (HC_get h2) rfl
    rw [a1, Option.bind_some, gf_12_0, Option.bind_some, show (0 : Int32) = nI 0 from rfl, show (16 : Int32) = nI 16 from rfl, cpI_of (h := HH A Z B Q P F q D c) (HC_get hf) (LLg_13 A Z B Q P F q D) (by decide) (by decide) (by decide) (by decide) (by decide), Option.bind_some, LLs_13, a2, Option.bind_some, gf_12_1, Option.bind_some, cpI_of (h := HH (upA A 13 (va_cpy f (A 13) 0 0 16)) Z B Q P F q D c) (HC_get hg) (LLg_14 (upA A 13 (va_cpy f (A 13) 0 0 16)) Z B Q P F q D) (by decide) (by decide) (by decide) (by decide) (by decide), Option.bind_some, LLs_14]
    rfl
  · rw [pk_cpy_in (by omega) (by omega)]
    simp only [Nat.zero_add, Nat.sub_zero]
    exact hf2 k hk
  · rw [pk_cpy_in (by omega) (by omega)]
    simp only [Nat.zero_add, Nat.sub_zero]
    exact hg2 k hk
end Rst
theorem ok_restore : ∀ x0, MV (fun h => f_L_restore h 0 x0) (fun h => f_X12_restore h 57 x0) := by
  intro x h i hJ hi
  obtain ⟨K, A, Z, B, Q, P, F, q, D, c, tt, lk, lh, R, rfl, hI⟩ := hJ
  cases hx : rk x 3
  · refine MV_t hI (k := 1) ?_ ?_ (oZ18 (nI 1)) rfl
    · unfold f_L_restore f_X11_restore
      simp (disch := omega) only [if_true, if_false, Bool.false_eq_true, Bool.true_eq_false, y_lit, y_m1, nI_add, pk_mul, fa_and, fa_or, y_bs, if_pos, if_neg, y_shl, y_shr, y_le, y_lt, y_eq, y_sub, y_dv, y_rm, y_b0, y_b1, y_sdf, y_ltM, y_Mlt, y_leM, y_Mle, y_eqM, y_Meq, s_e1, s_e2, s_e3, s_e4, s_e5, s_e6, gO_0, c_checkImage, hx]
    · show f_X12_restore (HH A Z B Q P F q D (c.1 + 1, c.2 + 6)) 57 x = _
      unfold f_X12_restore f_X12_restore_31
      rw [m_w3, Option.bind_some, hx, if_pos (by decide), pf_57_4, Option.bind_some, gf_57_4, Option.bind_some, y_us, if_neg (by decide)]
      rfl
  · obtain ⟨j, hj, rfl⟩ := rk_t (by decide) hx
    rcases hI.2.1.1 j hj with ⟨u1, u2, u3⟩ | ⟨u0, qi, li, tti, lki, lhi, u1, u2, u3, u4, u5, u6, u7⟩
    · refine MV_t hI (k := 2) ?_ ?_ (oZ18 (nI 2)) rfl
      · unfold f_L_restore f_X11_restore f_X11_restore_26
        simp (disch := omega) only [if_true, if_false, Bool.false_eq_true, Bool.true_eq_false, y_lit, y_m1, nI_add, pk_mul, fa_and, fa_or, y_bs, if_pos, if_neg, y_shl, y_shr, y_le, y_lt, y_eq, y_sub, y_dv, y_rm, y_b0, y_b1, y_sdf, y_ltM, y_Mlt, y_leM, y_Mle, y_eqM, y_Meq, s_e1, s_e2, s_e3, s_e4, s_e5, s_e6, gO_0, c_checkImage, hx, gf_0_6, gf_0_7, ld_15, ld_16, u2, u3, thr_HH]
      · show f_X12_restore (HH A Z B Q P F q D (c.1 + 1, c.2 + 6)) 57 (nI j) = _
        unfold f_X12_restore f_X12_restore_31
        rw [m_w3, Option.bind_some, hx, if_neg (by decide), gf_57_3, Option.bind_some, ld_61 hj, Option.bind_some, u1, if_pos rfl, pf_57_4, Option.bind_some, gf_57_4, Option.bind_some, y_us, if_neg (by decide)]
        rfl
    · obtain ⟨⟨a1, a2, a3, a4, a5⟩, ⟨b1, b2, b3, b4⟩, ⟨p1, p2, p3⟩, ⟨z1, z2, z3, z4⟩, r1, r2, r3, r4⟩ := hI
      obtain ⟨f, g, e1, h1⟩ := c_copyBack (A := A) (Z := Z) (B := B) (Q := Q) (P := P) (F := F) (q := qi) (c := c) u6
      obtain ⟨t, e2, h2⟩ := m_restore (A := upA (upA A 13 f) 14 g) (Z := upA Z 18 (nI 0)) (B := B) (Q := Q) (P := P) (F := F) (q := qi) (D := D) (c := c) hj
      refine ⟨nI 0, HH (upA (upA A 13 f) 14 g) Z B Q P F qi D c, HH (upA (upA (upA A 13 f) 14 g) 58 t) (upA Z 18 (nI 0)) B Q P F qi D c, ?_, ⟨_, _, _, _, _, _, _, _, _, rfl⟩, ?_, gf_57_4, K, _, _, B, Q, P, F, qi, D, c, tti, lki, lhi, R, rfl, ⟨u3, u4, u5, Told_ext u7 h2, h1⟩, ⟨Img_D (fun _ _ h => h) (fun _ _ _ _ _ h => h) rfl rfl b1, b2, b3, b4⟩, ⟨Plan_D (fun _ _ h => h) rfl rfl (fun k k1 k2 => y_un (by omega)) p1, Sav_D (fun _ _ h => h) rfl rfl rfl rfl rfl p2, p3⟩, ⟨z1, z2, z3, z4⟩, r1, r2, by omega, by omega⟩
      · show f_L_restore (HH A Z B Q P F q D c) 0 (nI j) = _
        unfold f_L_restore f_X11_restore
        simp (disch := omega) only [if_true, if_false, Bool.false_eq_true, Bool.true_eq_false, y_lit, y_m1, nI_add, pk_mul, fa_and, fa_or, y_bs, if_pos, if_neg, y_shl, y_shr, y_le, y_lt, y_eq, y_sub, y_dv, y_rm, y_b0, y_b1, y_sdf, y_ltM, y_Mlt, y_leM, y_Mle, y_eqM, y_Meq, s_e1, s_e2, s_e3, s_e4, s_e5, s_e6, gO_0, c_checkImage, hx, gf_0_6, gf_0_7, ld_15, ld_16, u1, u2, pf_0_4, gf_0_5, gO_12, e1]
      · show f_X12_restore (HH (upA (upA A 13 f) 14 g) Z B Q P F qi D c) 57 (nI j) = _
        have u0' : upA (upA A 13 f) 14 g 61 j = 1 := u0
        unfold f_X12_restore f_X12_restore_31
        rw [m_w3, Option.bind_some, hx, if_neg (by decide), gf_57_3, Option.bind_some, ld_61 hj, Option.bind_some, u0', if_neg (by decide), pf_57_4, Option.bind_some, gf_57_4, Option.bind_some, y_us, if_pos (by decide)]
        exact e2
