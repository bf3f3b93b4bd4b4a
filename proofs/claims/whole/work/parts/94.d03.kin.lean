/-! ===== Kindled: shine, lay ===== -/
section Kin
variable {A : Nat → Nat → Int32} {Z : Nat → Int32} {B : Nat → Nat → Int64} {Q : Nat → Int64} {P : Nat → Option Nat} {F : Nat → Nat → Option Nat} {q : Nat} {D : List xC} {c : Nat × Nat} {K : Nat → Nat} {tt lk lh : Nat → Nat} {R i : Nat} {Lf Mf W S X : Nat → Nat} {wc : Nat}
theorem c_brightK (H : Hs K D q tt) (hW : HWf tt) {q' k : Nat} (hk : k < tt 3) : f_X3_brightOf (HH A Z B Q P F q' D c) q (nI k) = some (nI (tt (248 + 2 * k))) := by
  have h2 := hW.ki
  simp (disch := omega) only [f_X3_brightOf, if_true, if_false, Bool.false_eq_true, Bool.true_eq_false, y_lit, y_m1, nI_add, pk_mul, fa_and, fa_or, y_bs, if_pos, if_neg, y_shl, y_shr, y_le, y_lt, y_eq, y_sub, y_dv, y_rm, y_b0, y_b1, y_sdf, y_ltM, y_Mlt, y_leM, y_Mle, y_eqM, y_Meq, s_e1, s_e2, s_e3, s_e4, s_e5, s_e6, hs_4 H, hs_8 H, hs_k0 H]
theorem ix16 {a r x y : Nat} (hr : r < 16) (hy : y < 16) : a * 16 + r = x * 16 + y ↔ a = x ∧ r = y := by omega
theorem c_shine0 (H : Hs K D q tt) (hW : HWf tt) {q' k : Nat} (hk : k < tt 3) (hA : ∀ j, j < 256 → A 34 j = nI 0) : ∃ f, f_X3_shineOf (HH A Z B Q P F q' D c) q (nI k) 34 (nI 0) = some (HH (upA A 34 f) Z B Q P F q' D c) ∧ ∀ a r, a < 16 → r < 16 → f (a * 16 + r) = nI (GG tt (tt (248 + 2 * k)) a r) := by
  have hpa := hW.pa
  have hro := hW.ro
  have hb := (hW.kind hk).2.1
  generalize hbb : tt (248 + 2 * k) = b at hb
  unfold f_X3_shineOf
  have key := loop_J (F := fun n j (s : xH) => f_X3_shineOf_3 n s q (nI k) 34 (nI 0) (nI j)) (N := tt 2) some (fun j s => ∃ f, s = HH (upA A 34 f) Z B Q P F q' D c ∧ ∀ a r, a < 16 → r < 16 → f (a * 16 + r) = nI (fb_sm (gg tt b a r) j)) (fun n j s hj hs => ?_) (fun n s hs => ?_) (by omega) (s := HH A Z B Q P F q' D c) ⟨A 34, by rw [y_ua], fun a r ha hr => hA _ (by omega)⟩
  · obtain ⟨s, e1, f, e2, hf⟩ := key
    exact ⟨f, by rw [← e2]; exact e1, hf⟩
  · obtain ⟨f, rfl, hf⟩ := hs
    obtain ⟨b1, b2, b3, b4, b5, b6⟩ := hW.pane hj
    have m1 : b * pL0 tt j ≤ 999 * 100 := Nat.mul_le_mul hb b5
    have eg : ∀ a r, gg tt b a r j = (if tt (8 + 4 * j) = a ∧ tt (8 + 4 * j + 1) = r then b * tt (8 + 4 * j + 2) / 100 else 0) + (if tt (8 + 4 * j + 3) = 1 ∧ tt (8 + 4 * j + 1) = a ∧ tt (8 + 4 * j) = r then b * tt (8 + 4 * j + 2) / 100 else 0) := fun a r => rfl
    simp only [pF0, pT0, pL0, pB0] at b1 b2 b3 b4 b5 b6 m1
    have ebk := c_brightK (A := upA A 34 f) (Z := Z) (B := B) (Q := Q) (P := P) (F := F) (c := c) H hW (q' := q') hk
    rw [hbb] at ebk
    have f1 := hf (tt (8 + 4 * j)) (tt (8 + 4 * j + 1)) (by omega) (by omega)
    by_cases h2 : tt (8 + 4 * j + 3) = 1
    · refine ⟨HH (upA A 34 (va_up (va_up f (tt (8 + 4 * j) * 16 + tt (8 + 4 * j + 1)) (f (tt (8 + 4 * j) * 16 + tt (8 + 4 * j + 1)) + nI (b * tt (8 + 4 * j + 2) / 100))) (tt (8 + 4 * j + 1) * 16 + tt (8 + 4 * j)) (f (tt (8 + 4 * j + 1) * 16 + tt (8 + 4 * j)) + nI (b * tt (8 + 4 * j + 2) / 100)))) Z B Q P F q' D c, ?_, _, rfl, fun a r ha hr => ?_⟩
      · have hne : tt (8 + 4 * j + 1) * 16 + tt (8 + 4 * j) ≠ tt (8 + 4 * j) * 16 + tt (8 + 4 * j + 1) := fun h => by
          have := (ix16 (by omega) (by omega)).mp h
          omega
        simp (disch := omega) only [f_X3_shineOf_3, if_true, if_false, Bool.false_eq_true, Bool.true_eq_false, y_lit, y_m1, nI_add, pk_mul, fa_and, fa_or, y_bs, if_pos, if_neg, y_shl, y_shr, y_le, y_lt, y_eq, y_sub, y_dv, y_rm, y_b0, y_b1, y_sdf, y_ltM, y_Mlt, y_leM, y_Mle, y_eqM, y_Meq, s_e1, s_e2, s_e3, s_e4, s_e5, s_e6, hs_3 H, hs_7 H, hs_p0 H, hs_p1 H, hs_p2 H, hs_p3 H, hs_gO H, ebk, ld_34, st_34, h2, y_us, y_un, y_vs, y_vn, y_uu, y_vv, ne_eq, not_false_eq_true, not_true_eq_false, Nat.zero_add, hne]
      · rw [fb_sm_succ, eg]
        have f2 := hf a r ha hr
        by_cases e2 : a * 16 + r = tt (8 + 4 * j + 1) * 16 + tt (8 + 4 * j)
        · obtain ⟨x1, x2⟩ := (ix16 hr (by omega)).mp e2
          rw [e2, y_vs, ← e2, f2, nI_add, if_neg (by omega), if_pos ⟨h2, x1.symm, x2.symm⟩, Nat.zero_add]
        · rw [y_vn e2]
          by_cases e1 : a * 16 + r = tt (8 + 4 * j) * 16 + tt (8 + 4 * j + 1)
          · obtain ⟨x1, x2⟩ := (ix16 hr (by omega)).mp e1
            rw [e1, y_vs, ← e1, f2, nI_add, if_pos ⟨x1.symm, x2.symm⟩, if_neg (by omega)]
            rfl
          · rw [y_vn e1, f2, if_neg (fun h => e1 (by rw [h.1, h.2])), if_neg (fun h => e2 (by rw [h.2.1, h.2.2])), Nat.add_zero]
    · refine ⟨HH (upA A 34 (va_up f (tt (8 + 4 * j) * 16 + tt (8 + 4 * j + 1)) (f (tt (8 + 4 * j) * 16 + tt (8 + 4 * j + 1)) + nI (b * tt (8 + 4 * j + 2) / 100)))) Z B Q P F q' D c, ?_, _, rfl, fun a r ha hr => ?_⟩
      · simp (disch := omega) only [f_X3_shineOf_3, if_true, if_false, Bool.false_eq_true, Bool.true_eq_false, y_lit, y_m1, nI_add, pk_mul, fa_and, fa_or, y_bs, if_pos, if_neg, y_shl, y_shr, y_le, y_lt, y_eq, y_sub, y_dv, y_rm, y_b0, y_b1, y_sdf, y_ltM, y_Mlt, y_leM, y_Mle, y_eqM, y_Meq, s_e1, s_e2, s_e3, s_e4, s_e5, s_e6, hs_3 H, hs_7 H, hs_p0 H, hs_p1 H, hs_p2 H, hs_p3 H, hs_gO H, ebk, ld_34, st_34, y_us, y_un, y_vs, y_vn, y_uu, y_vv, ne_eq, not_false_eq_true, not_true_eq_false, Nat.zero_add]
      · rw [fb_sm_succ, eg]
        have f2 := hf a r ha hr
        rw [if_neg (c := tt (8 + 4 * j + 3) = 1 ∧ tt (8 + 4 * j + 1) = a ∧ tt (8 + 4 * j) = r) (fun h => h2 h.1)]
        by_cases e1 : a * 16 + r = tt (8 + 4 * j) * 16 + tt (8 + 4 * j + 1)
        · obtain ⟨x1, x2⟩ := (ix16 hr (by omega)).mp e1
          rw [e1, y_vs, ← e1, f2, nI_add, if_pos ⟨x1.symm, x2.symm⟩]
          rfl
        · rw [y_vn e1, f2, if_neg (fun h => e1 (by rw [h.1, h.2]))]
          rfl
  · obtain ⟨f, rfl, hf⟩ := hs
    simp (disch := omega) only [f_X3_shineOf_3, if_true, if_false, Bool.false_eq_true, Bool.true_eq_false, y_lit, y_m1, nI_add, pk_mul, fa_and, fa_or, y_bs, if_pos, if_neg, y_shl, y_shr, y_le, y_lt, y_eq, y_sub, y_dv, y_rm, y_b0, y_b1, y_sdf, y_ltM, y_Mlt, y_leM, y_Mle, y_eqM, y_Meq, s_e1, s_e2, s_e3, s_e4, s_e5, s_e6, hs_3 H]
/-- one row of together -/
theorem c_lay57 (H : Hs K D q tt) (hW : HWf tt) {q' i : Nat} (hi : i < tt 1) {G : Nat → Nat → Nat} (h34 : ∀ r, r < 16 → A 34 (i * 16 + r) = nI (G i r)) (h35 : ∀ j r, j ≤ i → r < tt 1 → A 35 (j * 16 + r) = nI (UU G r j)) (k20 : xH → Nat → Nat → Int32 → Option xH) : ∃ f, f_X4_lay_57 k20 xFU (HH A Z B Q P F q' D c) 28 q (nI i) (nI 0) = k20 (HH (upA A 35 f) Z B Q P F q' D c) 28 q (nI (i + 1)) ∧ (∀ j r, j ≤ i + 1 → r < tt 1 → f (j * 16 + r) = nI (UU G r j)) ∧ ∀ k, k < 16 → f k = A 35 k := by
  have hro := hW.ro
  have key := loop_J (F := fun n r (s : xH) => f_X4_lay_57 k20 n s 28 q (nI i) (nI r)) (N := tt 1) (fun s => k20 s 28 q (nI (i + 1))) (fun m s => ∃ f, s = HH (upA A 35 f) Z B Q P F q' D c ∧ (∀ j r, j ≤ i → r < tt 1 → f (j * 16 + r) = nI (UU G r j)) ∧ (∀ r, r < m → f ((i + 1) * 16 + r) = nI (UU G r (i + 1))) ∧ ∀ k, k < 16 → f k = A 35 k) (fun n r s hr hs => ?_) (fun n s hs => ?_) (by omega) (s := HH A Z B Q P F q' D c) ⟨A 35, by rw [y_ua], h35, fun r hr => by omega, fun k _ => rfl⟩
  · obtain ⟨s, e1, f, e2, h1, h2, h3⟩ := key
    subst e2
    refine ⟨f, e1, fun j r hj hr => ?_, h3⟩
    by_cases e : j = i + 1
    · subst e; exact h2 r hr
    · exact h1 j r (by omega) hr
  · obtain ⟨f, rfl, h1, h2, h3⟩ := hs
    have e1 := h1 i r (Nat.le_refl _) hr
    have e2 := h34 r (by omega)
    refine ⟨_, ?_, va_up f ((i + 1) * 16 + r) (nI (UU G r (i + 1))), rfl, fun j r2 hj hr2 => ?_, fun r2 hr2 => ?_, fun k hk => ?_⟩
    · simp (disch := omega) only [f_X4_lay_57, if_true, if_false, Bool.false_eq_true, Bool.true_eq_false, y_lit, y_m1, nI_add, pk_mul, fa_and, fa_or, y_bs, if_pos, if_neg, y_shl, y_shr, y_le, y_lt, y_eq, y_sub, y_dv, y_rm, y_b0, y_b1, y_sdf, y_ltM, y_Mlt, y_leM, y_Mle, y_eqM, y_Meq, s_e1, s_e2, s_e3, s_e4, s_e5, s_e6, hs_1 H, gf_28_2, gf_28_1, ld_35, ld_34, st_35, e1, e2, y_us, y_un, y_vs, y_vn, y_uu, y_vv, ne_eq, not_false_eq_true, not_true_eq_false]
      rfl
    · rw [y_vn (by omega)]; exact h1 j r2 hj hr2
    · by_cases e : r2 = r
      · subst e; rw [y_vs]
      · rw [y_vn (by omega)]; exact h2 r2 (by omega)
    · rw [y_vn (by omega)]; exact h3 k hk
  · obtain ⟨f, rfl, h1, h2, h3⟩ := hs
    simp (disch := omega) only [f_X4_lay_57, if_true, if_false, Bool.false_eq_true, Bool.true_eq_false, y_lit, y_m1, nI_add, pk_mul, fa_and, fa_or, y_bs, if_pos, if_neg, y_shl, y_shr, y_le, y_lt, y_eq, y_sub, y_dv, y_rm, y_b0, y_b1, y_sdf, y_ltM, y_Mlt, y_leM, y_Mle, y_eqM, y_Meq, s_e1, s_e2, s_e3, s_e4, s_e5, s_e6, hs_1 H]
theorem c_kinlay (H : Hs K D q tt) (hW : HWf tt) {q' k : Nat} (hk : k < tt 3) (hz : A 36 0 = 0) (hz2 : ∀ j, j < 16 → A 35 j = 0) : ∃ A', f_X4_lay (HH A Z B Q P F q' D c) 28 q (nI k) = some (HH A' Z B Q P F q' D c) ∧ Only [34, 35, 36] A A' ∧ (∀ a r, a < 16 → r < 16 → A' 34 (a * 16 + r) = nI (GG tt (tt (248 + 2 * k)) a r)) ∧ (∀ j r, j ≤ tt 1 → r < tt 1 → A' 35 (j * 16 + r) = nI (UU (GG tt (tt (248 + 2 * k))) r j)) ∧ (∀ j, j ≤ tt 1 → A' 36 j = nI (wid (ltt tt) j)) ∧ A' 36 0 = 0 ∧ ∀ j, j < 16 → A' 35 j = 0 := by
  have hro := hW.ro
  generalize hbb : tt (248 + 2 * k) = b
  unfold f_X4_lay
  rw [gf_28_1, Option.bind_some, fill_spec (LLg_34 A Z B Q P F q' D) (by decide), Option.bind_some, LLs_34]
  show ∃ A', ((gR (HH (upA A 34 (fun j => if j < 256 then 0 else A 34 j)) Z B Q P F q' D c) 28 4 1).bind fun v3 => _) = _ ∧ _
  rw [gf_28_1, Option.bind_some, hs_gO H, Option.bind_some]
  obtain ⟨f, e1, hf⟩ := c_shine0 (A := upA A 34 (fun j => if j < 256 then 0 else A 34 j)) (Z := Z) (B := B) (Q := Q) (P := P) (F := F) (c := c) H hW (q' := q') hk (fun j hj => by rw [y_us]; exact if_pos hj)
  rw [hbb] at hf
  rw [y_uu] at e1
  have e1' : f_X3_shineOf (HH (upA A 34 (fun j => if j < 256 then 0 else A 34 j)) Z B Q P F q' D c) q (nI k) 34 (0 : Int32) = some (HH (upA A 34 f) Z B Q P F q' D c) := e1
  rw [e1', Option.bind_some]
  have key := loop_J (F := fun n j (s : xH) => f_X4_lay_20 n s 28 q (nI j)) (N := tt 1) some (fun m s => ∃ g w, s = HH (upA (upA (upA A 34 f) 36 w) 35 g) Z B Q P F q' D c ∧ (∀ j r, j ≤ m → r < tt 1 → g (j * 16 + r) = nI (UU (GG tt b) r j)) ∧ (∀ j, j ≤ m → w j = nI (wid (ltt tt) j)) ∧ w 0 = 0 ∧ ∀ j, j < 16 → g j = 0) (fun n j s hj hs => ?_) (fun n s hs => ?_) (by omega) (s := HH (upA A 34 f) Z B Q P F q' D c) ⟨A 35, A 36, ?_, fun j r hj hr => ?_, fun j hj => ?_, hz, hz2⟩
  · obtain ⟨s, e2, g, w, e3, h1, h2, h3, h4⟩ := key
    subst e3
    exact ⟨_, e2, ((Only.rf.up (by decide)).up (by decide)).up (by decide), hf, h1, h2, h3, h4⟩
  · obtain ⟨g, w, rfl, h1, h2, h3, h4⟩ := hs
    have hl := ltt_lt16 hW j
    have hp : pc (ltt tt j) ≤ 16 := pc_le_n (by decide) hl
    have hw : wid (ltt tt) j ≤ 16 := by
      have : ∀ m, wid (ltt tt) m ≤ 16 := fun m => by
        induction m with
        | zero => exact Nat.zero_le _
        | succ m ih =>
          rw [wid]
          exact Nat.max_le.mpr ⟨ih, pc_le_n (by decide) (ltt_lt16 hW m)⟩
      exact this j
    have ew := h2 j (Nat.le_refl _)
    obtain ⟨g', e4, g1, g2⟩ := c_lay57 (A := upA (upA (upA A 34 f) 36 (va_up w (j + 1) (nI (wid (ltt tt) (j + 1))))) 35 g) (Z := Z) (B := B) (Q := Q) (P := P) (F := F) (c := c) H hW (q' := q') hj (G := GG tt b) (fun r hr => hf j r (by omega) hr) h1 (f_X4_lay_20 n)
    refine ⟨HH (upA (upA (upA A 34 f) 36 (va_up w (j + 1) (nI (wid (ltt tt) (j + 1))))) 35 g') Z B Q P F q' D c, ?_, g', va_up w (j + 1) (nI (wid (ltt tt) (j + 1))), rfl, g1, fun m hm => ?_, ?_, fun m hm => ?_⟩
    · rw [y_uu] at e4
      refine Eq.trans ?_ e4
      have eA : ∀ x, upA (upA (upA (upA A 34 f) 36 w) 35 g) 36 x = upA (upA (upA A 34 f) 36 x) 35 g := fun x => by
        funext m
        unfold upA
        by_cases e1 : m = 36
        · subst e1; simp
        · simp [e1]
      show f_X4_lay_20 (n + 1) (HH (upA (upA (upA A 34 f) 36 w) 35 g) Z B Q P F q' D c) 28 q (nI j) = _
      rw [f_X4_lay_20, hs_1 H, Option.bind_some, if_neg (by rw [y_le (by omega) (by omega)]; omega), gf_28_3, Option.bind_some, Option.bind_some, ld_36 (by omega), Option.bind_some, hs_14 H, Option.bind_some, hs_li H (by omega), Option.bind_some, bitCount_spec _ (by omega), Option.bind_some, y_un (by decide), y_us, ew, nI_1, st_36 (by omega), Option.bind_some, y_un (by decide), y_us, eA]
      have em : (if nI (wid (ltt tt) j) < nI (pc (ltt tt j)) then nI (pc (ltt tt j)) else nI (wid (ltt tt) j)) = nI (wid (ltt tt) (j + 1)) := by
        simp only [y_lt (show wid (ltt tt) j < 2147483648 by omega) (show pc (ltt tt j) < 2147483648 by omega)]
        exact y_max _ _
      rw [em]
      rfl
    · by_cases e : m = j + 1
      · subst e; rw [y_vs]
      · rw [y_vn e]; exact h2 m (by omega)
    · rw [y_vn (by omega)]; exact h3
    · rw [g2 m hm, y_us]; exact h4 m hm
  · obtain ⟨g, w, rfl, h1, h2, h3, h4⟩ := hs
    simp (disch := omega) only [f_X4_lay_20, if_true, if_false, Bool.false_eq_true, Bool.true_eq_false, y_lit, y_m1, nI_add, pk_mul, fa_and, fa_or, y_bs, if_pos, if_neg, y_shl, y_shr, y_le, y_lt, y_eq, y_sub, y_dv, y_rm, y_b0, y_b1, y_sdf, y_ltM, y_Mlt, y_leM, y_Mle, y_eqM, y_Meq, s_e1, s_e2, s_e3, s_e4, s_e5, s_e6, hs_1 H]
  · have a1 : upA (upA A 34 f) 36 (A 36) = upA A 34 f := y_ua (A := upA A 34 f) (k := 36)
    have a2 : upA (upA A 34 f) 35 (A 35) = upA A 34 f := y_ua (A := upA A 34 f) (k := 35)
    rw [a1, a2]
  · have e : j = 0 := by omega
    subst e
    rw [Nat.zero_mul, Nat.zero_add, hz2 r (by omega)]
    rfl
  · have e : j = 0 := by omega
    subst e
    rw [hz]
    rfl
end Kin
