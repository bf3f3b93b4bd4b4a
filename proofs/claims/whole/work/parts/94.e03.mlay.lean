/-! ===== Mixture: lay ===== -/
theorem mb_le {tt : Nat → Nat} (hW : HWf tt) : mb tt ≤ 5 := by
  have := hW.ki
  unfold mb
  omega
theorem mbr_le {tt : Nat → Nat} (hW : HWf tt) {d : Nat} (hd : d < mb tt) : mbr tt d ≤ 999 := by
  unfold mbr
  unfold mb at hd
  split
  · omega
  · exact (hW.kind (i := d - 1) (by omega)).2.1
theorem mol_le {tt : Nat → Nat} (hW : HWf tt) {d : Nat} (hd : d < mb tt) : mol tt d ≤ 99 := by
  unfold mol
  unfold mb at hd
  split
  · omega
  · exact (hW.kind (i := d - 1) (by omega)).2.2
theorem mgx_top {tt : Nat → Nat} (hW : HWf tt) (a r : Nat) : ∀ k, k ≤ tt 3 → mgx tt a r k ≤ 59940
  | 0, _ => Nat.zero_le _
  | k + 1, h => by
    rw [mgx]
    exact Nat.max_le.mpr ⟨mgx_top hW a r k (by omega), GG_le hW (hW.kind (i := k) (by omega)).2.1⟩
theorem mtu_top {tt : Nat → Nat} (hW : HWf tt) (n r : Nat) : ∀ j, j ≤ 8 → mtu tt n r j ≤ 59940 * j
  | 0, _ => Nat.zero_le _
  | j + 1, h => by
    have := mtu_top hW n r j (by omega)
    have := mgx_top hW (n - 1 - j) r (tt 3) (Nat.le_refl _)
    rw [mtu]
    omega
section MLay
variable {A : Nat → Nat → Int32} {Z : Nat → Int32} {B : Nat → Nat → Int64} {Q : Nat → Int64} {P : Nat → Option Nat} {F : Nat → Nat → Option Nat} {q : Nat} {D : List xC} {c : Nat × Nat} {K : Nat → Nat} {tt lk lh : Nat → Nat} {R i : Nat} {Lf Mf W S X : Nat → Nat} {wc : Nat}
theorem c_shine1 (H : Hs K D q tt) (hW : HWf tt) (h8 : tt 1 ≤ 8) {q' k fo : Nat} (hk : k < tt 3) (hfo : fo + 128 ≤ 512) (hA : ∀ j, fo ≤ j → j < fo + 128 → A 47 j = nI 0) : ∃ f, f_X3_shineOf (HH A Z B Q P F q' D c) q (nI k) 47 (nI fo) = some (HH (upA A 47 f) Z B Q P F q' D c) ∧ (∀ a r, a < 8 → r < 16 → f (fo + a * 16 + r) = nI (GG tt (tt (248 + 2 * k)) a r)) ∧ ∀ j, (j < fo ∨ fo + 128 ≤ j) → f j = A 47 j := by
  have hpa := hW.pa
  have hb := (hW.kind hk).2.1
  generalize hbb : tt (248 + 2 * k) = b at hb
  unfold f_X3_shineOf
  have key := loop_J (F := fun n j (s : xH) => f_X3_shineOf_3 n s q (nI k) 47 (nI fo) (nI j)) (N := tt 2) some (fun j s => ∃ f, s = HH (upA A 47 f) Z B Q P F q' D c ∧ (∀ a r, a < 8 → r < 16 → f (fo + a * 16 + r) = nI (fb_sm (gg tt b a r) j)) ∧ ∀ j, (j < fo ∨ fo + 128 ≤ j) → f j = A 47 j) (fun n j s hj hs => ?_) (fun n s hs => ?_) (by omega) (s := HH A Z B Q P F q' D c) ⟨A 47, by rw [y_ua], fun a r ha hr => hA _ (by omega) (by omega), fun _ _ => rfl⟩
  · obtain ⟨s, e1, f, e2, hf⟩ := key
    exact ⟨f, by rw [← e2]; exact e1, hf⟩
  · obtain ⟨f, rfl, hf, hpre⟩ := hs
    obtain ⟨b1, b2, b3, b4, b5, b6⟩ := hW.pane hj
    have m1 : b * pL0 tt j ≤ 999 * 100 := Nat.mul_le_mul hb b5
    have eg : ∀ a r, gg tt b a r j = (if tt (8 + 4 * j) = a ∧ tt (8 + 4 * j + 1) = r then b * tt (8 + 4 * j + 2) / 100 else 0) + (if tt (8 + 4 * j + 3) = 1 ∧ tt (8 + 4 * j + 1) = a ∧ tt (8 + 4 * j) = r then b * tt (8 + 4 * j + 2) / 100 else 0) := fun a r => rfl
    simp only [pF0, pT0, pL0, pB0] at b1 b2 b3 b4 b5 b6 m1
    have ebk := c_brightK (A := upA A 47 f) (Z := Z) (B := B) (Q := Q) (P := P) (F := F) (c := c) H hW (q' := q') hk
    rw [hbb] at ebk
    by_cases h2 : tt (8 + 4 * j + 3) = 1
    · refine ⟨HH (upA A 47 (va_up (va_up f (fo + tt (8 + 4 * j) * 16 + tt (8 + 4 * j + 1)) (f (fo + tt (8 + 4 * j) * 16 + tt (8 + 4 * j + 1)) + nI (b * tt (8 + 4 * j + 2) / 100))) (fo + tt (8 + 4 * j + 1) * 16 + tt (8 + 4 * j)) (f (fo + tt (8 + 4 * j + 1) * 16 + tt (8 + 4 * j)) + nI (b * tt (8 + 4 * j + 2) / 100)))) Z B Q P F q' D c, ?_, _, rfl, fun a r ha hr => ?_, fun m hm => ?_⟩
      · have hne : fo + tt (8 + 4 * j + 1) * 16 + tt (8 + 4 * j) ≠ fo + tt (8 + 4 * j) * 16 + tt (8 + 4 * j + 1) := fun h => by omega
        simp (disch := omega) only [f_X3_shineOf_3, if_true, if_false, Bool.false_eq_true, Bool.true_eq_false, y_lit, y_m1, nI_add, pk_mul, fa_and, fa_or, y_bs, if_pos, if_neg, y_shl, y_shr, y_le, y_lt, y_eq, y_sub, y_dv, y_rm, y_b0, y_b1, y_sdf, y_ltM, y_Mlt, y_leM, y_Mle, y_eqM, y_Meq, s_e1, s_e2, s_e3, s_e4, s_e5, s_e6, hs_3 H, hs_7 H, hs_p0 H, hs_p1 H, hs_p2 H, hs_p3 H, hs_gO H, ebk, ld_47, st_47, h2, y_us, y_un, y_vs, y_vn, y_uu, y_vv, ne_eq, not_false_eq_true, not_true_eq_false, hne]
      · rw [fb_sm_succ, eg]
        have f2 := hf a r ha hr
        by_cases e2 : fo + a * 16 + r = fo + tt (8 + 4 * j + 1) * 16 + tt (8 + 4 * j)
        · have x1 : a = tt (8 + 4 * j + 1) := by omega
          have x2 : r = tt (8 + 4 * j) := by omega
          rw [e2, y_vs, ← e2, f2, nI_add, if_neg (by omega), if_pos ⟨h2, x1.symm, x2.symm⟩, Nat.zero_add]
        · rw [y_vn e2]
          by_cases e1 : fo + a * 16 + r = fo + tt (8 + 4 * j) * 16 + tt (8 + 4 * j + 1)
          · have x1 : a = tt (8 + 4 * j) := by omega
            have x2 : r = tt (8 + 4 * j + 1) := by omega
            rw [e1, y_vs, ← e1, f2, nI_add, if_pos ⟨x1.symm, x2.symm⟩, if_neg (by omega)]
            rfl
          · rw [y_vn e1, f2, if_neg (fun h => e1 (by rw [h.1, h.2])), if_neg (fun h => e2 (by rw [h.2.1, h.2.2])), Nat.add_zero]
      · rw [y_vn (by omega), y_vn (by omega)]; exact hpre m hm
    · refine ⟨HH (upA A 47 (va_up f (fo + tt (8 + 4 * j) * 16 + tt (8 + 4 * j + 1)) (f (fo + tt (8 + 4 * j) * 16 + tt (8 + 4 * j + 1)) + nI (b * tt (8 + 4 * j + 2) / 100)))) Z B Q P F q' D c, ?_, _, rfl, fun a r ha hr => ?_, fun m hm => ?_⟩
      · simp (disch := omega) only [f_X3_shineOf_3, if_true, if_false, Bool.false_eq_true, Bool.true_eq_false, y_lit, y_m1, nI_add, pk_mul, fa_and, fa_or, y_bs, if_pos, if_neg, y_shl, y_shr, y_le, y_lt, y_eq, y_sub, y_dv, y_rm, y_b0, y_b1, y_sdf, y_ltM, y_Mlt, y_leM, y_Mle, y_eqM, y_Meq, s_e1, s_e2, s_e3, s_e4, s_e5, s_e6, hs_3 H, hs_7 H, hs_p0 H, hs_p1 H, hs_p2 H, hs_p3 H, hs_gO H, ebk, ld_47, st_47, y_us, y_un, y_vs, y_vn, y_uu, y_vv, ne_eq, not_false_eq_true, not_true_eq_false]
      · rw [fb_sm_succ, eg]
        have f2 := hf a r ha hr
        rw [if_neg (c := tt (8 + 4 * j + 3) = 1 ∧ tt (8 + 4 * j + 1) = a ∧ tt (8 + 4 * j) = r) (fun h => h2 h.1)]
        by_cases e1 : fo + a * 16 + r = fo + tt (8 + 4 * j) * 16 + tt (8 + 4 * j + 1)
        · have x1 : a = tt (8 + 4 * j) := by omega
          have x2 : r = tt (8 + 4 * j + 1) := by omega
          rw [e1, y_vs, ← e1, f2, nI_add, if_pos ⟨x1.symm, x2.symm⟩]
          rfl
        · rw [y_vn e1, f2, if_neg (fun h => e1 (by rw [h.1, h.2]))]
          rfl
      · rw [y_vn (by omega)]; exact hpre m hm
  · obtain ⟨f, rfl, hf⟩ := hs
    simp (disch := omega) only [f_X3_shineOf_3, if_true, if_false, Bool.false_eq_true, Bool.true_eq_false, y_lit, y_m1, nI_add, pk_mul, fa_and, fa_or, y_bs, if_pos, if_neg, y_shl, y_shr, y_le, y_lt, y_eq, y_sub, y_dv, y_rm, y_b0, y_b1, y_sdf, y_ltM, y_Mlt, y_leM, y_Mle, y_eqM, y_Meq, s_e1, s_e2, s_e3, s_e4, s_e5, s_e6, hs_3 H]
/-- shine, by kind, room and room -/
def H47 (f : Nat → Int32) (tt : Nat → Nat) (m : Nat) : Prop := ∀ k a r, k < m → a < 8 → r < 16 → f ((k * 8 + a) * 16 + r) = nI (GG tt (tt (248 + 2 * k)) a r)
theorem c_brightest (hW : HWf tt) {a r : Nat} (ha : a < 8) (hr : r < 16) (h47 : H47 (A 47) tt (tt 3)) : f_X6_brightest (HH A Z B Q P F q D c) 39 (nI (tt 3)) (nI a) (nI r) = some (nI (mgx tt a r (tt 3))) := by
  have hki := hW.ki
  refine loop0 (F := fun n j (s : Int32) => f_X6_brightest_6 (HH A Z B Q P F q D c) n 39 (nI (tt 3)) (nI a) (nI r) s (nI j)) (N := tt 3) (st := fun j => nI (mgx tt a r j)) (fun n j hj => ?_) (fun n => ?_) (by omega)
  · have e := h47 j a r hj ha hr
    have t1 := mgx_top hW a r j (by omega)
    have t2 := GG_le hW (a := a) (r := r) (hW.kind hj).2.1
    rw [mgx, ← y_max]
    simp (disch := omega) only [f_X6_brightest_6, f_X6_rowOf, if_true, if_false, Bool.false_eq_true, Bool.true_eq_false, y_lit, y_m1, nI_add, pk_mul, fa_and, fa_or, y_bs, if_pos, if_neg, y_shl, y_shr, y_le, y_lt, y_eq, y_sub, y_dv, y_rm, y_b0, y_b1, y_sdf, y_ltM, y_Mlt, y_leM, y_Mle, y_eqM, y_Meq, s_e1, s_e2, s_e3, s_e4, s_e5, s_e6, gf_39_8, ld_47, e]
  · simp (disch := omega) only [f_X6_brightest_6, if_true, if_false, Bool.false_eq_true, Bool.true_eq_false, y_lit, y_m1, nI_add, pk_mul, fa_and, fa_or, y_bs, if_pos, if_neg, y_shl, y_shr, y_le, y_lt, y_eq, y_sub, y_dv, y_rm, y_b0, y_b1, y_sdf, y_ltM, y_Mlt, y_leM, y_Mle, y_eqM, y_Meq, s_e1, s_e2, s_e3, s_e4, s_e5, s_e6]
theorem c_ml81 (H : Hs K D q tt) (hW : HWf tt) (h8 : tt 1 ≤ 8) {q' j : Nat} (hj : j < tt 1) (h47 : H47 (A 47) tt (tt 3)) (h48 : ∀ r, r < tt 1 → A 48 ((tt 1 - j) * 16 + r) = nI (mtu tt (tt 1) r j)) (k75 : xH → Nat → Nat → Int32 → Option xH) : ∃ f, f_X6_lay_81 k75 xFU (HH A Z B Q P F q' D c) 39 q (nI (tt 1 - 1 - j)) (nI 0) = k75 (HH (upA A 48 f) Z B Q P F q' D c) 39 q (kv (tt 1 - 1 - j)) ∧ (∀ r, r < tt 1 → f ((tt 1 - 1 - j) * 16 + r) = nI (mtu tt (tt 1) r (j + 1))) ∧ ∀ m, (tt 1 - j) * 16 ≤ m → f m = A 48 m := by
  have hki := hW.ki
  have key := loop_J (F := fun n r (s : xH) => f_X6_lay_81 k75 n s 39 q (nI (tt 1 - 1 - j)) (nI r)) (N := tt 1) (fun s => k75 s 39 q (kv (tt 1 - 1 - j))) (fun m s => ∃ f, s = HH (upA A 48 f) Z B Q P F q' D c ∧ (∀ r, r < m → f ((tt 1 - 1 - j) * 16 + r) = nI (mtu tt (tt 1) r (j + 1))) ∧ ∀ m, (tt 1 - j) * 16 ≤ m → f m = A 48 m) (fun n r s hr hs => ?_) (fun n s hs => ?_) (by omega) (s := HH A Z B Q P F q' D c) ⟨A 48, by rw [y_ua], fun r hr => by omega, fun _ _ => rfl⟩
  · obtain ⟨s, e1, f, e2, h1, h2⟩ := key
    subst e2
    exact ⟨f, e1, h1, h2⟩
  · obtain ⟨f, rfl, h1, h2⟩ := hs
    have e1 := c_brightest (A := upA A 48 f) (Z := Z) (B := B) (Q := Q) (P := P) (F := F) (q := q') (D := D) (c := c) hW (a := tt 1 - 1 - j) (r := r) (by omega) (by omega) h47
    have e2 : f ((tt 1 - 1 - j + 1) * 16 + r) = nI (mtu tt (tt 1) r j) := by
      rw [show tt 1 - 1 - j + 1 = tt 1 - j by omega, h2 _ (by omega)]
      exact h48 r hr
    refine ⟨_, ?_, va_up f ((tt 1 - 1 - j) * 16 + r) (nI (mtu tt (tt 1) r (j + 1))), rfl, fun r2 hr2 => ?_, fun m hm => ?_⟩
    · simp (disch := omega) only [f_X6_lay_81, if_true, if_false, Bool.false_eq_true, Bool.true_eq_false, y_lit, y_m1, nI_add, pk_mul, fa_and, fa_or, y_bs, if_pos, if_neg, y_shl, y_shr, y_le, y_lt, y_eq, y_sub, y_dv, y_rm, y_b0, y_b1, y_sdf, y_ltM, y_Mlt, y_leM, y_Mle, y_eqM, y_Meq, s_e1, s_e2, s_e3, s_e4, s_e5, s_e6, hs_1 H, hs_4 H, gO_39, e1, gf_39_9, ld_48, e2, st_48, y_us, y_un, y_vs, y_vn, y_uu, y_vv, ne_eq, not_false_eq_true, not_true_eq_false]
      rfl
    · by_cases e : r2 = r
      · subst e; rw [y_vs]
      · rw [y_vn (by omega)]; exact h1 r2 (by omega)
    · rw [y_vn (by omega)]; exact h2 m hm
  · obtain ⟨f, rfl, h1, h2⟩ := hs
    show f_X6_lay_81 k75 (n + 1) _ _ _ _ _ = _
    rw [f_X6_lay_81, hs_1 H, Option.bind_some, if_pos (by rw [y_le (by omega) (by omega)]; exact Nat.le_refl _), kv_m]
theorem c_ml75 (H : Hs K D q tt) (hW : HWf tt) (h8 : tt 1 ≤ 8) {q' : Nat} (h47 : H47 (A 47) tt (tt 3)) (h48 : ∀ r, r < tt 1 → A 48 (tt 1 * 16 + r) = nI 0) : ∃ f, f_X6_lay_75 xFU (HH A Z B Q P F q' D c) 39 q (kv (tt 1)) = some (HH (upA A 48 f) Z B Q P F q' D c) ∧ ∀ i r, i ≤ tt 1 → r < tt 1 → f (i * 16 + r) = nI (mtu tt (tt 1) r (tt 1 - i)) := by
  have key := loop_J (F := fun n j (s : xH) => f_X6_lay_75 n s 39 q (kv (tt 1 - j))) (N := tt 1) some (fun j s => ∃ f, s = HH (upA A 48 f) Z B Q P F q' D c ∧ ∀ i r, tt 1 - j ≤ i → i ≤ tt 1 → r < tt 1 → f (i * 16 + r) = nI (mtu tt (tt 1) r (tt 1 - i))) (fun n j s hj hs => ?_) (fun n s hs => ?_) (by omega) (s := HH A Z B Q P F q' D c) ⟨A 48, by rw [y_ua], fun i r h1 h2 hr => by rw [show i = tt 1 by omega, Nat.sub_self]; exact h48 r hr⟩
  · obtain ⟨s, e1, f, e2, h1⟩ := key
    subst e2
    exact ⟨f, e1, fun i r hi hr => h1 i r (by omega) hi hr⟩
  · obtain ⟨f, rfl, h1⟩ := hs
    obtain ⟨g, e1, g1, g2⟩ := c_ml81 (A := upA A 48 f) (Z := Z) (B := B) (Q := Q) (P := P) (F := F) (c := c) H hW h8 (q' := q') hj h47 (fun r hr => by
      rw [y_us]
      have := h1 (tt 1 - j) r (Nat.le_refl _) (by omega) hr
      rw [show tt 1 - (tt 1 - j) = j by omega] at this
      exact this) (f_X6_lay_75 n)
    rw [y_uu] at e1
    refine ⟨HH (upA A 48 g) Z B Q P F q' D c, ?_, g, rfl, fun i r hi1 hi2 hr => ?_⟩
    · show f_X6_lay_75 (n + 1) _ 39 q (kv (tt 1 - j)) = f_X6_lay_75 n _ 39 q (kv (tt 1 - (j + 1)))
      have ek : kv (tt 1 - j) = nI (tt 1 - 1 - j) := by
        rw [show tt 1 - j = (tt 1 - 1 - j) + 1 by omega]
        exact kv_s _
      rw [ek, f_X6_lay_75, if_neg (nI_pos (by omega)), show tt 1 - (j + 1) = tt 1 - 1 - j by omega]
      exact e1
    · by_cases e : i = tt 1 - 1 - j
      · subst e
        rw [g1 r hr, show tt 1 - (tt 1 - 1 - j) = j + 1 by omega]
      · rw [g2 _ (by omega), y_us]
        exact h1 i r (by omega) hi2 hr
  · obtain ⟨f, rfl, h1⟩ := hs
    show f_X6_lay_75 (n + 1) _ 39 q (kv (tt 1 - tt 1)) = _
    rw [f_X6_lay_75, Nat.sub_self, if_pos (by decide)]
theorem c_mlay (H : Hs K D q tt) (hW : HWf tt) (h8 : tt 1 ≤ 8) {q' : Nat} : ∃ A', f_X6_lay (HH A Z B Q P F q' D c) 39 q = some (HH A' (upA Z 9 (nI (mlo tt (tt 3)))) B Q P F q' D c) ∧ Only [47, 48] A A' ∧ H47 (A' 47) tt (tt 3) ∧ ∀ i r, i ≤ tt 1 → r < tt 1 → A' 48 (i * 16 + r) = nI (mtu tt (tt 1) r (tt 1 - i)) := by
  have hki := hW.ki
  unfold f_X6_lay
  rw [pf_39_6, Option.bind_some, gf_39_8, Option.bind_some, fill_spec (LLg_47 A (upA Z 9 (99999 : Int32)) B Q P F q' D) (by decide), Option.bind_some, LLs_47]
  show ∃ A', ((gR (HH (upA A 47 (fun j => if j < 512 then 0 else A 47 j)) (upA Z 9 (99999 : Int32)) B Q P F q' D c) 39 6 9).bind fun v3 => _) = _ ∧ _
  rw [gf_39_9, Option.bind_some]
  generalize hA1 : upA A 47 (fun j => if j < 512 then 0 else A 47 j) = A1
  rw [fill_spec (LLg_48 A1 (upA Z 9 (99999 : Int32)) B Q P F q' D) (by decide), Option.bind_some, LLs_48]
  show ∃ A', f_X6_lay_24 xFU (HH (upA A1 48 (fun j => if j < 144 then 0 else A1 48 j)) (upA Z 9 (99999 : Int32)) B Q P F q' D c) 39 q (nI 0) = _ ∧ _
  generalize hA2 : upA A1 48 (fun j => if j < 144 then 0 else A1 48 j) = A2
  have o2 : Only [47, 48] A A2 := by rw [← hA2, ← hA1]; exact (Only.rf.up (by decide)).up (by decide)
  have g1 : ∀ j, j < 512 → A2 47 j = nI 0 := fun j hj => by
    rw [← hA2, y_un (by decide), ← hA1, y_us]
    exact if_pos hj
  have g2 : ∀ j, j < 144 → A2 48 j = nI 0 := fun j hj => by
    rw [← hA2, y_us]
    exact if_pos hj
  have key := loop_I (F := fun n k (s : xH) => f_X6_lay_24 n s 39 q (nI k)) (N := tt 3) some (fun k s => ∃ f, s = HH (upA A2 47 f) (upA Z 9 (nI (mlo tt k))) B Q P F q' D c ∧ H47 f tt k ∧ ∀ j, k * 128 ≤ j → j < 512 → f j = nI 0) (fun o => ∃ A', o = HH A' (upA Z 9 (nI (mlo tt (tt 3)))) B Q P F q' D c ∧ Only [47, 48] A A' ∧ H47 (A' 47) tt (tt 3) ∧ ∀ i r, i ≤ tt 1 → r < tt 1 → A' 48 (i * 16 + r) = nI (mtu tt (tt 1) r (tt 1 - i))) (fun n k s hk hs => Or.inl ?_) (fun n s hs => ?_) (by omega) (s := HH A2 (upA Z 9 (99999 : Int32)) B Q P F q' D c) ⟨A2 47, by rw [y_ua]; rfl, fun k a r hk => by omega, fun j _ hj => g1 j hj⟩
  · obtain ⟨o, e1, A', rfl, h⟩ := key
    exact ⟨A', e1, h⟩
  · obtain ⟨f, rfl, h1, h2⟩ := hs
    have l1 := mlo_top (tt := tt) k
    have l2 := (hW.kind hk).2.2
    have eo := c_oilK (A := upA A2 47 f) (Z := upA Z 9 (nI (mlo tt k))) (B := B) (Q := Q) (P := P) (F := F) (c := c) H hW (q' := q') hk
    obtain ⟨g, e1, k1, k2⟩ := c_shine1 (A := upA A2 47 f) (Z := upA Z 9 (nI (mlo tt (k + 1)))) (B := B) (Q := Q) (P := P) (F := F) (c := c) H hW h8 (q' := q') (k := k) (fo := k * 128) hk (by omega) (fun j hj1 hj2 => by rw [y_us]; exact h2 j hj1 (by omega))
    rw [y_uu] at e1
    refine ⟨HH (upA A2 47 g) (upA Z 9 (nI (mlo tt (k + 1)))) B Q P F q' D c, ?_, g, rfl, fun m a r hm ha hr => ?_, fun j hj1 hj2 => ?_⟩
    · show f_X6_lay_24 (n + 1) _ 39 q (nI k) = _
      have em : (if nI (tt (248 + 2 * k + 1)) < nI (mlo tt k) then nI (tt (248 + 2 * k + 1)) else nI (mlo tt k)) = nI (mlo tt (k + 1)) := by
        simp only [y_lt (show tt (248 + 2 * k + 1) < 2147483648 by omega) (show mlo tt k < 2147483648 by omega)]
        exact y_min _ _
      rw [f_X6_lay_24, hs_4 H, Option.bind_some, if_neg (by rw [y_le (by omega) (by omega)]; omega), gf_39_6, Option.bind_some, y_us, hs_gO H, Option.bind_some, eo, Option.bind_some, em, pf_39_6, Option.bind_some, y_uu, gf_39_8, Option.bind_some]
      unfold f_X6_rowOf
      rw [Option.bind_some, hs_gO H, Option.bind_some, show (8 : Int32) = nI 8 from rfl, show (16 : Int32) = nI 16 from rfl, show (0 : Int32) = nI 0 from rfl, pk_mul, nI_add, pk_mul, show (k * 8 + 0) * 16 = k * 128 by omega, e1, Option.bind_some, nI_1]
    · by_cases e : m = k
      · subst e
        have := k1 a r ha hr
        rw [show (m * 8 + a) * 16 + r = m * 128 + a * 16 + r by omega]
        exact this
      · rw [k2 _ (by omega), y_us]; exact h1 m a r (by omega) ha hr
    · rw [k2 _ (by omega), y_us]; exact h2 j (by omega) hj2
  · obtain ⟨f, rfl, h1, h2⟩ := hs
    obtain ⟨g, e1, k1⟩ := c_ml75 (A := upA A2 47 f) (Z := upA Z 9 (nI (mlo tt (tt 3)))) (B := B) (Q := Q) (P := P) (F := F) (c := c) H hW h8 (q' := q') h1 (fun r hr => by rw [y_un (by decide)]; exact g2 _ (by omega))
    refine ⟨_, ?_, upA (upA A2 47 f) 48 g, rfl, (o2.up (by decide)).up (by decide), h1, k1⟩
    show f_X6_lay_24 (n + 1) _ 39 q (nI (tt 3)) = _
    rw [f_X6_lay_24, hs_4 H, Option.bind_some, if_pos (by rw [y_le (by omega) (by omega)]; exact Nat.le_refl _), hs_1 H, Option.bind_some]
    exact e1
end MLay
