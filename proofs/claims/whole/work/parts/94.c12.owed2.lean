/-! ===== owed ===== -/
section Owed
variable {A : Nat → Nat → Int32} {Z : Nat → Int32} {B : Nat → Nat → Int64} {Q : Nat → Int64} {P : Nat → Option Nat} {F : Nat → Nat → Option Nat} {q : Nat} {D : List xC} {c : Nat × Nat} {K : Nat → Nat} {tt lk lh : Nat → Nat} {R i : Nat}
theorem osm_st {r j : Nat} (hW : HWf tt) (h10 : tt 1 ≤ 10) (hr : r < tt 1) (hj : j < 2 ^ tt 1) (hb : j.testBit r = false) : lN (osm tt r j) + lN (fct (pc j)) * lN (fct (tt 1 - 1 - pc j)) * (nI (sav tt (j ||| 2 ^ r)) - nI (sav tt j)).toInt64 = lN (osm tt r (j + 1)) := by
  have h2 := sav_lt hW (j ||| 2 ^ r)
  rw [y_sub (sav_mono (by omega) hb), L_wide (by omega), lN_mul, lN_mul, lN_add, osm, hb, if_neg (by decide)]
theorem c_owe15 (H : Hs K D q tt) (hW : HWf tt) (h10 : tt 1 ≤ 10) {r : Nat} (hr : r < tt 1) (h56 : ∀ s, s < 2 ^ tt 1 → A 56 s = nI (sav tt s)) : f_X9_owedOverOrders_15 xFU (HH A Z B Q P F q D c) 53 q (lN 0) (nI (2 ^ r)) (nI 0) = some (lN (osm tt r (2 ^ tt 1)), HH A Z B Q P F q D c) := by
  have hpw : 2 ^ tt 1 ≤ 1024 := n_pwl (m := 10) h10
  have hpp := Nat.two_pow_pos (tt 1)
  refine loop0 (F := fun m j (x : Int64) => f_X9_owedOverOrders_15 m (HH A Z B Q P F q D c) 53 q x (nI (2 ^ r)) (nI j)) (N := 2 ^ tt 1) (st := fun j => lN (osm tt r j)) (fun m j hj => ?_) (fun m => ?_) (by omega)
  · have e0 : ∀ x, f_X9_owedOverOrders_15 (m + 1) (HH A Z B Q P F q D c) 53 q x (nI (2 ^ r)) (nI j) = if j.testBit r = false then f_X9_owedOverOrders_15 m (HH A Z B Q P F q D c) 53 q (x + lN (fct (pc j)) * lN (fct (tt 1 - 1 - pc j)) * (nI (sav tt (j ||| 2 ^ r)) - nI (sav tt j)).toInt64) (nI (2 ^ r)) (nI (j + 1)) else f_X9_owedOverOrders_15 m (HH A Z B Q P F q D c) 53 q x (nI (2 ^ r)) (nI (j + 1)) := by
      intro x
      rw [f_X9_owedOverOrders_15, gf_53_3, Option.bind_some, al_56, Option.bind_some, if_neg (by rw [y_le (by omega) (by omega)]; omega), hs_gO H, Option.bind_some, c_allRooms H hW, Option.bind_some, if_neg (by rw [y_lt (by omega) (by omega)]; omega), fa_and]
      cases hb : j.testBit r
      · have hp := pc_out (by omega) hr hj hb
        have hor : j ||| 2 ^ r < 2 ^ tt 1 := n_or_lt hj (n_pw hr)
        rw [if_pos (by rw [← nI_0, y_bit2 (by omega)]; exact hb), if_pos rfl, bitCount_spec _ (by omega), Option.bind_some, c_factorial _ (by omega), Option.bind_some, hs_1 H, Option.bind_some, show (1 : Int32) = nI 1 from rfl, y_sub (show 1 ≤ tt 1 by omega), y_sub hp, c_factorial _ (by omega), Option.bind_some, Option.bind_some, fa_or, ld_56 (by omega), Option.bind_some, Option.bind_some, ld_56 (by omega), Option.bind_some, h56 _ hor, h56 _ hj, nI_add]
      · rw [if_neg (by rw [← nI_0, y_bit2 (by omega), hb]; decide), if_neg (by decide), nI_1]
    show f_X9_owedOverOrders_15 (m + 1) _ _ _ _ _ _ = f_X9_owedOverOrders_15 m _ _ _ _ _ _
    rw [e0]
    cases hb : j.testBit r
    · rw [if_pos rfl, osm_st hW h10 hr hj hb]
    · rw [if_neg (by decide), osm, hb, if_pos rfl]
  · show f_X9_owedOverOrders_15 (m + 1) _ _ _ _ _ _ = _
    rw [f_X9_owedOverOrders_15, gf_53_3, Option.bind_some, al_56, Option.bind_some]
    by_cases e : 1024 ≤ 2 ^ tt 1
    · rw [if_pos (by rw [y_le (by omega) (by omega)]; exact e)]
    · rw [if_neg (by rw [y_le (by omega) (by omega)]; exact e), hs_gO H, Option.bind_some, c_allRooms H hW, Option.bind_some, if_pos (by rw [y_lt (by omega) (by omega)]; omega)]
/-- after the reference's loop -/
theorem m_owe55 (hT : Told (A 58) tt lk lh) (hW : HWf tt) (h10 : tt 1 ≤ 10) {r : Nat} (hr : r < tt 1) (h70 : ∀ s, s < 2 ^ tt 1 → A 70 s = nI (sav tt s)) (h2 : Q 2 = lN 0) : ∃ Q', f_X12_owed_55 xFU (HH A Z B Q P F q D c) 57 (nI r) (nI (tt 1)) (nI 0) = f_X12_owed_153 (HH A Z B Q' P F q D c) 57 (lN (osm tt r (2 ^ tt 1))) ∧ Q' 0 = Q 0 ∧ Q' 1 = Q 1 ∧ Q' 2 = lN (osm tt r (2 ^ tt 1)) ∧ Q' 3 = lN (fct (tt 1)) := by
  have hpw : 2 ^ tt 1 ≤ 1024 := n_pwl (m := 10) h10
  have hpp := Nat.two_pow_pos (tt 1)
  have hos := osm_le hW h10 hr (2 ^ tt 1) (Nat.le_refl _)
  have key := loop_I (F := fun m j (q2 : Int64) => f_X12_owed_55 m (HH A Z B (upA Q 2 q2) P F q D c) 57 (nI r) (nI (tt 1)) (nI j)) (N := 2 ^ tt 1) (ρ := Option (Int32 × xH)) id (fun j q2 => q2 = lN (osm tt r j)) (fun o => o = f_X12_owed_153 (HH A Z B (upA (upA Q 2 (lN (osm tt r (2 ^ tt 1)))) 3 (lN (fct (tt 1)))) P F q D c) 57 (lN (osm tt r (2 ^ tt 1)))) (fun m j q2 hj hq => ?_) (fun m q2 hq => ?_) (by omega) (s := lN 0) rfl
  · obtain ⟨o, e1, rfl⟩ := key
    refine ⟨upA (upA Q 2 (lN (osm tt r (2 ^ tt 1)))) 3 (lN (fct (tt 1))), ?_, rfl, rfl, rfl, rfl⟩
    rw [← h2, y_ua] at e1
    exact e1
  · left
    subst hq
    refine ⟨_, ?_, rfl⟩
    show f_X12_owed_55 (m + 1) _ _ _ _ _ = f_X12_owed_55 m _ _ _ _ _
    rw [f_X12_owed_55, gO_57, Option.bind_some, m_all hT hW, Option.bind_some, if_neg (by rw [y_lt (by omega) (by omega)]; omega), has_spec _ (by omega) (by omega), Option.bind_some]
    cases hb : j.testBit r
    · have hp := pc_out (by omega) hr hj hb
      have hor : j ||| 2 ^ r < 2 ^ tt 1 := n_or_lt hj (n_pw hr)
      rw [if_pos (by decide), gf_57_24, Option.bind_some, ones_spec _ (by omega), Option.bind_some, m_orders _ (by omega), Option.bind_some, Option.bind_some, show (1 : Int32) = nI 1 from rfl, y_sub (show 1 ≤ tt 1 by omega), y_sub hp, m_orders _ (by omega), Option.bind_some, gf_57_23, Option.bind_some, show nI 1 <<< (nI r &&& 31) = nI (2 ^ r) from n_shl (by omega), fa_or, ld_70 (by omega), Option.bind_some, Option.bind_some, ld_70 (by omega), Option.bind_some, h70 _ hor, h70 _ hj, y_us, osm_st hW h10 hr hj hb, pf_57_24, Option.bind_some, y_uu, nI_add]
    · rw [if_neg (by decide), osm, hb, if_pos rfl, nI_1]
  · subst hq
    refine ⟨_, ?_, rfl⟩
    show f_X12_owed_55 (m + 1) _ _ _ _ _ = _
    rw [f_X12_owed_55, gO_57, Option.bind_some, m_all hT hW, Option.bind_some, if_pos (by rw [y_lt (by omega) (by omega)]; omega), m_orders _ (by omega), Option.bind_some, pf_57_25, Option.bind_some, gf_57_24, Option.bind_some, if_pos, Option.bind_some]
    · rfl
    · rw [y_un (by decide), y_us]
      apply fa_of_nlt
      rw [lg_cmp_lt, fa_lt64, pf_lI (by omega)]
      have e : (0 : Int64).toInt = 0 := rfl
      omega
theorem Inv_Q {Q' : Nat → Int64} (H : Inv K A Z B Q P F q D c tt lk lh R i) (h1 : Q' 0 = Q' 2) (h2 : Q' 1 = Q' 3) : Inv K A Z B Q' P F q D c tt lk lh R i := by
  obtain ⟨a, b, p, ⟨z1, z2, _, _⟩, r⟩ := H
  exact ⟨a, b, p, ⟨z1, z2, h1, h2⟩, r⟩
end Owed
theorem ok_owed : ∀ x0, MEB (fun h => f_L_owed h 0 x0 76) (fun h => f_X12_owed h 57 x0) := by
  intro x h i hJ hi
  obtain ⟨K, A, Z, B, Q, P, F, q, D, c, tt, lk, lh, R, rfl, hI⟩ := hJ
  have hz := hI.2.1.2.2.2
  obtain ⟨H, hW, hL, hT, hLm⟩ := hI.1
  have hS := hI.2.2.1.2.1.1
  have hro := hW.ro
  cases hx : rk x (tt 1)
  · refine MEB_t hI (k := 1) (b := nI 0) (by decide) ?_ ?_ (oZ18 (nI 1)) rfl
    · unfold f_L_owed f_X11_owed
      simp (disch := omega) only [if_true, if_false, Bool.false_eq_true, Bool.true_eq_false, y_lit, y_m1, nI_add, pk_mul, fa_and, fa_or, y_bs, if_pos, if_neg, y_shl, y_shr, y_le, y_lt, y_eq, y_sub, y_dv, y_rm, y_b0, y_b1, y_sdf, y_ltM, y_Mlt, y_leM, y_Mle, y_eqM, y_Meq, s_e1, s_e2, s_e3, s_e4, s_e5, s_e6, gO_0, c_checkRoom H, hx]
    · unfold f_X12_owed f_X12_owed_14
      generalize xFU = N
      simp (disch := omega) only [if_true, if_false, Bool.false_eq_true, Bool.true_eq_false, y_lit, y_m1, nI_add, pk_mul, fa_and, fa_or, y_bs, if_pos, if_neg, y_shl, y_shr, y_le, y_lt, y_eq, y_sub, y_dv, y_rm, y_b0, y_b1, y_sdf, y_ltM, y_Mlt, y_leM, y_Mle, y_eqM, y_Meq, s_e1, s_e2, s_e3, s_e4, s_e5, s_e6, gO_57, m_isRoom hT hW, hx, pf_57_4, gf_57_4, y_us, y_un, y_vs, y_vn, y_uu, y_vv, ne_eq, not_false_eq_true, not_true_eq_false]
  · obtain ⟨r, hr, rfl⟩ := rk_t (by omega) hx
    by_cases h10 : tt 1 ≤ 10
    · obtain ⟨A', Z', e2, o1, o2, o3, o4⟩ := c_findSavings (A := A) (Z := Z) (B := B) (Q := Q) (P := P) (F := F) (c := c) H hW h10 hz.2.2.2.2.1 hS
      have e3 := c_owe15 (A := A') (Z := Z') (B := B) (Q := Q) (P := upA P 2 (some q)) (F := F) (c := c) H hW h10 hr o4
      have hpw : 2 ^ tt 1 ≤ 1024 := n_pwl (m := 10) h10
      have hos := osm_le hW h10 hr (2 ^ tt 1) (Nat.le_refl _)
      have hfl := fct_le (tt 1) (by omega)
      have hfp := fct_pos (tt 1)
      generalize hS0 : osm tt r (2 ^ tt 1) = S at e3 hos
      generalize hO0 : fct (tt 1) = O at hfl hfp
      have hg : ∀ h, f_X11_commonDivisor h (lN S) (lN O) = some (lN (Nat.gcd S O)) := fun h => c_gcd h 22 S O 0 xFU (by omega) (by decide) (by omega) (by decide) (by unfold xFU; decide)
      have hg2 : ∀ h, f_X12_divisor h (lN S) (lN O) = some (lN (Nat.gcd S O)) := fun h => m_gcd h 22 S O xFU (by omega) (by decide) (by omega) (by unfold xFU; decide)
      have hgp : 0 < Nat.gcd S O := Nat.gcd_pos_of_pos_right _ hfp
      have hgl : Nat.gcd S O ≤ O := Nat.gcd_le_right _ hfp
      generalize Nat.gcd S O = G at hg hg2 hgp hgl
      have hT2 : Told (A' 58) tt lk lh := by rw [o1 58 (by decide)]; exact hT
      have hcmp : ¬ lg_cmp (lN G) (0 : Int64) ≤ 0 := by
        intro e
        have h1 : 0 < lg_cmp (lN G) (0 : Int64) := by
          rw [lg_cmp_gt, fa_lt64, pf_lI (by omega), show (0 : Int64).toInt = 0 from rfl]
          omega
        rw [fa_le] at e
        rw [fa_lt] at h1
        omega
      generalize hQ1 : upA (upA Q 0 (lN (S / G))) 1 (lN (O / G)) = Q1
      obtain ⟨f, g, e5, hg5⟩ := m_laySavings (A := A') (Z := upA Z' 18 (nI 0)) (B := oB B 1) (Q := upA (upA Q1 2 0) 3 0) (P := upA P 2 (some q)) (F := F) (q := q) (D := D) (c := c) hT2 hW h10
      obtain ⟨Q', e6, q0, q1, q2, q3⟩ := m_owe55 (A := upA (upA A' 63 f) 70 g) (Z := upA Z' 18 (nI 0)) (B := oB B 1) (Q := upA (upA Q1 2 0) 3 0) (P := upA P 2 (some q)) (F := F) (q := q) (D := D) (c := c) (tt := tt) (lk := lk) (lh := lh) hT2 hW h10 hr hg5 rfl
      rw [hS0] at q2 e6
      rw [hO0] at q3
      have hA2 : Only [54, 55, 56, 63, 70] A (upA (upA A' 63 f) 70 g) := ((o1.mono (by decide)).up (by decide)).up (by decide)
      refine ⟨nI 0, HH A' Z' (oB B 1) Q1 (upA P 2 (some q)) F q D c, 1, HH (upA (upA A' 63 f) 70 g) (upA Z' 18 (nI 0)) (oB B 1) (upA (upA Q' 2 (lN (S / G))) 3 (lN (O / G))) (upA P 2 (some q)) F q D c, ?_, ⟨_, _, _, _, _, _, _, _, _, rfl⟩, ?_, by rw [gf_57_4, y_us], fun _ => oB_ld _, ⟨K, _, _, _, _, _, _, _, _, _, tt, lk, lh, R, rfl, Inv_Q (Inv_sav hI (hA2.mono (by decide)) (Zro_55 hz hA2 (by rw [y_un (by decide), y_un (by decide)]; exact o2)) ((o3.mono (by decide)).up (by decide)) (oB_o _) (fun s hs => by rw [y_un (by decide), y_un (by decide)]; exact o4 s hs)) ?_ ?_⟩⟩
      · show f_L_owed (HH A Z B Q P F q D c) 0 (nI r) 76 = _
        have e7 : f_X9_owedOverOrders (HH A Z B Q P F q D c) 53 q (nI r) = some (lN S, HH A' Z' B Q (upA P 2 (some q)) F q D c) := by
          unfold f_X9_owedOverOrders
          rw [gO_53, Option.bind_some, e2, Option.bind_some, show (1 : Int32) <<< (nI r &&& 31) = nI (2 ^ r) from n_shl (by omega)]
          exact e3
        have e8 : f_X11_factorial (HH A' Z' B Q (upA P 2 (some q)) F q D c) (nI (tt 1)) = some (lN O) := by rw [← hO0]; exact c_factorial _ (by omega)
        unfold f_L_owed f_X11_owed f_X11_owed_78 f_X11_owed_99 f_L_owed_15
        rw [gO_0, Option.bind_some, Option.bind_some, c_checkRoom H, hx, if_pos rfl, Option.bind_some]
        dsimp only
        rw [gf_0_4, Option.bind_some, hs_1 H, Option.bind_some, if_pos (by rw [show (10 : Int32) = nI 10 from rfl, y_le (by omega) (by omega)]; exact h10), gf_0_16, Option.bind_some, Option.bind_some, gO_53, Option.bind_some, e7, Option.bind_some]
        dsimp only
        rw [gf_0_4, Option.bind_some, hs_1 H, Option.bind_some, e8, Option.bind_some, hg, Option.bind_some, if_neg hcmp, dvJ_N (by omega) hgp (by omega), Option.bind_some, pf_0_8, Option.bind_some, if_neg hcmp, dvJ_N (by omega) hgp (by omega), Option.bind_some, pf_0_9, Option.bind_some, Option.bind_some]
        dsimp only
        rw [if_neg (by decide), show (0 : Int32) = nI 0 from rfl, oB_st, Option.bind_some, hQ1]
      · show f_X12_owed (HH A' Z' (oB B 1) Q1 (upA P 2 (some q)) F q D c) 57 (nI r) = _
        unfold f_X12_owed f_X12_owed_14
        rw [gO_57, Option.bind_some, m_isRoom hT2 hW, hx, if_pos rfl, Option.bind_some, if_neg (by decide), pf_57_4, Option.bind_some, gf_57_4, Option.bind_some, y_us, if_pos (by decide), pf_57_24, Option.bind_some, pf_57_25, Option.bind_some, gO_57, Option.bind_some, m_rooms hT2, Option.bind_some, if_pos (by rw [show (10 : Int32) = nI 10 from rfl, y_le (by omega) (by omega)]; exact h10), Option.bind_some]
        refine (congrArg (fun o => Option.bind o _) e5).trans ?_
        rw [Option.bind_some]
        refine e6.trans ?_
        unfold f_X12_owed_153
        rw [gf_57_25, Option.bind_some, q3, hg2, Option.bind_some, gf_57_24, Option.bind_some, q2, dvJ_N (by omega) hgp (by omega), Option.bind_some, pf_57_24, Option.bind_some, gf_57_25, Option.bind_some, y_un (by decide), q3, dvJ_N (by omega) hgp (by omega), Option.bind_some, pf_57_25, Option.bind_some]
      · rw [y_un (by decide), y_un (by decide), y_un (by decide), y_us, q0, y_un (by decide), y_un (by decide), ← hQ1, y_un (by decide), y_us]
      · rw [y_un (by decide), y_un (by decide), y_us, q1, y_un (by decide), y_un (by decide), ← hQ1, y_us]
    · have hI2 := Inv_q (E := []) (A' := A) (Z' := upA Z 18 (nI 0)) (B' := oB B 0) (c' := c) hI Only.rf hz (oZ18 _) (oB_o _) (by simp) (by omega) (by omega)
      rw [List.append_nil] at hI2
      refine ⟨nI 0, HH A Z (oB B 0) (upA (upA Q 0 0) 1 0) P F q D c, nI 0, HH A (upA Z 18 (nI 0)) (oB B 0) (upA (upA (upA (upA Q 0 0) 1 0) 2 0) 3 0) P F q D c, ?_, ⟨_, _, _, _, _, _, _, _, _, rfl⟩, ?_, by rw [gf_57_4, y_us], fun _ => by rw [if_pos nI_0]; exact oB_ld _, ⟨K, _, _, _, _, _, _, _, _, _, tt, lk, lh, R, rfl, Inv_Q hI2 rfl rfl⟩⟩
      · show f_L_owed (HH A Z B Q P F q D c) 0 (nI r) 76 = _
        unfold f_L_owed f_X11_owed f_L_owed_15
        rw [gO_0, Option.bind_some, Option.bind_some, c_checkRoom H, hx, if_pos rfl, Option.bind_some]
        dsimp only
        rw [gf_0_4, Option.bind_some, hs_1 H, Option.bind_some, if_neg (by rw [show (10 : Int32) = nI 10 from rfl, y_le (by omega) (by omega)]; exact h10), pf_0_8, Option.bind_some, pf_0_9, Option.bind_some, Option.bind_some]
        dsimp only
        rw [if_pos rfl, show (0 : Int32) = nI 0 from rfl, oB_st, Option.bind_some]
      · show f_X12_owed (HH A Z (oB B 0) (upA (upA Q 0 0) 1 0) P F q D c) 57 (nI r) = _
        unfold f_X12_owed f_X12_owed_14
        rw [gO_57, Option.bind_some, m_isRoom hT hW, hx, if_pos rfl, Option.bind_some, if_neg (by decide), pf_57_4, Option.bind_some, gf_57_4, Option.bind_some, y_us, if_pos (by decide), pf_57_24, Option.bind_some, pf_57_25, Option.bind_some, gO_57, Option.bind_some, m_rooms hT, Option.bind_some, if_neg (by rw [show (10 : Int32) = nI 10 from rfl, y_le (by omega) (by omega)]; exact h10)]
        rfl
