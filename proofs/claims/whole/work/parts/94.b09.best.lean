/-! ===== best, gap ===== -/
section Best
variable {A : Nat → Nat → Int32} {Z : Nat → Int32} {B : Nat → Nat → Int64} {Q : Nat → Int64} {P : Nat → Option Nat} {F : Nat → Nat → Option Nat} {q : Nat} {D : List xC} {c : Nat × Nat} {K : Nat → Nat} {tt lk lh : Nat → Nat} {R i : Nat}
theorem c_lone17 {n a i : Nat} {nx : Nat → Nat} (hn : n ≤ 16) (hi : i < n) (hx : ∀ r, nx r < 65536) (hld : ∀ A' r, r < n → ldI (HH A' Z B Q P F q D c) .int a (nI r) = some (nI (nx r))) (k2 : xH → Nat → Int32 → Nat → Int32 → Option (Int32 × xH)) (h0 : A 27 i = nI 0) : ∃ f, f_X2_lone_17 k2 xFU (HH A Z B Q P F q D c) 22 (nI n) a (nI i) (nI 0) = k2 (HH (upA A 27 f) Z B Q P F q D c) 22 (nI n) a (nI (i + 1)) ∧ f i = nI (clh nx n i) ∧ ∀ k, k ≠ i → f k = A 27 k := by
  have key := loop_J (F := fun m j (s : xH) => f_X2_lone_17 k2 m s 22 (nI n) a (nI i) (nI j)) (N := n) (fun s => k2 s 22 (nI n) a (nI (i + 1))) (fun j s => ∃ f, s = HH (upA A 27 f) Z B Q P F q D c ∧ f i = nI (mk (fun b => decide (b ≠ i ∧ nx i &&& nx b ≠ 0)) j) ∧ ∀ k, k ≠ i → f k = A 27 k) (fun m j s hj hs => ?_) (fun m s hs => ?_) (by omega) (s := HH A Z B Q P F q D c) ⟨A 27, by rw [y_ua], h0, fun k _ => rfl⟩
  · obtain ⟨s, e1, f, e2, h1, h2⟩ := key
    exact ⟨f, by rw [← e2]; exact e1, h1, h2⟩
  · obtain ⟨f, rfl, h1, h2⟩ := hs
    have l1 : nx i &&& nx j < 65536 := n_and_ltl (k := 16) (hx i)
    have d1 := hld (upA A 27 f) i hi
    have d2 := hld (upA A 27 f) j hj
    by_cases e : j = i
    · refine ⟨_, ?_, f, rfl, ?_, h2⟩
      · simp (disch := omega) only [f_X2_lone_17, if_true, if_false, Bool.false_eq_true, Bool.true_eq_false, y_lit, y_m1, nI_add, pk_mul, fa_and, fa_or, y_bs, if_pos, if_neg, y_shl, y_shr, y_le, y_lt, y_eq, y_sub, y_dv, y_rm, y_b0, y_b1, y_sdf, y_ltM, y_Mlt, y_leM, y_Mle, y_eqM, y_Meq, s_e1, s_e2, s_e3, s_e4, s_e5, s_e6]
      · rw [mk_step, h1]
        simp [e]
    · by_cases hz : nx i &&& nx j = 0
      · refine ⟨_, ?_, f, rfl, ?_, h2⟩
        · simp (disch := omega) only [f_X2_lone_17, if_true, if_false, Bool.false_eq_true, Bool.true_eq_false, y_lit, y_m1, nI_add, pk_mul, fa_and, fa_or, y_bs, if_pos, if_neg, y_shl, y_shr, y_le, y_lt, y_eq, y_sub, y_dv, y_rm, y_b0, y_b1, y_sdf, y_ltM, y_Mlt, y_leM, y_Mle, y_eqM, y_Meq, s_e1, s_e2, s_e3, s_e4, s_e5, s_e6, d1, d2, hz]
        · rw [mk_step, h1]
          simp [hz]
      · refine ⟨_, ?_, va_up f i (nI (mk (fun b => decide (b ≠ i ∧ nx i &&& nx b ≠ 0)) j ||| 2 ^ j)), rfl, ?_, fun k hk => ?_⟩
        · simp (disch := omega) only [f_X2_lone_17, if_true, if_false, Bool.false_eq_true, Bool.true_eq_false, y_lit, y_m1, nI_add, pk_mul, fa_and, fa_or, y_bs, if_pos, if_neg, y_shl, y_shr, y_le, y_lt, y_eq, y_sub, y_dv, y_rm, y_b0, y_b1, y_sdf, y_ltM, y_Mlt, y_leM, y_Mle, y_eqM, y_Meq, s_e1, s_e2, s_e3, s_e4, s_e5, s_e6, d1, d2, hz, gf_22_5, ld_27, st_27, y_us, y_un, y_vs, y_vn, y_uu, y_vv, ne_eq, not_false_eq_true, not_true_eq_false, h1]
        · rw [y_vs, mk_step]
          simp [hz, e]
        · rw [y_vn hk]
          exact h2 k hk
  · obtain ⟨f, rfl, h1, h2⟩ := hs
    simp (disch := omega) only [f_X2_lone_17, if_true, if_false, Bool.false_eq_true, Bool.true_eq_false, y_lit, y_m1, nI_add, pk_mul, fa_and, fa_or, y_bs, if_pos, if_neg, y_shl, y_shr, y_le, y_lt, y_eq, y_sub, y_dv, y_rm, y_b0, y_b1, y_sdf, y_ltM, y_Mlt, y_leM, y_Mle, y_eqM, y_Meq, s_e1, s_e2, s_e3, s_e4, s_e5, s_e6]
theorem c_lone70 {n : Nat} {cl : Nat → Nat} (hn : n ≤ 16) (hcl : ∀ r, r < n → A 27 r = nI (cl r)) (hc : ∀ r, cl r < 65536) (hsym : ∀ a b, a < n → b < n → (cl a).testBit b = (cl b).testBit a) (hself : ∀ a, (cl a).testBit a = false) : ∀ (k w S f : Nat), w + k = n + 1 → k < f → f_X2_lone_70 f (HH A Z B Q P F q D c) 22 (nI n) (nI S) (nI w) = some (nI (lnl cl n k w S), HH A Z B Q P F q D c)
  | 0, w, S, f, hw, hf => by
    obtain ⟨f, rfl⟩ : ∃ k, f = k + 1 := ⟨f - 1, by omega⟩
    simp (disch := omega) only [f_X2_lone_70, if_true, if_false, Bool.false_eq_true, Bool.true_eq_false, y_lit, y_m1, nI_add, pk_mul, fa_and, fa_or, y_bs, if_pos, if_neg, y_shl, y_shr, y_le, y_lt, y_eq, y_sub, y_dv, y_rm, y_b0, y_b1, y_sdf, y_ltM, y_Mlt, y_leM, y_Mle, y_eqM, y_Meq, s_e1, s_e2, s_e3, s_e4, s_e5, s_e6, lnl]
  | k + 1, w, S, f, hw, hf => by
    obtain ⟨f, rfl⟩ : ∃ k, f = k + 1 := ⟨f - 1, by omega⟩
    have hS3 : 2 ^ n ≤ 2 ^ 16 := n_pwl hn
    have hpos := Nat.two_pow_pos n
    have e1 := c_seekLone (A := A) (Z := Z) (B := B) (Q := Q) (P := P) (F := F) (q := q) (D := D) (c := c) hn hcl hc hsym hself n (2 ^ n - 1) w 40 (Nat.le_refl _) (by omega) (by omega) (by omega)
    rw [f_X2_lone_70, if_neg (by rw [y_lt (by omega) (by omega)]; omega), n_all1 (by omega), e1, Option.bind_some, lnl]
    cases hs : skl cl n (2 ^ n - 1) w with
    | none =>
      rw [if_pos (show eo none = -1 from rfl)]
    | some T =>
      have hT := skl_lt (by omega) hsym hself (Nat.le_refl _) (by omega) hs
      rw [if_neg (by show ¬ nI T = nM; rw [y_eqM (by omega)]; exact id), nI_1]
      exact c_lone70 hn hcl hc hsym hself k (w + 1) T f (by omega) (by omega)
theorem c_lone {n a : Nat} {nx : Nat → Nat} (hn : n ≤ 16) (hx : ∀ r, nx r < 65536) (hld : ∀ A' r, r < n → ldI (HH A' Z B Q P F q D c) .int a (nI r) = some (nI (nx r))) : ∃ f, f_X2_lone (HH A Z B Q P F q D c) 22 (nI n) a = some (nI (lnl (clh nx n) n n 1 0), HH (upA A 27 f) Z B Q P F q D c) := by
  have hc : ∀ r, clh nx n r < 65536 := fun r => Nat.lt_of_lt_of_le (mk_lt _ n) (pw16 hn)
  unfold f_X2_lone
  have key := loop_I (F := fun m i (s : xH) => f_X2_lone_2 m s 22 (nI n) a (nI i)) (N := n) some (fun i s => ∃ f, s = HH (upA A 27 f) Z B Q P F q D c ∧ ∀ r, r < i → f r = nI (clh nx n r)) (fun r => ∃ f, r = (nI (lnl (clh nx n) n n 1 0), HH (upA A 27 f) Z B Q P F q D c)) (fun m i s hi hs => ?_) (fun m s hs => ?_) (by omega) (s := HH A Z B Q P F q D c) ⟨A 27, by rw [y_ua], fun r hr => by omega⟩
  · obtain ⟨r, e1, f, rfl⟩ := key
    exact ⟨f, e1⟩
  · obtain ⟨f, rfl, h1⟩ := hs
    obtain ⟨g, e1, g1, g2⟩ := c_lone17 (A := upA A 27 (va_up f i (nI 0))) (Z := Z) (B := B) (Q := Q) (P := P) (F := F) (q := q) (D := D) (c := c) hn hi hx hld (f_X2_lone_2 m) (show va_up f i (nI 0) i = nI 0 from y_vs)
    rw [y_uu] at e1
    left
    refine ⟨_, ?_, g, rfl, fun r hr => ?_⟩
    · show f_X2_lone_2 (m + 1) _ _ _ _ _ = _
      rw [f_X2_lone_2, if_neg (by rw [y_le (by omega) (by omega)]; omega), gf_22_5, Option.bind_some, st_27 (by omega), Option.bind_some, y_us, y_uu]
      exact e1
    · by_cases e : r = i
      · subst e; exact g1
      · rw [g2 r e]
        show va_up f i (nI 0) r = _
        rw [y_vn e]
        exact h1 r (by omega)
  · obtain ⟨f, rfl, h1⟩ := hs
    refine ⟨(nI (lnl (clh nx n) n n 1 0), HH (upA A 27 f) Z B Q P F q D c), ?_, f, rfl⟩
    show f_X2_lone_2 (m + 1) _ _ _ _ _ = _
    rw [f_X2_lone_2, if_pos (by rw [y_le (by omega) (by omega)]; exact Nat.le_refl _)]
    exact c_lone70 (A := upA A 27 f) hn h1 hc (fun a b ha hb => clh_sym ha hb) (clh_self nx n) n 1 0 xFU (by omega) (by unfold xFU; omega)
theorem lone_eq (hW : HWf tt) : bsl (lnB (nxt tt) (tt 1)) (2 ^ tt 1) = some (lnl (clh (nxt tt) (tt 1)) (tt 1) (tt 1) 1 0) ∧ lnl (clh (nxt tt) (tt 1)) (tt 1) (tt 1) 1 0 < 2 ^ tt 1 := by
  have hro := hW.ro
  have h1 := lnl_ok (cl := clh (nxt tt) (tt 1)) (n := tt 1) (by omega) (fun a b ha hb => clh_sym ha hb) (clh_self _ _) (tt 1) 1 0 (by omega) (lnOK_0 _ _ _) (by omega)
  obtain ⟨S, e, a1, a2, a3⟩ := bsl_ok (lnB_0 (nxt tt) (tt 1)) (2 ^ tt 1) (Nat.two_pow_pos _)
  have h2 : BestL (fun S => lnB (nxt tt) (tt 1) S = true) (tt 1) S := ⟨a1, a2, a3⟩
  have := BestL_one (BestL_cong (fun T hT => lnB_ind hT) h2) h1
  rw [← this]
  exact ⟨e, a1⟩
theorem c_unbearable (H : Hs K D q tt) (hW : HWf tt) {q' : Nat} : f_X3_unbearable (HH A Z B Q P F q' D c) q = some (nI (orf (fun r => tt (432 + r) &&& nxt tt r) (tt 1))) := by
  have hro := hW.ro
  refine loop0 (F := fun n i (s : Int32) => f_X3_unbearable_4 (HH A Z B Q P F q' D c) n q s (nI i)) (N := tt 1) (st := fun i => nI (orf (fun r => tt (432 + r) &&& nxt tt r) i)) (fun n i hi => ?_) (fun n => ?_) (by omega)
  · rw [orf]
    simp (disch := omega) only [f_X3_unbearable_4, if_true, if_false, Bool.false_eq_true, Bool.true_eq_false, y_lit, y_m1, nI_add, pk_mul, fa_and, fa_or, y_bs, if_pos, if_neg, y_shl, y_shr, y_le, y_lt, y_eq, y_sub, y_dv, y_rm, y_b0, y_b1, y_sdf, y_ltM, y_Mlt, y_leM, y_Mle, y_eqM, y_Meq, s_e1, s_e2, s_e3, s_e4, s_e5, s_e6, hs_1 H, hs_12 H, hs_13 H, hs_ha H, hs_ne H]
  · simp (disch := omega) only [f_X3_unbearable_4, if_true, if_false, Bool.false_eq_true, Bool.true_eq_false, y_lit, y_m1, nI_add, pk_mul, fa_and, fa_or, y_bs, if_pos, if_neg, y_shl, y_shr, y_le, y_lt, y_eq, y_sub, y_dv, y_rm, y_b0, y_b1, y_sdf, y_ltM, y_Mlt, y_leM, y_Mle, y_eqM, y_Meq, s_e1, s_e2, s_e3, s_e4, s_e5, s_e6, hs_1 H]
theorem apa_eq (hW : HWf tt) {o : Option Nat} (h : BestF (Cov (msk (ltt tt) (sdf (2 ^ tt 1 - 1) (orf (fun r => tt (432 + r) &&& nxt tt r) (tt 1)))) (tt 1) (2 ^ tt 1 - 1) 0) (tt 1) o) : o = bst (isoB tt (nxt tt) 2) (2 ^ tt 1) := by
  have hro := hW.ro
  refine BestF_one (BestF_cong (fun T hT => ?_) (BestF_msk h)) bst_best
  rw [lit_cov hW]
  show _ ↔ (apaB (nxt tt) (fun r => tt (432 + r)) (tt 1) T && litB (nxt tt) (tt 1) T (2 ^ tt 1 - 1)) = true
  rw [Bool.and_eq_true]
  have e : sdf T (sdf (2 ^ tt 1 - 1) (orf (fun r => tt (432 + r) &&& nxt tt r) (tt 1))) = 0 ↔ apaB (nxt tt) (fun r => tt (432 + r)) (tt 1) T = true := by
    unfold apaB
    rw [sdf_0, allB_iff]
    constructor
    · intro h r hr
      refine decide_eq_true (n_zero (fun k => ?_))
      rw [Nat.testBit_and, Nat.testBit_and]
      cases hk : T.testBit k
      · simp
      · have := h k hk
        rw [sdf_bit] at this
        cases hn : (nxt tt r).testBit k
        · simp
        · cases hh : (tt (432 + r)).testBit k
          · simp
          · have h9 : (orf (fun r => tt (432 + r) &&& nxt tt r) (tt 1)).testBit k = true := (orf_bit _ _ _).mpr ⟨r, hr, by rw [Nat.testBit_and, hh, hn]; rfl⟩
            rw [h9] at this
            simp at this
    · intro h k hk
      rw [sdf_bit, all_bit]
      have hk2 : k < tt 1 := by
        by_cases e : k < tt 1
        · exact e
        · rw [n_lt_bits hT (by omega)] at hk; cases hk
      cases ho : (orf (fun r => tt (432 + r) &&& nxt tt r) (tt 1)).testBit k
      · simp [hk2]
      · obtain ⟨r, hr, h1⟩ := (orf_bit _ _ _).mp ho
        rw [Nat.testBit_and, Bool.and_eq_true] at h1
        have h2 := of_decide_eq_true (h r hr)
        have : (nxt tt r &&& T &&& tt (432 + r)).testBit k = true := by rw [Nat.testBit_and, Nat.testBit_and, h1.2, hk, h1.1]; rfl
        rw [h2, Nat.zero_testBit] at this
        cases this
  rw [e]
  exact ⟨fun h => ⟨h.2, h.1⟩, fun h => ⟨h.2, h.1⟩⟩
theorem twi_eq (hW : HWf tt) {o : Option Nat} (h : BestF (Cov (msk (ltt tt) (2 ^ tt 1 - 1)) (tt 1) 0 (2 ^ tt 1 - 1)) (tt 1) o) : o = bst (isoB tt (nxt tt) 1) (2 ^ tt 1) := by
  have hro := hW.ro
  refine BestF_one (BestF_cong (fun T hT => ?_) (BestF_msk h)) bst_best
  rw [Cov_twi (dual_h tt hW) (by omega)]
  exact ⟨fun h => h.1, fun h => ⟨h, sdf_all hT⟩⟩
theorem m_bestCall (hT : Told (A 58) tt lk lh) (hW : HWf tt) {w : Nat} (hw : w < 4) : ∃ f, f_X12_best (HH A Z B Q P F q D c) 57 (nI w) = some (eo (if w = 3 then bsl (lnB (nxt tt) (tt 1)) (2 ^ tt 1) else bst (isoB tt (nxt tt) w) (2 ^ tt 1)), HH (upA A 63 f) (upA Z 18 (nI 0)) B Q P F q D c) := by
  obtain ⟨f, e1, hf⟩ := m_layNexts (A := A) (Z := upA Z 18 (nI 0)) (B := B) (Q := Q) (P := P) (F := F) (q := q) (D := D) (c := c) hT hW
  have e2 : f_X12_bestOf (HH (upA A 63 f) (upA Z 18 (nI 0)) B Q P F q D c) 57 (nI w) = some (eo (if w = 3 then bsl (lnB (nxt tt) (tt 1)) (2 ^ tt 1) else bst (isoB tt (nxt tt) w) (2 ^ tt 1))) := by
    by_cases h3 : w = 3
    · subst h3
      rw [if_pos rfl]
      exact m_bestLone (A := upA A 63 f) hT hW hf (nxt_lt16 hW)
    · rw [if_neg h3]
      exact m_bestOf (A := upA A 63 f) hT hW hf (nxt_lt16 hW) (by omega)
  have hk : rk (nI w) 4 = true := rk_k hw (by decide)
  refine ⟨f, ?_⟩
  unfold f_X12_best f_X12_best_18
  simp (disch := omega) only [if_true, if_false, Bool.false_eq_true, Bool.true_eq_false, y_lit, y_m1, nI_add, pk_mul, fa_and, fa_or, y_bs, if_pos, if_neg, y_shl, y_shr, y_le, y_lt, y_eq, y_sub, y_dv, y_rm, y_b0, y_b1, y_sdf, y_ltM, y_Mlt, y_leM, y_Mle, y_eqM, y_Meq, s_e1, s_e2, s_e3, s_e4, s_e5, s_e6, m_w4, hk, pf_57_4, gf_57_4, gO_57, y_us, y_un, y_vs, y_vn, y_uu, y_vv, ne_eq, not_false_eq_true, not_true_eq_false, e1, e2]
end Best
theorem ok_best : ∀ x0, ME (fun h => f_L_best h 0 x0 76) (fun h => f_X12_best h 57 x0) := by
  intro x h i hJ hi
  obtain ⟨K, A, Z, B, Q, P, F, q, D, c, tt, lk, lh, R, rfl, hI⟩ := hJ
  have hz := hI.2.1.2.2.2
  obtain ⟨H, hW, hL, hT, hLm⟩ := hI.1
  have hro := hW.ro
  have hpw := pw16 hro
  have hpp := Nat.two_pow_pos (tt 1)
  cases hr : rk x 4
  · refine ME_t hI (k := 1) (b := nI 0) (by decide) ?_ ?_ (oZ18 (nI 1)) rfl
    · simp (disch := omega) only [f_L_best, f_X11_best, if_true, if_false, Bool.false_eq_true, Bool.true_eq_false, y_lit, y_m1, nI_add, pk_mul, fa_and, fa_or, y_bs, if_pos, if_neg, y_shl, y_shr, y_le, y_lt, y_eq, y_sub, y_dv, y_rm, y_b0, y_b1, y_sdf, y_ltM, y_Mlt, y_leM, y_Mle, y_eqM, y_Meq, s_e1, s_e2, s_e3, s_e4, s_e5, s_e6, gO_0, c_checkWhat, hr]
    · simp (disch := omega) only [f_X12_best, f_X12_best_18, if_true, if_false, Bool.false_eq_true, Bool.true_eq_false, y_lit, y_m1, nI_add, pk_mul, fa_and, fa_or, y_bs, if_pos, if_neg, y_shl, y_shr, y_le, y_lt, y_eq, y_sub, y_dv, y_rm, y_b0, y_b1, y_sdf, y_ltM, y_Mlt, y_leM, y_Mle, y_eqM, y_Meq, s_e1, s_e2, s_e3, s_e4, s_e5, s_e6, m_w4, hr, pf_57_4, gf_57_4, y_us, y_un, y_vs, y_vn, y_uu, y_vv, ne_eq, not_false_eq_true, not_true_eq_false]
  · obtain ⟨w, hw, rfl⟩ := rk_t (by decide) hr
    have hc : w = 0 ∨ w = 1 ∨ w = 2 ∨ w = 3 := by omega
    rcases hc with rfl | rfl | rfl | rfl
    · obtain ⟨A', e1, h1, h2, h3⟩ := c_layH (A := A) (Z := Z) (B := B) (Q := Q) (P := P) (F := F) (c := c) H hW hz (al := 2 ^ tt 1 - 1) (by omega)
      obtain ⟨o, e2, h4⟩ := c_fewest (A := A') (Z := upA Z 3 (nI (tt 1))) (B := B) (Q := Q) (P := P) (F := F) (q := q) (D := D) (c := c) (one := 2 ^ tt 1 - 1) (two := 0) hro (msk_lt (ltt_lt16 hW) _) h2 rfl (by omega) (by omega) (Nat.and_zero _)
      have hT' : Told (A' 58) tt lk lh := by rw [h1 58 (by decide)]; exact hT
      obtain ⟨f, e3⟩ := m_bestCall (A := A') (Z := upA Z 3 (nI (tt 1))) (B := oB B (Int32.toInt64 (eo o))) (Q := Q) (P := P) (F := F) (q := q) (D := D) (c := c) hT' hW hw
      rw [if_neg (by decide), show isoB tt (nxt tt) 0 = fun S => litB (nxt tt) (tt 1) S (2 ^ tt 1 - 1) from rfl, ← few_eq hW h4] at e3
      refine ME_r hI (v := eo o) (A1 := A') (Z1 := upA Z 3 (nI (tt 1))) (A2 := upA A' 63 f) (Z2 := upA (upA Z 3 (nI (tt 1))) 18 (nI 0)) ?_ e3 (oCov h1 f) h3 (oZ3 _ _) rfl
      simp (disch := omega) only [f_L_best, f_X11_best, if_true, if_false, Bool.false_eq_true, Bool.true_eq_false, y_lit, y_m1, nI_add, pk_mul, fa_and, fa_or, y_bs, if_pos, if_neg, y_shl, y_shr, y_le, y_lt, y_eq, y_sub, y_dv, y_rm, y_b0, y_b1, y_sdf, y_ltM, y_Mlt, y_leM, y_Mle, y_eqM, y_Meq, s_e1, s_e2, s_e3, s_e4, s_e5, s_e6, gO_0, c_checkWhat, hr, gf_0_4, gf_0_12, hs_gO H, c_allRooms H hW, hs_1 H, hs_14 H, gO_22, e1, e2, oB_st]
    · obtain ⟨A', e1, h1, h2, h3⟩ := c_layH (A := A) (Z := Z) (B := B) (Q := Q) (P := P) (F := F) (c := c) H hW hz (al := 2 ^ tt 1 - 1) (by omega)
      obtain ⟨o, e2, h4⟩ := c_fewest (A := A') (Z := upA Z 3 (nI (tt 1))) (B := B) (Q := Q) (P := P) (F := F) (q := q) (D := D) (c := c) (one := 0) (two := 2 ^ tt 1 - 1) hro (msk_lt (ltt_lt16 hW) _) h2 rfl (by omega) (by omega) (Nat.zero_and _)
      have hT' : Told (A' 58) tt lk lh := by rw [h1 58 (by decide)]; exact hT
      obtain ⟨f, e3⟩ := m_bestCall (A := A') (Z := upA Z 3 (nI (tt 1))) (B := oB B (Int32.toInt64 (eo o))) (Q := Q) (P := P) (F := F) (q := q) (D := D) (c := c) hT' hW hw
      rw [if_neg (by decide), ← twi_eq hW h4] at e3
      refine ME_r hI (v := eo o) (A1 := A') (Z1 := upA Z 3 (nI (tt 1))) (A2 := upA A' 63 f) (Z2 := upA (upA Z 3 (nI (tt 1))) 18 (nI 0)) ?_ e3 (oCov h1 f) h3 (oZ3 _ _) rfl
      simp (disch := omega) only [f_L_best, f_X11_best, if_true, if_false, Bool.false_eq_true, Bool.true_eq_false, y_lit, y_m1, nI_add, pk_mul, fa_and, fa_or, y_bs, if_pos, if_neg, y_shl, y_shr, y_le, y_lt, y_eq, y_sub, y_dv, y_rm, y_b0, y_b1, y_sdf, y_ltM, y_Mlt, y_leM, y_Mle, y_eqM, y_Meq, s_e1, s_e2, s_e3, s_e4, s_e5, s_e6, gO_0, c_checkWhat, hr, gf_0_4, gf_0_12, hs_gO H, c_allRooms H hW, hs_1 H, hs_14 H, gO_22, e1, e2, oB_st]
    · have hal : sdf (2 ^ tt 1 - 1) (orf (fun r => tt (432 + r) &&& nxt tt r) (tt 1)) < 65536 := sdf_lt (k := 16) (by omega)
      obtain ⟨A', e1, h1, h2, h3⟩ := c_layH (A := A) (Z := Z) (B := B) (Q := Q) (P := P) (F := F) (c := c) H hW hz hal
      obtain ⟨o, e2, h4⟩ := c_fewest (A := A') (Z := upA Z 3 (nI (tt 1))) (B := B) (Q := Q) (P := P) (F := F) (q := q) (D := D) (c := c) (one := 2 ^ tt 1 - 1) (two := 0) hro (msk_lt (ltt_lt16 hW) _) h2 rfl (by omega) (by omega) (Nat.and_zero _)
      have hT' : Told (A' 58) tt lk lh := by rw [h1 58 (by decide)]; exact hT
      obtain ⟨f, e3⟩ := m_bestCall (A := A') (Z := upA Z 3 (nI (tt 1))) (B := oB B (Int32.toInt64 (eo o))) (Q := Q) (P := P) (F := F) (q := q) (D := D) (c := c) hT' hW hw
      rw [if_neg (by decide), ← apa_eq hW h4] at e3
      refine ME_r hI (v := eo o) (A1 := A') (Z1 := upA Z 3 (nI (tt 1))) (A2 := upA A' 63 f) (Z2 := upA (upA Z 3 (nI (tt 1))) 18 (nI 0)) ?_ e3 (oCov h1 f) h3 (oZ3 _ _) rfl
      simp (disch := omega) only [f_L_best, f_X11_best, if_true, if_false, Bool.false_eq_true, Bool.true_eq_false, y_lit, y_m1, nI_add, pk_mul, fa_and, fa_or, y_bs, if_pos, if_neg, y_shl, y_shr, y_le, y_lt, y_eq, y_sub, y_dv, y_rm, y_b0, y_b1, y_sdf, y_ltM, y_Mlt, y_leM, y_Mle, y_eqM, y_Meq, s_e1, s_e2, s_e3, s_e4, s_e5, s_e6, gO_0, c_checkWhat, hr, gf_0_4, gf_0_12, hs_gO H, c_allRooms H hW, c_unbearable H hW, hs_1 H, hs_14 H, gO_22, e1, e2, oB_st]
    · obtain ⟨g, e1⟩ := c_lone (A := A) (Z := Z) (B := B) (Q := Q) (P := P) (F := F) (q := q) (D := D) (c := c) (a := q + 7) hro (nxt_lt16 hW) (fun A' r hr => hs_ne H (by omega))
      obtain ⟨f, e3⟩ := m_bestCall (A := upA A 27 g) (Z := Z) (B := oB B (Int32.toInt64 (nI (lnl (clh (nxt tt) (tt 1)) (tt 1) (tt 1) 1 0)))) (Q := Q) (P := P) (F := F) (q := q) (D := D) (c := c) hT hW hw
      rw [if_pos rfl, (lone_eq hW).1] at e3
      refine ME_r hI (v := nI (lnl (clh (nxt tt) (tt 1)) (tt 1) (tt 1) 1 0)) (A1 := upA A 27 g) (Z1 := Z) (A2 := upA (upA A 27 g) 63 f) (Z2 := upA Z 18 (nI 0)) ?_ e3 ((Only.rf.up (by decide)).up (by decide)) hz (oZ18 _) rfl
      simp (disch := omega) only [f_L_best, f_X11_best, if_true, if_false, Bool.false_eq_true, Bool.true_eq_false, y_lit, y_m1, nI_add, pk_mul, fa_and, fa_or, y_bs, if_pos, if_neg, y_shl, y_shr, y_le, y_lt, y_eq, y_sub, y_dv, y_rm, y_b0, y_b1, y_sdf, y_ltM, y_Mlt, y_leM, y_Mle, y_eqM, y_Meq, s_e1, s_e2, s_e3, s_e4, s_e5, s_e6, gO_0, c_checkWhat, hr, gf_0_4, gf_0_12, hs_gO H, c_allRooms H hW, hs_1 H, hs_13 H, gO_22, e1, oB_st]
theorem ok_gap : MHQ (fun h => f_X11_gap h 0) (fun h => f_X12_gap h 57) := by
  intro h i hJ hi
  obtain ⟨K, A, Z, B, Q, P, F, q, D, c, tt, lk, lh, R, rfl, hI⟩ := hJ
  have hz := hI.2.1.2.2.2
  obtain ⟨H, hW, hL, hT, hLm⟩ := hI.1
  have hro := hW.ro
  have hpw := pw16 hro
  have hpp := Nat.two_pow_pos (tt 1)
  obtain ⟨A', o, e1, h1, h2, h3, h4⟩ := c_fewestOf (A := A) (Z := Z) (B := B) (Q := Q) (P := P) (F := F) (c := c) H hW hz (al := 2 ^ tt 1 - 1) (by omega)
  have ho := few_eq hW h4
  obtain ⟨lq, ll⟩ := lone_eq hW
  cases o with
  | none =>
    have hT' : Told (A' 58) tt lk lh := by rw [h1 58 (by decide)]; exact hT
    obtain ⟨f, e2, hf⟩ := m_layNexts (A := A') (Z := upA (upA Z 3 (nI (tt 1))) 18 (nI 0)) (B := B) (Q := Q) (P := P) (F := F) (q := q) (D := D) (c := c) hT' hW
    have e3 := m_bestOf (A := upA A' 63 f) (Z := upA (upA Z 3 (nI (tt 1))) 18 (nI 0)) (B := B) (Q := Q) (P := P) (F := F) (q := q) (D := D) (c := c) hT' hW hf (nxt_lt16 hW) (w := 0) (by decide)
    rw [show isoB tt (nxt tt) 0 = fun S => litB (nxt tt) (tt 1) S (2 ^ tt 1 - 1) from rfl, ← ho] at e3
    refine ⟨nM, HH A' (upA Z 3 (nI (tt 1))) B Q P F q D c, HH (upA A' 63 f) (upA (upA Z 3 (nI (tt 1))) 18 (nI 0)) B Q P F q D c, ?_, ⟨_, _, _, _, _, _, _, _, _, rfl⟩, ?_, JJ_q hI (oCov h1 f) h3 (oZ3 _ _) Only.rf (Nat.le_refl _) (by omega) (by omega)⟩
    · simp only [eo] at e1
      simp (disch := omega) only [f_X11_gap, if_true, if_false, Bool.false_eq_true, Bool.true_eq_false, y_lit, y_m1, nI_add, pk_mul, fa_and, fa_or, y_bs, if_pos, if_neg, y_shl, y_shr, y_le, y_lt, y_eq, y_sub, y_dv, y_rm, y_b0, y_b1, y_sdf, y_ltM, y_Mlt, y_leM, y_Mle, y_eqM, y_Meq, s_e1, s_e2, s_e3, s_e4, s_e5, s_e6, gf_0_4, hs_gO H, c_allRooms H hW, gO_0, e1]
    · simp only [eo] at e3
      simp (disch := omega) only [f_X12_gap, if_true, if_false, Bool.false_eq_true, Bool.true_eq_false, y_lit, y_m1, nI_add, pk_mul, fa_and, fa_or, y_bs, if_pos, if_neg, y_shl, y_shr, y_le, y_lt, y_eq, y_sub, y_dv, y_rm, y_b0, y_b1, y_sdf, y_ltM, y_Mlt, y_leM, y_Mle, y_eqM, y_Meq, s_e1, s_e2, s_e3, s_e4, s_e5, s_e6, pf_57_4, gO_57, e2, e3]
  | some S =>
    have hS : S < 2 ^ tt 1 := h4.1
    obtain ⟨g, e5⟩ := c_lone (A := A') (Z := upA Z 3 (nI (tt 1))) (B := B) (Q := Q) (P := P) (F := F) (q := q) (D := D) (c := c) (a := q + 7) hro (nxt_lt16 hW) (fun A' r hr => hs_ne H (by omega))
    have hT' : Told (upA A' 27 g 58) tt lk lh := by show Told (A' 58) tt lk lh; rw [h1 58 (by decide)]; exact hT
    obtain ⟨f, e2, hf⟩ := m_layNexts (A := upA A' 27 g) (Z := upA (upA Z 3 (nI (tt 1))) 18 (nI 0)) (B := B) (Q := Q) (P := P) (F := F) (q := q) (D := D) (c := c) hT' hW
    have e3 := m_bestOf (A := upA (upA A' 27 g) 63 f) (Z := upA (upA Z 3 (nI (tt 1))) 18 (nI 0)) (B := B) (Q := Q) (P := P) (F := F) (q := q) (D := D) (c := c) hT' hW hf (nxt_lt16 hW) (w := 0) (by decide)
    rw [show isoB tt (nxt tt) 0 = fun S => litB (nxt tt) (tt 1) S (2 ^ tt 1 - 1) from rfl, ← ho] at e3
    have e4 := m_bestLone (A := upA (upA A' 27 g) 63 f) (Z := upA (upA Z 3 (nI (tt 1))) 18 (nI 0)) (B := B) (Q := Q) (P := P) (F := F) (q := q) (D := D) (c := c) hT' hW hf (nxt_lt16 hW)
    rw [lq] at e4
    generalize lnl (clh (nxt tt) (tt 1)) (tt 1) (tt 1) 1 0 = L at ll e4 e5
    refine ⟨nI (pc S) - nI (pc L), HH (upA A' 27 g) (upA Z 3 (nI (tt 1))) B Q P F q D c, HH (upA (upA A' 27 g) 63 f) (upA (upA Z 3 (nI (tt 1))) 18 (nI 0)) B Q P F q D c, ?_, ⟨_, _, _, _, _, _, _, _, _, rfl⟩, ?_, JJ_q hI (((oCov0 h1).up (by decide)).up (by decide)) h3 (oZ3 _ _) Only.rf (Nat.le_refl _) (by omega) (by omega)⟩
    · simp only [eo] at e1
      show f_X11_gap (HH A Z B Q P F q D c) 0 = _
      unfold f_X11_gap
      simp (disch := omega) only [y_lit, y_m1, y_bs, gf_0_4, gf_0_12, hs_gO H, c_allRooms H hW, gO_0, e1, y_eqM, if_false, hs_1 H, hs_13 H, gO_22, e5, bitCount_spec]
    · simp only [eo] at e3 e4
      show f_X12_gap (HH (upA A' 27 g) (upA Z 3 (nI (tt 1))) B Q P F q D c) 57 = _
      unfold f_X12_gap
      simp (disch := omega) only [y_lit, y_m1, y_bs, pf_57_4, gO_57, e2, e3, e4, y_eqM, if_false, ones_spec]
