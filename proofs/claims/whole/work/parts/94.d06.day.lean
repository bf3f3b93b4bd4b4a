/-! ===== day ===== -/
theorem wts_lt {tt : Nat → Nat} (hW : HWf tt) (t : Nat) : wts tt t < 2 ^ 24 := orf_lt (fun w hw => by
  have := hW.wa
  split
  · exact n_pw (by omega)
  · exact Nat.two_pow_pos _)
theorem wts_bit {tt : Nat → Nat} {t w : Nat} (hw : w < tt 4) : (wts tt t).testBit w = true ↔ (tt (256 + 5 * w + 3) ≤ t ∧ t ≤ tt (256 + 5 * w + 4)) := by
  unfold wts
  rw [orf_bit]
  constructor
  · rintro ⟨i, hi, h⟩
    by_cases hc : tt (256 + 5 * i + 3) ≤ t ∧ t ≤ tt (256 + 5 * i + 4)
    · rw [if_pos hc, n_two] at h
      have e : i = w := of_decide_eq_true h
      rw [← e]; exact hc
    · rw [if_neg hc, Nat.zero_testBit] at h; cases h
  · intro h
    exact ⟨w, hw, by rw [if_pos h, n_two]; simp⟩
/-- hours with the same wants take the same lamps -/
theorem bq_same {tt : Nat → Nat} {k t u : Nat} (h : wts tt t = wts tt u) : bq tt k t = bq tt k u := by
  have e : ∀ L, drk tt L t = drk tt L u := fun L => orf_cong (fun w hw => by
    have h1 : (tt (256 + 5 * w + 3) ≤ t ∧ t ≤ tt (256 + 5 * w + 4)) ↔ (tt (256 + 5 * w + 3) ≤ u ∧ u ≤ tt (256 + 5 * w + 4)) := by
      rw [← wts_bit hw, ← wts_bit hw, h]
    have h2 : (tt (256 + 5 * w + 3) ≤ t ∧ t ≤ tt (256 + 5 * w + 4)) = (tt (256 + 5 * w + 3) ≤ u ∧ u ≤ tt (256 + 5 * w + 4)) := propext h1
    simp only [h2])
  have e2 : bqV tt k t = bqV tt k u := by
    funext T
    unfold bqV
    rw [e]
  unfold bq
  rw [e2]
def bqn (tt : Nat → Nat) (k t : Nat) : Nat := match bq tt k t with
  | none => 0
  | some S => pc S
def dsum (tt : Nat → Nat) (k : Nat) : Nat → Nat
  | 0 => 0
  | t + 1 => dsum tt k t + bqn tt k t
theorem bqn_le {tt : Nat → Nat} (hW : HWf tt) (k t : Nat) : bqn tt k t ≤ 16 := by
  unfold bqn
  cases h : bq tt k t with
  | none => exact Nat.zero_le _
  | some S =>
    have h1 := bq_lt h
    have h2 := pc_le_n (by have := hW.ro; omega) h1
    have := hW.ro
    show pc S ≤ 16
    omega
theorem dsum_le {tt : Nat → Nat} (hW : HWf tt) (k : Nat) : ∀ t, dsum tt k t ≤ 16 * t
  | 0 => Nat.zero_le _
  | t + 1 => by
    have := dsum_le hW k t
    have := bqn_le hW k t
    rw [dsum]
    omega
/-- what day answers: as many lamps as in all hours, none if in some there are none -/
def dayv (tt : Nat → Nat) (k : Nat) : Option Nat := if allB (fun t => (bq tt k t).isSome) 24 then some (dsum tt k 24) else none
section Day
variable {A : Nat → Nat → Int32} {Z : Nat → Int32} {B : Nat → Nat → Int64} {Q : Nat → Int64} {P : Nat → Option Nat} {F : Nat → Nat → Option Nat} {q : Nat} {D : List xC} {c : Nat × Nat} {K : Nat → Nat} {tt lk lh : Nat → Nat} {R i : Nat}
theorem c_wantsAt (H : Hs K D q tt) (hW : HWf tt) {q' t : Nat} (ht : t < 24) : f_X3_wantsAt (HH A Z B Q P F q' D c) q (nI t) = some (nI (wts tt t)) := by
  have hwa := hW.wa
  refine loop0 (F := fun n j (s : Int32) => f_X3_wantsAt_4 (HH A Z B Q P F q' D c) n q (nI t) s (nI j)) (N := tt 4) (st := fun j => nI (orf (fun w => if tt (256 + 5 * w + 3) ≤ t ∧ t ≤ tt (256 + 5 * w + 4) then 2 ^ w else 0) j)) (fun n j hj => ?_) (fun n => ?_) (by omega)
  · rw [orf]
    by_cases h : tt (256 + 5 * j + 3) ≤ t ∧ t ≤ tt (256 + 5 * j + 4)
    · rw [if_pos h]
      simp (disch := omega) only [f_X3_wantsAt_4, if_true, if_false, Bool.false_eq_true, Bool.true_eq_false, y_lit, y_m1, nI_add, pk_mul, fa_and, fa_or, y_bs, if_pos, if_neg, y_shl, y_shr, y_le, y_lt, y_eq, y_sub, y_dv, y_rm, y_b0, y_b1, y_sdf, y_ltM, y_Mlt, y_leM, y_Mle, y_eqM, y_Meq, s_e1, s_e2, s_e3, s_e4, s_e5, s_e6, hs_5 H, hs_gO H, c_wantedAt H hW, h, and_self]
    · rw [if_neg h, Nat.or_zero]
      simp (disch := omega) only [f_X3_wantsAt_4, if_true, if_false, Bool.false_eq_true, Bool.true_eq_false, y_lit, y_m1, nI_add, pk_mul, fa_and, fa_or, y_bs, if_pos, if_neg, y_shl, y_shr, y_le, y_lt, y_eq, y_sub, y_dv, y_rm, y_b0, y_b1, y_sdf, y_ltM, y_Mlt, y_leM, y_Mle, y_eqM, y_Meq, s_e1, s_e2, s_e3, s_e4, s_e5, s_e6, hs_5 H, hs_gO H, c_wantedAt H hW, h]
  · simp (disch := omega) only [f_X3_wantsAt_4, if_true, if_false, Bool.false_eq_true, Bool.true_eq_false, y_lit, y_m1, nI_add, pk_mul, fa_and, fa_or, y_bs, if_pos, if_neg, y_shl, y_shr, y_le, y_lt, y_eq, y_sub, y_dv, y_rm, y_b0, y_b1, y_sdf, y_ltM, y_Mlt, y_leM, y_Mle, y_eqM, y_Meq, s_e1, s_e2, s_e3, s_e4, s_e5, s_e6, hs_5 H]
    all_goals rfl
theorem c_asBefore (hW : HWf tt) {k t : Nat} (ht : t < 24) (h37 : ∀ u, u ≤ t → A 37 u = nI (wts tt u)) (h38 : ∀ u, u < t → A 38 u = nI (bqn tt k u)) : f_X4_lampsAsBefore (HH A Z B Q P F q D c) 28 (nI t) = some nM ∨ (∃ u, u < t ∧ wts tt u = wts tt t ∧ f_X4_lampsAsBefore (HH A Z B Q P F q D c) 28 (nI t) = some (nI (bqn tt k u))) := by
  unfold f_X4_lampsAsBefore
  have key := loop_I (F := fun n j (s : Unit) => f_X4_lampsAsBefore_2 (HH A Z B Q P F q D c) n 28 (nI t) (nI j)) (N := t) some (fun _ _ => True) (fun r => r = nM ∨ ∃ u, u < t ∧ wts tt u = wts tt t ∧ r = nI (bqn tt k u)) (fun n j s hj _ => ?_) (fun n s _ => ?_) (by omega) (s := ()) trivial
  · obtain ⟨r, e1, h⟩ := key
    rcases h with rfl | ⟨u, hu, hw, rfl⟩
    · exact Or.inl e1
    · exact Or.inr ⟨u, hu, hw, e1⟩
  · have w1 := wts_lt hW j
    have w2 := wts_lt hW t
    have a1 := h37 j (by omega)
    have a2 := h37 t (Nat.le_refl _)
    have a3 := h38 j hj
    by_cases e : wts tt j = wts tt t
    · right
      refine ⟨nI (bqn tt k j), ?_, Or.inr ⟨j, hj, e, rfl⟩⟩
      simp (disch := omega) only [f_X4_lampsAsBefore_2, if_true, if_false, Bool.false_eq_true, Bool.true_eq_false, y_lit, y_m1, nI_add, pk_mul, fa_and, fa_or, y_bs, if_pos, if_neg, y_shl, y_shr, y_le, y_lt, y_eq, y_sub, y_dv, y_rm, y_b0, y_b1, y_sdf, y_ltM, y_Mlt, y_leM, y_Mle, y_eqM, y_Meq, s_e1, s_e2, s_e3, s_e4, s_e5, s_e6, gf_28_4, gf_28_5, ld_37, ld_38, a1, a2, a3]
    · left
      refine ⟨(), ?_, trivial⟩
      simp (disch := omega) only [f_X4_lampsAsBefore_2, if_true, if_false, Bool.false_eq_true, Bool.true_eq_false, y_lit, y_m1, nI_add, pk_mul, fa_and, fa_or, y_bs, if_pos, if_neg, y_shl, y_shr, y_le, y_lt, y_eq, y_sub, y_dv, y_rm, y_b0, y_b1, y_sdf, y_ltM, y_Mlt, y_leM, y_Mle, y_eqM, y_Meq, s_e1, s_e2, s_e3, s_e4, s_e5, s_e6, gf_28_4, gf_28_5, ld_37, ld_38, a1, a2]
  · refine ⟨nM, ?_, Or.inl rfl⟩
    simp (disch := omega) only [f_X4_lampsAsBefore_2, if_true, if_false, Bool.false_eq_true, Bool.true_eq_false, y_lit, y_m1, nI_add, pk_mul, fa_and, fa_or, y_bs, if_pos, if_neg, y_shl, y_shr, y_le, y_lt, y_eq, y_sub, y_dv, y_rm, y_b0, y_b1, y_sdf, y_ltM, y_Mlt, y_leM, y_Mle, y_eqM, y_Meq, s_e1, s_e2, s_e3, s_e4, s_e5, s_e6]
theorem c_lampsOfDay (H : Hs K D q tt) (hW : HWf tt) {k : Nat} (hk : k < tt 3) (hz : A 36 0 = 0) (hz2 : ∀ j, j < 16 → A 35 j = 0) : ∃ A' Z', f_X4_lampsOfDay (HH A Z B Q P F q D c) 28 q (nI k) = some (eo (dayv tt k), HH A' Z' B Q P F q D c) ∧ Only [30, 31, 32, 33, 34, 35, 36, 37, 38] A A' ∧ Only [4, 5, 6] Z Z' ∧ A' 36 0 = 0 ∧ ∀ j, j < 16 → A' 35 j = 0 := by
  unfold f_X4_lampsOfDay
  have key := loop_I (F := fun n t (s : xH) => f_X4_lampsOfDay_5 n s 28 q (nI k) (nI (dsum tt k t)) (nI t)) (N := 24) some (fun t s => ∃ A' Z', s = HH A' Z' B Q P F q D c ∧ Only [30, 31, 32, 33, 34, 35, 36, 37, 38] A A' ∧ Only [4, 5, 6] Z Z' ∧ A' 36 0 = 0 ∧ (∀ j, j < 16 → A' 35 j = 0) ∧ (∀ u, u < t → (bq tt k u).isSome = true ∧ A' 37 u = nI (wts tt u) ∧ A' 38 u = nI (bqn tt k u))) (fun o => ∃ A' Z', o = (eo (dayv tt k), HH A' Z' B Q P F q D c) ∧ Only [30, 31, 32, 33, 34, 35, 36, 37, 38] A A' ∧ Only [4, 5, 6] Z Z' ∧ A' 36 0 = 0 ∧ ∀ j, j < 16 → A' 35 j = 0) (fun n t s ht hs => ?_) (fun n s hs => ?_) (by omega) (s := HH A Z B Q P F q D c) ⟨A, Z, rfl, Only.rf, Only.rf, hz, hz2, fun u hu => by omega⟩
  · obtain ⟨o, e1, A', Z', rfl, h⟩ := key
    exact ⟨A', Z', e1, h⟩
  · obtain ⟨A', Z', rfl, o1, o2, z1, z2, hu⟩ := hs
    have hn := bqn_le hW k t
    have eA := c_wantsAt (A := A') (Z := Z') (B := B) (Q := Q) (P := P) (F := F) (c := c) H hW (q' := q) ht
    generalize hA1 : upA A' 37 (va_up (A' 37) t (nI (wts tt t))) = A1
    have oA1 : Only [30, 31, 32, 33, 34, 35, 36, 37, 38] A A1 := by rw [← hA1]; exact o1.up (by decide)
    have h37 : ∀ u, u ≤ t → A1 37 u = nI (wts tt u) := fun u hu2 => by
      rw [← hA1, y_us]
      by_cases e : u = t
      · subst e; rw [y_vs]
      · rw [y_vn e]; exact (hu u (by omega)).2.1
    have h38 : ∀ u, u < t → A1 38 u = nI (bqn tt k u) := fun u hu2 => by
      rw [← hA1, y_un (by decide)]; exact (hu u hu2).2.2
    have z1' : A1 36 0 = 0 := by rw [← hA1, y_un (by decide)]; exact z1
    have z2' : ∀ j, j < 16 → A1 35 j = 0 := fun j hj => by rw [← hA1, y_un (by decide)]; exact z2 j hj
    have estart : ∀ r8, f_X4_lampsAsBefore (HH A1 Z' B Q P F q D c) 28 (nI t) = some r8 → f_X4_lampsOfDay_5 (n + 1) (HH A' Z' B Q P F q D c) 28 q (nI k) (nI (dsum tt k t)) (nI t) = (if r8 = (-1 : Int32) then ((gO (HH (upA A1 38 (va_up (A1 38) t r8)) Z' B Q P F q D c) 28 4).bind fun q13 => (f_X4_fewest (HH (upA A1 38 (va_up (A1 38) t r8)) Z' B Q P F q D c) 28 q (nI k) (nI t)).bind fun r14 => (if r14.1 = (-1 : Int32) then (some (((-1 : Int32), r14.2))) else ((gR r14.2 28 4 5).bind fun v16 => (f_J6_bitCount_0f7a4 r14.2 (r14.1)).bind fun r17 => (stI r14.2 .int v16 (nI t) r17).bind fun h18 => f_X4_lampsOfDay_79 (f_X4_lampsOfDay_5 n) h18 28 q (nI k) (nI (dsum tt k t)) (nI t)))) else (f_X4_lampsOfDay_79 (f_X4_lampsOfDay_5 n) (HH (upA A1 38 (va_up (A1 38) t r8)) Z' B Q P F q D c) 28 q (nI k) (nI (dsum tt k t)) (nI t))) := by
      intro r8 e8
      rw [f_X4_lampsOfDay_5, if_neg (by rw [show (24 : Int32) = nI 24 from rfl, y_le (by omega) (by omega)]; omega), gf_28_4, Option.bind_some, hs_gO H, Option.bind_some, eA, Option.bind_some, st_37 ht, Option.bind_some, hA1, gf_28_5, Option.bind_some, gO_28, Option.bind_some, e8, Option.bind_some, st_38 ht, Option.bind_some, gf_28_5, Option.bind_some, ld_38 ht, Option.bind_some, y_us, y_vs]
    have e79 : ∀ A2 Z2, A2 38 t = nI (bqn tt k t) → f_X4_lampsOfDay_79 (f_X4_lampsOfDay_5 n) (HH A2 Z2 B Q P F q D c) 28 q (nI k) (nI (dsum tt k t)) (nI t) = f_X4_lampsOfDay_5 n (HH A2 Z2 B Q P F q D c) 28 q (nI k) (nI (dsum tt k (t + 1))) (nI (t + 1)) := fun A2 Z2 h => by
      unfold f_X4_lampsOfDay_79
      rw [gf_28_5, Option.bind_some, ld_38 ht, Option.bind_some, h, nI_add, nI_1]
      rfl
    rcases c_asBefore (A := A1) (Z := Z') (B := B) (Q := Q) (P := P) (F := F) (q := q) (D := D) (c := c) hW (k := k) ht h37 h38 with e8 | ⟨u, hut, hwu, e8⟩
    · obtain ⟨A2, Z2, e9, p1, p2, p3, p4⟩ := c_kfew (A := upA A1 38 (va_up (A1 38) t nM)) (Z := Z') (B := B) (Q := Q) (P := P) (F := F) (c := c) H hW hk ht z1' z2'
      have oA2 : Only [30, 31, 32, 33, 34, 35, 36, 37, 38] A A2 := (oA1.up (by decide)).tr p1 (fun _ h => h) (by decide)
      have oZ2 : Only [4, 5, 6] Z Z2 := o2.tr p2 (fun _ h => h) (fun _ h => h)
      have es := estart nM e8
      rw [if_pos (show nM = (-1 : Int32) from rfl), gO_28, Option.bind_some, e9, Option.bind_some] at es
      cases hb : bq tt k t with
      | none =>
        right
        rw [hb] at es
        refine ⟨_, es.trans (if_pos rfl), A2, Z2, ?_, oA2, oZ2, p3, p4⟩
        have hd : dayv tt k = none := by
          unfold dayv
          rw [allB_f ht (by rw [hb]; rfl)]
          rfl
        rw [hd]
        rfl
      | some S =>
        left
        have hSl := bq_lt hb
        have hpw := pw16 hW.ro
        have hbn : bqn tt k t = pc S := by unfold bqn; rw [hb]
        rw [hb] at es
        refine ⟨HH (upA A2 38 (va_up (A2 38) t (nI (bqn tt k t)))) Z2 B Q P F q D c, ?_, _, _, rfl, oA2.up (by decide), oZ2, p3, p4, fun u hu2 => ?_⟩
        · refine es.trans ?_
          rw [if_neg (by show ¬ nI S = nM; rw [y_eqM (by omega)]; exact fun h => h)]
          show ((gR (HH A2 Z2 B Q P F q D c) 28 4 5).bind fun v16 => (f_J6_bitCount_0f7a4 (HH A2 Z2 B Q P F q D c) (nI S)).bind _) = _
          rw [gf_28_5, Option.bind_some, bitCount_spec _ (by omega), Option.bind_some, st_38 ht, Option.bind_some, ← hbn]
          exact e79 _ _ (by rw [y_us, y_vs])
        · by_cases e : u = t
          · subst e
            refine ⟨by rw [hb]; rfl, ?_, by rw [y_us, y_vs]⟩
            rw [y_un (by decide), p1 37 (by decide), y_un (by decide)]
            exact h37 u (Nat.le_refl _)
          · refine ⟨(hu u (by omega)).1, ?_, ?_⟩
            · rw [y_un (by decide), p1 37 (by decide), y_un (by decide)]
              exact h37 u (by omega)
            · rw [y_us, y_vn e, p1 38 (by decide), y_us, y_vn e]
              exact h38 u (by omega)
    · left
      have hbu := bqn_le hW k u
      have hsm := bq_same (k := k) hwu
      have hbe : bqn tt k u = bqn tt k t := by unfold bqn; rw [hsm]
      rw [hbe] at e8
      refine ⟨HH (upA A1 38 (va_up (A1 38) t (nI (bqn tt k t)))) Z' B Q P F q D c, ?_, _, _, rfl, oA1.up (by decide), o2, z1', z2', fun v hv => ?_⟩
      · refine (estart _ e8).trans ?_
        rw [if_neg (by show ¬ nI (bqn tt k t) = nM; rw [y_eqM (by omega)]; exact fun h => h)]
        exact e79 _ _ (by rw [y_us, y_vs])
      · by_cases e : v = t
        · subst e
          refine ⟨by rw [← hsm]; exact (hu u hut).1, ?_, by rw [y_us, y_vs]⟩
          rw [y_un (by decide)]
          exact h37 v (Nat.le_refl _)
        · refine ⟨(hu v (by omega)).1, ?_, ?_⟩
          · rw [y_un (by decide)]
            exact h37 v (by omega)
          · rw [y_us, y_vn e]
            exact h38 v (by omega)
  · obtain ⟨A', Z', rfl, o1, o2, z1, z2, hu⟩ := hs
    refine ⟨(nI (dsum tt k 24), HH A' Z' B Q P F q D c), ?_, A', Z', ?_, o1, o2, z1, z2⟩
    · show f_X4_lampsOfDay_5 (n + 1) _ _ _ _ _ _ = _
      rw [f_X4_lampsOfDay_5, if_pos (by decide)]
    · have hd : dayv tt k = some (dsum tt k 24) := by
        unfold dayv
        rw [allB_t (fun t ht => (hu t ht).1)]
        rfl
      rw [hd]
      rfl
theorem m_day30 (hT : Told (A 58) tt lk lh) (hW : HWf tt) {k : Nat} (hk : k < tt 3) : ∃ f, f_X12_day_30 xFU (HH A Z B Q P F q D c) 57 (nI k) (nI 0) (nI 0) = some (match dayv tt k with | none => nM | some m => nI (m * tt (248 + 2 * k + 1)), HH (upA A 64 f) Z B Q P F q D c) := by
  have hki := hW.ki
  have hpw := pw16 hW.ro
  have key := loop_I (F := fun n t (s : xH) => f_X12_day_30 n s 57 (nI k) (nI (dsum tt k t * tt (248 + 2 * k + 1))) (nI t)) (N := 24) some (fun t s => (∃ f, s = HH (upA A 64 f) Z B Q P F q D c) ∧ ∀ u, u < t → (bq tt k u).isSome = true) (fun o => ∃ f, o = (match dayv tt k with | none => nM | some m => nI (m * tt (248 + 2 * k + 1)), HH (upA A 64 f) Z B Q P F q D c)) (fun n t s ht hs => ?_) (fun n s hs => ?_) (by omega) (s := HH A Z B Q P F q D c) ⟨⟨A 64, by rw [y_ua]⟩, fun u hu => by omega⟩
  · obtain ⟨o, e1, f, rfl⟩ := key
    refine ⟨f, ?_⟩
    rw [show dsum tt k 0 = 0 from rfl, Nat.zero_mul] at e1
    exact e1
  · obtain ⟨⟨f, rfl⟩, hu⟩ := hs
    have hT2 : Told (upA A 64 f 58) tt lk lh := hT
    obtain ⟨f', e1⟩ := m_brightOf (A := upA A 64 f) (Z := Z) (B := B) (Q := Q) (P := P) (F := F) (q := q) (D := D) (c := c) hT2 hW hk ht
    rw [y_uu] at e1
    have es : f_X12_day_30 (n + 1) (HH (upA A 64 f) Z B Q P F q D c) 57 (nI k) (nI (dsum tt k t * tt (248 + 2 * k + 1))) (nI t) = (if eo (bq tt k t) = (-1 : Int32) then some (((-1 : Int32), HH (upA A 64 f') Z B Q P F q D c)) else ((f_X12_ones (HH (upA A 64 f') Z B Q P F q D c) (eo (bq tt k t))).bind fun r5 => (gR (HH (upA A 64 f') Z B Q P F q D c) 57 12 0).bind fun v6 => (ldI (HH (upA A 64 f') Z B Q P F q D c) .int v6 (((248 : Int32) + ((2 : Int32) * nI k)) + (1 : Int32))).bind fun v7 => f_X12_day_30 n (HH (upA A 64 f') Z B Q P F q D c) 57 (nI k) (nI (dsum tt k t * tt (248 + 2 * k + 1)) + (r5 * v7)) (nI t + 1))) := by
      rw [f_X12_day_30, if_neg (by rw [show (24 : Int32) = nI 24 from rfl, y_le (by omega) (by omega)]; omega), gO_57, Option.bind_some, e1, Option.bind_some]
    cases hb : bq tt k t with
    | none =>
      right
      rw [hb] at es
      refine ⟨_, es.trans (if_pos rfl), f', ?_⟩
      have hd : dayv tt k = none := by
        unfold dayv
        rw [allB_f ht (by rw [hb]; rfl)]
        rfl
      rw [hd]
      rfl
    | some S =>
      left
      have hSl := bq_lt hb
      have hbn : bqn tt k t = pc S := by unfold bqn; rw [hb]
      rw [hb] at es
      refine ⟨HH (upA A 64 f') Z B Q P F q D c, es.trans ?_, ⟨f', rfl⟩, fun u hu2 => ?_⟩
      · rw [if_neg (by show ¬ nI S = nM; rw [y_eqM (by omega)]; exact fun h => h)]
        show ((f_X12_ones (HH (upA A 64 f') Z B Q P F q D c) (nI S)).bind _) = _
        rw [ones_spec _ (by omega), Option.bind_some, gf_57_0, Option.bind_some, show (248 : Int32) = nI 248 from rfl, show (2 : Int32) = nI 2 from rfl, show (1 : Int32) = nI 1 from rfl, pk_mul, nI_add, nI_add, ld_58 (by omega), Option.bind_some, y_un (by decide), hT.1 _ (by omega), pk_mul, nI_add, nI_add, dsum, hbn, Nat.add_mul]
      · by_cases e : u = t
        · subst e; rw [hb]; rfl
        · exact hu u (by omega)
  · obtain ⟨⟨f, rfl⟩, hu⟩ := hs
    refine ⟨(nI (dsum tt k 24 * tt (248 + 2 * k + 1)), HH (upA A 64 f) Z B Q P F q D c), ?_, f, ?_⟩
    · show f_X12_day_30 (n + 1) _ _ _ _ _ = _
      rw [f_X12_day_30, if_pos (by decide)]
    · have hd : dayv tt k = some (dsum tt k 24) := by
        unfold dayv
        rw [allB_t hu]
        rfl
      rw [hd]
theorem c_oilK (H : Hs K D q tt) (hW : HWf tt) {q' k : Nat} (hk : k < tt 3) : f_X3_oilOf (HH A Z B Q P F q' D c) q (nI k) = some (nI (tt (248 + 2 * k + 1))) := by
  have h2 := hW.ki
  simp (disch := omega) only [f_X3_oilOf, if_true, if_false, Bool.false_eq_true, Bool.true_eq_false, y_lit, y_m1, nI_add, pk_mul, fa_and, fa_or, y_bs, if_pos, if_neg, y_shl, y_shr, y_le, y_lt, y_eq, y_sub, y_dv, y_rm, y_b0, y_b1, y_sdf, y_ltM, y_Mlt, y_leM, y_Mle, y_eqM, y_Meq, s_e1, s_e2, s_e3, s_e4, s_e5, s_e6, hs_4 H, hs_8 H, hs_k1 H]
end Day
theorem dayv_le {tt : Nat → Nat} (hW : HWf tt) {k m : Nat} (h : dayv tt k = some m) : m ≤ 384 := by
  unfold dayv at h
  split at h
  · have := dsum_le hW k 24
    cases h
    omega
  · cases h
theorem ok_day : ∀ x0, ME (fun h => f_L_day h 0 x0 76) (fun h => f_X12_day h 57 x0) := by
  intro x h i hJ hi
  obtain ⟨K, A, Z, B, Q, P, F, q, D, c, tt, lk, lh, R, rfl, hI⟩ := hJ
  have hz := hI.2.1.2.2.2
  obtain ⟨H, hW, hL, hT, hLm⟩ := hI.1
  have hki := hW.ki
  cases hx : rk x (tt 3)
  · refine ME_t hI (k := 1) (b := nI 0) (by decide) ?_ ?_ (oZ18 (nI 1)) rfl
    · simp (disch := omega) only [f_L_day, f_X11_day, if_true, if_false, Bool.false_eq_true, Bool.true_eq_false, y_lit, y_m1, nI_add, pk_mul, fa_and, fa_or, y_bs, if_pos, if_neg, y_shl, y_shr, y_le, y_lt, y_eq, y_sub, y_dv, y_rm, y_b0, y_b1, y_sdf, y_ltM, y_Mlt, y_leM, y_Mle, y_eqM, y_Meq, s_e1, s_e2, s_e3, s_e4, s_e5, s_e6, gO_0, c_checkKind H, hx]
    · unfold f_X12_day f_X12_day_14
      generalize xFU = N
      simp (disch := omega) only [if_true, if_false, Bool.false_eq_true, Bool.true_eq_false, y_lit, y_m1, nI_add, pk_mul, fa_and, fa_or, y_bs, if_pos, if_neg, y_shl, y_shr, y_le, y_lt, y_eq, y_sub, y_dv, y_rm, y_b0, y_b1, y_sdf, y_ltM, y_Mlt, y_leM, y_Mle, y_eqM, y_Meq, s_e1, s_e2, s_e3, s_e4, s_e5, s_e6, gO_57, m_isKind hT hW, hx, pf_57_4, gf_57_4, y_us, y_un, y_vs, y_vn, y_uu, y_vv, ne_eq, not_false_eq_true, not_true_eq_false]
  · obtain ⟨k, hk, rfl⟩ := rk_t (by omega) hx
    obtain ⟨A', Z', e1, o1, o2, z1, z2⟩ := c_lampsOfDay (A := A) (Z := Z) (B := B) (Q := Q) (P := P) (F := F) (c := c) H hW hk hz.2.2.2.1 hz.2.2.2.2.2
    have hT2 : Told (A' 58) tt lk lh := by rw [o1 58 (by decide)]; exact hT
    generalize hv : (match dayv tt k with | none => nM | some m => nI (m * tt (248 + 2 * k + 1)) : Int32) = v
    obtain ⟨f, e2⟩ := m_day30 (A := A') (Z := upA Z' 18 (nI 0)) (B := oB B v.toInt64) (Q := Q) (P := P) (F := F) (q := q) (D := D) (c := c) hT2 hW hk
    rw [hv] at e2
    refine ME_r hI (v := v) (A1 := A') (Z1 := Z') (A2 := upA A' 64 f) (Z2 := upA Z' 18 (nI 0)) ?_ ?_ ((o1.mono (by decide)).up (by decide)) (Zro_36 hz ((o1.mono (by decide)).up (by decide)) z1 z2) ((o2.mono (by decide)).up (by decide)) rfl
    · show f_L_day (HH A Z B Q P F q D c) 0 (nI k) 76 = _
      cases hd : dayv tt k with
      | none =>
        rw [hd] at e1 hv
        have hv2 : nM = v := hv
        subst hv2
        have e1' : f_X4_lampsOfDay (HH A Z B Q P F q D c) 28 q (nI k) = some (nM, HH A' Z' B Q P F q D c) := e1
        simp (disch := omega) only [f_L_day, f_X11_day, if_true, if_false, Bool.false_eq_true, Bool.true_eq_false, y_lit, y_m1, nI_add, pk_mul, fa_and, fa_or, y_bs, if_pos, if_neg, y_shl, y_shr, y_le, y_lt, y_eq, y_sub, y_dv, y_rm, y_b0, y_b1, y_sdf, y_ltM, y_Mlt, y_leM, y_Mle, y_eqM, y_Meq, s_e1, s_e2, s_e3, s_e4, s_e5, s_e6, gO_0, c_checkKind H, hx, gf_0_13, gf_0_4, gO_28, e1', oB_st]
      | some m =>
        have hm := dayv_le hW hd
        rw [hd] at e1 hv
        have hv2 : nI (m * tt (248 + 2 * k + 1)) = v := hv
        subst hv2
        have e1' : f_X4_lampsOfDay (HH A Z B Q P F q D c) 28 q (nI k) = some (nI m, HH A' Z' B Q P F q D c) := e1
        simp (disch := omega) only [f_L_day, f_X11_day, if_true, if_false, Bool.false_eq_true, Bool.true_eq_false, y_lit, y_m1, nI_add, pk_mul, fa_and, fa_or, y_bs, if_pos, if_neg, y_shl, y_shr, y_le, y_lt, y_eq, y_sub, y_dv, y_rm, y_b0, y_b1, y_sdf, y_ltM, y_Mlt, y_leM, y_Mle, y_eqM, y_Meq, s_e1, s_e2, s_e3, s_e4, s_e5, s_e6, gO_0, c_checkKind H, hx, gf_0_13, gf_0_4, gO_28, e1', oB_st, hs_gO H, c_oilK H hW]
    · show f_X12_day (HH A' Z' (oB B v.toInt64) Q P F q D c) 57 (nI k) = _
      unfold f_X12_day f_X12_day_14
      rw [gO_57, Option.bind_some, m_isKind hT2 hW, hx, if_pos rfl, Option.bind_some, if_neg (by decide), pf_57_4, Option.bind_some, gf_57_4, Option.bind_some, y_us, if_pos (by decide)]
      exact e2
