/-! ===== bright ===== -/
def bqV (tt : Nat → Nat) (k t T : Nat) : Bool := decide (drk tt (Lsum tt (kb tt k T)) t = 0)
/-- the fewest lamps of kind k for hour t -/
def bq (tt : Nat → Nat) (k t : Nat) : Option Nat := bst (bqV tt k t) (2 ^ tt 1)
theorem bqV_iff {tt : Nat → Nat} (hW : HWf tt) {k : Nat} (hk : k < tt 3) (t T : Nat) : bqV tt k t T = true ↔ VV (GG tt (tt (248 + 2 * k))) (fun r => Lv tt t r (tt 4)) (fun r => Mv tt t r (tt 4)) (tt 1) T := by
  unfold bqV VV
  rw [decide_eq_true_iff, drk_0 hW (fun r => by rw [← SS_Lsum hW]; have := SS_le hW hk T r; omega)]
  constructor
  · intro h r hr
    rw [SS_Lsum hW]
    exact h r hr
  · intro h r hr
    rw [← SS_Lsum hW]
    exact h r hr
theorem bq_lt {tt : Nat → Nat} {k t S : Nat} (h : bq tt k t = some S) : S < 2 ^ tt 1 := bst_lt h
section Bright
variable {A : Nat → Nat → Int32} {Z : Nat → Int32} {B : Nat → Nat → Int64} {Q : Nat → Int64} {P : Nat → Option Nat} {F : Nat → Nat → Option Nat} {q : Nat} {D : List xC} {c : Nat × Nat} {K : Nat → Nat} {tt lk lh : Nat → Nat} {R i : Nat}
theorem c_kfew (H : Hs K D q tt) (hW : HWf tt) {k t : Nat} (hk : k < tt 3) (ht : t < 24) (hz : A 36 0 = 0) (hz2 : ∀ j, j < 16 → A 35 j = 0) : ∃ A' Z', f_X4_fewest (HH A Z B Q P F q D c) 28 q (nI k) (nI t) = some (eo (bq tt k t), HH A' Z' B Q P F q D c) ∧ Only [30, 31, 32, 33, 34, 35, 36] A A' ∧ Only [4, 5, 6] Z Z' ∧ A' 36 0 = 0 ∧ ∀ j, j < 16 → A' 35 j = 0 := by
  have hro := hW.ro
  have hpw := pw16 hro
  have hSS := SS_le hW hk
  have hUU := fun r i hi => UU_le hW hk r (i := i) hi
  have hbst : BestF (fun T => VV (GG tt (tt (248 + 2 * k))) (fun r => Lv tt t r (tt 4)) (fun r => Mv tt t r (tt 4)) (tt 1) T) (tt 1) (bq tt k t) := BestF_cong (fun T _ => bqV_iff hW hk t T) bst_best
  obtain ⟨A1, z, W, wc, fl, e1, o1, hB, h32, hfl⟩ := b0_begin (A := A) (Z := upA (upA Z 4 nM) 5 (nI (tt 1 + 1))) (B := B) (Q := Q) (P := P) (F := F) (c := c) H hW (q' := q) ht
  have estart : f_X4_fewest (HH A Z B Q P F q D c) 28 q (nI k) (nI t) = (if (nI (if fl then 1 else 0) : Int32) = 0 then f_X4_fewest_77 (HH A1 (upA (upA (upA Z 4 nM) 5 (nI (tt 1 + 1))) 6 z) B Q P F q D c) 28 else ((gO (HH A1 (upA (upA (upA Z 4 nM) 5 (nI (tt 1 + 1))) 6 z) B Q P F q D c) 28 4).bind fun q8 => (f_X4_lay (HH A1 (upA (upA (upA Z 4 nM) 5 (nI (tt 1 + 1))) 6 z) B Q P F q D c) 28 q (nI k)).bind fun r9 => (gR r9 28 4 0).bind fun v10 => (gO r9 v10 0).bind fun q11 => (f_X0_lacking r9 v10).bind fun r12 => (gR r9 28 4 0).bind fun v13 => (gR r9 28 4 2).bind fun v14 => (gI r9 q 3 1).bind fun v15 => (gO r9 v13 0).bind fun q16 => (f_X0_enoughWith r9 v13 v14 (v15 * (16 : Int32)) r12).bind fun r17 => (if r17 = 0 then (f_X4_fewest_77 r9 28) else ((gI r9 q 3 1).bind fun v19 => (f_X4_seek 40 r9 28 q v19 (0 : Int32) r12).bind fun r20 => f_X4_fewest_77 r20 28)))) := by
    unfold f_X4_fewest
    rw [show (-1 : Int32) = nM from rfl, pf_28_6, Option.bind_some, hs_1 H, Option.bind_some, nI_1, pf_28_7, Option.bind_some, gf_28_0, Option.bind_some, gO_29, Option.bind_some, e1, Option.bind_some]
  have h77 : ∀ A Z, f_X4_fewest_77 (HH A Z B Q P F q D c) 28 = some (Z 4, HH A Z B Q P F q D c) := fun A Z => by
    unfold f_X4_fewest_77
    rw [gf_28_6, Option.bind_some]
  have hzz : upA (upA (upA Z 4 nM) 5 (nI (tt 1 + 1))) 6 z = kz (upA Z 6 z) none (tt 1 + 1) := by
    unfold kz eo
    funext j
    unfold upA
    by_cases e1 : j = 6
    · subst e1; simp
    · simp [e1]
  cases fl with
  | false =>
    have hno : bq tt k t = none := by
      refine BestF_one (V := fun T => VV (GG tt (tt (248 + 2 * k))) (fun r => Lv tt t r (tt 4)) (fun r => Mv tt t r (tt 4)) (tt 1) T) (n := tt 1) hbst (fun T hT hv => ?_)
      have : ∀ r, r < 16 → Lv tt t r (tt 4) ≤ Mv tt t r (tt 4) := fun r hr => by
        have := hv r hr
        dsimp only at this
        omega
      have := hfl.mpr this
      cases this
    refine ⟨A1, upA (upA (upA Z 4 nM) 5 (nI (tt 1 + 1))) 6 z, ?_, o1.mono (by decide), ((Only.rf.up (by decide)).up (by decide)).up (by decide), by rw [o1 36 (by decide)]; exact hz, fun j hj => by rw [o1 35 (by decide)]; exact hz2 j hj⟩
    rw [estart, if_pos (by decide), h77, hno]
    rfl
  | true =>
    obtain ⟨A2, e2, o2, h34, h35, h36, z1, z2⟩ := c_kinlay (A := A1) (Z := upA (upA (upA Z 4 nM) 5 (nI (tt 1 + 1))) 6 z) (B := B) (Q := Q) (P := P) (F := F) (c := c) H hW (q' := q) hk (by rw [o1 36 (by decide)]; exact hz) (fun j hj => by rw [o1 35 (by decide)]; exact hz2 j hj)
    have hB2 : Bal (A2 30) (A2 31) (A2 33) z (fun r => Lv tt t r (tt 4)) (fun r => Mv tt t r (tt 4)) W wc := by
      rw [o2 30 (by decide), o2 31 (by decide), o2 33 (by decide)]
      exact hB
    have hWl : ∀ j, j < wc → W j < tt 1 := fun j hj => wat_lt hW (hB.2.2.2.2.1 j hj).2.2
    have hoA : Only [30, 31, 32, 33, 34, 35, 36] A A2 := o1.tr o2 (by decide) (by decide)
    have hS0 : ∀ j, j < wc → A2 32 (W j) = nI (SS (GG tt (tt (248 + 2 * k))) (tt 1) 0 (W j)) := fun j hj => by
      rw [o2 32 (by decide), SS_0]
      exact h32 _ (hB.2.2.2.2.1 j hj).2.1
    have e3 := b0_lack (A := A2) (Z := upA (upA (upA Z 4 nM) 5 (nI (tt 1 + 1))) 6 z) (B := B) (Q := Q) (P := P) (F := F) (q := q) (D := D) (c := c) (S := SS (GG tt (tt (248 + 2 * k))) (tt 1) 0) hB2 hS0 (fun r => by have := hSS 0 r; omega)
    have hll := lkF_lt (S := SS (GG tt (tt (248 + 2 * k))) (tt 1) 0) hB2
    have e35 : ∀ j, j < wc → ldI (HH A2 (upA (upA (upA Z 4 nM) 5 (nI (tt 1 + 1))) 6 z) B Q P F q D c) .int 35 (nI (tt 1 * 16 + W j)) = some (nI (UU (GG tt (tt (248 + 2 * k))) (W j) (tt 1))) := fun j hj => by
      have := hWl j hj
      rw [ld_35 (by omega), h35 (tt 1) (W j) (Nat.le_refl _) this]
    have efl : (nI (if true then 1 else 0) : Int32) ≠ 0 := by decide
    rcases b0_enough (A := A2) (Z := upA (upA (upA Z 4 nM) 5 (nI (tt 1 + 1))) 6 z) (B := B) (Q := Q) (P := P) (F := F) (q := q) (D := D) (c := c) (S := SS (GG tt (tt (248 + 2 * k))) (tt 1) 0) (X := fun r => UU (GG tt (tt (248 + 2 * k))) r (tt 1)) hB2 hS0 (fun r => by have := hSS 0 r; omega) e35 (fun r => by have := hUU r (tt 1) (Nat.le_refl _); omega) hll with ⟨e4, h4⟩ | ⟨e4, j, hj, h4, h5⟩
    · have hR : KR A2 (upA Z 6 z) tt k (fun r => Lv tt t r (tt 4)) (fun r => Mv tt t r (tt 4)) W wc := ⟨by rw [y_us]; exact hB2, hWl, h34, h35, h36⟩
      obtain ⟨g', b', o', e5, k1, k2, k3⟩ := k_seek (A := A2) (Z := upA Z 6 z) (B := B) (Q := Q) (P := P) (F := F) (c := c) H hW (q' := q) hk hR (tt 1) 40 0 (tt 1 + 1) none (A2 32) (Nat.le_refl _) (by omega) (by rw [Nat.mul_zero]; exact Nat.two_pow_pos _) (by omega) (by rw [Nat.mul_zero]; exact hS0) (fun r hr => by rw [Nat.mul_zero, SS_0]; exact Nat.zero_le _)
      have hbo : bq tt k t = o' := by
        refine BestF_one hbst ?_
        rcases k2 with ⟨T, a1, a2, a3, a4, a5, a6⟩ | ⟨a1, a2, a3⟩
        · rw [a4]
          have hx : ∀ T, T < 2 ^ tt 1 → Ex (tt 1) 0 T := fun T hT => Nat.div_eq_of_lt hT
          have hT : T < 2 ^ tt 1 := by
            rcases Nat.lt_or_ge T (2 ^ tt 1) with h | h
            · exact h
            · have h1 := Nat.div_pos h (Nat.two_pow_pos (tt 1))
              unfold Ex at a1
              omega
          exact ⟨hT, a2, fun T2 hT2 hv => a6 T2 (hx T2 hT2) hv⟩
        · rw [a2]
          intro T hT hv
          have h1 := a3 T (Nat.div_eq_of_lt hT) hv
          have h2 := pc_le_n (by omega) hT
          omega
      rw [Nat.mul_zero] at e5
      rw [y_ua] at e5
      refine ⟨upA A2 32 g', kz (upA Z 6 z) o' b', ?_, hoA.up (by decide), ((Only.rf.up (by decide)).up (by decide)).up (by decide), z1, z2⟩
      rw [estart, if_neg efl, gO_28, Option.bind_some, e2, Option.bind_some, gf_28_0, Option.bind_some, gO_29, Option.bind_some, e3, Option.bind_some, Option.bind_some, gf_28_2, Option.bind_some, hs_1 H, Option.bind_some, gO_29, Option.bind_some, show (16 : Int32) = nI 16 from rfl, pk_mul, e4, Option.bind_some, if_neg (by decide), Option.bind_some, hzz]
      refine (congrArg (fun o => Option.bind o (fun r20 => f_X4_fewest_77 r20 28)) e5).trans ?_
      rw [Option.bind_some, h77, hbo]
      rfl
    · have hno : bq tt k t = none := by
        refine BestF_one (V := fun T => VV (GG tt (tt (248 + 2 * k))) (fun r => Lv tt t r (tt 4)) (fun r => Mv tt t r (tt 4)) (tt 1) T) (n := tt 1) hbst (fun T hT hv => ?_)
        have h1 := (hv (W j) (hB.2.2.2.2.1 j hj).2.1).1
        have h2 := SS_low (G := GG tt (tt (248 + 2 * k))) (r := W j) hT (Nat.le_refl _)
        rw [SS_0] at h5
        dsimp only at h1 h5
        omega
      refine ⟨A2, upA (upA (upA Z 4 nM) 5 (nI (tt 1 + 1))) 6 z, ?_, hoA, ((Only.rf.up (by decide)).up (by decide)).up (by decide), z1, z2⟩
      rw [estart, if_neg efl, gO_28, Option.bind_some, e2, Option.bind_some, gf_28_0, Option.bind_some, gO_29, Option.bind_some, e3, Option.bind_some, Option.bind_some, gf_28_2, Option.bind_some, hs_1 H, Option.bind_some, gO_29, Option.bind_some, show (16 : Int32) = nI 16 from rfl, pk_mul, e4, Option.bind_some, if_pos (by decide), h77, hno]
      rfl
theorem m_br37 (hT : Told (A 58) tt lk lh) (hW : HWf tt) {k t T : Nat} (hk : k < tt 3) (ht : t < 24) (hTl : T < 65536) (l3 : Int32) (k5 : xH → Nat → Int32 → Int32 → Int32 → Int32 → Option (Int32 × xH)) : ∃ f, f_X12_brightOf_37 k5 xFU (HH A Z B Q P F q D c) 57 (nI k) (nI t) l3 (nI T) (nI 0) = if bqV tt k t T = true then k5 (HH (upA A 64 f) Z B Q P F q D c) 57 (nI k) (nI t) (nI T) (nI (T + 1)) else k5 (HH (upA A 64 f) Z B Q P F q D c) 57 (nI k) (nI t) l3 (nI (T + 1)) := by
  have hro := hW.ro
  have hki := hW.ki
  have hbr := (hW.kind hk).2.1
  have key := loop_I (F := fun n j (s : xH) => f_X12_brightOf_37 k5 n s 57 (nI k) (nI t) l3 (nI T) (nI j)) (N := tt 1) (ρ := Option (Int32 × xH)) id (fun j s => ∃ f, s = HH (upA A 64 f) Z B Q P F q D c ∧ ∀ r, r < j → f r = nI (kb tt k T r)) (fun o => ∃ f, o = if bqV tt k t T = true then k5 (HH (upA A 64 f) Z B Q P F q D c) 57 (nI k) (nI t) (nI T) (nI (T + 1)) else k5 (HH (upA A 64 f) Z B Q P F q D c) 57 (nI k) (nI t) l3 (nI (T + 1))) (fun n j s hj hs => Or.inl ?_) (fun n s hs => ?_) (by omega) (s := HH A Z B Q P F q D c) ⟨A 64, by rw [y_ua], fun r hr => by omega⟩
  · obtain ⟨o, e1, f, rfl⟩ := key
    exact ⟨f, e1⟩
  · obtain ⟨f, rfl, hf⟩ := hs
    have hT2 : Told (upA A 64 f 58) tt lk lh := hT
    refine ⟨HH (upA A 64 (va_up f j (nI (kb tt k T j)))) Z B Q P F q D c, ?_, _, rfl, fun r hr => ?_⟩
    · unfold kb
      cases hb : T.testBit j
      · simp (disch := omega) only [f_X12_brightOf_37, f_X12_brightOf_78, if_true, if_false, Bool.false_eq_true, Bool.true_eq_false, y_lit, y_m1, nI_add, pk_mul, fa_and, fa_or, y_bs, if_pos, if_neg, y_shl, y_shr, y_le, y_lt, y_eq, y_sub, y_dv, y_rm, y_b0, y_b1, y_sdf, y_ltM, y_Mlt, y_leM, y_Mle, y_eqM, y_Meq, s_e1, s_e2, s_e3, s_e4, s_e5, s_e6, gO_57, m_rooms hT2, gf_57_17, has_spec, hb, st_64, y_us, y_un, y_vs, y_vn, y_uu, y_vv, ne_eq, not_false_eq_true, not_true_eq_false]
      · simp (disch := omega) only [f_X12_brightOf_37, f_X12_brightOf_78, if_true, if_false, Bool.false_eq_true, Bool.true_eq_false, y_lit, y_m1, nI_add, pk_mul, fa_and, fa_or, y_bs, if_pos, if_neg, y_shl, y_shr, y_le, y_lt, y_eq, y_sub, y_dv, y_rm, y_b0, y_b1, y_sdf, y_ltM, y_Mlt, y_leM, y_Mle, y_eqM, y_Meq, s_e1, s_e2, s_e3, s_e4, s_e5, s_e6, gO_57, m_rooms hT2, gf_57_17, gf_57_0, has_spec, hb, ld_58, hT2.1, st_64, y_us, y_un, y_vs, y_vn, y_uu, y_vv, ne_eq, not_false_eq_true, not_true_eq_false]
    · by_cases e : r = j
      · subst e; rw [y_vs]
      · rw [y_vn e]; exact hf r (by omega)
  · obtain ⟨f, rfl, hf⟩ := hs
    have hT2 : Told (upA A 64 f 58) tt lk lh := hT
    have e0 := m_darkBy (A := upA A 64 f) (Z := Z) (B := B) (Q := Q) (P := P) (F := F) (q := q) (D := D) (c := c) hT2 hW (sh := kb tt k T) (fun r hr => by rw [y_us]; exact hf r hr) (fun r _ => by unfold kb; split <;> omega) ht
    have hd : drk tt (Lsum tt (kb tt k T)) t < 2 ^ tt 1 := drk_lt hW t (Nat.le_refl _)
    have hpw := pw16 hro
    refine ⟨_, ?_, f, rfl⟩
    show f_X12_brightOf_37 k5 (n + 1) _ _ _ _ _ _ _ = _
    rw [f_X12_brightOf_37, gO_57, Option.bind_some, m_rooms hT2, Option.bind_some, if_pos (by rw [y_le (by omega) (by omega)]; exact Nat.le_refl _), Option.bind_some, e0, Option.bind_some, nI_1]
    unfold bqV
    by_cases h : drk tt (Lsum tt (kb tt k T)) t = 0
    · rw [if_pos (by rw [h]; rfl), if_pos (decide_eq_true h)]
      rfl
    · rw [if_neg (by rw [← nI_0, y_eq (by omega) (by omega)]; exact h), if_neg (by rw [decide_eq_false h]; decide)]
      rfl
theorem m_brightOf (hT : Told (A 58) tt lk lh) (hW : HWf tt) {k t : Nat} (hk : k < tt 3) (ht : t < 24) : ∃ f, f_X12_brightOf (HH A Z B Q P F q D c) 57 (nI k) (nI t) = some (eo (bq tt k t), HH (upA A 64 f) Z B Q P F q D c) := by
  have hro := hW.ro
  have hpw := pw16 hro
  have hpp := Nat.two_pow_pos (tt 1)
  unfold f_X12_brightOf
  have key := loop_J (F := fun n T (s : Int32 × xH) => f_X12_brightOf_5 n s.2 57 (nI k) (nI t) s.1 (nI T)) (N := 2 ^ tt 1) some (fun T s => ∃ f, s = (eo (bst (bqV tt k t) T), HH (upA A 64 f) Z B Q P F q D c)) (fun n T s hTl hs => ?_) (fun n s hs => ?_) (by omega) (s := (nM, HH A Z B Q P F q D c)) ⟨A 64, by rw [y_ua]; rfl⟩
  · obtain ⟨s, e1, f, rfl⟩ := key
    exact ⟨f, e1⟩
  · obtain ⟨f, rfl⟩ := hs
    have hT2 : Told (upA A 64 f 58) tt lk lh := hT
    obtain ⟨f', e1⟩ := m_br37 (A := upA A 64 f) (Z := Z) (B := B) (Q := Q) (P := P) (F := F) (q := q) (D := D) (c := c) hT2 hW hk ht (show T < 65536 by omega) (eo (bst (bqV tt k t) T)) (f_X12_brightOf_5 n)
    rw [y_uu] at e1
    have pT : pc T ≤ 64 := pc_le T
    have e0 : f_X12_brightOf_5 (n + 1) (HH (upA A 64 f) Z B Q P F q D c) 57 (nI k) (nI t) (eo (bst (bqV tt k t) T)) (nI T) = (if eo (bst (bqV tt k t) T) = (-1 : Int32) then f_X12_brightOf_37 (f_X12_brightOf_5 n) xFU (HH (upA A 64 f) Z B Q P F q D c) 57 (nI k) (nI t) (eo (bst (bqV tt k t) T)) (nI T) (nI 0) else (f_X12_ones (HH (upA A 64 f) Z B Q P F q D c) (nI T)).bind fun r5 => (f_X12_ones (HH (upA A 64 f) Z B Q P F q D c) (eo (bst (bqV tt k t) T))).bind fun r6 => if r5 < r6 then f_X12_brightOf_37 (f_X12_brightOf_5 n) xFU (HH (upA A 64 f) Z B Q P F q D c) 57 (nI k) (nI t) (eo (bst (bqV tt k t) T)) (nI T) (nI 0) else f_X12_brightOf_5 n (HH (upA A 64 f) Z B Q P F q D c) 57 (nI k) (nI t) (eo (bst (bqV tt k t) T)) (nI (T + 1))) := by
      rw [f_X12_brightOf_5, gO_57, Option.bind_some, m_all hT2 hW, Option.bind_some, if_neg (by rw [y_lt (by omega) (by omega)]; omega), nI_1]
      rfl
    cases hb : bst (bqV tt k t) T with
    | none =>
      rw [hb] at e0 e1
      refine ⟨(eo (bst (bqV tt k t) (T + 1)), HH (upA A 64 f') Z B Q P F q D c), ?_, f', rfl⟩
      show f_X12_brightOf_5 (n + 1) _ _ _ _ _ _ = f_X12_brightOf_5 n _ _ _ _ _ _
      refine (e0.trans (if_pos rfl)).trans (e1.trans ?_)
      rw [bst, hb]
      cases hv : bqV tt k t T
      · rfl
      · rfl
    | some b =>
      have hbl := bst_lt hb
      have pb : pc b ≤ 64 := pc_le b
      rw [hb] at e0 e1
      have e2 : f_X12_brightOf_5 (n + 1) (HH (upA A 64 f) Z B Q P F q D c) 57 (nI k) (nI t) (eo (some b)) (nI T) = if pc T < pc b then f_X12_brightOf_37 (f_X12_brightOf_5 n) xFU (HH (upA A 64 f) Z B Q P F q D c) 57 (nI k) (nI t) (eo (some b)) (nI T) (nI 0) else f_X12_brightOf_5 n (HH (upA A 64 f) Z B Q P F q D c) 57 (nI k) (nI t) (eo (some b)) (nI (T + 1)) := by
        rw [e0, if_neg (by show ¬ nI b = nM; rw [y_eqM (by omega)]; exact fun h => h), ones_spec _ (by omega), Option.bind_some]
        show ((f_X12_ones _ (nI b)).bind _) = _
        rw [ones_spec _ (by omega), Option.bind_some]
        by_cases h : pc T < pc b
        · rw [if_pos (by rw [y_lt (by omega) (by omega)]; exact h), if_pos h]
        · rw [if_neg (by rw [y_lt (by omega) (by omega)]; exact h), if_neg h]
      by_cases h : pc T < pc b
      · refine ⟨(eo (bst (bqV tt k t) (T + 1)), HH (upA A 64 f') Z B Q P F q D c), ?_, f', rfl⟩
        show f_X12_brightOf_5 (n + 1) _ _ _ _ _ _ = f_X12_brightOf_5 n _ _ _ _ _ _
        refine (e2.trans (if_pos h)).trans (e1.trans ?_)
        rw [bst, hb]
        cases hv : bqV tt k t T
        · rw [if_neg (by decide)]
          simp only [Bool.false_eq_true, and_false, if_false]
        · rw [if_pos rfl]
          simp only [h, and_self, if_true]
          rfl
      · refine ⟨(eo (bst (bqV tt k t) (T + 1)), HH (upA A 64 f) Z B Q P F q D c), ?_, f, rfl⟩
        show f_X12_brightOf_5 (n + 1) _ _ _ _ _ _ = f_X12_brightOf_5 n _ _ _ _ _ _
        refine (e2.trans (if_neg h)).trans ?_
        rw [bst, hb]
        simp only [h, false_and, if_false]
  · obtain ⟨f, rfl⟩ := hs
    have hT2 : Told (upA A 64 f 58) tt lk lh := hT
    show f_X12_brightOf_5 (n + 1) _ _ _ _ _ _ = _
    rw [f_X12_brightOf_5, gO_57, Option.bind_some, m_all hT2 hW, Option.bind_some, if_pos (by rw [y_lt (by omega) (by omega)]; omega)]
theorem Zro_36 {A' : Nat → Nat → Int32} (H : Zro A) (hA : Only [30, 31, 32, 33, 34, 35, 36, 37, 38, 64] A A') (h1 : A' 36 0 = 0) (h2 : ∀ j, j < 16 → A' 35 j = 0) : Zro A' := by
  obtain ⟨z1, z2, z3, _, z5, _⟩ := H
  unfold Zro
  rw [hA 24 (by decide), hA 25 (by decide), hA 26 (by decide), hA 55 (by decide)]
  exact ⟨z1, z2, z3, h1, z5, h2⟩
end Bright
theorem ok_bright : ∀ x0 x1, ME (fun h => f_L_bright h 0 x0 x1 76) (fun h => f_X12_bright h 57 x0 x1) := by
  intro x y h i hJ hi
  obtain ⟨K, A, Z, B, Q, P, F, q, D, c, tt, lk, lh, R, rfl, hI⟩ := hJ
  have hz := hI.2.1.2.2.2
  obtain ⟨H, hW, hL, hT, hLm⟩ := hI.1
  have hki := hW.ki
  cases hx : rk x (tt 3)
  · refine ME_t hI (k := 1) (b := nI 0) (by decide) ?_ ?_ (oZ18 (nI 1)) rfl
    · simp (disch := omega) only [f_L_bright, f_X11_bright, if_true, if_false, Bool.false_eq_true, Bool.true_eq_false, y_lit, y_m1, nI_add, pk_mul, fa_and, fa_or, y_bs, if_pos, if_neg, y_shl, y_shr, y_le, y_lt, y_eq, y_sub, y_dv, y_rm, y_b0, y_b1, y_sdf, y_ltM, y_Mlt, y_leM, y_Mle, y_eqM, y_Meq, s_e1, s_e2, s_e3, s_e4, s_e5, s_e6, gO_0, c_checkKind H, hx]
    · simp (disch := omega) only [f_X12_bright, f_X12_bright_25, if_true, if_false, Bool.false_eq_true, Bool.true_eq_false, y_lit, y_m1, nI_add, pk_mul, fa_and, fa_or, y_bs, if_pos, if_neg, y_shl, y_shr, y_le, y_lt, y_eq, y_sub, y_dv, y_rm, y_b0, y_b1, y_sdf, y_ltM, y_Mlt, y_leM, y_Mle, y_eqM, y_Meq, s_e1, s_e2, s_e3, s_e4, s_e5, s_e6, gO_57, m_isKind hT hW, hx, pf_57_4, gf_57_4, y_us, y_un, y_vs, y_vn, y_uu, y_vv, ne_eq, not_false_eq_true, not_true_eq_false]
  · obtain ⟨k, hk, rfl⟩ := rk_t (by omega) hx
    cases hy : rk y 24
    · refine ME_t hI (k := 2) (b := nI 0) (by decide) ?_ ?_ (oZ18 (nI 2)) rfl
      · simp (disch := omega) only [f_L_bright, f_X11_bright, if_true, if_false, Bool.false_eq_true, Bool.true_eq_false, y_lit, y_m1, nI_add, pk_mul, fa_and, fa_or, y_bs, if_pos, if_neg, y_shl, y_shr, y_le, y_lt, y_eq, y_sub, y_dv, y_rm, y_b0, y_b1, y_sdf, y_ltM, y_Mlt, y_leM, y_Mle, y_eqM, y_Meq, s_e1, s_e2, s_e3, s_e4, s_e5, s_e6, gO_0, c_checkKind H, hx, c_checkHour, hy]
      · simp (disch := omega) only [f_X12_bright, f_X12_bright_25, if_true, if_false, Bool.false_eq_true, Bool.true_eq_false, y_lit, y_m1, nI_add, pk_mul, fa_and, fa_or, y_bs, if_pos, if_neg, y_shl, y_shr, y_le, y_lt, y_eq, y_sub, y_dv, y_rm, y_b0, y_b1, y_sdf, y_ltM, y_Mlt, y_leM, y_Mle, y_eqM, y_Meq, s_e1, s_e2, s_e3, s_e4, s_e5, s_e6, gO_57, m_isKind hT hW, hx, m_isHour, hy, pf_57_4, gf_57_4, y_us, y_un, y_vs, y_vn, y_uu, y_vv, ne_eq, not_false_eq_true, not_true_eq_false]
    · obtain ⟨t, ht, rfl⟩ := rk_t (by decide) hy
      obtain ⟨A', Z', e1, o1, o2, z1, z2⟩ := c_kfew (A := A) (Z := Z) (B := B) (Q := Q) (P := P) (F := F) (c := c) H hW hk ht hz.2.2.2.1 hz.2.2.2.2.2
      generalize hv : eo (bq tt k t) = v at e1
      have hT2 : Told (A' 58) tt lk lh := by rw [o1 58 (by decide)]; exact hT
      obtain ⟨f, e2⟩ := m_brightOf (A := A') (Z := upA Z' 18 (nI 0)) (B := oB B v.toInt64) (Q := Q) (P := P) (F := F) (q := q) (D := D) (c := c) hT2 hW hk ht
      rw [hv] at e2
      refine ME_r hI (v := v) (A1 := A') (Z1 := Z') (A2 := upA A' 64 f) (Z2 := upA Z' 18 (nI 0)) ?_ ?_ ((o1.mono (by decide)).up (by decide)) (Zro_36 hz ((o1.mono (by decide)).up (by decide)) z1 z2) ((o2.mono (by decide)).up (by decide)) rfl
      · simp (disch := omega) only [f_L_bright, f_X11_bright, if_true, if_false, Bool.false_eq_true, Bool.true_eq_false, y_lit, y_m1, nI_add, pk_mul, fa_and, fa_or, y_bs, if_pos, if_neg, y_shl, y_shr, y_le, y_lt, y_eq, y_sub, y_dv, y_rm, y_b0, y_b1, y_sdf, y_ltM, y_Mlt, y_leM, y_Mle, y_eqM, y_Meq, s_e1, s_e2, s_e3, s_e4, s_e5, s_e6, gO_0, c_checkKind H, hx, c_checkHour, hy, gf_0_13, gf_0_4, gO_28, e1, oB_st]
      · simp (disch := omega) only [f_X12_bright, f_X12_bright_25, if_true, if_false, Bool.false_eq_true, Bool.true_eq_false, y_lit, y_m1, nI_add, pk_mul, fa_and, fa_or, y_bs, if_pos, if_neg, y_shl, y_shr, y_le, y_lt, y_eq, y_sub, y_dv, y_rm, y_b0, y_b1, y_sdf, y_ltM, y_Mlt, y_leM, y_Mle, y_eqM, y_Meq, s_e1, s_e2, s_e3, s_e4, s_e5, s_e6, gO_57, m_isKind hT2 hW, hx, m_isHour, hy, pf_57_4, gf_57_4, y_us, y_un, y_vs, y_vn, y_uu, y_vv, ne_eq, not_false_eq_true, not_true_eq_false, e2]
