/-! ===== mixed: both ends ===== -/
def BestV (v : Nat → Nat) (V E : Nat → Prop) (o : Option Nat) : Prop := match o with
  | none => ∀ T, E T → ¬ V T
  | some S => E S ∧ V S ∧ ∀ T, E T → V T → v S < v T ∨ (v S = v T ∧ S ≤ T)
theorem BestV_one {v : Nat → Nat} {V E : Nat → Prop} {o1 o2 : Option Nat} (h1 : BestV v V E o1) (h2 : BestV v V E o2) : o1 = o2 := by
  cases o1 with
  | none =>
    cases o2 with
    | none => rfl
    | some S => exact absurd h2.2.1 (h1 S h2.1)
  | some S =>
    cases o2 with
    | none => exact absurd h1.2.1 (h2 S h1.1)
    | some S2 =>
      have a := h1.2.2 S2 h2.1 h2.2.1
      have b := h2.2.2 S h1.1 h1.2.1
      congr 1
      omega
theorem bsv_ok (V : Nat → Bool) (v : Nat → Nat) : ∀ k, BestV v (fun T => V T = true) (fun T => T < k) (bsv V v k)
  | 0 => fun T h => absurd h (Nat.not_lt_zero T)
  | k + 1 => by
    have ih := bsv_ok V v k
    rw [bsv]
    cases hb : bsv V v k with
    | none =>
      rw [hb] at ih
      simp only
      cases hv : V k
      · simp only [Bool.false_eq_true, if_false]
        intro T hT h
        by_cases e : T = k
        · rw [e, hv] at h; cases h
        · exact ih T (by omega) h
      · simp only [if_true]
        refine ⟨Nat.lt_succ_self k, hv, fun T hT h => ?_⟩
        by_cases e : T = k
        · subst e; right; exact ⟨rfl, Nat.le_refl _⟩
        · exact absurd h (ih T (by omega))
    | some b =>
      rw [hb] at ih
      simp only
      obtain ⟨a1, a2, a3⟩ := ih
      by_cases h : v k < v b ∧ V k = true
      · rw [if_pos h]
        refine ⟨Nat.lt_succ_self k, h.2, fun T hT hv => ?_⟩
        by_cases e : T = k
        · subst e; right; exact ⟨rfl, Nat.le_refl _⟩
        · have := a3 T (by omega) hv
          omega
      · rw [if_neg h]
        refine ⟨Nat.lt_succ_of_lt a1, a2, fun T hT hv => ?_⟩
        by_cases e : T = k
        · subst e
          have : ¬ v T < v b := fun hh => h ⟨hh, hv⟩
          have : b < T := a1
          omega
        · exact a3 T (by omega) hv
theorem bsv_lt {V : Nat → Bool} {v : Nat → Nat} {k S : Nat} (h : bsv V v k = some S) : S < k := by
  have := bsv_ok V v k
  rw [h] at this
  exact this.1
theorem mpw_pos {tt : Nat → Nat} : ∀ j, 0 < mpw tt j
  | 0 => Nat.one_pos
  | j + 1 => Nat.mul_pos (mpw_pos j) mb_pos
theorem mpr_div {tt : Nat → Nat} (w : Nat) : ∀ j, mpr tt j w = w / mpw tt j
  | 0 => by rw [mpr, mpw, Nat.div_one]
  | j + 1 => by rw [mpr, mpw, mpr_div w j, Nat.div_div_eq_div_mul]
theorem mpr_0 {tt : Nat → Nat} {j w : Nat} : mpr tt j w = 0 ↔ w < mpw tt j := by
  rw [mpr_div]
  constructor
  · intro h
    apply Classical.byContradiction
    intro hc
    have := Nat.div_pos (show mpw tt j ≤ w by omega) (mpw_pos j)
    omega
  · intro h
    exact Nat.div_eq_of_lt h
theorem mpw_le {tt : Nat → Nat} (hW : HWf tt) : ∀ j, j ≤ 8 → mpw tt j ≤ 5 ^ j
  | 0, _ => Nat.le_refl _
  | j + 1, h => by
    rw [mpw, Nat.pow_succ]
    exact Nat.mul_le_mul (mpw_le hW j (by omega)) (mb_le hW)
theorem mpw_top {tt : Nat → Nat} (hW : HWf tt) {j : Nat} (h : j ≤ 8) : mpw tt j ≤ 390625 :=
  Nat.le_trans (mpw_le hW j h) (Nat.le_trans (Nat.pow_le_pow_right (by decide) h) (by decide))
theorem mqV_iff {tt : Nat → Nat} (hW : HWf tt) (t w : Nat) : mqV tt t w = true ↔ VM tt (fun r => Lv tt t r (tt 4)) (fun r => Mv tt t r (tt 4)) (tt 1) w := by
  unfold mqV VM
  rw [decide_eq_true_iff, drk_0 hW (fun r => by rw [← mlv_Lsum hW]; have := mlv_top hW (r := r) (p := w) (Nat.le_refl _); omega)]
  constructor
  · intro h r hr
    rw [mlv_Lsum hW]
    exact h r hr
  · intro h r hr
    rw [← mlv_Lsum hW]
    exact h r hr
theorem mq_best {tt : Nat → Nat} (hW : HWf tt) (t : Nat) : BestV (mcv tt (tt 1)) (VM tt (fun r => Lv tt t r (tt 4)) (fun r => Mv tt t r (tt 4)) (tt 1)) (fun w => mpr tt (tt 1) w = 0) (mq tt t) := by
  have h := bsv_ok (mqV tt t) (mcv tt (tt 1)) (mpw tt (tt 1))
  unfold mq
  cases hb : bsv (mqV tt t) (mcv tt (tt 1)) (mpw tt (tt 1)) with
  | none =>
    rw [hb] at h
    exact fun w hw hv => h w (mpr_0.mp hw) ((mqV_iff hW t w).mpr hv)
  | some S =>
    rw [hb] at h
    exact ⟨mpr_0.mpr h.1, (mqV_iff hW t S).mp h.2.1, fun w hw hv => h.2.2 w (mpr_0.mp hw) ((mqV_iff hW t w).mpr hv)⟩
section MFind
variable {A : Nat → Nat → Int32} {Z : Nat → Int32} {B : Nat → Nat → Int64} {Q : Nat → Int64} {P : Nat → Option Nat} {F : Nat → Nat → Option Nat} {q : Nat} {D : List xC} {c : Nat × Nat} {K : Nat → Nat} {tt lk lh : Nat → Nat} {R i : Nat}
theorem c_search (H : Hs K D q tt) (hW : HWf tt) (h8 : tt 1 ≤ 8) {t : Nat} (ht : t < 24) : ∃ A' Z' bo bl, f_X6_search (HH A Z B Q P F q D c) 39 q (nI t) = some (HH A' Z' B Q P F q D c) ∧ Only [40, 42, 43, 44, 45, 46, 47, 48] A A' ∧ Only [7, 8, 9, 10] Z Z' ∧ Z' 7 = nI bo ∧ Z' 8 = nI bl ∧ Bk tt (tt 1) (mq tt t) (A' 40) bo bl := by
  have hro := hW.ro
  have hbst := mq_best hW t
  have hmv : ∀ r i p, i ≤ tt 1 → mlv tt r i p ≤ 1000000 := fun r i p hi => by have := mlv_top hW (r := r) (p := p) hi; omega
  obtain ⟨A1, z, W, wc, fl, e1, o1, hB, h44, hfl⟩ := b1_begin (A := A) (Z := mz Z 99999 0) (B := B) (Q := Q) (P := P) (F := F) (c := c) H hW (q' := q) ht
  have estart : f_X6_search (HH A Z B Q P F q D c) 39 q (nI t) = (if (nI (if fl then 1 else 0) : Int32) = 0 then (some (HH A1 (upA (mz Z 99999 0) 10 z) B Q P F q D c)) else ((gO (HH A1 (upA (mz Z 99999 0) 10 z) B Q P F q D c) 39 6).bind fun q9 => (f_X6_lay (HH A1 (upA (mz Z 99999 0) 10 z) B Q P F q D c) 39 q).bind fun r10 => (gR r10 39 6 5).bind fun v11 => (gO r10 v11 0).bind fun q12 => (f_X0_lacking r10 v11).bind fun r13 => (gR r10 39 6 5).bind fun v14 => (gR r10 39 6 9).bind fun v15 => (gO r10 v14 0).bind fun q16 => (f_X0_enoughWith r10 v14 v15 (0 : Int32) r13).bind fun r17 => (if r17 = 0 then (some r10) else ((f_X6_seek 40 r10 39 q (0 : Int32) (0 : Int32) (0 : Int32) r13).bind fun r19 => some r19)))) := by
    unfold f_X6_search
    rw [pf_39_0, Option.bind_some, pf_39_1, Option.bind_some, hs_1 H, Option.bind_some, if_neg (by rw [show (8 : Int32) = nI 8 from rfl, y_lt (by omega) (by omega)]; omega), gf_39_5, Option.bind_some, gO_41, Option.bind_some]
    have e1' : f_X0_begin (HH A (upA (upA Z 7 (99999 : Int32)) 8 (0 : Int32)) B Q P F q D c) 41 q (nI t) = some (nI (if fl then 1 else 0), HH A1 (upA (mz Z 99999 0) 10 z) B Q P F q D c) := e1
    rw [e1', Option.bind_some]
  have oz : Only [7, 8, 9, 10] Z (upA (mz Z 99999 0) 10 z) := ((Only.rf.up (by decide)).up (by decide)).up (by decide)
  cases fl with
  | false =>
    have hno : mq tt t = none := by
      refine BestV_one hbst (fun w hw hv => ?_)
      have : ∀ r, r < 16 → Lv tt t r (tt 4) ≤ Mv tt t r (tt 4) := fun r hr => by
        have := hv r hr
        dsimp only at this
        omega
      have := hfl.mpr this
      cases this
    rw [hno]
    refine ⟨A1, upA (mz Z 99999 0) 10 z, 99999, 0, ?_, o1.mono (by decide), oz, rfl, rfl, ⟨rfl, rfl⟩⟩
    exact estart.trans (if_pos (by decide))
  | true =>
    obtain ⟨A2, e2, o2, h47, h48⟩ := c_mlay (A := A1) (Z := upA (mz Z 99999 0) 10 z) (B := B) (Q := Q) (P := P) (F := F) (c := c) H hW h8 (q' := q)
    generalize hZ2 : upA (upA Z 10 z) 9 (nI (mlo tt (tt 3))) = Z2
    have hZe : upA (upA (mz Z 99999 0) 10 z) 9 (nI (mlo tt (tt 3))) = mz Z2 99999 0 := by
      rw [← hZ2]
      unfold mz
      funext m
      unfold upA
      by_cases x1 : m = 9
      · subst x1; simp
      · by_cases x2 : m = 10
        · subst x2; simp
        · simp [x1, x2]
    rw [hZe] at e2
    have oz2 : Only [7, 8, 9, 10] Z Z2 := by rw [← hZ2]; exact (Only.rf.up (by decide)).up (by decide)
    have z10 : Z2 10 = z := by rw [← hZ2, y_un (by decide), y_us]
    have z9 : Z2 9 = nI (mlo tt (tt 3)) := by rw [← hZ2, y_us]
    have hB2 : Bal (A2 42) (A2 43) (A2 45) z (fun r => Lv tt t r (tt 4)) (fun r => Mv tt t r (tt 4)) W wc := by
      rw [o2 42 (by decide), o2 43 (by decide), o2 45 (by decide)]
      exact hB
    have hWl : ∀ j, j < wc → W j < tt 1 := fun j hj => wat_lt hW (hB.2.2.2.2.1 j hj).2.2
    have hoA : Only [40, 42, 43, 44, 45, 46, 47, 48] A A2 := o1.tr o2 (by decide) (by decide)
    have hS0 : ∀ j, j < wc → A2 44 (W j) = nI (mlv tt (W j) 0 0) := fun j hj => by
      rw [o2 44 (by decide)]
      exact h44 _ (hB.2.2.2.2.1 j hj).2.1
    have hBz : Bal (A2 42) (A2 43) (A2 45) (mz Z2 99999 0 10) (fun r => Lv tt t r (tt 4)) (fun r => Mv tt t r (tt 4)) W wc := by
      have : mz Z2 99999 0 10 = z := by unfold mz; rw [y_un (by decide), y_un (by decide)]; exact z10
      rw [this]
      exact hB2
    have e3 := b1_lack (A := A2) (Z := mz Z2 99999 0) (B := B) (Q := Q) (P := P) (F := F) (q := q) (D := D) (c := c) (S := fun r => mlv tt r 0 0) hBz hS0 (fun r => hmv r 0 0 (by omega))
    have hll := lkF_lt (S := fun r => mlv tt r 0 0) hB2
    have e48 : ∀ j, j < wc → ldI (HH A2 (mz Z2 99999 0) B Q P F q D c) .int 48 (nI (0 + W j)) = some (nI (mtu tt (tt 1) (W j) (tt 1))) := fun j hj => by
      have := hWl j hj
      have e := h48 0 (W j) (by omega) this
      rw [Nat.zero_mul] at e
      rw [ld_48 (by omega), e, Nat.sub_zero]
    have hmt : ∀ r, mtu tt (tt 1) r (tt 1) ≤ 1000000 := fun r => by have := mtu_top hW (tt 1) r (tt 1) h8; omega
    have efl : (nI (if true then 1 else 0) : Int32) ≠ 0 := by decide
    have esec : f_X6_search (HH A Z B Q P F q D c) 39 q (nI t) = ((f_X0_enoughWith (HH A2 (mz Z2 99999 0) B Q P F q D c) 41 48 (nI 0) (nI (lkF (fun r => Lv tt t r (tt 4)) (fun r => mlv tt r 0 0) W wc))).bind fun r17 => (if r17 = 0 then (some (HH A2 (mz Z2 99999 0) B Q P F q D c)) else ((f_X6_seek 40 (HH A2 (mz Z2 99999 0) B Q P F q D c) 39 q (nI 0) (nI 0) (nI 0) (nI (lkF (fun r => Lv tt t r (tt 4)) (fun r => mlv tt r 0 0) W wc))).bind fun r19 => some r19))) := by
      rw [estart, if_neg efl, gO_39, Option.bind_some, e2, Option.bind_some, gf_39_5, Option.bind_some, gO_41, Option.bind_some, e3, Option.bind_some, Option.bind_some, gf_39_9, Option.bind_some, gO_41, Option.bind_some]
      rfl
    rcases b1_enough (A := A2) (Z := mz Z2 99999 0) (B := B) (Q := Q) (P := P) (F := F) (q := q) (D := D) (c := c) (S := fun r => mlv tt r 0 0) (X := fun r => mtu tt (tt 1) r (tt 1)) hBz hS0 (fun r => hmv r 0 0 (by omega)) e48 hmt hll with ⟨e4, h4⟩ | ⟨e4, j, hj, h4, h5⟩
    · have hR : KM A2 Z2 tt (fun r => Lv tt t r (tt 4)) (fun r => Mv tt t r (tt 4)) W wc := ⟨by rw [z10]; exact hB2, hWl, h47, h48, z9⟩
      obtain ⟨k', g', ch', bo', bl', o', e5, k1, k2, k3, k4⟩ := m_seek (A := A2) (Z := Z2) (B := B) (Q := Q) (P := P) (F := F) (c := c) H hW h8 (q' := q) hR (tt 1) 0 40 0 99999 0 none (A2 40) (A2 44) (A2 46) (by omega) (by omega) (fun r hr => by omega) hS0 (fun r hr => Nat.zero_le _) ⟨rfl, rfl⟩
      have hbo : mq tt t = o' := by
        refine BestV_one hbst ?_
        rcases k4 with ⟨w, a1, a2, a3, a4, a5, a6⟩ | ⟨a1, a2, a3⟩
        · rw [a4]
          exact ⟨a1, a2, a6⟩
        · rw [a2]
          intro w hw hv
          have h1 := a3 w hw hv
          have h2 := moi_le hW (tt 1) w
          have h3 := mla_le (tt := tt) (tt 1) w
          unfold mcv at h1
          omega
      have ema : ma A2 (A2 40) (A2 44) (A2 46) = A2 := by
        unfold ma
        have x1 : upA A2 40 (A2 40) = A2 := y_ua
        have x2 : upA A2 44 (A2 44) = A2 := y_ua
        have x3 : upA A2 46 (A2 46) = A2 := y_ua
        rw [x1, x2, x3]
      rw [ema] at e5
      obtain ⟨b1, b2⟩ := Bk_le hW h8 k3
      refine ⟨ma A2 k' g' ch', mz Z2 bo' bl', bo', bl', ?_, ((hoA.up (by decide)).up (by decide)).up (by decide), (oz2.up (by decide)).up (by decide), by unfold mz; rw [y_un (by decide), y_us], by unfold mz; rw [y_us], ?_⟩
      · rw [esec, e4, Option.bind_some, if_neg (by decide)]
        have e5' : f_X6_seek 40 (HH A2 (mz Z2 99999 0) B Q P F q D c) 39 q (nI 0) (nI 0) (nI 0) (nI (lkF (fun r => Lv tt t r (tt 4)) (fun r => mlv tt r 0 0) W wc)) = some (HH (ma A2 k' g' ch') (mz Z2 bo' bl') B Q P F q D c) := e5
        rw [e5', Option.bind_some]
      · rw [hbo]
        have : ma A2 k' g' ch' 40 = k' := by unfold ma; rw [y_un (by decide), y_un (by decide), y_us]
        rw [this]
        exact k3
    · have hno : mq tt t = none := by
        refine BestV_one hbst (fun w hw hv => ?_)
        have h1 := (hv (W j) (hB.2.2.2.2.1 j hj).2.1).1
        have h2 := mtu_le (n := tt 1) (r := W j) (i := 0) hw (Nat.zero_add _)
        dsimp only at h1 h5
        have h3 : mlv tt (W j) 0 0 = 0 := rfl
        omega
      rw [hno]
      refine ⟨A2, mz Z2 99999 0, 99999, 0, ?_, hoA, (oz2.up (by decide)).up (by decide), rfl, rfl, ⟨rfl, rfl⟩⟩
      rw [esec, e4, Option.bind_some, if_pos (by decide)]
/-- one house at one place: one MIXED -/
theorem mix_one {tm : Nat → Nat} (H : Hs K D q tt) (H2 : Hs K D q tm) (hW : HWf tt) (hW2 : HWf tm) (h8 : tt 1 ≤ 8) (x1 : tm 1 ≤ 8) {u : Nat} (hu : u < 24) {k : Nat → Int32} {bo bl : Nat} (hbk : Bk tm (tm 1) (mq tm u) k bo bl) : Bk tt (tt 1) (mq tt u) k bo bl := by
  obtain ⟨A1, Z1, b1, l1, e1, _, _, z17, z18, k1⟩ := c_search (A := fun _ _ => 0) (Z := fun _ => 0) (B := fun _ _ => 0) (Q := fun _ => 0) (P := fun _ => none) (F := fun _ _ => none) (c := (0, 0)) H hW h8 hu
  obtain ⟨A2, Z2, b2, l2, e2, _, _, z27, z28, k2⟩ := c_search (A := fun _ _ => 0) (Z := fun _ => 0) (B := fun _ _ => 0) (Q := fun _ => 0) (P := fun _ => none) (F := fun _ _ => none) (c := (0, 0)) H2 hW2 x1 hu
  have eh := Option.some.inj (e1.symm.trans e2)
  have g7 := congrArg (fun h => gI h 39 6 0) eh
  have g8 := congrArg (fun h => gI h 39 6 1) eh
  rw [gf_39_0, gf_39_0] at g7
  rw [gf_39_1, gf_39_1] at g8
  have g7 := Option.some.inj g7
  have g8 := Option.some.inj g8
  have g40 : ∀ r, r < 8 → A1 40 r = A2 40 r := fun r hr => by
    have g := congrArg (fun h => ldI h .int 40 (nI r)) eh
    rw [ld_40 hr, ld_40 hr] at g
    exact Option.some.inj g
  obtain ⟨c1, c2⟩ := Bk_le hW h8 k1
  obtain ⟨c3, c4⟩ := Bk_le hW2 x1 k2
  rw [z17, z27, y_eq (by omega) (by omega)] at g7
  rw [z18, z28, y_eq (by omega) (by omega)] at g8
  cases hm : mq tm u with
  | none =>
    rw [hm] at k2 hbk
    cases hn : mq tt u with
    | none => exact hbk
    | some w =>
      rw [hn] at k1
      have a1 : b2 = 99999 := k2.1
      have a2 : b1 = moi tt (tt 1) w := k1.1
      have a3 := moi_le hW (tt 1) w
      omega
  | some w2 =>
    rw [hm] at k2 hbk
    obtain ⟨d1, d2, d3⟩ := k2
    obtain ⟨f1, f2, f3⟩ := hbk
    cases hn : mq tt u with
    | none =>
      rw [hn] at k1
      have a1 : b1 = 99999 := k1.1
      have a3 := moi_le hW2 (tm 1) w2
      omega
    | some w =>
      rw [hn] at k1
      obtain ⟨m1, m2, m3⟩ := k1
      exact ⟨by omega, by omega, fun r hr => by rw [f3 r hr, ← d3 r hr, ← g40 r hr, m3 r hr]⟩
theorem mq_same {t u : Nat} (h : wts tt t = wts tt u) : mq tt t = mq tt u := by
  have e : ∀ L, drk tt L t = drk tt L u := fun L => orf_cong (fun w hw => by
    have h1 : (tt (256 + 5 * w + 3) ≤ t ∧ t ≤ tt (256 + 5 * w + 4)) ↔ (tt (256 + 5 * w + 3) ≤ u ∧ u ≤ tt (256 + 5 * w + 4)) := by
      rw [← wts_bit hw, ← wts_bit hw, h]
    have h2 : (tt (256 + 5 * w + 3) ≤ t ∧ t ≤ tt (256 + 5 * w + 4)) = (tt (256 + 5 * w + 3) ≤ u ∧ u ≤ tt (256 + 5 * w + 4)) := propext h1
    simp only [h2])
  have e2 : mqV tt t = mqV tt u := by
    funext T
    unfold mqV
    rw [e]
  unfold mq
  rw [e2]
theorem c_find38 (hW : HWf tt) {t bo bl : Nat} {k : Nat → Int32} (hbk : Bk tt (tt 1) (mq tt t) k bo bl) (h7 : Z 7 = nI bo) : f_X6_find_38 (HH A Z B Q P F q D c) 39 = some (nI (if (mq tt t).isSome then 1 else 0), HH A Z B Q P F q D c) := by
  have hro := hW.ro
  unfold f_X6_find_38
  rw [gf_39_0, Option.bind_some, h7]
  cases hm : mq tt t with
  | none =>
    rw [hm] at hbk
    have h1 : bo = 99999 := hbk.1
    rw [h1, if_pos (show (99999 : Int32) ≤ nI 99999 from Int32.le_refl _)]
    rfl
  | some w =>
    rw [hm] at hbk
    have h1 : bo = moi tt (tt 1) w := hbk.1
    have h2 := moi_le hW (tt 1) w
    rw [if_neg (by rw [show (99999 : Int32) = nI 99999 from rfl, y_le (by omega) (by omega)]; omega)]
    rfl
theorem c_find22 (H : Hs K D q tt) (hW : HWf tt) (h8 : tt 1 ≤ 8) {t : Nat} (ht : t < 24) : ∃ A' Z' bo bl, f_X6_find_22 (HH A Z B Q P F q D c) 39 q (nI t) (nI (wts tt t)) = some (nI (if (mq tt t).isSome then 1 else 0), HH A' Z' B Q (upA P 3 (some q)) F q D c) ∧ Only [40, 42, 43, 44, 45, 46, 47, 48] A A' ∧ Only [7, 8, 9, 10, 30] Z Z' ∧ (Z' 30 = nI (wts tt t) ∧ Z' 7 = nI bo ∧ Z' 8 = nI bl) ∧ Bk tt (tt 1) (mq tt t) (A' 40) bo bl := by
  obtain ⟨A', Z', bo, bl, e1, o1, o2, z7, z8, hb⟩ := c_search (A := A) (Z := upA Z 30 (nI (wts tt t))) (B := B) (Q := Q) (P := upA P 3 (some q)) (F := F) (c := c) H hW h8 ht
  have oz : Only [7, 8, 9, 10, 30] Z (upA Z 30 (nI (wts tt t))) := Only.rf.up (by decide)
  refine ⟨A', Z', bo, bl, ?_, o1, oz.tr o2 (fun _ h => h) (by decide), ⟨by rw [o2 30 (by decide), y_us], z7, z8⟩, hb⟩
  unfold f_X6_find_22
  rw [pf_39_3, Option.bind_some, pf_39_4, Option.bind_some, gO_39, Option.bind_some, e1, Option.bind_some]
  exact c_find38 hW hb z7
theorem c_find (H : Hs K D q tt) (hW : HWf tt) (h8 : tt 1 ≤ 8) {t : Nat} (ht : t < 24) (hM : MixOK K A Z P D) : ∃ A' Z' bo bl, f_X6_find (HH A Z B Q P F q D c) 39 q (nI t) = some (nI (if (mq tt t).isSome then 1 else 0), HH A' Z' B Q (upA P 3 (some q)) F q D c) ∧ Only [40, 42, 43, 44, 45, 46, 47, 48] A A' ∧ Only [7, 8, 9, 10, 30] Z Z' ∧ (Z' 30 = nI (wts tt t) ∧ Z' 7 = nI bo ∧ Z' 8 = nI bl) ∧ Bk tt (tt 1) (mq tt t) (A' 40) bo bl := by
  have h22 := c_find22 (A := A) (Z := Z) (B := B) (Q := Q) (P := P) (F := F) (c := c) H hW h8 ht
  have ew := c_wantsAt (A := A) (Z := Z) (B := B) (Q := Q) (P := P) (F := F) (c := c) H hW (q' := q) ht
  unfold f_X6_find
  rw [hs_gO H, Option.bind_some, ew, Option.bind_some, gf_39_3, Option.bind_some]
  rcases hM with hp | ⟨qm, tm, u, bo, bl, hp, H2, hW2, ⟨x1, x2⟩, ⟨z30, z7, z8⟩, hbk⟩
  · rw [hp]
    exact h22
  · rw [hp]
    dsimp only
    have el : lt2 (HH A Z B Q P F q D c) qm q = some () := if_pos ⟨by rw [hh_len]; exact HC_lt H2.2.1, by rw [hh_len]; exact HC_lt H.2.1⟩
    rw [el, Option.bind_some]
    by_cases e : qm = q
    · subst e
      have w1 := wts_lt hW t
      have w2 := wts_lt hW u
      have w3 := wts_lt hW2 u
      have eu : wts tm u = wts tt u := by
        have a1 := c_wantsAt (A := A) (Z := Z) (B := B) (Q := Q) (P := P) (F := F) (c := c) H hW (q' := 0) x2
        have a2 := c_wantsAt (A := A) (Z := Z) (B := B) (Q := Q) (P := P) (F := F) (c := c) H2 hW2 (q' := 0) x2
        have a3 := Option.some.inj (a2.symm.trans a1)
        rw [y_eq (by omega) (by omega)] at a3
        exact a3
      rw [if_pos rfl, gf_39_4, Option.bind_some, z30, eu]
      by_cases e1 : wts tt u = wts tt t
      · have hb := mix_one H H2 hW hW2 h8 x1 x2 hbk
        rw [mq_same e1] at hb
        rw [e1, if_pos rfl]
        refine ⟨A, Z, bo, bl, ?_, Only.rf, Only.rf, ⟨by rw [z30, eu, e1], z7, z8⟩, hb⟩
        rw [c_find38 hW hb z7, ← hp, y_ua]
      · rw [if_neg (by rw [y_eq (by omega) (by omega)]; exact e1)]
        exact h22
    · rw [if_neg e]
      exact h22
theorem Inv_mix {A' : Nat → Nat → Int32} {Z' : Nat → Int32} {B' : Nat → Nat → Int64} {t bo bl : Nat} (H : Inv K A Z B Q P F q D c tt lk lh R i) (hA : Only (40 :: SA) A A') (hz : Zro A') (hZ : Only (7 :: 8 :: 30 :: SZ) Z Z') (hB : Only [76] B B') (h8 : tt 1 ≤ 8) (ht : t < 24) (hm : (Z' 30 = nI (wts tt t) ∧ Z' 7 = nI bo ∧ Z' 8 = nI bl) ∧ Bk tt (tt 1) (mq tt t) (A' 40) bo bl) : Inv K A' Z' B' Q (upA P 3 (some q)) F q D c tt lk lh R (i + 1) := by
  obtain ⟨⟨a1, a2, a3, a4, a5⟩, ⟨b1, b2, b3, b4⟩, ⟨p1, p2, p3⟩, ⟨z1, z2, z3, z4⟩, r1, r2, r3, r4⟩ := H
  refine ⟨⟨a1, a2, a3, ?_, ?_⟩, ⟨?_, ?_, ?_, hz⟩, ⟨?_, ⟨?_, Or.inr ⟨q, tt, t, bo, bl, rfl, a1, a2, ⟨h8, ht⟩, hm.1, hm.2⟩⟩, p3⟩, ⟨?_, ?_, z3, z4⟩, r1, r2, by omega, by omega⟩
  · rw [hA 58 (by decide)]; exact a4
  · rw [hA 13 (by decide), hA 14 (by decide)]; exact a5
  · unfold ImgOK
    rw [hA 61 (by decide), hA 59 (by decide)]
    exact b1
  · unfold TapeOK
    rw [hA 62 (by decide), hA 1 (by decide), hZ 0 (by decide), hZ 19 (by decide)]
    exact b2
  · unfold TrayOK
    rw [hA 19 (by decide), hA 20 (by decide), hA 73 (by decide), hA 74 (by decide), hB 18 (by decide), hB 75 (by decide)]
    exact b3
  · unfold PlanOK
    rw [hA 50 (by decide), hA 51 (by decide), hZ 11 (by decide), hZ 12 (by decide), hZ 13 (by decide), hZ 14 (by decide), hZ 15 (by decide), hZ 16 (by decide)]
    exact p1
  · unfold SvOK
    rw [hA 56 (by decide)]
    exact p2.1
  · rw [hZ 1 (by decide), hZ 27 (by decide)]; exact z1
  · rw [hZ 2 (by decide), hZ 28 (by decide)]; exact z2
end MFind
