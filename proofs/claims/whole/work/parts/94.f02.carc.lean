/-! ===== carried: the class's plan ===== -/
theorem need_lt {tt : Nat → Nat} (hW : HWf tt) (h : Nat) : need tt h < 2 ^ tt 1 := orf_lt (fun w hw => by
  split
  · exact n_pw (hW.want hw).1
  · exact Nat.two_pow_pos _)
section CarC
variable {A : Nat → Nat → Int32} {Z : Nat → Int32} {B : Nat → Nat → Int64} {Q : Nat → Int64} {P : Nat → Option Nat} {F : Nat → Nat → Option Nat} {q : Nat} {D : List xC} {c : Nat × Nat} {K : Nat → Nat} {tt lk lh : Nat → Nat} {R i : Nat}
theorem c_needy (H : Hs K D q tt) (hW : HWf tt) {q' t : Nat} (ht : t < 24) : f_X3_needy (HH A Z B Q P F q' D c) q (nI t) = some (nI (need tt t)) := by
  have hwa := hW.wa
  have hro := hW.ro
  refine loop0 (F := fun n j (s : Int32) => f_X3_needy_4 (HH A Z B Q P F q' D c) n q (nI t) s (nI j)) (N := tt 4) (st := fun j => nI (orf (fun w => if (tt (256 + 5 * w + 3) ≤ t ∧ t ≤ tt (256 + 5 * w + 4)) ∧ 0 < tt (256 + 5 * w + 1) then 2 ^ tt (256 + 5 * w) else 0) j)) (fun n j hj => ?_) (fun n => ?_) (by omega)
  · obtain ⟨b1, b2, b3, b4, b5, b6⟩ := hW.want hj
    rw [orf]
    by_cases h1 : 0 < tt (256 + 5 * j + 1)
    · by_cases h2 : tt (256 + 5 * j + 3) ≤ t ∧ t ≤ tt (256 + 5 * j + 4)
      · rw [if_pos ⟨h2, h1⟩]
        simp (disch := omega) only [f_X3_needy_4, if_true, if_false, Bool.false_eq_true, Bool.true_eq_false, y_lit, y_m1, nI_add, pk_mul, fa_and, fa_or, y_bs, if_pos, if_neg, y_shl, y_shr, y_le, y_lt, y_eq, y_sub, y_dv, y_rm, y_b0, y_b1, y_sdf, y_ltM, y_Mlt, y_leM, y_Mle, y_eqM, y_Meq, s_e1, s_e2, s_e3, s_e4, s_e5, s_e6, hs_5 H, hs_9 H, hs_w0 H, hs_w1 H, hs_gO H, c_wantedAt H hW, h2, and_self]
      · rw [if_neg (fun h => h2 h.1), Nat.or_zero]
        simp (disch := omega) only [f_X3_needy_4, if_true, if_false, Bool.false_eq_true, Bool.true_eq_false, y_lit, y_m1, nI_add, pk_mul, fa_and, fa_or, y_bs, if_pos, if_neg, y_shl, y_shr, y_le, y_lt, y_eq, y_sub, y_dv, y_rm, y_b0, y_b1, y_sdf, y_ltM, y_Mlt, y_leM, y_Mle, y_eqM, y_Meq, s_e1, s_e2, s_e3, s_e4, s_e5, s_e6, hs_5 H, hs_9 H, hs_w0 H, hs_w1 H, hs_gO H, c_wantedAt H hW, h2]
    · rw [if_neg (fun h => h1 h.2), Nat.or_zero]
      simp (disch := omega) only [f_X3_needy_4, if_true, if_false, Bool.false_eq_true, Bool.true_eq_false, y_lit, y_m1, nI_add, pk_mul, fa_and, fa_or, y_bs, if_pos, if_neg, y_shl, y_shr, y_le, y_lt, y_eq, y_sub, y_dv, y_rm, y_b0, y_b1, y_sdf, y_ltM, y_Mlt, y_leM, y_Mle, y_eqM, y_Meq, s_e1, s_e2, s_e3, s_e4, s_e5, s_e6, hs_5 H, hs_9 H, hs_w1 H]
  · simp (disch := omega) only [f_X3_needy_4, if_true, if_false, Bool.false_eq_true, Bool.true_eq_false, y_lit, y_m1, nI_add, pk_mul, fa_and, fa_or, y_bs, if_pos, if_neg, y_shl, y_shr, y_le, y_lt, y_eq, y_sub, y_dv, y_rm, y_b0, y_b1, y_sdf, y_ltM, y_Mlt, y_leM, y_Mle, y_eqM, y_Meq, s_e1, s_e2, s_e3, s_e4, s_e5, s_e6, hs_5 H]
    all_goals rfl
/-- what the fill reads -/
def CR (A : Nat → Nat → Int32) (Z : Nat → Int32) (tt : Nat → Nat) (n last : Nat) : Prop := Z 11 = nI n ∧ Z 13 = nI last ∧ Z 14 = nI (tt 1) ∧ Z 15 = nI (sec tt n) ∧ ∀ a u, a < 16 → u < 16 → A 50 (a * 16 + u) = nI (way tt a u)
def H51 (f : Nat → Int32) (tt : Nat → Nat) (n last h k : Nat) : Prop := ∀ u b, u < tt 1 → b < sec tt n → f ((h * 16 + u) * 16 + b) = nI (cs tt n last k (16 * u + b))
theorem c_fh27 (hW : HWf tt) {n last h k a b : Nat} (hC : CR A Z tt n last) (h5 : H51 (A 51) tt n last h k) (hh : h < 24) (ha : a < tt 1) (hb : b < sec tt n) (k2 : xH → Nat → Int32 → Int32 → Option xH) (k12 : xH → Nat → Int32 → Int32 → Int32 → Option xH) : f_X1_fillHalf_27 k2 k12 xFU (HH A Z B Q P F q D c) 49 (nI h) (nI a) (nI b) (nI FAR) (nI 0) = k12 (HH (upA A 52 (va_up (A 52) (a * 16 + b) (nI (hlf tt n last k a b)))) Z B Q P F q D c) 49 (nI h) (nI a) (nI (b + 1)) := by
  have hro := hW.ro
  have hse := sec_le (tt := tt) (n := n)
  obtain ⟨c1, c2, c3, c4, c5⟩ := hC
  refine loop0 (F := fun m j (s : Int32) => f_X1_fillHalf_27 k2 k12 m (HH A Z B Q P F q D c) 49 (nI h) (nI a) (nI b) s (nI j)) (N := tt 1) (st := fun j => nI (minf (fun u => way tt a u + cs tt n last k (16 * u + b)) FAR j)) (fun m j hj => ?_) (fun m => ?_) (by omega)
  · have w1 := way_le (tt := tt) (a := a) (b := j)
    have w2 := cs_le (tt := tt) (n := n) (last := last) (k := k) (s := 16 * j + b)
    have w3 := minf_top (f := fun u => way tt a u + cs tt n last k (16 * u + b)) (top := FAR) j
    have e1 := c5 a j (by omega) (by omega)
    have e2 := h5 j b hj hb
    have hF : FAR = 1000000 := rfl
    rw [minf, ← y_min]
    generalize minf (fun u => way tt a u + cs tt n last k (16 * u + b)) FAR j = mm at *
    simp (disch := omega) only [f_X1_fillHalf_27, f_X1_at, if_true, if_false, Bool.false_eq_true, Bool.true_eq_false, y_lit, y_m1, nI_add, pk_mul, fa_and, fa_or, y_bs, if_pos, if_neg, y_shl, y_shr, y_le, y_lt, y_eq, y_sub, y_dv, y_rm, y_b0, y_b1, y_sdf, y_ltM, y_Mlt, y_leM, y_Mle, y_eqM, y_Meq, s_e1, s_e2, s_e3, s_e4, s_e5, s_e6, gf_49_4, gf_49_7, gf_49_8, c3, ld_50, ld_51, e1, e2]
  · show f_X1_fillHalf_27 k2 k12 (m + 1) _ _ _ _ _ _ _ = _
    rw [f_X1_fillHalf_27, gf_49_4, Option.bind_some, c3, if_pos (by rw [y_le (by omega) (by omega)]; exact Nat.le_refl _), gf_49_9, Option.bind_some, show (16 : Int32) = nI 16 from rfl, pk_mul, nI_add, st_52 (by omega), Option.bind_some, nI_1]
    rfl
theorem c_fh12 (hW : HWf tt) {n last h k a : Nat} (hC : CR A Z tt n last) (h5 : H51 (A 51) tt n last h k) (hh : h < 24) (ha : a < tt 1) (k2 : xH → Nat → Int32 → Int32 → Option xH) : ∃ f, f_X1_fillHalf_12 k2 xFU (HH A Z B Q P F q D c) 49 (nI h) (nI a) (nI 0) = k2 (HH (upA A 52 f) Z B Q P F q D c) 49 (nI h) (nI (a + 1)) ∧ (∀ b, b < sec tt n → f (a * 16 + b) = nI (hlf tt n last k a b)) ∧ ∀ j, j < a * 16 → f j = A 52 j := by
  have hro := hW.ro
  have hse := sec_le (tt := tt) (n := n)
  have key := loop_J (F := fun m j (s : xH) => f_X1_fillHalf_12 k2 m s 49 (nI h) (nI a) (nI j)) (N := sec tt n) (fun s => k2 s 49 (nI h) (nI (a + 1))) (fun m s => ∃ f, s = HH (upA A 52 f) Z B Q P F q D c ∧ (∀ b, b < m → f (a * 16 + b) = nI (hlf tt n last k a b)) ∧ ∀ j, j < a * 16 → f j = A 52 j) (fun m b s hb hs => ?_) (fun m s hs => ?_) (by omega) (s := HH A Z B Q P F q D c) ⟨A 52, by rw [y_ua], fun b hb => by omega, fun j _ => rfl⟩
  · obtain ⟨s, e1, f, e2, h1, h2⟩ := key
    subst e2
    exact ⟨f, e1, h1, h2⟩
  · obtain ⟨f, rfl, h1, h2⟩ := hs
    have e0 := c_fh27 (A := upA A 52 f) (Z := Z) (B := B) (Q := Q) (P := P) (F := F) (q := q) (D := D) (c := c) hW (n := n) (last := last) (k := k) hC h5 hh ha hb k2 (f_X1_fillHalf_12 k2 m)
    rw [y_uu, y_us] at e0
    refine ⟨_, Eq.trans ?_ e0, _, rfl, fun b2 hb2 => ?_, fun j hj => ?_⟩
    · show f_X1_fillHalf_12 k2 (m + 1) _ _ _ _ _ = _
      rw [f_X1_fillHalf_12, gf_49_5, Option.bind_some, hC.2.2.2.1, if_neg (by rw [y_le (by omega) (by omega)]; omega)]
      rfl
    · by_cases e : b2 = b
      · subst e; rw [y_vs]
      · rw [y_vn (by omega)]; exact h1 b2 (by omega)
    · rw [y_vn (by omega)]; exact h2 j hj
  · obtain ⟨f, rfl, h1, h2⟩ := hs
    show f_X1_fillHalf_12 k2 (m + 1) _ _ _ _ _ = _
    rw [f_X1_fillHalf_12, gf_49_5, Option.bind_some, hC.2.2.2.1, if_pos (by rw [y_le (by omega) (by omega)]; exact Nat.le_refl _), nI_1]
theorem c_fillHalf (hW : HWf tt) {n last h k : Nat} (hC : CR A Z tt n last) (h5 : H51 (A 51) tt n last h k) (hh : h < 24) : ∃ f, f_X1_fillHalf (HH A Z B Q P F q D c) 49 (nI h) = some (HH (upA A 52 f) Z B Q P F q D c) ∧ ∀ a b, a < tt 1 → b < sec tt n → f (a * 16 + b) = nI (hlf tt n last k a b) := by
  have hro := hW.ro
  have hse := sec_le (tt := tt) (n := n)
  unfold f_X1_fillHalf
  have key := loop_J (F := fun m j (s : xH) => f_X1_fillHalf_2 m s 49 (nI h) (nI j)) (N := tt 1) some (fun m s => ∃ f, s = HH (upA A 52 f) Z B Q P F q D c ∧ ∀ a b, a < m → b < sec tt n → f (a * 16 + b) = nI (hlf tt n last k a b)) (fun m a s ha hs => ?_) (fun m s hs => ?_) (by omega) (s := HH A Z B Q P F q D c) ⟨A 52, by rw [y_ua], fun a b ha => by omega⟩
  · obtain ⟨s, e1, f, e2, h1⟩ := key
    subst e2
    exact ⟨f, e1, h1⟩
  · obtain ⟨f, rfl, h1⟩ := hs
    obtain ⟨g, e0, g1, g2⟩ := c_fh12 (A := upA A 52 f) (Z := Z) (B := B) (Q := Q) (P := P) (F := F) (q := q) (D := D) (c := c) hW (n := n) (last := last) (k := k) hC h5 hh ha (f_X1_fillHalf_2 m)
    rw [y_uu] at e0
    refine ⟨_, Eq.trans ?_ e0, g, rfl, fun a2 b ha2 hb => ?_⟩
    · show f_X1_fillHalf_2 (m + 1) _ _ _ _ = _
      rw [f_X1_fillHalf_2, gf_49_4, Option.bind_some, hC.2.2.1, if_neg (by rw [y_le (by omega) (by omega)]; omega)]
      rfl
    · by_cases e : a2 = a
      · subst e; exact g1 b hb
      · rw [g2 _ (by omega), y_us]; exact h1 a2 b (by omega) hb
  · obtain ⟨f, rfl, h1⟩ := hs
    show f_X1_fillHalf_2 (m + 1) _ _ _ _ = _
    rw [f_X1_fillHalf_2, gf_49_4, Option.bind_some, hC.2.2.1, if_pos (by rw [y_le (by omega) (by omega)]; exact Nat.le_refl _)]
theorem c_leastBehind (hW : HWf tt) {n last k a b : Nat} (hC : CR A Z tt n last) (h52 : ∀ u, u < sec tt n → A 52 (a * 16 + u) = nI (hlf tt n last k a u)) (ha : a < tt 1) (hb : b < sec tt n) : f_X1_leastBehind (HH A Z B Q P F q D c) 49 (nI a) (nI b) = some (nI (minf (fun u => way tt b u + hlf tt n last k a u) FAR (sec tt n))) := by
  have hro := hW.ro
  have hse := sec_le (tt := tt) (n := n)
  obtain ⟨c1, c2, c3, c4, c5⟩ := hC
  have hl : ∀ u, hlf tt n last k a u ≤ FAR := fun u => minf_top _
  refine loop0 (F := fun m j (s : Int32) => f_X1_leastBehind_6 (HH A Z B Q P F q D c) m 49 (nI a) (nI b) s (nI j)) (N := sec tt n) (st := fun j => nI (minf (fun u => way tt b u + hlf tt n last k a u) FAR j)) (fun m j hj => ?_) (fun m => ?_) (by omega)
  · have w1 := way_le (tt := tt) (a := b) (b := j)
    have w2 := hl j
    have w3 := minf_top (f := fun u => way tt b u + hlf tt n last k a u) (top := FAR) j
    have e1 := c5 b j (by omega) (by omega)
    have e2 := h52 j hj
    have hF : FAR = 1000000 := rfl
    rw [minf, ← y_min]
    generalize minf (fun u => way tt b u + hlf tt n last k a u) FAR j = mm at *
    simp (disch := omega) only [f_X1_leastBehind_6, if_true, if_false, Bool.false_eq_true, Bool.true_eq_false, y_lit, y_m1, nI_add, pk_mul, fa_and, fa_or, y_bs, if_pos, if_neg, y_shl, y_shr, y_le, y_lt, y_eq, y_sub, y_dv, y_rm, y_b0, y_b1, y_sdf, y_ltM, y_Mlt, y_leM, y_Mle, y_eqM, y_Meq, s_e1, s_e2, s_e3, s_e4, s_e5, s_e6, gf_49_5, gf_49_7, gf_49_9, c4, ld_50, ld_52, e1, e2]
  · simp (disch := omega) only [f_X1_leastBehind_6, if_true, if_false, Bool.false_eq_true, Bool.true_eq_false, y_lit, y_m1, nI_add, pk_mul, fa_and, fa_or, y_bs, if_pos, if_neg, y_shl, y_shr, y_le, y_lt, y_eq, y_sub, y_dv, y_rm, y_b0, y_b1, y_sdf, y_ltM, y_Mlt, y_leM, y_Mle, y_eqM, y_Meq, s_e1, s_e2, s_e3, s_e4, s_e5, s_e6, gf_49_5, c4]
/-- one cell of an hour -/
theorem c_fh65 (hW : HWf tt) {n last k a b : Nat} (hn : n = 1 ∨ n = 2) (hC : CR A Z tt n last) (hk : k ≤ last) (hl : last < 24) (ha : a < tt 1) (hb : b < sec tt n) (h52 : 0 < k → ∀ u, u < sec tt n → A 52 (a * 16 + u) = nI (hlf tt n last (k - 1) a u)) (l1 : Nat) (k18 : xH → Nat → Nat → Int32 → Int32 → Int32 → Option xH) (k30 : xH → Nat → Nat → Int32 → Int32 → Int32 → Int32 → Option xH) : f_X1_fillHour_65 k18 k30 (HH A Z B Q P F q D c) 49 l1 (nI (last - k)) (nI (need tt (last - k))) (nI a) (nI b) (nI (if n = 2 then ltt tt b else 0)) (nI (ltt tt a)) = k30 (HH (upA A 51 (va_up (A 51) (((last - k) * 16 + a) * 16 + b) (nI (cs tt n last k (16 * a + b))))) Z B Q P F q D c) 49 l1 (nI (last - k)) (nI (need tt (last - k))) (nI a) (nI (b + 1)) := by
  have hro := hW.ro
  have hse := sec_le (tt := tt) (n := n)
  have hpw := pw16 hro
  have hne := need_lt hW (last - k)
  obtain ⟨q1, q2⟩ := dm16 (a := a) (b := b) (by omega)
  have hgl : lgt tt n ((16 * a + b) / 16) ((16 * a + b) % 16) = ltt tt a ||| (if n = 2 then ltt tt b else 0) := by rw [q1, q2]; rfl
  have e103 : ∀ v : Nat, f_X1_fillHour_103 k18 k30 (HH A Z B Q P F q D c) 49 l1 (nI (last - k)) (nI (need tt (last - k))) (nI a) (nI b) (nI v) = k30 (HH (upA A 51 (va_up (A 51) (((last - k) * 16 + a) * 16 + b) (nI v))) Z B Q P F q D c) 49 l1 (nI (last - k)) (nI (need tt (last - k))) (nI a) (nI (b + 1)) := fun v => by
    unfold f_X1_fillHour_103 f_X1_at
    rw [gf_49_8, Option.bind_some, Option.bind_some, show (16 : Int32) = nI 16 from rfl, pk_mul, nI_add, pk_mul, nI_add, st_51 (by omega), Option.bind_some, nI_1]
  have hsd : sdf (need tt (last - k)) (ltt tt a ||| (if n = 2 then ltt tt b else 0)) < 65536 := sdf_lt (k := 16) (by omega)
  unfold f_X1_fillHour_65
  rw [fa_or, show ∀ x : Nat, nI (need tt (last - k)) &&& (nI x ^^^ (-1 : Int32)) = nI (sdf (need tt (last - k)) x) from fun x => n_andn (by omega)]
  by_cases hlit : sdf (need tt (last - k)) (ltt tt a ||| (if n = 2 then ltt tt b else 0)) = 0
  · rw [if_pos (by rw [hlit]; rfl), gf_49_3, Option.bind_some, hC.2.1]
    cases k with
    | zero =>
      rw [if_pos (by rw [Nat.sub_zero, y_le (by omega) (by omega)]; exact Nat.le_refl _)]
      have e : cs tt n last 0 (16 * a + b) = 0 := by
        rw [cs_0, hgl]
        rw [Nat.sub_zero] at hlit
        rw [if_pos hlit]
      rw [e]
      exact e103 0
    | succ k =>
      rw [if_neg (by rw [y_le (by omega) (by omega)]; omega), gO_49, Option.bind_some, c_leastBehind hW hC (h52 (by omega)) ha hb, Option.bind_some]
      have e : cs tt n last (k + 1) (16 * a + b) = minf (fun u => way tt b u + hlf tt n last (k + 1 - 1) a u) FAR (sec tt n) := by
        rw [cs_s, hgl, if_pos hlit, Nat.add_sub_cancel, lsb_eq hW hn hb]
      rw [e]
      exact e103 _
  · rw [if_neg (by rw [← nI_0, y_eq (by omega) (by omega)]; exact hlit)]
    have e : cs tt n last k (16 * a + b) = FAR := by
      cases k with
      | zero =>
        rw [Nat.sub_zero] at hlit
        rw [cs_0, hgl, if_neg hlit]
      | succ k => rw [cs_s, hgl, if_neg hlit]
    rw [e]
    exact e103 FAR
theorem c_fh30 (H : Hs K D q tt) (hW : HWf tt) {q' n last k a : Nat} (hn : n = 1 ∨ n = 2) (hC : CR A Z tt n last) (hk : k ≤ last) (hl : last < 24) (ha : a < tt 1) (h52 : 0 < k → ∀ u, u < sec tt n → A 52 (a * 16 + u) = nI (hlf tt n last (k - 1) a u)) (k18 : xH → Nat → Nat → Int32 → Int32 → Int32 → Option xH) : ∃ f, f_X1_fillHour_30 k18 xFU (HH A Z B Q P F q' D c) 49 q (nI (last - k)) (nI (need tt (last - k))) (nI a) (nI 0) = k18 (HH (upA A 51 f) Z B Q P F q' D c) 49 q (nI (last - k)) (nI (need tt (last - k))) (nI (a + 1)) ∧ (∀ b, b < sec tt n → f (((last - k) * 16 + a) * 16 + b) = nI (cs tt n last k (16 * a + b))) ∧ ∀ j, (j < ((last - k) * 16 + a) * 16 ∨ ((last - k) * 16 + a) * 16 + 16 ≤ j) → f j = A 51 j := by
  have hro := hW.ro
  have hse := sec_le (tt := tt) (n := n)
  have key := loop_J (F := fun m j (s : xH) => f_X1_fillHour_30 k18 m s 49 q (nI (last - k)) (nI (need tt (last - k))) (nI a) (nI j)) (N := sec tt n) (fun s => k18 s 49 q (nI (last - k)) (nI (need tt (last - k))) (nI (a + 1))) (fun m s => ∃ f, s = HH (upA A 51 f) Z B Q P F q' D c ∧ (∀ b, b < m → f (((last - k) * 16 + a) * 16 + b) = nI (cs tt n last k (16 * a + b))) ∧ ∀ j, (j < ((last - k) * 16 + a) * 16 ∨ ((last - k) * 16 + a) * 16 + 16 ≤ j) → f j = A 51 j) (fun m b s hb hs => ?_) (fun m s hs => ?_) (by omega) (s := HH A Z B Q P F q' D c) ⟨A 51, by rw [y_ua], fun b hb => by omega, fun j _ => rfl⟩
  · obtain ⟨s, e1, f, e2, h1, h2⟩ := key
    subst e2
    exact ⟨f, e1, h1, h2⟩
  · obtain ⟨f, rfl, h1, h2⟩ := hs
    have e0 := c_fh65 (A := upA A 51 f) (Z := Z) (B := B) (Q := Q) (P := P) (F := F) (q := q') (D := D) (c := c) hW hn hC hk hl ha hb h52 q k18 (f_X1_fillHour_30 k18 m)
    rw [y_uu, y_us] at e0
    refine ⟨_, Eq.trans ?_ e0, _, rfl, fun b2 hb2 => ?_, fun j hj => ?_⟩
    · show f_X1_fillHour_30 k18 (m + 1) _ _ _ _ _ _ _ = _
      rw [f_X1_fillHour_30, gf_49_5, Option.bind_some, hC.2.2.2.1, if_neg (by rw [y_le (by omega) (by omega)]; omega), hs_14 H, Option.bind_some, hs_li H (by omega), Option.bind_some, gf_49_1, Option.bind_some, hC.1]
      rcases hn with e | e
      · subst e
        rw [if_neg (by decide), if_neg (by decide)]
        rfl
      · subst e
        rw [if_pos (by decide), Option.bind_some, hs_li H (by omega), Option.bind_some, if_pos rfl]
    · by_cases e : b2 = b
      · subst e; rw [y_vs]
      · rw [y_vn (by omega)]; exact h1 b2 (by omega)
    · rw [y_vn (by omega)]; exact h2 j hj
  · obtain ⟨f, rfl, h1, h2⟩ := hs
    show f_X1_fillHour_30 k18 (m + 1) _ _ _ _ _ _ _ = _
    rw [f_X1_fillHour_30, gf_49_5, Option.bind_some, hC.2.2.2.1, if_pos (by rw [y_le (by omega) (by omega)]; exact Nat.le_refl _), nI_1]
theorem c_fh18 (H : Hs K D q tt) (hW : HWf tt) {q' n last k : Nat} (hn : n = 1 ∨ n = 2) (hC : CR A Z tt n last) (hk : k ≤ last) (hl : last < 24) (h52 : 0 < k → ∀ a u, a < tt 1 → u < sec tt n → A 52 (a * 16 + u) = nI (hlf tt n last (k - 1) a u)) : ∃ f, f_X1_fillHour_15 (HH A Z B Q P F q' D c) 49 q (nI (last - k)) (nI (need tt (last - k))) = some (HH (upA A 51 f) Z B Q P F q' D c) ∧ H51 f tt n last (last - k) k ∧ ∀ j, (last - k + 1) * 256 ≤ j → f j = A 51 j := by
  have hro := hW.ro
  have hse := sec_le (tt := tt) (n := n)
  unfold f_X1_fillHour_15
  have key := loop_J (F := fun m j (s : xH) => f_X1_fillHour_18 m s 49 q (nI (last - k)) (nI (need tt (last - k))) (nI j)) (N := tt 1) some (fun m s => ∃ f, s = HH (upA A 51 f) Z B Q P F q' D c ∧ (∀ a b, a < m → b < sec tt n → f (((last - k) * 16 + a) * 16 + b) = nI (cs tt n last k (16 * a + b))) ∧ ∀ j, (last - k + 1) * 256 ≤ j → f j = A 51 j) (fun m a s ha hs => ?_) (fun m s hs => ?_) (by omega) (s := HH A Z B Q P F q' D c) ⟨A 51, by rw [y_ua], fun a b ha => by omega, fun j _ => rfl⟩
  · obtain ⟨s, e1, f, e2, h1, h2⟩ := key
    subst e2
    exact ⟨f, e1, h1, h2⟩
  · obtain ⟨f, rfl, h1, h2⟩ := hs
    obtain ⟨g, e0, g1, g2⟩ := c_fh30 (A := upA A 51 f) (Z := Z) (B := B) (Q := Q) (P := P) (F := F) (c := c) H hW (q' := q') hn hC hk hl ha (fun hk0 u hu => h52 hk0 a u ha hu) (f_X1_fillHour_18 m)
    rw [y_uu] at e0
    refine ⟨_, Eq.trans ?_ e0, g, rfl, fun a2 b ha2 hb => ?_, fun j hj => ?_⟩
    · show f_X1_fillHour_18 (m + 1) _ _ _ _ _ _ = _
      rw [f_X1_fillHour_18, gf_49_4, Option.bind_some, hC.2.2.1, if_neg (by rw [y_le (by omega) (by omega)]; omega)]
      rfl
    · by_cases e : a2 = a
      · subst e; exact g1 b hb
      · rw [g2 _ (by omega), y_us]; exact h1 a2 b (by omega) hb
    · rw [g2 _ (by omega), y_us]; exact h2 j hj
  · obtain ⟨f, rfl, h1, h2⟩ := hs
    show f_X1_fillHour_18 (m + 1) _ _ _ _ _ _ = _
    rw [f_X1_fillHour_18, gf_49_4, Option.bind_some, hC.2.2.1, if_pos (by rw [y_le (by omega) (by omega)]; exact Nat.le_refl _)]
theorem c_fillHour (H : Hs K D q tt) (hW : HWf tt) {q' n last k : Nat} (hn : n = 1 ∨ n = 2) (hC : CR A Z tt n last) (hk : k ≤ last) (hl : last < 24) (h5 : 0 < k → H51 (A 51) tt n last (last - k + 1) (k - 1)) : ∃ f g, f_X1_fillHour (HH A Z B Q P F q' D c) 49 q (nI (last - k)) (nI (need tt (last - k))) = some (HH (upA (upA A 52 g) 51 f) Z B Q P F q' D c) ∧ H51 f tt n last (last - k) k ∧ ∀ j, (last - k + 1) * 256 ≤ j → f j = A 51 j := by
  have hro := hW.ro
  unfold f_X1_fillHour
  rw [gf_49_3, Option.bind_some, hC.2.1]
  by_cases e : k = 0
  · subst e
    rw [if_pos (by rw [Nat.sub_zero, y_le (by omega) (by omega)]; exact Nat.le_refl _)]
    obtain ⟨f, e1, h1, h2⟩ := c_fh18 (A := A) (Z := Z) (B := B) (Q := Q) (P := P) (F := F) (c := c) H hW (q' := q') hn hC hk hl (fun h => by omega)
    exact ⟨f, A 52, by rw [y_ua]; exact e1, h1, h2⟩
  · rw [if_neg (by rw [y_le (by omega) (by omega)]; omega), gO_49, Option.bind_some, nI_1]
    obtain ⟨g, e1, h1⟩ := c_fillHalf (A := A) (Z := Z) (B := B) (Q := Q) (P := P) (F := F) (q := q') (D := D) (c := c) hW hC (h5 (by omega)) (by omega)
    rw [e1, Option.bind_some]
    obtain ⟨f, e2, h2, h3⟩ := c_fh18 (A := upA A 52 g) (Z := Z) (B := B) (Q := Q) (P := P) (F := F) (c := c) H hW (q' := q') (k := k) hn hC hk hl (fun _ a u ha hu => h1 a u ha hu)
    exact ⟨f, g, e2, h2, h3⟩
end CarC
