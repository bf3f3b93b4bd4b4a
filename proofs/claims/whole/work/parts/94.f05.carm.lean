/-! ===== carried: the reference ===== -/
/-- what the reference keeps of a place -/
def cva2 (tt : Nat → Nat) (n last k s : Nat) : Nat := if s / 16 < tt 1 ∧ s % 16 < sec tt n then cs tt n last k s else FAR
theorem cva2_le {tt : Nat → Nat} {n last k s : Nat} : cva2 tt n last k s ≤ FAR := by
  unfold cva2
  split
  · exact cs_le
  · exact Nat.le_refl _
def bts (n s : Nat) : Nat := 2 ^ (s / 16) ||| (if n = 2 then 2 ^ (s % 16) else 0)
theorem lit_need {tt : Nat → Nat} (hW : HWf tt) {n s h : Nat} : litB (nxt tt) (tt 1) (bts n s) (need tt h) = true ↔ sdf (need tt h) (lgt tt n (s / 16) (s % 16)) = 0 := by
  have hb : ∀ r, (nxt tt r &&& bts n s ≠ 0) ↔ (lgt tt n (s / 16) (s % 16)).testBit r = true := fun r => by
    have e : ∀ x, (nxt tt r &&& bts n s).testBit x = ((nxt tt r).testBit x && (decide (s / 16 = x) || decide (n = 2 ∧ s % 16 = x))) := fun x => by
      unfold bts
      rw [Nat.testBit_and, Nat.testBit_or, n_two, ite_bit]
    unfold lgt
    rw [Nat.testBit_or, ← nxt_ltt]
    have e2 : (if n = 2 then ltt tt (s % 16) else 0).testBit r = (decide (n = 2) && (nxt tt r).testBit (s % 16)) := by
      by_cases h2 : n = 2
      · rw [if_pos h2, nxt_ltt]; simp [h2]
      · rw [if_neg h2]; simp [h2]
    rw [e2]
    constructor
    · intro hne
      apply Classical.byContradiction
      intro hf
      apply hne
      refine n_zero (fun x => ?_)
      rw [e]
      cases hx : (nxt tt r).testBit x
      · rfl
      · have h1 : ¬ s / 16 = x := fun h => hf (by rw [h, hx]; rfl)
        have h2 : ¬ (n = 2 ∧ s % 16 = x) := fun h => hf (by rw [h.2, hx]; simp [h.1])
        simp [h1, h2]
    · intro h hz
      have h0 : ∀ x, (nxt tt r &&& bts n s).testBit x = false := fun x => by rw [hz, Nat.zero_testBit]
      rw [Bool.or_eq_true] at h
      rcases h with h | h
      · have := h0 (s / 16)
        rw [e, h] at this
        simp at this
      · rw [Bool.and_eq_true] at h
        have := h0 (s % 16)
        rw [e, h.2] at this
        have h3 : n = 2 := of_decide_eq_true h.1
        simp [h3] at this
  unfold litB
  rw [allB_iff, sdf_0]
  constructor
  · intro hh i hi
    have hlt : i < tt 1 := by
      apply Classical.byContradiction
      intro hc
      rw [n_lt_bits (need_lt hW h) (by omega)] at hi
      cases hi
    have h1 := hh i hlt
    rw [hi] at h1
    exact (hb i).mp (by simpa using h1)
  · intro hh r _
    cases hr : (need tt h).testBit r
    · rfl
    · have := (hb r).mpr (hh r hr)
      simp [this]
section CarM
variable {A : Nat → Nat → Int32} {Z : Nat → Int32} {B : Nat → Nat → Int64} {Q : Nat → Int64} {P : Nat → Option Nat} {F : Nat → Nat → Option Nat} {q : Nat} {D : List xC} {c : Nat × Nat} {K : Nat → Nat} {tt lk lh : Nat → Nat} {R i : Nat}
theorem m_isPlace (hT : Told (A 58) tt lk lh) (hW : HWf tt) {n s : Nat} (hn : n = 1 ∨ n = 2) (hs : s < 256) : f_X12_isPlace (HH A Z B Q P F q D c) 57 (nI n) (nI s) = some (if s / 16 < tt 1 ∧ s % 16 < sec tt n then nI 1 else nI 0) := by
  have hro := hW.ro
  unfold f_X12_isPlace
  by_cases h1 : s / 16 < tt 1
  · rcases hn with e | e
    · subst e
      have es : sec tt 1 = 1 := by
        have : sec tt 1 = min (tt 1) 1 := if_neg (by decide)
        rw [this]
        omega
      rw [es]
      by_cases h2 : s % 16 < 1
      · have h3 : s % 16 = 0 := by omega
        simp (disch := omega) only [if_true, if_false, Bool.false_eq_true, Bool.true_eq_false, y_lit, y_m1, nI_add, pk_mul, fa_and, fa_or, y_bs, if_pos, if_neg, y_shl, y_shr, y_le, y_lt, y_eq, y_sub, y_dv, y_rm, y_b0, y_b1, y_sdf, y_ltM, y_Mlt, y_leM, y_Mle, y_eqM, y_Meq, s_e1, s_e2, s_e3, s_e4, s_e5, s_e6, gO_57, m_rooms hT, h3, h1]
        simp
      · simp (disch := omega) only [if_true, if_false, Bool.false_eq_true, Bool.true_eq_false, y_lit, y_m1, nI_add, pk_mul, fa_and, fa_or, y_bs, if_pos, if_neg, y_shl, y_shr, y_le, y_lt, y_eq, y_sub, y_dv, y_rm, y_b0, y_b1, y_sdf, y_ltM, y_Mlt, y_leM, y_Mle, y_eqM, y_Meq, s_e1, s_e2, s_e3, s_e4, s_e5, s_e6, gO_57, m_rooms hT, h1]
    · subst e
      have es : sec tt 2 = tt 1 := if_pos rfl
      rw [es]
      by_cases h2 : s % 16 < tt 1
      · simp (disch := omega) only [if_true, if_false, Bool.false_eq_true, Bool.true_eq_false, y_lit, y_m1, nI_add, pk_mul, fa_and, fa_or, y_bs, if_pos, if_neg, y_shl, y_shr, y_le, y_lt, y_eq, y_sub, y_dv, y_rm, y_b0, y_b1, y_sdf, y_ltM, y_Mlt, y_leM, y_Mle, y_eqM, y_Meq, s_e1, s_e2, s_e3, s_e4, s_e5, s_e6, gO_57, m_rooms hT, h1, h2, and_self]
      · simp (disch := omega) only [if_true, if_false, Bool.false_eq_true, Bool.true_eq_false, y_lit, y_m1, nI_add, pk_mul, fa_and, fa_or, y_bs, if_pos, if_neg, y_shl, y_shr, y_le, y_lt, y_eq, y_sub, y_dv, y_rm, y_b0, y_b1, y_sdf, y_ltM, y_Mlt, y_leM, y_Mle, y_eqM, y_Meq, s_e1, s_e2, s_e3, s_e4, s_e5, s_e6, gO_57, m_rooms hT, h1, h2, and_false]
  · rw [if_neg (c := s / 16 < tt 1 ∧ s % 16 < sec tt n) (fun h => h1 h.1)]
    simp (disch := omega) only [if_true, if_false, Bool.false_eq_true, Bool.true_eq_false, y_lit, y_m1, nI_add, pk_mul, fa_and, fa_or, y_bs, if_pos, if_neg, y_shl, y_shr, y_le, y_lt, y_eq, y_sub, y_dv, y_rm, y_b0, y_b1, y_sdf, y_ltM, y_Mlt, y_leM, y_Mle, y_eqM, y_Meq, s_e1, s_e2, s_e3, s_e4, s_e5, s_e6, gO_57, m_rooms hT]
theorem m_bits (h : xH) {n s : Nat} (hn : n = 1 ∨ n = 2) (hs : s < 256) : f_X12_bits h (nI n) (nI s) = some (nI (bts n s)) := by
  unfold f_X12_bits f_X12_bits_21 bts
  rcases hn with e | e
  · subst e
    simp (disch := omega) only [if_true, if_false, Bool.false_eq_true, Bool.true_eq_false, y_lit, y_m1, nI_add, pk_mul, fa_and, fa_or, y_bs, if_pos, if_neg, y_shl, y_shr, y_le, y_lt, y_eq, y_sub, y_dv, y_rm, y_b0, y_b1, y_sdf, y_ltM, y_Mlt, y_leM, y_Mle, y_eqM, y_Meq, s_e1, s_e2, s_e3, s_e4, s_e5, s_e6]
  · subst e
    simp (disch := omega) only [if_true, if_false, Bool.false_eq_true, Bool.true_eq_false, y_lit, y_m1, nI_add, pk_mul, fa_and, fa_or, y_bs, if_pos, if_neg, y_shl, y_shr, y_le, y_lt, y_eq, y_sub, y_dv, y_rm, y_b0, y_b1, y_sdf, y_ltM, y_Mlt, y_leM, y_Mle, y_eqM, y_Meq, s_e1, s_e2, s_e3, s_e4, s_e5, s_e6]
theorem m_walked {n s u : Nat} (hn : n = 1 ∨ n = 2) (h68 : ∀ a b, a < tt 1 → b < tt 1 → A 68 (16 * a + b) = nI (way tt a b)) (hro : tt 1 ≤ 16) (hs : plc tt n s) (hu : plc tt n u) (hs2 : s < 256) (hu2 : u < 256) : f_X12_walked (HH A Z B Q P F q D c) 57 (nI n) (nI s) (nI u) = some (nI (wlk tt n s u)) := by
  have hse := sec_le (tt := tt) (n := n)
  obtain ⟨s1, s2⟩ := hs
  obtain ⟨u1, u2⟩ := hu
  have e1 := h68 (s / 16) (u / 16) s1 u1
  have e2 := h68 (s % 16) (u % 16) (by omega) (by omega)
  unfold f_X12_walked f_X12_walked_43 wlk
  rcases hn with e | e
  · subst e
    simp (disch := omega) only [if_true, if_false, Bool.false_eq_true, Bool.true_eq_false, y_lit, y_m1, nI_add, pk_mul, fa_and, fa_or, y_bs, if_pos, if_neg, y_shl, y_shr, y_le, y_lt, y_eq, y_sub, y_dv, y_rm, y_b0, y_b1, y_sdf, y_ltM, y_Mlt, y_leM, y_Mle, y_eqM, y_Meq, s_e1, s_e2, s_e3, s_e4, s_e5, s_e6, gf_57_21, ld_68, e1]
  · subst e
    simp (disch := omega) only [if_true, if_false, Bool.false_eq_true, Bool.true_eq_false, y_lit, y_m1, nI_add, pk_mul, fa_and, fa_or, y_bs, if_pos, if_neg, y_shl, y_shr, y_le, y_lt, y_eq, y_sub, y_dv, y_rm, y_b0, y_b1, y_sdf, y_ltM, y_Mlt, y_leM, y_Mle, y_eqM, y_Meq, s_e1, s_e2, s_e3, s_e4, s_e5, s_e6, gf_57_21, ld_68, e1, e2]
theorem m_needed (hT : Told (A 58) tt lk lh) (hW : HWf tt) {t : Nat} (ht : t < 24) : f_X12_needed (HH A Z B Q P F q D c) 57 (nI t) = some (nI (need tt t)) := by
  have hwa := hW.wa
  have hro := hW.ro
  refine loop0 (F := fun n j (s : Int32) => f_X12_needed_4 (HH A Z B Q P F q D c) n 57 (nI t) s (nI j)) (N := tt 4) (st := fun j => nI (orf (fun w => if (tt (256 + 5 * w + 3) ≤ t ∧ t ≤ tt (256 + 5 * w + 4)) ∧ 0 < tt (256 + 5 * w + 1) then 2 ^ tt (256 + 5 * w) else 0) j)) (fun n j hj => ?_) (fun n => ?_) (by omega)
  · obtain ⟨b1, b2, b3, b4, b5, b6⟩ := hW.want hj
    rw [orf]
    by_cases h2 : tt (256 + 5 * j + 3) ≤ t ∧ t ≤ tt (256 + 5 * j + 4)
    · by_cases h1 : 0 < tt (256 + 5 * j + 1)
      · rw [if_pos ⟨h2, h1⟩]
        simp (disch := omega) only [f_X12_needed_4, if_true, if_false, Bool.false_eq_true, Bool.true_eq_false, y_lit, y_m1, nI_add, pk_mul, fa_and, fa_or, y_bs, if_pos, if_neg, y_shl, y_shr, y_le, y_lt, y_eq, y_sub, y_dv, y_rm, y_b0, y_b1, y_sdf, y_ltM, y_Mlt, y_leM, y_Mle, y_eqM, y_Meq, s_e1, s_e2, s_e3, s_e4, s_e5, s_e6, gf_57_0, gO_57, ld_58, hT.1, m_isWanted hT hW, h2, and_self]
      · rw [if_neg (fun h => h1 h.2), Nat.or_zero]
        simp (disch := omega) only [f_X12_needed_4, if_true, if_false, Bool.false_eq_true, Bool.true_eq_false, y_lit, y_m1, nI_add, pk_mul, fa_and, fa_or, y_bs, if_pos, if_neg, y_shl, y_shr, y_le, y_lt, y_eq, y_sub, y_dv, y_rm, y_b0, y_b1, y_sdf, y_ltM, y_Mlt, y_leM, y_Mle, y_eqM, y_Meq, s_e1, s_e2, s_e3, s_e4, s_e5, s_e6, gf_57_0, gO_57, ld_58, hT.1, m_isWanted hT hW, h2, and_self]
    · rw [if_neg (fun h => h2 h.1), Nat.or_zero]
      simp (disch := omega) only [f_X12_needed_4, if_true, if_false, Bool.false_eq_true, Bool.true_eq_false, y_lit, y_m1, nI_add, pk_mul, fa_and, fa_or, y_bs, if_pos, if_neg, y_shl, y_shr, y_le, y_lt, y_eq, y_sub, y_dv, y_rm, y_b0, y_b1, y_sdf, y_ltM, y_Mlt, y_leM, y_Mle, y_eqM, y_Meq, s_e1, s_e2, s_e3, s_e4, s_e5, s_e6, gf_57_0, gO_57, ld_58, hT.1, m_isWanted hT hW, h2]
  · simp (disch := omega) only [f_X12_needed_4, if_true, if_false, Bool.false_eq_true, Bool.true_eq_false, y_lit, y_m1, nI_add, pk_mul, fa_and, fa_or, y_bs, if_pos, if_neg, y_shl, y_shr, y_le, y_lt, y_eq, y_sub, y_dv, y_rm, y_b0, y_b1, y_sdf, y_ltM, y_Mlt, y_leM, y_Mle, y_eqM, y_Meq, s_e1, s_e2, s_e3, s_e4, s_e5, s_e6, gf_57_0, ld_58, hT.1]
    all_goals rfl
theorem m_onward (hT : Told (A 58) tt lk lh) (hW : HWf tt) {n last k s x : Nat} (hn : n = 1 ∨ n = 2) (h68 : ∀ a b, a < tt 1 → b < tt 1 → A 68 (16 * a + b) = nI (way tt a b)) (hx : x < 23) (h69 : ∀ u, u < 256 → A 69 (256 * (x + 1) + u) = nI (cva2 tt n last k u)) (hs : plc tt n s) (hs2 : s < 256) : f_X12_onward (HH A Z B Q P F q D c) 57 (nI n) (nI s) (nI x) = some (nI (minf (fun u => if u / 16 < tt 1 ∧ u % 16 < sec tt n then wlk tt n s u + cs tt n last k u else FAR) FAR 256)) := by
  have hro := hW.ro
  have hF : FAR = 1000000 := rfl
  refine loop0 (F := fun m j (v : Int32) => f_X12_onward_8 (HH A Z B Q P F q D c) m 57 (nI n) (nI s) (nI x) v (nI j)) (N := 256) (st := fun j => nI (minf (fun u => if u / 16 < tt 1 ∧ u % 16 < sec tt n then wlk tt n s u + cs tt n last k u else FAR) FAR j)) (fun m j hj => ?_) (fun m => ?_) (by omega)
  · have w3 := minf_top (f := fun u => if u / 16 < tt 1 ∧ u % 16 < sec tt n then wlk tt n s u + cs tt n last k u else FAR) (top := FAR) j
    have w2 := cs_le (tt := tt) (n := n) (last := last) (k := k) (s := j)
    have wl1 := way_le (tt := tt) (a := s / 16) (b := j / 16)
    have wl2 := way_le (tt := tt) (a := s % 16) (b := j % 16)
    have w1 : wlk tt n s j ≤ 2000000 := by
      unfold wlk
      split <;> omega
    have e3 := h69 j hj
    unfold cva2 at e3
    rw [minf]
    generalize minf (fun u => if u / 16 < tt 1 ∧ u % 16 < sec tt n then wlk tt n s u + cs tt n last k u else FAR) FAR j = mm at *
    by_cases hp : j / 16 < tt 1 ∧ j % 16 < sec tt n
    · rw [if_pos hp] at e3
      rw [if_pos hp, ← y_min]
      have e4 := m_walked (A := A) (Z := Z) (B := B) (Q := Q) (P := P) (F := F) (q := q) (D := D) (c := c) hn h68 hro hs hp hs2 hj
      simp (disch := omega) only [f_X12_onward_8, if_true, if_false, Bool.false_eq_true, Bool.true_eq_false, y_lit, y_m1, nI_add, pk_mul, fa_and, fa_or, y_bs, if_pos, if_neg, y_shl, y_shr, y_le, y_lt, y_eq, y_sub, y_dv, y_rm, y_b0, y_b1, y_sdf, y_ltM, y_Mlt, y_leM, y_Mle, y_eqM, y_Meq, s_e1, s_e2, s_e3, s_e4, s_e5, s_e6, gO_57, m_isPlace hT hW hn, hp, and_self, e4, gf_57_22, ld_69, e3]
    · rw [if_neg hp, Nat.min_eq_left w3]
      simp (disch := omega) only [f_X12_onward_8, if_true, if_false, Bool.false_eq_true, Bool.true_eq_false, y_lit, y_m1, nI_add, pk_mul, fa_and, fa_or, y_bs, if_pos, if_neg, y_shl, y_shr, y_le, y_lt, y_eq, y_sub, y_dv, y_rm, y_b0, y_b1, y_sdf, y_ltM, y_Mlt, y_leM, y_Mle, y_eqM, y_Meq, s_e1, s_e2, s_e3, s_e4, s_e5, s_e6, gO_57, m_isPlace hT hW hn, hp]
  · simp (disch := omega) only [f_X12_onward_8, if_true, if_false, Bool.false_eq_true, Bool.true_eq_false, y_lit, y_m1, nI_add, pk_mul, fa_and, fa_or, y_bs, if_pos, if_neg, y_shl, y_shr, y_le, y_lt, y_eq, y_sub, y_dv, y_rm, y_b0, y_b1, y_sdf, y_ltM, y_Mlt, y_leM, y_Mle, y_eqM, y_Meq, s_e1, s_e2, s_e3, s_e4, s_e5, s_e6]
/-- one hour of the reference -/
theorem m_lc28 (hT : Told (A 58) tt lk lh) (hW : HWf tt) {n fi last k : Nat} (hn : n = 1 ∨ n = 2) (h68 : ∀ a b, a < tt 1 → b < tt 1 → A 68 (16 * a + b) = nI (way tt a b)) (h63 : ∀ r, r < tt 1 → A 63 r = nI (nxt tt r)) (hl : last < 24) (hk : k ≤ last - fi) (hf : fi ≤ last) (h69 : 0 < k → ∀ u, u < 256 → A 69 (256 * (last - fi - k + 1) + u) = nI (cva2 tt n last (k - 1) u)) (k11 : xH → Nat → Int32 → Int32 → Int32 → Int32 → Option xH) : ∃ f, f_X12_layCarried_28 k11 xFU (HH A Z B Q P F q D c) 57 (nI n) (nI fi) (nI last) (nI (last - k)) (nI (need tt (last - k))) (nI 0) = k11 (HH (upA A 69 f) Z B Q P F q D c) 57 (nI n) (nI fi) (nI last) (kv (last - k)) ∧ (∀ s, s < 256 → f (256 * (last - fi - k) + s) = nI (cva2 tt n last k s)) ∧ ∀ j, 256 * (last - fi - k + 1) ≤ j → f j = A 69 j := by
  have hro := hW.ro
  have hpw := pw16 hro
  have hnd := need_lt hW (last - k)
  have key := loop_J (F := fun m j (s : xH) => f_X12_layCarried_28 k11 m s 57 (nI n) (nI fi) (nI last) (nI (last - k)) (nI (need tt (last - k))) (nI j)) (N := 256) (fun s => k11 s 57 (nI n) (nI fi) (nI last) (kv (last - k))) (fun m s => ∃ f, s = HH (upA A 69 f) Z B Q P F q D c ∧ (∀ u, u < m → f (256 * (last - fi - k) + u) = nI (cva2 tt n last k u)) ∧ ∀ j, 256 * (last - fi - k + 1) ≤ j → f j = A 69 j) (fun m s h hs hh => ?_) (fun m h hh => ?_) (by omega) (s := HH A Z B Q P F q D c) ⟨A 69, by rw [y_ua], fun u hu => by omega, fun j _ => rfl⟩
  · obtain ⟨h, e1, f, e2, h1, h2⟩ := key
    subst e2
    exact ⟨f, e1, h1, h2⟩
  · obtain ⟨f, rfl, h1, h2⟩ := hh
    have hT2 : Told (upA A 69 f 58) tt lk lh := hT
    have e88 : ∀ v : Nat, f_X12_layCarried_88 k11 (f_X12_layCarried_28 k11 m) (HH (upA A 69 f) Z B Q P F q D c) 57 (nI n) (nI fi) (nI last) (nI (last - k)) (nI (need tt (last - k))) (nI s) (nI v) = f_X12_layCarried_28 k11 m (HH (upA A 69 (va_up f (256 * (last - fi - k) + s) (nI v))) Z B Q P F q D c) 57 (nI n) (nI fi) (nI last) (nI (last - k)) (nI (need tt (last - k))) (nI (s + 1)) := fun v => by
      unfold f_X12_layCarried_88
      rw [gf_57_22, Option.bind_some, y_sub (by omega), show (256 : Int32) = nI 256 from rfl, pk_mul, nI_add, show last - k - fi = last - fi - k by omega, st_69 (by omega), Option.bind_some, y_uu, y_us, nI_1]
    refine ⟨HH (upA A 69 (va_up f (256 * (last - fi - k) + s) (nI (cva2 tt n last k s)))) Z B Q P F q D c, Eq.trans ?_ (e88 (cva2 tt n last k s)), _, rfl, fun u hu => ?_, fun j hj => ?_⟩
    · show f_X12_layCarried_28 k11 (m + 1) (HH (upA A 69 f) Z B Q P F q D c) 57 _ _ _ _ _ _ = _
      rw [f_X12_layCarried_28, if_neg (by rw [show (256 : Int32) = nI 256 from rfl, y_le (by omega) (by omega)]; omega), gO_57, Option.bind_some, m_isPlace hT2 hW hn hs, Option.bind_some]
      unfold cva2
      by_cases hp : s / 16 < tt 1 ∧ s % 16 < sec tt n
      · have hse := sec_le (tt := tt) (n := n)
        have hb : bts n s < 65536 := by
          unfold bts
          refine n_or_lt (k := 16) (n_pw (by omega)) ?_
          split
          · exact n_pw (by omega)
          · decide
        have eL := m_isLit (A := upA A 69 f) (Z := Z) (B := B) (Q := Q) (P := P) (F := F) (q := q) (D := D) (c := c) hT2 hW (nx := nxt tt) h63 (fun r => nxt_lt16 hW r) hb (o := need tt (last - k)) (by omega)
        have hlit := lit_need hW (n := n) (s := s) (h := last - k)
        rw [if_pos hp, if_neg (by decide), m_bits _ hn hs, Option.bind_some, Option.bind_some, eL, Option.bind_some, if_pos hp]
        by_cases hl0 : sdf (need tt (last - k)) (lgt tt n (s / 16) (s % 16)) = 0
        · rw [hlit.mpr hl0, if_neg (by decide)]
          cases k with
          | zero =>
            rw [if_pos (by rw [Nat.sub_zero])]
            rw [Nat.sub_zero] at hl0
            rw [cs_0, if_pos hl0]
            rfl
          | succ k =>
            have eo2 := m_onward (A := upA A 69 f) (Z := Z) (B := B) (Q := Q) (P := P) (F := F) (q := q) (D := D) (c := c) hT2 hW (last := last) (k := k) (s := s) (x := last - fi - (k + 1)) hn h68 (by omega) (fun u hu => by rw [y_us, h2 _ (by omega)]; exact h69 (by omega) u hu) hp hs
            rw [if_neg (by rw [y_eq (by omega) (by omega)]; omega), Option.bind_some, y_sub (by omega), show last - (k + 1) - fi = last - fi - (k + 1) by omega, eo2, Option.bind_some, cs_s, if_pos hl0]
        · have hlf : litB (nxt tt) (tt 1) (bts n s) (need tt (last - k)) = false := by
            cases hx : litB (nxt tt) (tt 1) (bts n s) (need tt (last - k))
            · rfl
            · exact absurd (hlit.mp hx) hl0
          have e : cs tt n last k s = FAR := by
            cases k with
            | zero =>
              rw [Nat.sub_zero] at hl0
              rw [cs_0, if_neg hl0]
            | succ k => rw [cs_s, if_neg hl0]
          rw [hlf, if_pos (by decide), e]
          rfl
      · rw [if_neg hp, if_pos (by decide), if_neg hp]
        rfl
    · by_cases e : u = s
      · subst e; rw [y_vs]
      · rw [y_vn (by omega)]; exact h1 u (by omega)
    · rw [y_vn (by omega)]; exact h2 j hj
  · obtain ⟨f, rfl, h1, h2⟩ := hh
    show f_X12_layCarried_28 k11 (m + 1) (HH (upA A 69 f) Z B Q P F q D c) 57 _ _ _ _ _ _ = _
    rw [f_X12_layCarried_28, if_pos (by decide), kv_m]
theorem m_layCarried (hT : Told (A 58) tt lk lh) (hW : HWf tt) {n fi last : Nat} (hn : n = 1 ∨ n = 2) (hf : fi ≤ last) (hl : last < 24) : ∃ A', f_X12_layCarried (HH A Z B Q P F q D c) 57 (nI n) (nI fi) (nI last) = some (HH A' Z B Q P F q D c) ∧ Only [63, 68, 69] A A' ∧ (∀ a b, a < tt 1 → b < tt 1 → A' 68 (16 * a + b) = nI (way tt a b)) ∧ ∀ k s, k ≤ last - fi → s < 256 → A' 69 (256 * k + s) = nI (cva2 tt n last (last - fi - k) s) := by
  have hro := hW.ro
  obtain ⟨f, e1, h68⟩ := m_layWalks (A := A) (Z := Z) (B := B) (Q := Q) (P := P) (F := F) (q := q) (D := D) (c := c) hT hW
  have hT1 : Told (upA A 68 f 58) tt lk lh := hT
  obtain ⟨g, e2, h63⟩ := m_layNexts (A := upA A 68 f) (Z := Z) (B := B) (Q := Q) (P := P) (F := F) (q := q) (D := D) (c := c) hT1 hW
  unfold f_X12_layCarried
  rw [gO_57, Option.bind_some, e1, Option.bind_some, gO_57, Option.bind_some, e2, Option.bind_some]
  have key := loop_I (F := fun m j (s : xH) => f_X12_layCarried_11 m s 57 (nI n) (nI fi) (nI last) (kv (last + 1 - j))) (N := last - fi + 1) some (fun j s => ∃ w, s = HH (upA (upA (upA A 68 f) 63 g) 69 w) Z B Q P F q D c ∧ ∀ k, k < j → ∀ u, u < 256 → w (256 * (last - fi - k) + u) = nI (cva2 tt n last k u)) (fun o => ∃ w, o = HH (upA (upA (upA A 68 f) 63 g) 69 w) Z B Q P F q D c ∧ ∀ k, k ≤ last - fi → ∀ u, u < 256 → w (256 * (last - fi - k) + u) = nI (cva2 tt n last k u)) (fun m j s hj hs => Or.inl ?_) (fun m s hs => ?_) (by omega) (s := HH (upA (upA A 68 f) 63 g) Z B Q P F q D c) ⟨A 69, by rw [show A 69 = (upA (upA A 68 f) 63 g) 69 from rfl, y_ua], fun k hk => by omega⟩
  · obtain ⟨o, e3, w, rfl, h1⟩ := key
    have e4 : kv (last + 1 - 0) = nI last := kv_s last
    try dsimp only at e3
    rw [e4] at e3
    refine ⟨_, e3, ((Only.rf.up (by decide)).up (by decide)).up (by decide), fun a b ha hb => h68 a b ha hb, fun k s hk hs => ?_⟩
    have := h1 (last - fi - k) (by omega) s hs
    rw [show last - fi - (last - fi - k) = k by omega] at this
    rw [y_us]
    exact this
  · obtain ⟨w, rfl, h1⟩ := hs
    have hT2 : Told (upA (upA (upA A 68 f) 63 g) 69 w 58) tt lk lh := hT
    have ek : kv (last + 1 - j) = nI (last - j) := by
      rw [show last + 1 - j = (last - j) + 1 by omega]
      exact kv_s _
    have en := m_needed (A := upA (upA (upA A 68 f) 63 g) 69 w) (Z := Z) (B := B) (Q := Q) (P := P) (F := F) (q := q) (D := D) (c := c) hT2 hW (t := last - j) (by omega)
    obtain ⟨w2, e5, h3, h4⟩ := m_lc28 (A := upA (upA (upA A 68 f) 63 g) 69 w) (Z := Z) (B := B) (Q := Q) (P := P) (F := F) (q := q) (D := D) (c := c) hT2 hW (n := n) (fi := fi) (last := last) (k := j) hn h68 h63 hl (by omega) hf (fun hj0 u hu => by
      have := h1 (j - 1) (by omega) u hu
      rw [show last - fi - (j - 1) = last - fi - j + 1 by omega] at this
      rw [y_us]
      exact this) (f_X12_layCarried_11 m)
    rw [y_uu] at e5
    refine ⟨HH (upA (upA (upA A 68 f) 63 g) 69 w2) Z B Q P F q D c, ?_, w2, rfl, fun k hk u hu => ?_⟩
    · show f_X12_layCarried_11 (m + 1) (HH (upA (upA (upA A 68 f) 63 g) 69 w) Z B Q P F q D c) 57 (nI n) (nI fi) (nI last) (kv (last + 1 - j)) = f_X12_layCarried_11 m _ 57 (nI n) (nI fi) (nI last) (kv (last + 1 - (j + 1)))
      rw [ek, show last + 1 - (j + 1) = last - j by omega, f_X12_layCarried_11, if_neg (by rw [y_lt (by omega) (by omega)]; omega), gO_57, Option.bind_some, en, Option.bind_some]
      exact e5
    · by_cases e : k = j
      · subst e; exact h3 u hu
      · rw [h4 _ (by omega), y_us]; exact h1 k (by omega) u hu
  · obtain ⟨w, rfl, h1⟩ := hs
    refine ⟨HH (upA (upA (upA A 68 f) 63 g) 69 w) Z B Q P F q D c, ?_, w, rfl, fun k hk => h1 k (by omega)⟩
    show f_X12_layCarried_11 (m + 1) _ 57 (nI n) (nI fi) (nI last) (kv (last + 1 - (last - fi + 1))) = _
    have hlt : kv (last + 1 - (last - fi + 1)) < nI fi := by
      rw [show last + 1 - (last - fi + 1) = fi by omega]
      cases fi with
      | zero => decide
      | succ fi => rw [kv_s, y_lt (by omega) (by omega)]; omega
    rw [f_X12_layCarried_11, if_pos hlt]
end CarM
