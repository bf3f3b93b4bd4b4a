/-! ===== lowest bits ===== -/
theorem first_eq {p : Nat → Bool} {n k : Nat} (hk : k < n) (h1 : p k = true) (h2 : ∀ j, j < k → p j = false) : fa_first p n = k := by
  have a := fa_first_le p n
  have b := fa_first_no p n
  have c := fa_first_yes p n
  rcases Nat.lt_trichotomy (fa_first p n) k with h | h | h
  · have := c (by omega)
    rw [h2 _ h] at this
    cases this
  · exact h
  · rw [b k h] at h1
    cases h1
theorem first_none {p : Nat → Bool} {n : Nat} (h : ∀ j, j < n → p j = false) : fa_first p n = n := by
  have a := fa_first_le p n
  have c := fa_first_yes p n
  by_cases e : fa_first p n < n
  · have := c e
    rw [h _ e] at this
    cases this
  · omega
/-- the lowest bit of a set of rooms -/
def low (n : Nat) : Nat := fa_first (fun r => n.testBit r) 64
theorem low_spec {n : Nat} (h0 : n ≠ 0) (hn : n < 2 ^ 64) : low n < 64 ∧ n.testBit (low n) = true ∧ ∀ j, j < low n → n.testBit j = false := by
  obtain ⟨i, hi⟩ := n_nz h0
  have hi2 : i < 64 := by
    by_cases h : i < 64
    · exact h
    · rw [n_lt_bits hn (by omega)] at hi
      cases hi
  have c : low n < 64 := by
    by_cases h : low n < 64
    · exact h
    · have := fa_first_no (fun r => n.testBit r) 64 i (by unfold low at h; omega)
      rw [hi] at this
      cases this
  exact ⟨c, fa_first_yes (fun r => n.testBit r) 64 c, fa_first_no (fun r => n.testBit r) 64⟩
theorem low_eq {n k : Nat} (hk : k < 64) (h1 : n.testBit k = true) (h2 : ∀ j, j < k → n.testBit j = false) : low n = k := first_eq hk h1 h2
theorem low_form {n k : Nat} (h1 : n.testBit k = true) (h2 : ∀ j, j < k → n.testBit j = false) : n = 2 ^ k + 2 ^ (k + 1) * (n / 2 ^ (k + 1)) := by
  have e : n % 2 ^ (k + 1) = 2 ^ k := by
    apply n_ext
    intro i
    rw [Nat.testBit_mod_two_pow, n_two]
    by_cases hi : i < k
    · rw [h2 i hi]
      simp
      omega
    · by_cases hk : k = i
      · subst hk
        rw [h1]
        simp
      · have : ¬ i < k + 1 := by omega
        simp [this, hk]
  have := Nat.mod_add_div n (2 ^ (k + 1))
  rw [e] at this
  omega
theorem low_and {n k w : Nat} (hn : n < 2 ^ w) (h1 : n.testBit k = true) (h2 : ∀ j, j < k → n.testBit j = false) : n &&& (2 ^ w - n) = 2 ^ k := by
  have e := low_form h1 h2
  have hp : 2 ^ k < 2 ^ (k + 1) := n_pw (by omega)
  have hp0 := Nat.two_pow_pos k
  have e1 : n - 1 = (2 ^ k - 1) + 2 ^ (k + 1) * (n / 2 ^ (k + 1)) := by omega
  have e2 : 2 ^ w - n = 2 ^ w - ((n - 1) + 1) := by omega
  have hkw : k < w := by
    by_cases h : k < w
    · exact h
    · rw [n_lt_bits hn (by omega)] at h1
      cases h1
  apply n_ext
  intro i
  rw [Nat.testBit_and, e2, Nat.testBit_two_pow_sub_succ (by omega), n_two]
  have b1 : n.testBit i = if i < k + 1 then (2 ^ k).testBit i else (n / 2 ^ (k + 1)).testBit (i - (k + 1)) := by
    have := add_bit (y := n / 2 ^ (k + 1)) (i := i) hp
    rw [← e] at this
    exact this
  have b2 : (n - 1).testBit i = if i < k + 1 then (2 ^ k - 1).testBit i else (n / 2 ^ (k + 1)).testBit (i - (k + 1)) := by
    rw [e1]
    exact add_bit (by omega)
  rw [b1, b2]
  by_cases hi : i < k + 1
  · rw [if_pos hi, if_pos hi, n_two, Nat.testBit_two_pow_sub_one]
    by_cases hk : k = i
    · subst hk
      simp [hkw]
    · have : i < k := by omega
      simp [hk]
  · rw [if_neg hi, if_neg hi]
    have : ¬ k = i := by omega
    cases (n / 2 ^ (k + 1)).testBit (i - (k + 1)) <;> simp [this]
theorem pc_ones {k : Nat} (hk : k ≤ 64) : pc (2 ^ k - 1) = k := by
  rw [pc_eq hk (by have := Nat.two_pow_pos k; omega)]
  exact fb_ct_all.mpr (fun i hi => by rw [Nat.testBit_two_pow_sub_one]; simp [hi])
theorem neg_nI {n : Nat} (h0 : 0 < n) (hn : n < 2 ^ 32) : -nI n = nI (2 ^ 32 - n) := by
  apply Int32.toBitVec_inj.mp
  apply BitVec.eq_of_toNat_eq
  rw [Int32.toBitVec_neg, BitVec.toNat_neg, pk_tn hn, pk_tn (by omega)]
  omega
theorem c_lowest (h : xH) {n : Nat} (h0 : n ≠ 0) (hn : n < 2147483648) : f_X11_lowest h (nI n) = some (nI (low n)) := by
  obtain ⟨a, b, d⟩ := low_spec h0 (by omega)
  have hl : low n < 32 := by
    by_cases h : low n < 32
    · exact h
    · rw [n_lt_bits (k := 32) (by omega) (by omega)] at b
      cases b
  have hp : 2 ^ low n ≤ 2 ^ 31 := n_pwl (by omega)
  have hp0 := Nat.two_pow_pos (low n)
  unfold f_X11_lowest
  rw [neg_nI (by omega) (by omega), fa_and, low_and (by omega) b d, show (1 : Int32) = nI 1 from rfl, y_sub (by omega), bitCount_spec h (by omega), Option.bind_some, pc_ones (by omega)]
/-! ===== judge ===== -/
def jdg (dk : Nat → Nat) : Int32 := if fa_first (fun t => decide (dk t ≠ 0)) 24 < 24 then nI (100 * fa_first (fun t => decide (dk t ≠ 0)) 24 + low (dk (fa_first (fun t => decide (dk t ≠ 0)) 24))) else nM
theorem jdg_at {dk : Nat → Nat} {t : Nat} (ht : t < 24) (h1 : dk t ≠ 0) (h2 : ∀ u, u < t → dk u = 0) : jdg dk = nI (100 * t + low (dk t)) := by
  have e : fa_first (fun t => decide (dk t ≠ 0)) 24 = t := first_eq ht (decide_eq_true h1) (fun j hj => decide_eq_false (fun h => h (h2 j hj)))
  unfold jdg
  rw [e, if_pos ht]
theorem jdg_no {dk : Nat → Nat} (h : ∀ t, t < 24 → dk t = 0) : jdg dk = nM := by
  have e : fa_first (fun t => decide (dk t ≠ 0)) 24 = 24 := first_none (fun j hj => decide_eq_false (fun h2 => h2 (h j hj)))
  unfold jdg
  rw [e, if_neg (by omega)]
section Jdg
variable {A : Nat → Nat → Int32} {Z : Nat → Int32} {B : Nat → Nat → Int64} {Q : Nat → Int64} {P : Nat → Option Nat} {F : Nat → Nat → Option Nat} {q : Nat} {D : List xC} {c : Nat × Nat} {K : Nat → Nat} {tt lk lh : Nat → Nat} {R i : Nat}
theorem drk_lt16 {L : Nat → Nat} (hW : HWf tt) (t : Nat) : drk tt L t < 65536 := Nat.lt_of_lt_of_le (drk_lt hW t (Nat.le_refl _)) (pw16 hW.ro)
theorem c_judge (H : Hs K D q tt) (hW : HWf tt) (hL : LWf tt lk lh) (hLm : Lam (A 13) (A 14) lk lh) : ∃ f, f_X11_judge (HH A Z B Q P F q D c) 0 = some (jdg (fun t => drk tt (Lsum tt (shn tt lk (brn lh t))) t), HH (upA A 21 f) Z B Q P F q D c) := by
  unfold f_X11_judge
  have key := loop_I (F := fun n i (s : xH) => f_X11_judge_2 n s 0 (nI i)) (N := 24) some (fun i s => (∃ f, s = HH (upA A 21 f) Z B Q P F q D c) ∧ ∀ t, t < i → drk tt (Lsum tt (shn tt lk (brn lh t))) t = 0) (fun r => ∃ f, r = (jdg (fun t => drk tt (Lsum tt (shn tt lk (brn lh t))) t), HH (upA A 21 f) Z B Q P F q D c)) (fun n i s hi hs => ?_) (fun n s hs => ?_) (by omega) (s := HH A Z B Q P F q D c) ⟨⟨A 21, by rw [y_ua]⟩, fun t ht => by omega⟩
  · obtain ⟨r, e1, f, rfl⟩ := key
    exact ⟨f, e1⟩
  · obtain ⟨⟨f, rfl⟩, h0⟩ := hs
    obtain ⟨g, e2⟩ := c_darkRooms (A := upA A 21 f) (Z := Z) (B := B) (Q := Q) (P := P) (F := F) (c := c) H hW hL hLm (brn_lt lh i) hi
    rw [y_uu] at e2
    have hlt : drk tt (Lsum tt (shn tt lk (brn lh i))) i < 65536 := drk_lt16 hW i
    by_cases hd : drk tt (Lsum tt (shn tt lk (brn lh i))) i = 0
    · left
      refine ⟨HH (upA A 21 g) Z B Q P F q D c, ?_, ⟨g, rfl⟩, fun t ht => ?_⟩
      · simp (disch := omega) only [f_X11_judge_2, if_true, if_false, Bool.false_eq_true, Bool.true_eq_false, y_lit, y_m1, nI_add, pk_mul, fa_and, fa_or, y_bs, if_pos, if_neg, y_shl, y_shr, y_le, y_lt, y_eq, y_sub, y_dv, y_rm, y_b0, y_b1, y_sdf, y_ltM, y_Mlt, y_leM, y_Mle, y_eqM, y_Meq, s_e1, s_e2, s_e3, s_e4, s_e5, s_e6, gf_0_5, gO_12, gO_0, c_burning (A := upA A 21 f) hLm hL, e2, hd]
      · by_cases e : t = i
        · subst e; exact hd
        · exact h0 t (by omega)
    · right
      refine ⟨(jdg (fun t => drk tt (Lsum tt (shn tt lk (brn lh t))) t), HH (upA A 21 g) Z B Q P F q D c), ?_, g, rfl⟩
      simp (disch := omega) only [f_X11_judge_2, if_true, if_false, Bool.false_eq_true, Bool.true_eq_false, y_lit, y_m1, nI_add, pk_mul, fa_and, fa_or, y_bs, if_pos, if_neg, y_shl, y_shr, y_le, y_lt, y_eq, y_sub, y_dv, y_rm, y_b0, y_b1, y_sdf, y_ltM, y_Mlt, y_leM, y_Mle, y_eqM, y_Meq, s_e1, s_e2, s_e3, s_e4, s_e5, s_e6, gf_0_5, gO_12, gO_0, c_burning (A := upA A 21 f) hLm hL, e2, c_lowest]
      rw [jdg_at (dk := fun t => drk tt (Lsum tt (shn tt lk (brn lh t))) t) hi hd h0]
  · obtain ⟨⟨f, rfl⟩, h0⟩ := hs
    refine ⟨(jdg (fun t => drk tt (Lsum tt (shn tt lk (brn lh t))) t), HH (upA A 21 f) Z B Q P F q D c), ?_, f, rfl⟩
    simp (disch := omega) only [f_X11_judge_2, if_true, if_false, Bool.false_eq_true, Bool.true_eq_false, y_lit, y_m1, nI_add, pk_mul, fa_and, fa_or, y_bs, if_pos, if_neg, y_shl, y_shr, y_le, y_lt, y_eq, y_sub, y_dv, y_rm, y_b0, y_b1, y_sdf, y_ltM, y_Mlt, y_leM, y_Mle, y_eqM, y_Meq, s_e1, s_e2, s_e3, s_e4, s_e5, s_e6]
    rw [jdg_no (dk := fun t => drk tt (Lsum tt (shn tt lk (brn lh t))) t) h0]
theorem m_judge_in (hT : Told (A 58) tt lk lh) (hW : HWf tt) (k7 : xH → Nat → Int32 → Option (Int32 × xH)) {i d : Nat} (hi : i < 24) (hlt : d < 65536) (hlt2 : d < 2 ^ tt 1) : f_X12_judge_21 k7 xFU (HH A Z B Q P F q D c) 57 (nI i) (nI d) (nI 0) = if d = 0 then k7 (HH A Z B Q P F q D c) 57 (nI (i + 1)) else some (nI (100 * i + low d), HH A Z B Q P F q D c) := by
  have hro := hW.ro
  have key := loop_I (F := fun m j (s : Unit) => f_X12_judge_21 k7 m (HH A Z B Q P F q D c) 57 (nI i) (nI d) (nI j)) (N := tt 1) (ρ := Option (Int32 × xH)) id (fun j _ => ∀ r, r < j → d.testBit r = false) (fun o => o = if d = 0 then k7 (HH A Z B Q P F q D c) 57 (nI (i + 1)) else some (nI (100 * i + low d), HH A Z B Q P F q D c)) (fun m j s hj hs => ?_) (fun m s hs => ?_) (by omega) (s := ()) (fun r hr => by omega)
  · obtain ⟨o, e4, ho⟩ := key
    rw [← ho]
    exact e4
  · cases hb : d.testBit j
    · left
      refine ⟨(), ?_, fun r hr => ?_⟩
      · simp (disch := omega) only [f_X12_judge_21, if_true, if_false, Bool.false_eq_true, Bool.true_eq_false, y_lit, y_m1, nI_add, pk_mul, fa_and, fa_or, y_bs, if_pos, if_neg, y_shl, y_shr, y_le, y_lt, y_eq, y_sub, y_dv, y_rm, y_b0, y_b1, y_sdf, y_ltM, y_Mlt, y_leM, y_Mle, y_eqM, y_Meq, s_e1, s_e2, s_e3, s_e4, s_e5, s_e6, gO_57, m_rooms hT, has_spec, hb]
      · by_cases e : r = j
        · subst e; exact hb
        · exact hs r (by omega)
    · right
      have hd : ¬ d = 0 := fun e => by
        rw [e, Nat.zero_testBit] at hb
        cases hb
      refine ⟨_, rfl, ?_⟩
      rw [if_neg hd, low_eq (by omega) hb hs]
      simp (disch := omega) only [f_X12_judge_21, if_true, if_false, Bool.false_eq_true, Bool.true_eq_false, y_lit, y_m1, nI_add, pk_mul, fa_and, fa_or, y_bs, if_pos, if_neg, y_shl, y_shr, y_le, y_lt, y_eq, y_sub, y_dv, y_rm, y_b0, y_b1, y_sdf, y_ltM, y_Mlt, y_leM, y_Mle, y_eqM, y_Meq, s_e1, s_e2, s_e3, s_e4, s_e5, s_e6, gO_57, m_rooms hT, has_spec, hb]
  · refine ⟨_, rfl, ?_⟩
    have hd : d = 0 := n_zero (fun r => by
      by_cases hr : r < tt 1
      · exact hs r hr
      · exact n_lt_bits hlt2 (by omega))
    rw [if_pos hd]
    simp (disch := omega) only [f_X12_judge_21, if_true, if_false, Bool.false_eq_true, Bool.true_eq_false, y_lit, y_m1, nI_add, pk_mul, fa_and, fa_or, y_bs, if_pos, if_neg, y_shl, y_shr, y_le, y_lt, y_eq, y_sub, y_dv, y_rm, y_b0, y_b1, y_sdf, y_ltM, y_Mlt, y_leM, y_Mle, y_eqM, y_Meq, s_e1, s_e2, s_e3, s_e4, s_e5, s_e6, gO_57, m_rooms hT]
theorem m_judge_s {n i d : Nat} {h : xH} (hi : i < 24) (e2 : f_X12_darkIn (HH A Z B Q P F q D c) 57 (nI i) = some (nI d, h)) : f_X12_judge_7 (n + 1) (HH A Z B Q P F q D c) 57 (nI i) = f_X12_judge_21 (f_X12_judge_7 n) xFU h 57 (nI i) (nI d) (nI 0) := by
  rw [f_X12_judge_7, if_neg (by rw [show (24 : Int32) = nI 24 from rfl, y_le (by omega) (by omega)]; omega), gO_57, Option.bind_some, e2, Option.bind_some]
  rfl
theorem m_judge_7 (hT : Told (A 58) tt lk lh) (hW : HWf tt) (hL : LWf tt lk lh) : ∃ f, f_X12_judge_7 xFU (HH A Z B Q P F q D c) 57 (nI 0) = some (jdg (fun t => drk tt (Lsum tt (shn tt lk (brn lh t))) t), HH (upA A 64 f) Z B Q P F q D c) := by
  have hro := hW.ro
  have key := loop_I (F := fun n i (s : xH) => f_X12_judge_7 n s 57 (nI i)) (N := 24) some (fun i s => (∃ f, s = HH (upA A 64 f) Z B Q P F q D c) ∧ ∀ t, t < i → drk tt (Lsum tt (shn tt lk (brn lh t))) t = 0) (fun r => ∃ f, r = (jdg (fun t => drk tt (Lsum tt (shn tt lk (brn lh t))) t), HH (upA A 64 f) Z B Q P F q D c)) (fun n i s hi hs => ?_) (fun n s hs => ?_) (by omega) (s := HH A Z B Q P F q D c) ⟨⟨A 64, by rw [y_ua]⟩, fun t ht => by omega⟩
  · obtain ⟨r, e1, f, rfl⟩ := key
    exact ⟨f, e1⟩
  · obtain ⟨⟨f, rfl⟩, h0⟩ := hs
    obtain ⟨g, e2, hg⟩ := m_darkIn (A := upA A 64 f) (Z := Z) (B := B) (Q := Q) (P := P) (F := F) (q := q) (D := D) (c := c) hT hW hL hi
    rw [y_uu] at e2
    have hlt : drk tt (Lsum tt (shn tt lk (brn lh i))) i < 65536 := drk_lt16 hW i
    have e5 := m_judge_in (A := upA A 64 g) (Z := Z) (B := B) (Q := Q) (P := P) (F := F) (q := q) (D := D) (c := c) hT hW (f_X12_judge_7 n) hi hlt (drk_lt hW i (Nat.le_refl _))
    by_cases hd : drk tt (Lsum tt (shn tt lk (brn lh i))) i = 0
    · left
      refine ⟨HH (upA A 64 g) Z B Q P F q D c, ?_, ⟨g, rfl⟩, fun t ht => ?_⟩
      · rw [if_pos hd] at e5
        exact (m_judge_s hi e2).trans e5
      · by_cases e : t = i
        · subst e; exact hd
        · exact h0 t (by omega)
    · right
      rw [if_neg hd] at e5
      refine ⟨(jdg (fun t => drk tt (Lsum tt (shn tt lk (brn lh t))) t), HH (upA A 64 g) Z B Q P F q D c), ?_, g, rfl⟩
      rw [jdg_at (dk := fun t => drk tt (Lsum tt (shn tt lk (brn lh t))) t) hi hd h0]
      exact (m_judge_s hi e2).trans e5
  · obtain ⟨⟨f, rfl⟩, h0⟩ := hs
    refine ⟨(jdg (fun t => drk tt (Lsum tt (shn tt lk (brn lh t))) t), HH (upA A 64 f) Z B Q P F q D c), ?_, f, rfl⟩
    simp (disch := omega) only [f_X12_judge_7, if_true, if_false, Bool.false_eq_true, Bool.true_eq_false, y_lit, y_m1, nI_add, pk_mul, fa_and, fa_or, y_bs, if_pos, if_neg, y_shl, y_shr, y_le, y_lt, y_eq, y_sub, y_dv, y_rm, y_b0, y_b1, y_sdf, y_ltM, y_Mlt, y_leM, y_Mle, y_eqM, y_Meq, s_e1, s_e2, s_e3, s_e4, s_e5, s_e6]
    rw [jdg_no (dk := fun t => drk tt (Lsum tt (shn tt lk (brn lh t))) t) h0]
theorem m_judge (hT : Told (A 58) tt lk lh) (hW : HWf tt) (hL : LWf tt lk lh) : ∃ f, f_X12_judge (HH A Z B Q P F q D c) 57 = some (jdg (fun t => drk tt (Lsum tt (shn tt lk (brn lh t))) t), HH (upA A 64 f) (upA Z 18 (nI 0)) B Q P F q D c) := by
  obtain ⟨f, e⟩ := m_judge_7 (A := A) (Z := upA Z 18 (nI 0)) (B := B) (Q := Q) (P := P) (F := F) (q := q) (D := D) (c := c) hT hW hL
  refine ⟨f, ?_⟩
  unfold f_X12_judge
  simp only [y_lit, pf_57_4, Option.bind_some, e]
end Jdg
theorem ok_judge : MHQ (fun h => f_X11_judge h 0) (fun h => f_X12_judge h 57) := by
  intro h i hJ hi
  obtain ⟨K, A, Z, B, Q, P, F, q, D, c, tt, lk, lh, R, rfl, hI⟩ := hJ
  obtain ⟨H, hW, hL, hT, hLm⟩ := hI.1
  obtain ⟨f, e1⟩ := c_judge (A := A) (Z := Z) (B := B) (Q := Q) (P := P) (F := F) (c := c) H hW hL hLm
  obtain ⟨g, e2⟩ := m_judge (A := upA A 21 f) (Z := Z) (B := B) (Q := Q) (P := P) (F := F) (q := q) (D := D) (c := c) hT hW hL
  exact ⟨_, _, _, e1, ⟨_, _, _, _, _, _, _, _, _, rfl⟩, e2, JJ_q hI (oA2164 f g) hI.2.1.2.2.2 (oZ18 _) Only.rf (Nat.le_refl _) (by omega) (by omega)⟩
