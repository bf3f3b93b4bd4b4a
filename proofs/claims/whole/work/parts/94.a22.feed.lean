/-! ===== feed ===== -/
def byA (x : Int32) (s : Nat) : Nat := x.toBitVec.toNat / 2 ^ s % 256
theorem byA_lt (x : Int32) (s : Nat) : byA x s < 256 := Nat.mod_lt _ (by decide)
theorem byU (x : Int32) {s : Nat} (hs : s ≤ 24) : (UInt32.toInt32 (Int32.toUInt32 x >>> (Int32.toUInt32 (nI s) &&& Int32.toUInt32 (nI 31)))) &&& nI 255 = nI (byA x s) := by
  obtain ⟨m, hm, rfl⟩ := wb_of32 x
  have e := pk_ushrN hm (nI s) s (s_u s (by omega))
  rw [show (nI 31 : Int32) = 31 from rfl, e, show (255 : Nat) = 2 ^ 8 - 1 from rfl, fa_mask]
  unfold byA
  rw [pk_tn hm]
theorem byS (x : Int32) {s : Nat} (hs : s ≤ 24) : vp_nar .byte (Int8.toInt32 (Int32.toInt8 (x >>> nI (s &&& 31)))) = (nI (byA x s)).toInt8.toInt32 := by
  have e : (x >>> nI (s &&& 31)) &&& 255 = nI (byA x s) := by
    rw [← byU x hs, ← fa_and]
    apply b_ext
    intro i hi
    rw [b_and, b_and, show (nI 255 : Int32) = 255 from rfl, b_255, show (nI 31 : Int32) = 31 from rfl, b_ushr s (by omega), b_sshr s (by omega) x hi]
    by_cases h : i < 8
    · rw [if_pos (by omega)]
    · simp [h]
  rw [pk_vb, ← e, fa_byte_low]
theorem and3 (k : Nat) : k &&& 3 = k % 4 := Nat.and_two_pow_sub_one_eq_mod k 2
theorem y_an {a b : Nat} (h : b ≤ a) : nI a + -nI b = nI (a - b) := by
  rw [← y_sub h, Int32.sub_eq_add_neg]
section Feed
variable {A : Nat → Nat → Int32} {Z : Nat → Int32} {B : Nat → Nat → Int64} {Q : Nat → Int64} {P : Nat → Option Nat} {F : Nat → Nat → Option Nat} {q : Nat} {D : List xC} {c : Nat × Nat} {K : Nat → Nat} {tt lk lh : Nat → Nat} {R i : Nat}
theorem c_put4 {n : Nat} (h0 : Z 0 = nI n) (hn : n + 4 ≤ 800) (x : Int32) : ∃ f, f_X11_putOnTape (HH A Z B Q P F q D c) 0 x = some (HH (upA A 1 f) (upA Z 0 (nI (n + 4))) B Q P F q D c) ∧ (∀ k, k < n → f k = A 1 k) ∧ ∀ j, j < 4 → f (n + j) = (nI (byA x (24 - 8 * j))).toInt8.toInt32 := by
  have key := loop_J (F := fun m i (s : xH) => f_X11_putOnTape_3 m s 0 x (if i < 4 then nI (24 - 8 * i) else -8)) (N := 4) some (fun i s => ∃ f, s = HH (upA A 1 f) (upA Z 0 (nI (n + i))) B Q P F q D c ∧ (∀ k, k < n → f k = A 1 k) ∧ ∀ j, j < i → f (n + j) = (nI (byA x (24 - 8 * j))).toInt8.toInt32) (fun m i s hi hs => ?_) (fun m s hs => ?_) (by omega) (s := HH A Z B Q P F q D c) ⟨A 1, by rw [y_ua, Nat.add_zero, ← h0, y_ua], fun k _ => rfl, fun j hj => by omega⟩
  · obtain ⟨s, e1, f, e2, hf⟩ := key
    exact ⟨f, by rw [← e2]; exact e1, hf⟩
  · obtain ⟨f, rfl, hf, hg⟩ := hs
    refine ⟨_, ?_, va_up f (n + i) (nI (byA x (24 - 8 * i))).toInt8.toInt32, rfl, fun k hk => ?_, fun j hj => ?_⟩
    · have en : (if i + 1 < 4 then nI (24 - 8 * (i + 1)) else (-8 : Int32)) = nI (24 - 8 * i) + -nI 8 := by
        by_cases h4 : i + 1 < 4
        · rw [if_pos h4, y_an (by omega)]
          congr 1
          all_goals omega
        · rw [if_neg h4]
          have : i = 3 := by omega
          subst this
          decide
      simp (disch := omega) only [f_X11_putOnTape_3, if_pos hi, en]
      simp (disch := omega) only [if_true, if_false, Bool.false_eq_true, Bool.true_eq_false, y_lit, y_m1, nI_add, pk_mul, fa_and, fa_or, y_bs, if_pos, if_neg, y_shl, y_shr, y_le, y_lt, y_eq, y_sub, y_dv, y_rm, y_b0, y_b1, y_sdf, y_ltM, y_Mlt, y_leM, y_Mle, y_eqM, y_Meq, s_e1, s_e2, s_e3, s_e4, s_e5, s_e6, gf_0_0, gf_0_1, pf_0_1, st_1, y_us, y_un, y_vs, y_vn, y_uu, y_vv, ne_eq, not_false_eq_true, not_true_eq_false, byS]
      rfl
    · rw [y_vn (by omega)]
      exact hf k hk
    · by_cases e : j = i
      · subst e
        rw [y_vs]
      · rw [y_vn (by omega)]
        exact hg j (by omega)
  · obtain ⟨f, rfl, hf, hg⟩ := hs
    rw [if_neg (by omega), f_X11_putOnTape_3, if_pos (by decide)]
def wd (a b c d e : Int32) (k : Nat) : Int32 := if k < 4 then a else if k < 8 then b else if k < 12 then c else if k < 16 then d else e
theorem m_feed {n : Nat} (h0 : Z 19 = nI n) (hn : n + 20 ≤ 800) (x0 x1 x2 x3 x4 : Int32) : ∃ f, f_X12_feed_23 xFU (HH A Z B Q P F q D c) 57 x0 x1 x2 x3 x4 (nI 0) = some (nI (n + 20), HH (upA A 62 f) (upA Z 19 (nI (n + 20))) B Q P F q D c) ∧ (∀ k, k < n → f k = A 62 k) ∧ ∀ j, j < 20 → f (n + j) = nI (byA (wd x0 x1 x2 x3 x4 j) (24 - 8 * (j % 4))) := by
  have key := loop_J (F := fun m i (s : xH) => f_X12_feed_23 m s 57 x0 x1 x2 x3 x4 (nI i)) (N := 20) (fun s => some (nI (n + 20), s)) (fun i s => ∃ f, s = HH (upA A 62 f) (upA Z 19 (nI (n + i))) B Q P F q D c ∧ (∀ k, k < n → f k = A 62 k) ∧ ∀ j, j < i → f (n + j) = nI (byA (wd x0 x1 x2 x3 x4 j) (24 - 8 * (j % 4)))) (fun m i s hi hs => ?_) (fun m s hs => ?_) (by omega) (s := HH A Z B Q P F q D c) ⟨A 62, by rw [y_ua, Nat.add_zero, ← h0, y_ua], fun k _ => rfl, fun j hj => by omega⟩
  · obtain ⟨s, e1, f, e2, hf⟩ := key
    exact ⟨f, by rw [← e2]; exact e1, hf⟩
  · obtain ⟨f, rfl, hf, hg⟩ := hs
    refine ⟨_, ?_, va_up f (n + i) (nI (byA (wd x0 x1 x2 x3 x4 i) (24 - 8 * (i % 4)))), rfl, fun k hk => ?_, fun j hj => ?_⟩
    · unfold wd
      by_cases c1 : i < 4
      · simp (disch := omega) only [f_X12_feed_23, f_X12_feed_76, if_true, if_false, Bool.false_eq_true, Bool.true_eq_false, y_lit, y_m1, nI_add, pk_mul, fa_and, fa_or, y_bs, if_pos, if_neg, y_shl, y_shr, y_le, y_lt, y_eq, y_sub, y_dv, y_rm, y_b0, y_b1, y_sdf, y_ltM, y_Mlt, y_leM, y_Mle, y_eqM, y_Meq, s_e1, s_e2, s_e3, s_e4, s_e5, s_e6, and3, gf_57_5, gf_57_6, pf_57_6, st_62, y_us, y_un, y_vs, y_vn, y_uu, y_vv, ne_eq, not_false_eq_true, not_true_eq_false, byU]
        rfl
      · by_cases c2 : i < 8
        · simp (disch := omega) only [f_X12_feed_23, f_X12_feed_76, if_true, if_false, Bool.false_eq_true, Bool.true_eq_false, y_lit, y_m1, nI_add, pk_mul, fa_and, fa_or, y_bs, if_pos, if_neg, y_shl, y_shr, y_le, y_lt, y_eq, y_sub, y_dv, y_rm, y_b0, y_b1, y_sdf, y_ltM, y_Mlt, y_leM, y_Mle, y_eqM, y_Meq, s_e1, s_e2, s_e3, s_e4, s_e5, s_e6, and3, gf_57_5, gf_57_6, pf_57_6, st_62, y_us, y_un, y_vs, y_vn, y_uu, y_vv, ne_eq, not_false_eq_true, not_true_eq_false, byU]
          rfl
        · by_cases c3 : i < 12
          · simp (disch := omega) only [f_X12_feed_23, f_X12_feed_76, if_true, if_false, Bool.false_eq_true, Bool.true_eq_false, y_lit, y_m1, nI_add, pk_mul, fa_and, fa_or, y_bs, if_pos, if_neg, y_shl, y_shr, y_le, y_lt, y_eq, y_sub, y_dv, y_rm, y_b0, y_b1, y_sdf, y_ltM, y_Mlt, y_leM, y_Mle, y_eqM, y_Meq, s_e1, s_e2, s_e3, s_e4, s_e5, s_e6, and3, gf_57_5, gf_57_6, pf_57_6, st_62, y_us, y_un, y_vs, y_vn, y_uu, y_vv, ne_eq, not_false_eq_true, not_true_eq_false, byU]
            rfl
          · by_cases c4 : i < 16
            · simp (disch := omega) only [f_X12_feed_23, f_X12_feed_76, if_true, if_false, Bool.false_eq_true, Bool.true_eq_false, y_lit, y_m1, nI_add, pk_mul, fa_and, fa_or, y_bs, if_pos, if_neg, y_shl, y_shr, y_le, y_lt, y_eq, y_sub, y_dv, y_rm, y_b0, y_b1, y_sdf, y_ltM, y_Mlt, y_leM, y_Mle, y_eqM, y_Meq, s_e1, s_e2, s_e3, s_e4, s_e5, s_e6, and3, gf_57_5, gf_57_6, pf_57_6, st_62, y_us, y_un, y_vs, y_vn, y_uu, y_vv, ne_eq, not_false_eq_true, not_true_eq_false, byU]
              rfl
            · simp (disch := omega) only [f_X12_feed_23, f_X12_feed_76, if_true, if_false, Bool.false_eq_true, Bool.true_eq_false, y_lit, y_m1, nI_add, pk_mul, fa_and, fa_or, y_bs, if_pos, if_neg, y_shl, y_shr, y_le, y_lt, y_eq, y_sub, y_dv, y_rm, y_b0, y_b1, y_sdf, y_ltM, y_Mlt, y_leM, y_Mle, y_eqM, y_Meq, s_e1, s_e2, s_e3, s_e4, s_e5, s_e6, and3, gf_57_5, gf_57_6, pf_57_6, st_62, y_us, y_un, y_vs, y_vn, y_uu, y_vv, ne_eq, not_false_eq_true, not_true_eq_false, byU]
              rfl
    · rw [y_vn (by omega)]
      exact hf k hk
    · by_cases e : j = i
      · subst e
        rw [y_vs]
      · rw [y_vn (by omega)]
        exact hg j (by omega)
  · obtain ⟨f, rfl, hf, hg⟩ := hs
    simp (disch := omega) only [f_X12_feed_23, if_true, if_false, Bool.false_eq_true, Bool.true_eq_false, y_lit, y_m1, nI_add, pk_mul, fa_and, fa_or, y_bs, if_pos, if_neg, y_shl, y_shr, y_le, y_lt, y_eq, y_sub, y_dv, y_rm, y_b0, y_b1, y_sdf, y_ltM, y_Mlt, y_leM, y_Mle, y_eqM, y_Meq, s_e1, s_e2, s_e3, s_e4, s_e5, s_e6, gf_57_6, y_us, y_un, y_vs, y_vn, y_uu, y_vv, ne_eq, not_false_eq_true, not_true_eq_false]
theorem c_feed {n : Nat} (h0 : Z 0 = nI n) (hn : n + 20 ≤ 800) (x0 x1 x2 x3 x4 : Int32) : ∃ f, f_X11_feed (HH A Z B Q P F q D c) 0 x0 x1 x2 x3 x4 = some (nI (n + 20), HH (upA A 1 f) (upA Z 0 (nI (n + 20))) B Q P F q D c) ∧ (∀ k, k < n → f k = A 1 k) ∧ ∀ j, j < 20 → f (n + j) = (nI (byA (wd x0 x1 x2 x3 x4 j) (24 - 8 * (j % 4)))).toInt8.toInt32 := by
  obtain ⟨f0, e0, a0, b0⟩ := c_put4 (A := A) (Z := Z) (B := B) (Q := Q) (P := P) (F := F) (q := q) (D := D) (c := c) h0 (by omega) x0
  obtain ⟨f1, e1, a1, b1⟩ := c_put4 (A := upA A 1 f0) (Z := upA Z 0 (nI (n + 4))) (B := B) (Q := Q) (P := P) (F := F) (q := q) (D := D) (c := c) (n := n + 4) rfl (by omega) x1
  rw [y_uu, y_uu] at e1
  rw [y_us] at a1
  obtain ⟨f2, e2, a2, b2⟩ := c_put4 (A := upA A 1 f1) (Z := upA Z 0 (nI (n + 4 + 4))) (B := B) (Q := Q) (P := P) (F := F) (q := q) (D := D) (c := c) (n := n + 4 + 4) rfl (by omega) x2
  rw [y_uu, y_uu] at e2
  rw [y_us] at a2
  obtain ⟨f3, e3, a3, b3⟩ := c_put4 (A := upA A 1 f2) (Z := upA Z 0 (nI (n + 4 + 4 + 4))) (B := B) (Q := Q) (P := P) (F := F) (q := q) (D := D) (c := c) (n := n + 4 + 4 + 4) rfl (by omega) x3
  rw [y_uu, y_uu] at e3
  rw [y_us] at a3
  obtain ⟨f4, e4, a4, b4⟩ := c_put4 (A := upA A 1 f3) (Z := upA Z 0 (nI (n + 4 + 4 + 4 + 4))) (B := B) (Q := Q) (P := P) (F := F) (q := q) (D := D) (c := c) (n := n + 4 + 4 + 4 + 4) rfl (by omega) x4
  rw [y_uu, y_uu] at e4
  rw [y_us] at a4
  refine ⟨f4, ?_, fun k hk => ?_, fun j hj => ?_⟩
  · unfold f_X11_feed
    simp (disch := omega) only [if_true, if_false, Bool.false_eq_true, Bool.true_eq_false, y_lit, y_m1, nI_add, pk_mul, fa_and, fa_or, y_bs, if_pos, if_neg, y_shl, y_shr, y_le, y_lt, y_eq, y_sub, y_dv, y_rm, y_b0, y_b1, y_sdf, y_ltM, y_Mlt, y_leM, y_Mle, y_eqM, y_Meq, s_e1, s_e2, s_e3, s_e4, s_e5, s_e6, gf_0_1, gO_0, h0, e0, e1, e2, e3, e4, y_us, y_un, y_vs, y_vn, y_uu, y_vv, ne_eq, not_false_eq_true, not_true_eq_false]
  · rw [a4 k (by omega), a3 k (by omega), a2 k (by omega), a1 k (by omega), a0 k hk]
  · unfold wd
    by_cases c1 : j < 4
    · rw [if_pos c1, a4 _ (by omega), a3 _ (by omega), a2 _ (by omega), a1 _ (by omega), b0 j c1, show j % 4 = j by omega]
    · by_cases c2 : j < 8
      · have := b1 (j - 4) (by omega)
        rw [show n + 4 + (j - 4) = n + j by omega] at this
        rw [if_neg c1, if_pos c2, a4 _ (by omega), a3 _ (by omega), a2 _ (by omega), this, show j % 4 = j - 4 by omega]
      · by_cases c3 : j < 12
        · have := b2 (j - 8) (by omega)
          rw [show n + 4 + 4 + (j - 8) = n + j by omega] at this
          rw [if_neg c1, if_neg c2, if_pos c3, a4 _ (by omega), a3 _ (by omega), this, show j % 4 = j - 8 by omega]
        · by_cases c4 : j < 16
          · have := b3 (j - 12) (by omega)
            rw [show n + 4 + 4 + 4 + (j - 12) = n + j by omega] at this
            rw [if_neg c1, if_neg c2, if_neg c3, if_pos c4, a4 _ (by omega), this, show j % 4 = j - 12 by omega]
          · have := b4 (j - 16) (by omega)
            rw [show n + 4 + 4 + 4 + 4 + (j - 16) = n + j by omega] at this
            rw [if_neg c1, if_neg c2, if_neg c3, if_neg c4, this, show j % 4 = j - 16 by omega]
end Feed
theorem ok_feed : ∀ x0 x1 x2 x3 x4, MHQ (fun h => f_X11_feed h 0 x0 x1 x2 x3 x4) (fun h => f_X12_feed h 57 x0 x1 x2 x3 x4) := by
  intro x0 x1 x2 x3 x4 h i hJ hi
  obtain ⟨K, A, Z, B, Q, P, F, q, D, c, tt, lk, lh, R, rfl, hI⟩ := hJ
  have hz := hI.2.1.2.2.2
  have hY := hI.2.1.2.2.1
  obtain ⟨n, hn, t1, t2, t3⟩ := hI.2.1.2.1
  by_cases hf : n + 20 ≤ 800
  · obtain ⟨f, e1, a1, b1⟩ := c_feed (A := A) (Z := Z) (B := B) (Q := Q) (P := P) (F := F) (q := q) (D := D) (c := c) t1 hf x0 x1 x2 x3 x4
    obtain ⟨g, e2, a2, b2⟩ := m_feed (A := upA A 1 f) (Z := upA (upA Z 0 (nI (n + 20))) 18 (nI 0)) (B := B) (Q := Q) (P := P) (F := F) (q := q) (D := D) (c := c) (n := n) t2 hf x0 x1 x2 x3 x4
    refine ⟨nI (n + 20), _, _, e1, ⟨_, _, _, _, _, _, _, _, _, rfl⟩, ?_, Inv_g hI (A' := upA (upA A 1 f) 62 g) (Z' := upA (upA (upA Z 0 (nI (n + 20))) 18 (nI 0)) 19 (nI (n + 20))) ((Only.rf.up (by decide)).up (by decide)) hz (((Only.rf.up (by decide)).up (by decide)).up (by decide)) ⟨n + 20, hf, rfl, rfl, fun k hk => ?_⟩ hY⟩
    · show f_X12_feed (HH (upA A 1 f) (upA Z 0 (nI (n + 20))) B Q P F q D c) 57 x0 x1 x2 x3 x4 = _
      have t2' : upA (upA Z 0 (nI (n + 20))) 18 (nI 0) 19 = nI n := t2
      unfold f_X12_feed
      rw [pf_57_4, Option.bind_some, gf_57_6, Option.bind_some]
      rw [show upA (upA Z 0 (nI (n + 20))) 18 (0 : Int32) 19 = nI n from t2, show (20 : Int32) = nI 20 from rfl, show (800 : Int32) = nI 800 from rfl, nI_add, if_pos (by rw [y_le (by omega) (by omega)]; exact hf)]
      exact e2
    · by_cases hk2 : k < n
      · obtain ⟨b, hb, u1, u2⟩ := t3 k hk2
        exact ⟨b, hb, (a2 k hk2).trans u1, (a1 k hk2).trans u2⟩
      · refine ⟨byA (wd x0 x1 x2 x3 x4 (k - n)) (24 - 8 * ((k - n) % 4)), byA_lt _ _, ?_, ?_⟩
        · have := b2 (k - n) (by omega)
          rw [show n + (k - n) = k by omega] at this
          exact this
        · have := b1 (k - n) (by omega)
          rw [show n + (k - n) = k by omega] at this
          exact this
  · refine ⟨-1, HH A Z B Q P F q D c, HH A (upA Z 18 0) B Q P F q D c, ?_, ⟨_, _, _, _, _, _, _, _, _, rfl⟩, ?_, JJ_q hI Only.rf hz (oZ18 _) Only.rf (Nat.le_refl _) (by omega) (by omega)⟩
    · show f_X11_feed (HH A Z B Q P F q D c) 0 x0 x1 x2 x3 x4 = _
      unfold f_X11_feed
      rw [gf_0_1, Option.bind_some, t1, show (20 : Int32) = nI 20 from rfl, show (800 : Int32) = nI 800 from rfl, nI_add, if_neg (by rw [y_le (by omega) (by omega)]; exact hf)]
    · show f_X12_feed (HH A Z B Q P F q D c) 57 x0 x1 x2 x3 x4 = _
      unfold f_X12_feed
      rw [pf_57_4, Option.bind_some, gf_57_6, Option.bind_some]
      rw [show upA Z 18 (0 : Int32) 19 = nI n from t2, show (20 : Int32) = nI 20 from rfl, show (800 : Int32) = nI 800 from rfl, nI_add, if_neg (by rw [y_le (by omega) (by omega)]; exact hf)]
