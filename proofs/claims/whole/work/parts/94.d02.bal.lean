/-! ===== the balance: wants against light ===== -/
def wat (Lf Mf : Nat → Nat) (r : Nat) : Prop := 0 < Lf r ∨ Mf r < 99999
def Bal (a b w : Nat → Int32) (z : Int32) (Lf Mf W : Nat → Nat) (wc : Nat) : Prop :=
  (∀ r, r < 16 → a r = nI (Lf r)) ∧ (∀ r, r < 16 → b r = nI (Mf r)) ∧ z = nI wc ∧ wc ≤ 16 ∧ (∀ i, i < wc → w i = nI (W i) ∧ W i < 16 ∧ wat Lf Mf (W i)) ∧ (∀ r, r < 16 → wat Lf Mf r → ∃ i, i < wc ∧ W i = r) ∧ (∀ i j, i < j → j < wc → W i < W j) ∧ (∀ r, Lf r ≤ 99999 ∧ Mf r ≤ 99999)
/-- rooms that lack light -/
def lkF (Lf S W : Nat → Nat) (wc : Nat) : Nat := orf (fun i => if S (W i) < Lf (W i) then 2 ^ W i else 0) wc
theorem lkF_bit {a b w : Nat → Int32} {z : Int32} {Lf Mf W S : Nat → Nat} {wc : Nat} (hB : Bal a b w z Lf Mf W wc) (r : Nat) : (lkF Lf S W wc).testBit r = true ↔ r < 16 ∧ S r < Lf r := by
  obtain ⟨b1, b2, b3, b4, b5, b6, b7, b8⟩ := hB
  unfold lkF
  rw [orf_bit]
  constructor
  · rintro ⟨i, hi, h⟩
    by_cases hc : S (W i) < Lf (W i)
    · rw [if_pos hc, n_two] at h
      have e : W i = r := of_decide_eq_true h
      rw [e] at hc
      have := (b5 i hi).2.1
      exact ⟨by omega, hc⟩
    · rw [if_neg hc, Nat.zero_testBit] at h
      cases h
  · rintro ⟨hr, h⟩
    obtain ⟨i, hi, e⟩ := b6 r hr (Or.inl (by omega))
    refine ⟨i, hi, ?_⟩
    rw [e, if_pos h, n_two]
    simp
theorem lkF_lt {a b w : Nat → Int32} {z : Int32} {Lf Mf W S : Nat → Nat} {wc : Nat} (hB : Bal a b w z Lf Mf W wc) : lkF Lf S W wc < 65536 := orf_lt (k := 16) (fun i hi => by
  have := (hB.2.2.2.2.1 i hi).2.1
  split
  · exact n_pw this
  · decide)
theorem y_mneg {a x : Nat} (ha : a < 1000000000) (h : x ≤ a) : nI a + nM * nI x = nI (a - x) := by
  have h1 : nM.toInt = -1 := rfl
  have h2 : (nM * nI x).toInt = -(x : Int) := by
    rw [fb_mulI]
    · rw [h1, nI_toInt (by omega)]; omega
    · rw [h1, nI_toInt (by omega)]; omega
    · rw [h1, nI_toInt (by omega)]; omega
  rw [fa_eq, fb_addI, h2, nI_toInt (by omega), nI_toInt (by omega)]
  · omega
  · rw [h2, nI_toInt (by omega)]; omega
  · rw [h2, nI_toInt (by omega)]; omega
section Bal
variable {A : Nat → Nat → Int32} {Z : Nat → Int32} {B : Nat → Nat → Int64} {Q : Nat → Int64} {P : Nat → Option Nat} {F : Nat → Nat → Option Nat} {q : Nat} {D : List xC} {c : Nat × Nat} {K : Nat → Nat} {tt lk lh : Nat → Nat} {R i : Nat} {Lf Mf W S X : Nat → Nat} {wc : Nat}
theorem b0_lack (hB : Bal (A 30) (A 31) (A 33) (Z 6) Lf Mf W wc) (hS : ∀ i, i < wc → A 32 (W i) = nI (S (W i))) (hs : ∀ r, S r ≤ 1000000) : f_X0_lacking (HH A Z B Q P F q D c) 29 = some (nI (lkF Lf S W wc)) := by
  obtain ⟨b1, b2, b3, b4, b5, b6, b7, b8⟩ := hB
  refine loop0 (F := fun n j (s : Int32) => f_X0_lacking_4 (HH A Z B Q P F q D c) n 29 s (nI j)) (N := wc) (st := fun j => nI (orf (fun i => if S (W i) < Lf (W i) then 2 ^ W i else 0) j)) (fun n j hj => ?_) (fun n => ?_) (by omega)
  · obtain ⟨w1, w2, w3⟩ := b5 j hj
    have u1 := hs (W j)
    have u2 := (b8 (W j)).1
    have e1 := b1 (W j) w2
    have e2 := hS j hj
    rw [orf]
    by_cases h : S (W j) < Lf (W j)
    · rw [if_pos h]
      simp (disch := omega) only [f_X0_lacking_4, if_true, if_false, Bool.false_eq_true, Bool.true_eq_false, y_lit, y_m1, nI_add, pk_mul, fa_and, fa_or, y_bs, if_pos, if_neg, y_shl, y_shr, y_le, y_lt, y_eq, y_sub, y_dv, y_rm, y_b0, y_b1, y_sdf, y_ltM, y_Mlt, y_leM, y_Mle, y_eqM, y_Meq, s_e1, s_e2, s_e3, s_e4, s_e5, s_e6, gf_29_4, gf_29_3, gf_29_2, gf_29_0, b3, ld_33, w1, ld_32, ld_30, e1, e2]
    · rw [if_neg h, Nat.or_zero]
      simp (disch := omega) only [f_X0_lacking_4, if_true, if_false, Bool.false_eq_true, Bool.true_eq_false, y_lit, y_m1, nI_add, pk_mul, fa_and, fa_or, y_bs, if_pos, if_neg, y_shl, y_shr, y_le, y_lt, y_eq, y_sub, y_dv, y_rm, y_b0, y_b1, y_sdf, y_ltM, y_Mlt, y_leM, y_Mle, y_eqM, y_Meq, s_e1, s_e2, s_e3, s_e4, s_e5, s_e6, gf_29_4, gf_29_3, gf_29_2, gf_29_0, b3, ld_33, w1, ld_32, ld_30, e1, e2]
  · simp (disch := omega) only [f_X0_lacking_4, if_true, if_false, Bool.false_eq_true, Bool.true_eq_false, y_lit, y_m1, nI_add, pk_mul, fa_and, fa_or, y_bs, if_pos, if_neg, y_shl, y_shr, y_le, y_lt, y_eq, y_sub, y_dv, y_rm, y_b0, y_b1, y_sdf, y_ltM, y_Mlt, y_leM, y_Mle, y_eqM, y_Meq, s_e1, s_e2, s_e3, s_e4, s_e5, s_e6, gf_29_4, b3]
    all_goals rfl
theorem b0_enough (hB : Bal (A 30) (A 31) (A 33) (Z 6) Lf Mf W wc) (hS : ∀ i, i < wc → A 32 (W i) = nI (S (W i))) (hs : ∀ r, S r ≤ 1000000) {rr fo se : Nat} (hX : ∀ i, i < wc → ldI (HH A Z B Q P F q D c) .int rr (nI (fo + W i)) = some (nI (X (W i)))) (hx : ∀ r, X r ≤ 1000000) (hset : se < 65536) : (f_X0_enoughWith (HH A Z B Q P F q D c) 29 rr (nI fo) (nI se) = some (nI 1) ∧ ∀ i, i < wc → se.testBit (W i) = true → Lf (W i) ≤ S (W i) + X (W i)) ∨ (f_X0_enoughWith (HH A Z B Q P F q D c) 29 rr (nI fo) (nI se) = some (nI 0) ∧ ∃ i, i < wc ∧ se.testBit (W i) = true ∧ S (W i) + X (W i) < Lf (W i)) := by
  obtain ⟨b1, b2, b3, b4, b5, b6, b7, b8⟩ := hB
  unfold f_X0_enoughWith
  have key := loop_I (F := fun n j (s : Unit) => f_X0_enoughWith_3 (HH A Z B Q P F q D c) n 29 rr (nI fo) (nI se) (nI j)) (N := wc) some (fun j _ => ∀ i, i < j → se.testBit (W i) = true → Lf (W i) ≤ S (W i) + X (W i)) (fun r => (r = nI 1 ∧ ∀ i, i < wc → se.testBit (W i) = true → Lf (W i) ≤ S (W i) + X (W i)) ∨ (r = nI 0 ∧ ∃ i, i < wc ∧ se.testBit (W i) = true ∧ S (W i) + X (W i) < Lf (W i))) (fun n j s hj hs1 => ?_) (fun n s hs1 => ?_) (by omega) (s := ()) (fun k hk => by omega)
  · obtain ⟨r, e1, h⟩ := key
    rcases h with ⟨rfl, h⟩ | ⟨rfl, h⟩
    · exact Or.inl ⟨e1, h⟩
    · exact Or.inr ⟨e1, h⟩
  · obtain ⟨w1, w2, w3⟩ := b5 j hj
    have u1 := hs (W j)
    have u2 := (b8 (W j)).1
    have u3 := hx (W j)
    have e1 := b1 (W j) w2
    have e2 := hS j hj
    have e3 := hX j hj
    cases hb : se.testBit (W j)
    · left
      refine ⟨(), ?_, fun i hi => ?_⟩
      · simp (disch := omega) only [f_X0_enoughWith_3, if_true, if_false, Bool.false_eq_true, Bool.true_eq_false, y_lit, y_m1, nI_add, pk_mul, fa_and, fa_or, y_bs, if_pos, if_neg, y_shl, y_shr, y_le, y_lt, y_eq, y_sub, y_dv, y_rm, y_b0, y_b1, y_sdf, y_ltM, y_Mlt, y_leM, y_Mle, y_eqM, y_Meq, s_e1, s_e2, s_e3, s_e4, s_e5, s_e6, gf_29_4, gf_29_3, b3, ld_33, w1, hb]
      · by_cases e : i = j
        · subst e; rw [hb]; intro h; cases h
        · exact hs1 i (by omega)
    · by_cases h : S (W j) + X (W j) < Lf (W j)
      · right
        refine ⟨nI 0, ?_, Or.inr ⟨rfl, j, hj, hb, h⟩⟩
        simp (disch := omega) only [f_X0_enoughWith_3, if_true, if_false, Bool.false_eq_true, Bool.true_eq_false, y_lit, y_m1, nI_add, pk_mul, fa_and, fa_or, y_bs, if_pos, if_neg, y_shl, y_shr, y_le, y_lt, y_eq, y_sub, y_dv, y_rm, y_b0, y_b1, y_sdf, y_ltM, y_Mlt, y_leM, y_Mle, y_eqM, y_Meq, s_e1, s_e2, s_e3, s_e4, s_e5, s_e6, gf_29_4, gf_29_3, gf_29_2, gf_29_0, b3, ld_33, w1, hb, ld_32, ld_30, e1, e2, e3]
      · left
        refine ⟨(), ?_, fun i hi => ?_⟩
        · simp (disch := omega) only [f_X0_enoughWith_3, if_true, if_false, Bool.false_eq_true, Bool.true_eq_false, y_lit, y_m1, nI_add, pk_mul, fa_and, fa_or, y_bs, if_pos, if_neg, y_shl, y_shr, y_le, y_lt, y_eq, y_sub, y_dv, y_rm, y_b0, y_b1, y_sdf, y_ltM, y_Mlt, y_leM, y_Mle, y_eqM, y_Meq, s_e1, s_e2, s_e3, s_e4, s_e5, s_e6, gf_29_4, gf_29_3, gf_29_2, gf_29_0, b3, ld_33, w1, hb, ld_32, ld_30, e1, e2, e3]
        · by_cases e : i = j
          · subst e; intro _; omega
          · exact hs1 i (by omega)
  · refine ⟨nI 1, ?_, Or.inl ⟨rfl, hs1⟩⟩
    simp (disch := omega) only [f_X0_enoughWith_3, if_true, if_false, Bool.false_eq_true, Bool.true_eq_false, y_lit, y_m1, nI_add, pk_mul, fa_and, fa_or, y_bs, if_pos, if_neg, y_shl, y_shr, y_le, y_lt, y_eq, y_sub, y_dv, y_rm, y_b0, y_b1, y_sdf, y_ltM, y_Mlt, y_leM, y_Mle, y_eqM, y_Meq, s_e1, s_e2, s_e3, s_e4, s_e5, s_e6, gf_29_4, b3]
theorem b0_bear (hB : Bal (A 30) (A 31) (A 33) (Z 6) Lf Mf W wc) (hS : ∀ i, i < wc → A 32 (W i) = nI (S (W i))) (hs : ∀ r, S r ≤ 1000000) : (f_X0_isBearable (HH A Z B Q P F q D c) 29 = some (nI 1) ∧ ∀ i, i < wc → S (W i) ≤ Mf (W i)) ∨ (f_X0_isBearable (HH A Z B Q P F q D c) 29 = some (nI 0) ∧ ∃ i, i < wc ∧ Mf (W i) < S (W i)) := by
  obtain ⟨b1, b2, b3, b4, b5, b6, b7, b8⟩ := hB
  unfold f_X0_isBearable
  have key := loop_I (F := fun n j (s : Unit) => f_X0_isBearable_2 (HH A Z B Q P F q D c) n 29 (nI j)) (N := wc) some (fun j _ => ∀ i, i < j → S (W i) ≤ Mf (W i)) (fun r => (r = nI 1 ∧ ∀ i, i < wc → S (W i) ≤ Mf (W i)) ∨ (r = nI 0 ∧ ∃ i, i < wc ∧ Mf (W i) < S (W i))) (fun n j s hj hs1 => ?_) (fun n s hs1 => ?_) (by omega) (s := ()) (fun k hk => by omega)
  · obtain ⟨r, e1, h⟩ := key
    rcases h with ⟨rfl, h⟩ | ⟨rfl, h⟩
    · exact Or.inl ⟨e1, h⟩
    · exact Or.inr ⟨e1, h⟩
  · obtain ⟨w1, w2, w3⟩ := b5 j hj
    have u1 := hs (W j)
    have u2 := (b8 (W j)).2
    have e1 := b2 (W j) w2
    have e2 := hS j hj
    by_cases h : S (W j) ≤ Mf (W j)
    · left
      refine ⟨(), ?_, fun i hi => ?_⟩
      · simp (disch := omega) only [f_X0_isBearable_2, if_true, if_false, Bool.false_eq_true, Bool.true_eq_false, y_lit, y_m1, nI_add, pk_mul, fa_and, fa_or, y_bs, if_pos, if_neg, y_shl, y_shr, y_le, y_lt, y_eq, y_sub, y_dv, y_rm, y_b0, y_b1, y_sdf, y_ltM, y_Mlt, y_leM, y_Mle, y_eqM, y_Meq, s_e1, s_e2, s_e3, s_e4, s_e5, s_e6, gf_29_4, gf_29_3, gf_29_2, gf_29_1, b3, ld_33, w1, ld_32, ld_31, e1, e2]
      · by_cases e : i = j
        · subst e; exact h
        · exact hs1 i (by omega)
    · right
      refine ⟨nI 0, ?_, Or.inr ⟨rfl, j, hj, by omega⟩⟩
      simp (disch := omega) only [f_X0_isBearable_2, if_true, if_false, Bool.false_eq_true, Bool.true_eq_false, y_lit, y_m1, nI_add, pk_mul, fa_and, fa_or, y_bs, if_pos, if_neg, y_shl, y_shr, y_le, y_lt, y_eq, y_sub, y_dv, y_rm, y_b0, y_b1, y_sdf, y_ltM, y_Mlt, y_leM, y_Mle, y_eqM, y_Meq, s_e1, s_e2, s_e3, s_e4, s_e5, s_e6, gf_29_4, gf_29_3, gf_29_2, gf_29_1, b3, ld_33, w1, ld_32, ld_31, e1, e2]
  · refine ⟨nI 1, ?_, Or.inl ⟨rfl, hs1⟩⟩
    simp (disch := omega) only [f_X0_isBearable_2, if_true, if_false, Bool.false_eq_true, Bool.true_eq_false, y_lit, y_m1, nI_add, pk_mul, fa_and, fa_or, y_bs, if_pos, if_neg, y_shl, y_shr, y_le, y_lt, y_eq, y_sub, y_dv, y_rm, y_b0, y_b1, y_sdf, y_ltM, y_Mlt, y_leM, y_Mle, y_eqM, y_Meq, s_e1, s_e2, s_e3, s_e4, s_e5, s_e6, gf_29_4, b3]
theorem b0_add (hB : Bal (A 30) (A 31) (A 33) (Z 6) Lf Mf W wc) (hS : ∀ i, i < wc → A 32 (W i) = nI (S (W i))) {rr fo : Nat} (hX : ∀ f i, i < wc → ldI (HH (upA A 32 f) Z B Q P F q D c) .int rr (nI (fo + W i)) = some (nI (X (W i)))) : ∃ f, f_X0_add (HH A Z B Q P F q D c) 29 rr (nI fo) (nI 1) = some (HH (upA A 32 f) Z B Q P F q D c) ∧ ∀ i, i < wc → f (W i) = nI (S (W i) + X (W i)) := by
  obtain ⟨b1, b2, b3, b4, b5, b6, b7, b8⟩ := hB
  unfold f_X0_add
  have key := loop_J (F := fun n j (s : xH) => f_X0_add_3 n s 29 rr (nI fo) (nI 1) (nI j)) (N := wc) some (fun j s => ∃ f, s = HH (upA A 32 f) Z B Q P F q D c ∧ ∀ i, i < wc → f (W i) = nI (if i < j then S (W i) + X (W i) else S (W i))) (fun n j s hj hs1 => ?_) (fun n s hs1 => ?_) (by omega) (s := HH A Z B Q P F q D c) ⟨A 32, by rw [y_ua], fun i hi => by rw [if_neg (Nat.not_lt_zero i)]; exact hS i hi⟩
  · obtain ⟨s, e1, f, e2, hf⟩ := key
    refine ⟨f, by rw [← e2]; exact e1, fun i hi => ?_⟩
    rw [hf i hi, if_pos hi]
  · obtain ⟨f, rfl, hf⟩ := hs1
    obtain ⟨w1, w2, w3⟩ := b5 j hj
    have e3 := hX f j hj
    have e2 : f (W j) = nI (S (W j)) := by rw [hf j hj, if_neg (Nat.lt_irrefl j)]
    refine ⟨_, ?_, va_up f (W j) (nI (S (W j) + X (W j))), rfl, fun i hi => ?_⟩
    · simp (disch := omega) only [f_X0_add_3, if_true, if_false, Bool.false_eq_true, Bool.true_eq_false, y_lit, y_m1, nI_add, pk_mul, fa_and, fa_or, y_bs, if_pos, if_neg, y_shl, y_shr, y_le, y_lt, y_eq, y_sub, y_dv, y_rm, y_b0, y_b1, y_sdf, y_ltM, y_Mlt, y_leM, y_Mle, y_eqM, y_Meq, s_e1, s_e2, s_e3, s_e4, s_e5, s_e6, gf_29_4, gf_29_3, gf_29_2, b3, ld_33, w1, ld_32, e2, e3, Nat.one_mul, st_32, y_us, y_un, y_vs, y_vn, y_uu, y_vv, ne_eq, not_false_eq_true, not_true_eq_false]
    · by_cases e : i = j
      · subst e; rw [y_vs, if_pos (by omega)]
      · have hne : W i ≠ W j := by
          rcases Nat.lt_or_gt_of_ne e with h | h
          · have := b7 i j h hj; omega
          · have := b7 j i h hi; omega
        rw [y_vn hne, hf i hi]
        by_cases h : i < j
        · rw [if_pos h, if_pos (by omega)]
        · rw [if_neg h, if_neg (by omega)]
  · obtain ⟨f, rfl, hf⟩ := hs1
    simp (disch := omega) only [f_X0_add_3, if_true, if_false, Bool.false_eq_true, Bool.true_eq_false, y_lit, y_m1, nI_add, pk_mul, fa_and, fa_or, y_bs, if_pos, if_neg, y_shl, y_shr, y_le, y_lt, y_eq, y_sub, y_dv, y_rm, y_b0, y_b1, y_sdf, y_ltM, y_Mlt, y_leM, y_Mle, y_eqM, y_Meq, s_e1, s_e2, s_e3, s_e4, s_e5, s_e6, gf_29_4, b3]
theorem b0_sub (hB : Bal (A 30) (A 31) (A 33) (Z 6) Lf Mf W wc) (hS : ∀ i, i < wc → A 32 (W i) = nI (S (W i))) (hs : ∀ r, S r ≤ 1000000) {rr fo : Nat} (hX : ∀ f i, i < wc → ldI (HH (upA A 32 f) Z B Q P F q D c) .int rr (nI (fo + W i)) = some (nI (X (W i)))) (hx : ∀ r, X r ≤ S r) : ∃ f, f_X0_add (HH A Z B Q P F q D c) 29 rr (nI fo) nM = some (HH (upA A 32 f) Z B Q P F q D c) ∧ ∀ i, i < wc → f (W i) = nI (S (W i) - X (W i)) := by
  obtain ⟨b1, b2, b3, b4, b5, b6, b7, b8⟩ := hB
  unfold f_X0_add
  have key := loop_J (F := fun n j (s : xH) => f_X0_add_3 n s 29 rr (nI fo) nM (nI j)) (N := wc) some (fun j s => ∃ f, s = HH (upA A 32 f) Z B Q P F q D c ∧ ∀ i, i < wc → f (W i) = nI (if i < j then S (W i) - X (W i) else S (W i))) (fun n j s hj hs1 => ?_) (fun n s hs1 => ?_) (by omega) (s := HH A Z B Q P F q D c) ⟨A 32, by rw [y_ua], fun i hi => by rw [if_neg (Nat.not_lt_zero i)]; exact hS i hi⟩
  · obtain ⟨s, e1, f, e2, hf⟩ := key
    refine ⟨f, by rw [← e2]; exact e1, fun i hi => ?_⟩
    rw [hf i hi, if_pos hi]
  · obtain ⟨f, rfl, hf⟩ := hs1
    obtain ⟨w1, w2, w3⟩ := b5 j hj
    have e3 := hX f j hj
    have u1 := hs (W j)
    have u2 := hx (W j)
    have e2 : f (W j) = nI (S (W j)) := by rw [hf j hj, if_neg (Nat.lt_irrefl j)]
    refine ⟨_, ?_, va_up f (W j) (nI (S (W j) - X (W j))), rfl, fun i hi => ?_⟩
    · simp (disch := omega) only [f_X0_add_3, if_true, if_false, Bool.false_eq_true, Bool.true_eq_false, y_lit, y_m1, nI_add, pk_mul, fa_and, fa_or, y_bs, if_pos, if_neg, y_shl, y_shr, y_le, y_lt, y_eq, y_sub, y_dv, y_rm, y_b0, y_b1, y_sdf, y_ltM, y_Mlt, y_leM, y_Mle, y_eqM, y_Meq, s_e1, s_e2, s_e3, s_e4, s_e5, s_e6, gf_29_4, gf_29_3, gf_29_2, b3, ld_33, w1, ld_32, e2, e3, y_mneg, st_32, y_us, y_un, y_vs, y_vn, y_uu, y_vv, ne_eq, not_false_eq_true, not_true_eq_false]
    · by_cases e : i = j
      · subst e; rw [y_vs, if_pos (by omega)]
      · have hne : W i ≠ W j := by
          rcases Nat.lt_or_gt_of_ne e with h | h
          · have := b7 i j h hj; omega
          · have := b7 j i h hi; omega
        rw [y_vn hne, hf i hi]
        by_cases h : i < j
        · rw [if_pos h, if_pos (by omega)]
        · rw [if_neg h, if_neg (by omega)]
  · obtain ⟨f, rfl, hf⟩ := hs1
    simp (disch := omega) only [f_X0_add_3, if_true, if_false, Bool.false_eq_true, Bool.true_eq_false, y_lit, y_m1, nI_add, pk_mul, fa_and, fa_or, y_bs, if_pos, if_neg, y_shl, y_shr, y_le, y_lt, y_eq, y_sub, y_dv, y_rm, y_b0, y_b1, y_sdf, y_ltM, y_Mlt, y_leM, y_Mle, y_eqM, y_Meq, s_e1, s_e2, s_e3, s_e4, s_e5, s_e6, gf_29_4, b3]
theorem b0_watch (h1 : ∀ r, r < 16 → A 30 r = nI (Lf r)) (h2 : ∀ r, r < 16 → A 31 r = nI (Mf r)) (h3 : ∀ r, Lf r ≤ 99999 ∧ Mf r ≤ 99999) : ∃ f z W wc, f_X0_watch (HH A Z B Q P F q D c) 29 = some (HH (upA A 33 f) (upA Z 6 z) B Q P F q D c) ∧ Bal (A 30) (A 31) f z Lf Mf W wc := by
  unfold f_X0_watch
  rw [pf_29_4, Option.bind_some]
  have key := loop_J (F := fun n j (s : xH) => f_X0_watch_7 n s 29 (nI j)) (N := 16) some (fun j s => ∃ f W wc, s = HH (upA A 33 f) (upA Z 6 (nI wc)) B Q P F q D c ∧ wc ≤ j ∧ (∀ i, i < wc → f i = nI (W i) ∧ W i < j ∧ wat Lf Mf (W i)) ∧ (∀ r, r < j → wat Lf Mf r → ∃ i, i < wc ∧ W i = r) ∧ (∀ i k, i < k → k < wc → W i < W k)) (fun n j s hj hs1 => ?_) (fun n s hs1 => ?_) (by omega) (s := HH A (upA Z 6 (nI 0)) B Q P F q D c) ⟨A 33, fun _ => 0, 0, by rw [y_ua], Nat.le_refl _, fun i hi => by omega, fun r hr => by omega, fun i k hi hk => by omega⟩
  · obtain ⟨s, e1, f, W, wc, e2, k1, k2, k3, k4⟩ := key
    subst e2
    exact ⟨f, nI wc, W, wc, e1, h1, h2, rfl, k1, k2, k3, k4, h3⟩
  · obtain ⟨f, W, wc, rfl, k1, k2, k3, k4⟩ := hs1
    obtain ⟨u1, u2⟩ := h3 j
    have e1 := h1 j hj
    have e2 := h2 j hj
    by_cases hw : wat Lf Mf j
    · refine ⟨HH (upA A 33 (va_up f wc (nI j))) (upA Z 6 (nI (wc + 1))) B Q P F q D c, ?_, va_up f wc (nI j), va_up W wc j, wc + 1, rfl, by omega, fun i hi => ?_, fun r hr hwr => ?_, fun i k hi hk => ?_⟩
      · by_cases hl : 0 < Lf j
        · simp (disch := omega) only [f_X0_watch_7, f_X0_watch_33, if_true, if_false, Bool.false_eq_true, Bool.true_eq_false, y_lit, y_m1, nI_add, pk_mul, fa_and, fa_or, y_bs, if_pos, if_neg, y_shl, y_shr, y_le, y_lt, y_eq, y_sub, y_dv, y_rm, y_b0, y_b1, y_sdf, y_ltM, y_Mlt, y_leM, y_Mle, y_eqM, y_Meq, s_e1, s_e2, s_e3, s_e4, s_e5, s_e6, gf_29_0, gf_29_1, gf_29_3, gf_29_4, pf_29_4, ld_30, ld_31, e1, e2, st_33, y_us, y_un, y_vs, y_vn, y_uu, y_vv, ne_eq, not_false_eq_true, not_true_eq_false]
        · have hm : Mf j < 99999 := by
            rcases hw with h | h
            · omega
            · exact h
          simp (disch := omega) only [f_X0_watch_7, f_X0_watch_33, if_true, if_false, Bool.false_eq_true, Bool.true_eq_false, y_lit, y_m1, nI_add, pk_mul, fa_and, fa_or, y_bs, if_pos, if_neg, y_shl, y_shr, y_le, y_lt, y_eq, y_sub, y_dv, y_rm, y_b0, y_b1, y_sdf, y_ltM, y_Mlt, y_leM, y_Mle, y_eqM, y_Meq, s_e1, s_e2, s_e3, s_e4, s_e5, s_e6, gf_29_0, gf_29_1, gf_29_3, gf_29_4, pf_29_4, ld_30, ld_31, e1, e2, st_33, y_us, y_un, y_vs, y_vn, y_uu, y_vv, ne_eq, not_false_eq_true, not_true_eq_false]
      · by_cases e : i = wc
        · subst e
          rw [y_vs, y_vs]
          exact ⟨rfl, by omega, hw⟩
        · rw [y_vn e, y_vn e]
          obtain ⟨a1, a2, a3⟩ := k2 i (by omega)
          exact ⟨a1, by omega, a3⟩
      · by_cases e : r = j
        · exact ⟨wc, by omega, by rw [y_vs, e]⟩
        · obtain ⟨i, hi, hi2⟩ := k3 r (by omega) hwr
          exact ⟨i, by omega, by rw [y_vn (by omega)]; exact hi2⟩
      · rw [y_vn (by omega)]
        by_cases e : k = wc
        · subst e
          rw [y_vs]
          exact (k2 i (by omega)).2.1
        · rw [y_vn e]
          exact k4 i k hi (by omega)
    · have hl : ¬ 0 < Lf j := fun h => hw (Or.inl h)
      have hm : ¬ Mf j < 99999 := fun h => hw (Or.inr h)
      refine ⟨HH (upA A 33 f) (upA Z 6 (nI wc)) B Q P F q D c, ?_, f, W, wc, rfl, by omega, fun i hi => ?_, fun r hr hwr => ?_, k4⟩
      · simp (disch := omega) only [f_X0_watch_7, f_X0_watch_33, if_true, if_false, Bool.false_eq_true, Bool.true_eq_false, y_lit, y_m1, nI_add, pk_mul, fa_and, fa_or, y_bs, if_pos, if_neg, y_shl, y_shr, y_le, y_lt, y_eq, y_sub, y_dv, y_rm, y_b0, y_b1, y_sdf, y_ltM, y_Mlt, y_leM, y_Mle, y_eqM, y_Meq, s_e1, s_e2, s_e3, s_e4, s_e5, s_e6, gf_29_0, gf_29_1, ld_30, ld_31, e1, e2, y_us, y_un, y_vs, y_vn, y_uu, y_vv, ne_eq, not_false_eq_true, not_true_eq_false]
      · obtain ⟨a1, a2, a3⟩ := k2 i hi
        exact ⟨a1, by omega, a3⟩
      · by_cases e : r = j
        · subst e; exact absurd hwr hw
        · exact k3 r (by omega) hwr
  · obtain ⟨f, W, wc, rfl, k1, k2, k3, k4⟩ := hs1
    simp (disch := omega) only [f_X0_watch_7, if_true, if_false, Bool.false_eq_true, Bool.true_eq_false, y_lit, y_m1, nI_add, pk_mul, fa_and, fa_or, y_bs, if_pos, if_neg, y_shl, y_shr, y_le, y_lt, y_eq, y_sub, y_dv, y_rm, y_b0, y_b1, y_sdf, y_ltM, y_Mlt, y_leM, y_Mle, y_eqM, y_Meq, s_e1, s_e2, s_e3, s_e4, s_e5, s_e6]
/-- all is dark; may all wants be met -/
theorem b0_begin (H : Hs K D q tt) (hW : HWf tt) {q' t : Nat} (ht : t < 24) : ∃ A' z W wc fl, f_X0_begin (HH A Z B Q P F q' D c) 29 q (nI t) = some (nI (if fl then 1 else 0), HH A' (upA Z 6 z) B Q P F q' D c) ∧ Only [30, 31, 32, 33] A A' ∧ Bal (A' 30) (A' 31) (A' 33) z (fun r => Lv tt t r (tt 4)) (fun r => Mv tt t r (tt 4)) W wc ∧ (∀ r, r < 16 → A' 32 r = nI 0) ∧ (fl = true ↔ ∀ r, r < 16 → Lv tt t r (tt 4) ≤ Mv tt t r (tt 4)) := by
  have hwa := hW.wa
  have hro := hW.ro
  unfold f_X0_begin
  rw [gf_29_0, Option.bind_some, fill_spec (LLg_30 A Z B Q P F q' D) (by decide), Option.bind_some, LLs_30]
  show ∃ A' z W wc fl, ((gR (HH (upA A 30 (fun j => if j < 16 then 0 else A 30 j)) Z B Q P F q' D c) 29 0 1).bind fun v3 => _) = _ ∧ _
  rw [gf_29_1, Option.bind_some]
  generalize hA1 : upA A 30 (fun j => if j < 16 then 0 else A 30 j) = A1
  rw [fill_spec (LLg_31 A1 Z B Q P F q' D) (by decide), Option.bind_some, LLs_31]
  show ∃ A' z W wc fl, ((gR (HH (upA A1 31 (fun j => if j < 16 then 99999 else A1 31 j)) Z B Q P F q' D c) 29 0 2).bind fun v3 => _) = _ ∧ _
  rw [gf_29_2, Option.bind_some]
  generalize hA2 : upA A1 31 (fun j => if j < 16 then 99999 else A1 31 j) = A2
  rw [fill_spec (LLg_32 A2 Z B Q P F q' D) (by decide), Option.bind_some, LLs_32]
  show ∃ A' z W wc fl, f_X0_begin_30 xFU (HH (upA A2 32 (fun j => if j < 16 then 0 else A2 32 j)) Z B Q P F q' D c) 29 q (nI t) (nI 1) (nI 0) = _ ∧ _
  generalize hA3 : upA A2 32 (fun j => if j < 16 then 0 else A2 32 j) = A3
  have o3 : Only [30, 31, 32] A A3 := by
    rw [← hA3, ← hA2, ← hA1]
    exact ((Only.rf.up (by decide)).up (by decide)).up (by decide)
  have g1 : ∀ r, r < 16 → A3 30 r = nI 0 := fun r hr => by
    rw [← hA3, y_un (by decide), ← hA2, y_un (by decide), ← hA1, y_us]
    exact if_pos hr
  have g2 : ∀ r, r < 16 → A3 31 r = nI 99999 := fun r hr => by
    rw [← hA3, y_un (by decide), ← hA2, y_us]
    exact if_pos hr
  have g3 : ∀ r, r < 16 → A3 32 r = nI 0 := fun r hr => by
    rw [← hA3, y_us]
    exact if_pos hr
  have key := loop_I (F := fun n j (s : xH × Bool) => f_X0_begin_30 n s.1 29 q (nI t) (nI (if s.2 then 1 else 0)) (nI j)) (N := tt 4) some (fun j s => ∃ a b, s.1 = HH (upA (upA A3 30 a) 31 b) Z B Q P F q' D c ∧ (∀ r, r < 16 → a r = nI (Lv tt t r j)) ∧ (∀ r, r < 16 → b r = nI (Mv tt t r j)) ∧ (s.2 = true ↔ ∀ r, r < 16 → Lv tt t r j ≤ Mv tt t r j)) (fun o => ∃ A' z W wc fl, o = (nI (if fl = true then 1 else 0), HH A' (upA Z 6 z) B Q P F q' D c) ∧ Only [30, 31, 32, 33] A A' ∧ Bal (A' 30) (A' 31) (A' 33) z (fun r => Lv tt t r (tt 4)) (fun r => Mv tt t r (tt 4)) W wc ∧ (∀ r, r < 16 → A' 32 r = nI 0) ∧ (fl = true ↔ ∀ r, r < 16 → Lv tt t r (tt 4) ≤ Mv tt t r (tt 4))) (fun n j s hj hs1 => Or.inl ?_) (fun n s hs1 => ?_) (by omega) (s := (HH A3 Z B Q P F q' D c, true)) ⟨A3 30, A3 31, by rw [y_ua, y_ua], g1, g2, ⟨fun _ r _ => by rw [Lv, Mv]; omega, fun _ => rfl⟩⟩
  · obtain ⟨o, e1, A', z, W, wc, fl, rfl, h⟩ := key
    exact ⟨A', z, W, wc, fl, e1, h⟩
  · obtain ⟨sh, fl⟩ := s
    obtain ⟨a, b, e0, k1, k2, k3⟩ := hs1
    dsimp only at e0 k3
    subst e0
    obtain ⟨b1, b2, b3, b4, b5, b6⟩ := hW.want hj
    by_cases hw : tt (256 + 5 * j + 3) ≤ t ∧ t ≤ tt (256 + 5 * j + 4)
    · have l1 := Lv_lt (t := t) (r := tt (256 + 5 * j)) (n := j) hW
      have l2 := Mv_lt (tt := tt) (t := t) (r := tt (256 + 5 * j)) (n := j)
      have a1 := k1 (tt (256 + 5 * j)) (by omega)
      have a2 := k2 (tt (256 + 5 * j)) (by omega)
      have n1 : ∀ r, Lv tt t r (j + 1) = if tt (256 + 5 * j) = r then max (Lv tt t r j) (tt (256 + 5 * j + 1)) else Lv tt t r j := fun r => by
        rw [Lv]
        by_cases e : tt (256 + 5 * j) = r
        · rw [if_pos ⟨hw, e⟩, if_pos e]
        · rw [if_neg (fun h => e h.2), if_neg e]
      have n2 : ∀ r, Mv tt t r (j + 1) = if tt (256 + 5 * j) = r then min (Mv tt t r j) (tt (256 + 5 * j + 2)) else Mv tt t r j := fun r => by
        rw [Mv]
        by_cases e : tt (256 + 5 * j) = r
        · rw [if_pos ⟨hw, e⟩, if_pos e]
        · rw [if_neg (fun h => e h.2), if_neg e]
      have x1 : max (Lv tt t (tt (256 + 5 * j)) j) (tt (256 + 5 * j + 1)) ≤ 99999 := Nat.max_le.mpr ⟨l1, by omega⟩
      have x2 : min (Mv tt t (tt (256 + 5 * j)) j) (tt (256 + 5 * j + 2)) ≤ 99999 := Nat.le_trans (Nat.min_le_left _ _) l2
      have y1 : (if nI (Lv tt t (tt (256 + 5 * j)) j) < nI (tt (256 + 5 * j + 1)) then nI (tt (256 + 5 * j + 1)) else nI (Lv tt t (tt (256 + 5 * j)) j)) = nI (max (Lv tt t (tt (256 + 5 * j)) j) (tt (256 + 5 * j + 1))) := by
        simp only [y_lt (show Lv tt t (tt (256 + 5 * j)) j < 2147483648 by omega) (show tt (256 + 5 * j + 1) < 2147483648 by omega)]
        exact y_max _ _
      have y2 : (if nI (tt (256 + 5 * j + 2)) < nI (Mv tt t (tt (256 + 5 * j)) j) then nI (tt (256 + 5 * j + 2)) else nI (Mv tt t (tt (256 + 5 * j)) j)) = nI (min (Mv tt t (tt (256 + 5 * j)) j) (tt (256 + 5 * j + 2))) := by
        simp only [y_lt (show tt (256 + 5 * j + 2) < 2147483648 by omega) (show Mv tt t (tt (256 + 5 * j)) j < 2147483648 by omega)]
        exact y_min _ _
      generalize hMX : max (Lv tt t (tt (256 + 5 * j)) j) (tt (256 + 5 * j + 1)) = mx at *
      generalize hMN : min (Mv tt t (tt (256 + 5 * j)) j) (tt (256 + 5 * j + 2)) = mn at *
      refine ⟨(HH (upA (upA A3 30 (va_up a (tt (256 + 5 * j)) (nI mx))) 31 (va_up b (tt (256 + 5 * j)) (nI mn))) Z B Q P F q' D c, fl && decide (mx ≤ mn)), ?_, va_up a (tt (256 + 5 * j)) (nI mx), va_up b (tt (256 + 5 * j)) (nI mn), rfl, fun r hr => ?_, fun r hr => ?_, ?_⟩
      · show f_X0_begin_30 (n + 1) (HH (upA (upA A3 30 a) 31 b) Z B Q P F q' D c) 29 q (nI t) (nI (if fl then 1 else 0)) (nI j) = f_X0_begin_30 n _ 29 q (nI t) (nI (if (fl && decide (mx ≤ mn)) then 1 else 0)) (nI (j + 1))
        have eA : ∀ x y, upA (upA (upA (upA A3 30 a) 31 b) 30 x) 31 y = upA (upA A3 30 x) 31 y := fun x y => by
          funext k
          unfold upA
          by_cases e1 : k = 31
          · subst e1; simp
          · by_cases e2 : k = 30
            · subst e2; simp
            · simp [e1, e2]
        have eL : (upA (upA A3 30 a) 31 b) 30 = a := by rw [y_un (by decide), y_us]
        have eM : ∀ x, (upA (upA (upA A3 30 a) 31 b) 30 x) 31 = b := fun x => by rw [y_un (by decide), y_us]
        rw [f_X0_begin_30, hs_5 H, Option.bind_some, if_neg (by rw [y_le (by omega) (by omega)]; omega), hs_gO H, Option.bind_some, c_wantedAt H hW hj ht, if_pos hw, Option.bind_some, if_neg (by decide), hs_9 H, Option.bind_some, show (5 : Int32) = nI 5 from rfl, pk_mul, hs_w0 H (by omega), Option.bind_some, gf_29_0, Option.bind_some, Option.bind_some, ld_30 (by omega), Option.bind_some, Option.bind_some, show (1 : Int32) = nI 1 from rfl, nI_add, hs_w1 H (by omega), Option.bind_some, eL, a1, y1, st_30 (by omega), Option.bind_some, eL, gf_29_1, Option.bind_some, Option.bind_some, ld_31 (by omega), Option.bind_some, hs_9 H, Option.bind_some, show (2 : Int32) = nI 2 from rfl, nI_add, hs_w2 H (by omega), Option.bind_some, eM, a2, y2, st_31 (by omega), Option.bind_some, eM, eA, nI_add]
        cases fl
        · rw [if_pos (by decide)]
          rfl
        · rw [if_neg (by decide), gf_29_0, Option.bind_some, ld_30 (by omega), Option.bind_some, gf_29_1, Option.bind_some, ld_31 (by omega), Option.bind_some, y_us, y_vs, y_un (by decide), y_us, y_vs]
          by_cases h : mx ≤ mn
          · rw [if_neg (by rw [y_lt (by omega) (by omega)]; omega), decide_eq_true h]
            rfl
          · rw [if_pos (by rw [y_lt (by omega) (by omega)]; omega), decide_eq_false h]
            rfl
      · rw [n1]
        by_cases e : r = tt (256 + 5 * j)
        · subst e; rw [y_vs, if_pos rfl, hMX]
        · rw [y_vn e, if_neg (fun h => e h.symm)]; exact k1 r hr
      · rw [n2]
        by_cases e : r = tt (256 + 5 * j)
        · subst e; rw [y_vs, if_pos rfl, hMN]
        · rw [y_vn e, if_neg (fun h => e h.symm)]; exact k2 r hr
      · dsimp only
        rw [Bool.and_eq_true, k3]
        constructor
        · rintro ⟨h1, h2⟩ r hr
          rw [n1, n2]
          by_cases e : tt (256 + 5 * j) = r
          · rw [if_pos e, if_pos e, ← e, hMX, hMN]; exact of_decide_eq_true h2
          · rw [if_neg e, if_neg e]; exact h1 r hr
        · intro h
          have hR := h (tt (256 + 5 * j)) (by omega)
          rw [n1, n2, if_pos rfl, if_pos rfl, hMX, hMN] at hR
          refine ⟨fun r hr => ?_, decide_eq_true hR⟩
          have hr2 := h r hr
          rw [n1, n2] at hr2
          by_cases e : tt (256 + 5 * j) = r
          · subst e
            have g1 : Lv tt t (tt (256 + 5 * j)) j ≤ mx := by rw [← hMX]; exact Nat.le_max_left _ _
            have g2 : mn ≤ Mv tt t (tt (256 + 5 * j)) j := by rw [← hMN]; exact Nat.min_le_left _ _
            omega
          · rw [if_neg e, if_neg e] at hr2; exact hr2
    · have n1 : ∀ r, Lv tt t r (j + 1) = Lv tt t r j := fun r => by rw [Lv, if_neg (fun h => hw h.1)]
      have n2 : ∀ r, Mv tt t r (j + 1) = Mv tt t r j := fun r => by rw [Mv, if_neg (fun h => hw h.1)]
      refine ⟨(HH (upA (upA A3 30 a) 31 b) Z B Q P F q' D c, fl), ?_, a, b, rfl, fun r hr => by rw [n1]; exact k1 r hr, fun r hr => by rw [n2]; exact k2 r hr, ?_⟩
      · show f_X0_begin_30 (n + 1) (HH (upA (upA A3 30 a) 31 b) Z B Q P F q' D c) 29 q (nI t) (nI (if fl then 1 else 0)) (nI j) = f_X0_begin_30 n _ 29 q (nI t) (nI (if fl then 1 else 0)) (nI (j + 1))
        rw [f_X0_begin_30, hs_5 H, Option.bind_some, if_neg (by rw [y_le (by omega) (by omega)]; omega), hs_gO H, Option.bind_some, c_wantedAt H hW hj ht, if_neg hw, Option.bind_some, if_pos (by decide), nI_1]
      · simp only [n1, n2]
        exact k3
  · obtain ⟨sh, fl⟩ := s
    obtain ⟨a, b, e0, k1, k2, k3⟩ := hs1
    dsimp only at e0 k3
    subst e0
    obtain ⟨f, z, W, wc, e1, hB⟩ := b0_watch (A := upA (upA A3 30 a) 31 b) (Z := Z) (B := B) (Q := Q) (P := P) (F := F) (q := q') (D := D) (c := c) (Lf := fun r => Lv tt t r (tt 4)) (Mf := fun r => Mv tt t r (tt 4)) (fun r hr => k1 r hr) (fun r hr => k2 r hr) (fun r => ⟨Lv_lt hW, Mv_lt⟩)
    refine ⟨(nI (if fl then 1 else 0), HH (upA (upA (upA A3 30 a) 31 b) 33 f) (upA Z 6 z) B Q P F q' D c), ?_, _, z, W, wc, fl, rfl, ?_, hB, fun r hr => g3 r hr, k3⟩
    · show f_X0_begin_30 (n + 1) (HH (upA (upA A3 30 a) 31 b) Z B Q P F q' D c) 29 q (nI t) (nI (if fl then 1 else 0)) (nI (tt 4)) = _
      rw [f_X0_begin_30, hs_5 H, Option.bind_some, if_pos (by rw [y_le (by omega) (by omega)]; exact Nat.le_refl _), gO_29, Option.bind_some, e1, Option.bind_some]
      cases fl <;> rfl
    · exact (((o3.mono (by decide)).up (by decide)).up (by decide)).up (by decide)
end Bal
