/-! ===== Mixture: the search ===== -/
def mz (Z : Nat → Int32) (bo bl : Nat) : Nat → Int32 := upA (upA Z 7 (nI bo)) 8 (nI bl)
def ma (A : Nat → Nat → Int32) (k g ch : Nat → Int32) : Nat → Nat → Int32 := upA (upA (upA A 40 k) 44 g) 46 ch
theorem mz_up {Z : Nat → Int32} {bo bl x y : Nat} : upA (upA (mz Z bo bl) 7 (nI x)) 8 (nI y) = mz Z x y := by
  unfold mz
  funext k
  unfold upA
  by_cases e1 : k = 8
  · subst e1; simp
  · by_cases e2 : k = 7
    · subst e2; simp
    · simp [e1, e2]
theorem ma_40 {A : Nat → Nat → Int32} {k g ch f : Nat → Int32} : upA (ma A k g ch) 40 f = ma A f g ch := by
  unfold ma
  funext j
  unfold upA
  by_cases e1 : j = 46
  · subst e1; simp
  · by_cases e2 : j = 44
    · subst e2; simp
    · by_cases e3 : j = 40
      · subst e3; simp
      · simp [e1, e2, e3]
theorem ma_44 {A : Nat → Nat → Int32} {k g ch f : Nat → Int32} : upA (ma A k g ch) 44 f = ma A k f ch := by
  unfold ma
  funext j
  unfold upA
  by_cases e1 : j = 46
  · subst e1; simp
  · by_cases e2 : j = 44
    · subst e2; simp
    · simp [e1, e2]
theorem ma_46 {A : Nat → Nat → Int32} {k g ch f : Nat → Int32} : upA (ma A k g ch) 46 f = ma A k g f := by
  unfold ma
  rw [y_uu]
section MSeek
variable {A : Nat → Nat → Int32} {Z : Nat → Int32} {B : Nat → Nat → Int64} {Q : Nat → Int64} {P : Nat → Option Nat} {F : Nat → Nat → Option Nat} {q : Nat} {D : List xC} {c : Nat × Nat} {K : Nat → Nat} {tt lk lh : Nat → Nat} {R : Nat} {Lf Mf W : Nat → Nat} {wc : Nat}
theorem moi_le (hW : HWf tt) : ∀ i p, moi tt i p ≤ 99 * i
  | 0, _ => Nat.zero_le _
  | i + 1, p => by
    have h1 := moi_le hW i (p / mb tt)
    have h2 := mol_le hW (Nat.mod_lt p mb_pos)
    rw [moi]
    omega
theorem mla_le : ∀ i p, mla tt i p ≤ i
  | 0, _ => Nat.zero_le _
  | i + 1, p => by
    have h1 := mla_le i (p / mb tt)
    rw [mla]
    split <;> omega
theorem mlv_sum (r : Nat) : ∀ i p, mlv tt r i p = fb_sm (fun a => GG tt (mbr tt (mdg tt i p a)) a r) i
  | 0, _ => rfl
  | i + 1, p => by
    rw [mlv, fb_sm_succ, mlv_sum r i (p / mb tt)]
    congr 1
    · refine fb_sm_cong (fun a ha => ?_)
      rw [mdg, if_neg (by omega)]
    · rw [mdg, if_pos rfl]
/-- the light of a way, as the reference has it -/
theorem mlv_Lsum (hW : HWf tt) (r w : Nat) : mlv tt r (tt 1) w = Lsum tt (fun a => mbr tt (mdg tt (tt 1) w a)) r := by
  rw [mlv_sum, Lsum_GG hW]
theorem mlv_top (hW : HWf tt) {r i p : Nat} (hi : i ≤ tt 1) : mlv tt r i p ≤ 59940 := by
  obtain ⟨_, _, z3, _⟩ := mzx_v (tt := tt) (n := tt 1) (j := tt 1 - i) (i := i) (p := p) (by omega)
  rw [← z3 r, mlv_Lsum hW]
  exact Lsum_le2 hW (fun a _ => mbr_le hW mdg_lt) r
theorem mlv_le (hW : HWf tt) (r : Nat) : ∀ i p, mlv tt r i p ≤ 59940 * i
  | 0, _ => Nat.zero_le _
  | i + 1, p => by
    have h1 := mlv_le hW r i (p / mb tt)
    have h2 := GG_le hW (a := i) (r := r) (mbr_le hW (Nat.mod_lt p mb_pos))
    rw [mlv]
    omega
theorem Bk_le (hW : HWf tt) (h8 : tt 1 ≤ 8) {o : Option Nat} {k : Nat → Int32} {bo bl : Nat} (h : Bk tt (tt 1) o k bo bl) : bo ≤ 99999 ∧ bl ≤ 8 := by
  cases o with
  | none => exact ⟨by have := h.1; omega, by have := h.2; omega⟩
  | some w =>
    obtain ⟨h1, h2, _⟩ := h
    have a := moi_le hW (tt 1) w
    have b := mla_le (tt := tt) (tt 1) w
    omega
theorem c_better {bo bl oil la : Nat} (h7 : Z 7 = nI bo) (h8 : Z 8 = nI bl) (h1 : bo ≤ 99999) (h2 : bl < 100) (h3 : oil < 1000000) (h4 : la < 100) : f_X6_isBetter (HH A Z B Q P F q D c) 39 (nI oil) (nI la) = some (nI (if 100 * oil + la < 100 * bo + bl then 1 else 0)) := by
  unfold f_X6_isBetter
  by_cases e1 : oil < bo
  · rw [if_pos (c := 100 * oil + la < 100 * bo + bl) (by omega)]
    simp (disch := omega) only [if_true, if_false, Bool.false_eq_true, Bool.true_eq_false, y_lit, y_m1, nI_add, pk_mul, fa_and, fa_or, y_bs, if_pos, if_neg, y_shl, y_shr, y_le, y_lt, y_eq, y_sub, y_dv, y_rm, y_b0, y_b1, y_sdf, y_ltM, y_Mlt, y_leM, y_Mle, y_eqM, y_Meq, s_e1, s_e2, s_e3, s_e4, s_e5, s_e6, gf_39_0, gf_39_1, h7, h8]
  · by_cases e2 : oil = bo
    · by_cases e3 : la < bl
      · rw [if_pos (c := 100 * oil + la < 100 * bo + bl) (by omega)]
        simp (disch := omega) only [if_true, if_false, Bool.false_eq_true, Bool.true_eq_false, y_lit, y_m1, nI_add, pk_mul, fa_and, fa_or, y_bs, if_pos, if_neg, y_shl, y_shr, y_le, y_lt, y_eq, y_sub, y_dv, y_rm, y_b0, y_b1, y_sdf, y_ltM, y_Mlt, y_leM, y_Mle, y_eqM, y_Meq, s_e1, s_e2, s_e3, s_e4, s_e5, s_e6, gf_39_0, gf_39_1, h7, h8]
      · rw [if_neg (c := 100 * oil + la < 100 * bo + bl) (by omega)]
        simp (disch := omega) only [if_true, if_false, Bool.false_eq_true, Bool.true_eq_false, y_lit, y_m1, nI_add, pk_mul, fa_and, fa_or, y_bs, if_pos, if_neg, y_shl, y_shr, y_le, y_lt, y_eq, y_sub, y_dv, y_rm, y_b0, y_b1, y_sdf, y_ltM, y_Mlt, y_leM, y_Mle, y_eqM, y_Meq, s_e1, s_e2, s_e3, s_e4, s_e5, s_e6, gf_39_0, gf_39_1, h7, h8]
    · rw [if_neg (c := 100 * oil + la < 100 * bo + bl) (by omega)]
      simp (disch := omega) only [if_true, if_false, Bool.false_eq_true, Bool.true_eq_false, y_lit, y_m1, nI_add, pk_mul, fa_and, fa_or, y_bs, if_pos, if_neg, y_shl, y_shr, y_le, y_lt, y_eq, y_sub, y_dv, y_rm, y_b0, y_b1, y_sdf, y_ltM, y_Mlt, y_leM, y_Mle, y_eqM, y_Meq, s_e1, s_e2, s_e3, s_e4, s_e5, s_e6, gf_39_0, gf_39_1, h7, h8]
theorem c_keep {k g ch : Nat → Int32} {bo bl i oil la : Nat} (hi : i ≤ 8) : ∃ k', f_X6_keep (HH (ma A k g ch) (mz Z bo bl) B Q P F q D c) 39 (nI i) (nI oil) (nI la) = some (HH (ma A k' g ch) (mz Z oil la) B Q P F q D c) ∧ ∀ r, r < 8 → k' r = if r < i then ch r else nM := by
  unfold f_X6_keep
  rw [pf_39_0, Option.bind_some, pf_39_1, Option.bind_some, mz_up]
  have key := loop_J (F := fun n j (s : xH) => f_X6_keep_13 n s 39 (nI i) (nI j)) (N := 8) some (fun j s => ∃ k', s = HH (ma A k' g ch) (mz Z oil la) B Q P F q D c ∧ ∀ r, r < j → k' r = if r < i then ch r else nM) (fun n j s hj hs => ?_) (fun n s hs => ?_) (by omega) (s := HH (ma A k g ch) (mz Z oil la) B Q P F q D c) ⟨k, rfl, fun r hr => by omega⟩
  · obtain ⟨s, e1, k', e2, h1⟩ := key
    subst e2
    exact ⟨k', e1, h1⟩
  · obtain ⟨k', rfl, h1⟩ := hs
    refine ⟨HH (ma A (va_up k' j (if j < i then ch j else nM)) g ch) (mz Z oil la) B Q P F q D c, ?_, _, rfl, fun r hr => ?_⟩
    · have e46 : ma A k' g ch 46 = ch := by unfold ma; rw [y_us]
      have e40 : ma A k' g ch 40 = k' := by unfold ma; rw [y_un (by decide), y_un (by decide), y_us]
      show f_X6_keep_13 (n + 1) _ _ _ _ = f_X6_keep_13 n _ _ _ _
      rw [f_X6_keep_13, if_neg (by rw [show (8 : Int32) = nI 8 from rfl, y_le (by omega) (by omega)]; omega), gf_39_2, Option.bind_some]
      unfold f_X6_keep_43
      by_cases h : j < i
      · rw [if_neg (by rw [y_le (by omega) (by omega)]; omega), gf_39_7, Option.bind_some, ld_46 hj, Option.bind_some, st_40 hj, Option.bind_some, ma_40, e46, e40, nI_1, if_pos h]
      · rw [if_pos (by rw [y_le (by omega) (by omega)]; omega), st_40 hj, Option.bind_some, ma_40, e40, nI_1, if_neg h]
        rfl
    · by_cases e : r = j
      · subst e; rw [y_vs]
      · rw [y_vn e]; exact h1 r (by omega)
  · obtain ⟨k', rfl, h1⟩ := hs
    show f_X6_keep_13 (n + 1) _ _ _ _ = _
    rw [f_X6_keep_13, if_pos (by decide)]
/-- what the search reads -/
def KM (A : Nat → Nat → Int32) (Z : Nat → Int32) (tt : Nat → Nat) (Lf Mf W : Nat → Nat) (wc : Nat) : Prop :=
  Bal (A 42) (A 43) (A 45) (Z 10) Lf Mf W wc ∧ (∀ j, j < wc → W j < tt 1) ∧ H47 (A 47) tt (tt 3) ∧ (∀ i r, i ≤ tt 1 → r < tt 1 → A 48 (i * 16 + r) = nI (mtu tt (tt 1) r (tt 1 - i))) ∧ Z 9 = nI (mlo tt (tt 3))
theorem m_lack0 (hW : HWf tt) (h8 : tt 1 ≤ 8) {i j p bo bl N : Nat} {o : Option Nat} {k g ch : Nat → Int32} (hn : i + j = tt 1) (hch : ∀ r, r < i → ch r = kv (mdg tt i p r)) (hb : Bk tt (tt 1) o k bo bl) (hv : ∀ r, r < 16 → Lf r ≤ mlv tt r i p ∧ mlv tt r i p ≤ Mf r) : ∃ k' bo' bl' o', f_X6_seek (N + 1) (HH (ma A k g ch) (mz Z bo bl) B Q P F q D c) 39 R (nI i) (nI (moi tt i p)) (nI (mla tt i p)) (nI 0) = some (HH (ma A k' g ch) (mz Z bo' bl') B Q P F q D c) ∧ Bk tt (tt 1) o' k' bo' bl' ∧ BV (mcv tt (tt 1)) (VM tt Lf Mf (tt 1)) (fun w => mpr tt j w = p) (100 * bo + bl) o (100 * bo' + bl') o' := by
  have a1 := moi_le hW i p
  have a2 := mla_le (tt := tt) i p
  obtain ⟨a3, a4⟩ := Bk_le hW h8 hb
  have eb := c_better (A := ma A k g ch) (Z := mz Z bo bl) (B := B) (Q := Q) (P := P) (F := F) (q := q) (D := D) (c := c) (bo := bo) (bl := bl) (oil := moi tt i p) (la := mla tt i p) (by unfold mz; rw [y_un (by decide), y_us]) (by unfold mz; rw [y_us]) a3 (by omega) (by omega) (by omega)
  by_cases hc : 100 * moi tt i p + mla tt i p < 100 * bo + bl
  · rw [if_pos hc] at eb
    obtain ⟨k', e2, hk'⟩ := c_keep (A := A) (Z := Z) (B := B) (Q := Q) (P := P) (F := F) (q := q) (D := D) (c := c) (k := k) (g := g) (ch := ch) (bo := bo) (bl := bl) (i := i) (oil := moi tt i p) (la := mla tt i p) (by omega)
    obtain ⟨z1, z2, z3, z4⟩ := mzx_v (tt := tt) (p := p) hn
    refine ⟨k', moi tt i p, mla tt i p, some (mzx tt j p), ?_, ⟨z1.symm, z2.symm, fun r hr => ?_⟩, ?_⟩
    · rw [f_X6_seek, if_pos (by decide), gO_39, Option.bind_some, eb, Option.bind_some, if_neg (by decide), Option.bind_some, e2, Option.bind_some]
    · rw [hk' r hr, z4]
      by_cases h : r < i
      · rw [if_pos h, if_pos h, hch r h]
      · rw [if_neg h, if_neg h]; rfl
    · exact ms_found hn (fun r hr => by rw [z3]; exact hv r hr) hc
  · rw [if_neg hc] at eb
    refine ⟨k, bo, bl, o, ?_, hb, ms_not hn (by unfold mcv; omega)⟩
    rw [f_X6_seek, if_pos (by decide), gO_39, Option.bind_some, eb, Option.bind_some, if_pos (by decide)]
theorem m_seek (H : Hs K D q tt) (hW : HWf tt) (h8 : tt 1 ≤ 8) {q' : Nat} (hR : KM A Z tt Lf Mf W wc) : ∀ (j i N p bo bl : Nat) (o : Option Nat) (k g ch : Nat → Int32), i + j = tt 1 → j < N → (∀ r, r < i → ch r = kv (mdg tt i p r)) → (∀ x, x < wc → g (W x) = nI (mlv tt (W x) i p)) → (∀ r, r < 16 → mlv tt r i p ≤ Mf r) → Bk tt (tt 1) o k bo bl → ∃ k' g' ch' bo' bl' o', f_X6_seek N (HH (ma A k g ch) (mz Z bo bl) B Q P F q' D c) 39 q (nI i) (nI (moi tt i p)) (nI (mla tt i p)) (nI (lkF Lf (fun r => mlv tt r i p) W wc)) = some (HH (ma A k' g' ch') (mz Z bo' bl') B Q P F q' D c) ∧ (∀ x, x < wc → g' (W x) = nI (mlv tt (W x) i p)) ∧ (∀ r, r < i → ch' r = ch r) ∧ Bk tt (tt 1) o' k' bo' bl' ∧ BV (mcv tt (tt 1)) (VM tt Lf Mf (tt 1)) (fun w => mpr tt j w = p) (100 * bo + bl) o (100 * bo' + bl') o' := by
  have hki := hW.ki
  obtain ⟨hB, hWl, h47, h48, h9⟩ := hR
  intro j
  induction j with
  | zero =>
    intro i N p bo bl o k g ch hn hN hch hg hm hb
    obtain ⟨N, rfl⟩ : ∃ m, N = m + 1 := ⟨N - 1, by omega⟩
    have hlb := lkF_bit (S := fun r => mlv tt r i p) hB
    have hll := lkF_lt (S := fun r => mlv tt r i p) hB
    generalize hlk : lkF Lf (fun r => mlv tt r i p) W wc = lack at *
    by_cases hl0 : lack = 0
    · subst hl0
      have hL0 : ∀ r, r < 16 → Lf r ≤ mlv tt r i p := fun r hr => by
        apply Classical.byContradiction
        intro h
        have := (hlb r).mpr ⟨hr, by omega⟩
        rw [Nat.zero_testBit] at this
        cases this
      obtain ⟨k', bo', bl', o', e1, h1, h2⟩ := m_lack0 (A := A) (Z := Z) (B := B) (Q := Q) (P := P) (F := F) (q := q') (D := D) (c := c) (R := q) (Lf := Lf) (Mf := Mf) (N := N) (g := g) hW h8 hn hch hb (fun r hr => ⟨hL0 r hr, hm r hr⟩)
      exact ⟨k', g, ch, bo', bl', o', e1, hg, fun _ _ => rfl, h1, h2⟩
    · refine ⟨k, g, ch, bo, bl, o, ?_, hg, fun _ _ => rfl, hb, ms_zero hn ?_⟩
      · rw [f_X6_seek, if_neg (by rw [← nI_0, y_eq (by omega) (by omega)]; exact hl0), hs_1 H, Option.bind_some, if_pos (by rw [y_le (by omega) (by omega)]; omega)]
      · apply Classical.byContradiction
        intro h
        refine hl0 (n_zero (fun r => ?_))
        cases hbit : lack.testBit r
        · rfl
        · exact absurd ⟨r, ((hlb r).mp hbit).1, ((hlb r).mp hbit).2⟩ h
  | succ j ih =>
    intro i N p bo bl o k g ch hn hN hch hg hm hb
    obtain ⟨N, rfl⟩ : ∃ m, N = m + 1 := ⟨N - 1, by omega⟩
    have hlb := lkF_bit (S := fun r => mlv tt r i p) hB
    have hll := lkF_lt (S := fun r => mlv tt r i p) hB
    have a1 := moi_le hW i p
    have a2 := mla_le (tt := tt) i p
    obtain ⟨a3, a4⟩ := Bk_le hW h8 hb
    have a5 := mlo_top (tt := tt) (tt 3)
    have hlit := ltt_lt16 hW i
    have hmv : ∀ r i p, i ≤ 8 → mlv tt r i p ≤ 1000000 := fun r i p hi => by have := mlv_le hW r i p; omega
    by_cases hl0 : lkF Lf (fun r => mlv tt r i p) W wc = 0
    · have hL0 : ∀ r, r < 16 → Lf r ≤ mlv tt r i p := fun r hr => by
        apply Classical.byContradiction
        intro h
        have := (hlb r).mpr ⟨hr, by omega⟩
        rw [hl0, Nat.zero_testBit] at this
        cases this
      obtain ⟨k', bo', bl', o', e1, h1, h2⟩ := m_lack0 (A := A) (Z := Z) (B := B) (Q := Q) (P := P) (F := F) (q := q') (D := D) (c := c) (R := q) (Lf := Lf) (Mf := Mf) (N := N) (g := g) hW h8 hn hch hb (fun r hr => ⟨hL0 r hr, hm r hr⟩)
      exact ⟨k', g, ch, bo', bl', o', by rw [hl0]; exact e1, hg, fun _ _ => rfl, h1, h2⟩
    · have hlx : ∃ r, r < 16 ∧ mlv tt r i p < Lf r := by
        apply Classical.byContradiction
        intro h
        refine hl0 (n_zero (fun r => ?_))
        cases hbit : (lkF Lf (fun r => mlv tt r i p) W wc).testBit r
        · rfl
        · exact absurd ⟨r, ((hlb r).mp hbit).1, ((hlb r).mp hbit).2⟩ h
      have eb := c_better (A := ma A k g ch) (Z := mz Z bo bl) (B := B) (Q := Q) (P := P) (F := F) (q := q') (D := D) (c := c) (bo := bo) (bl := bl) (oil := moi tt i p + mlo tt (tt 3)) (la := mla tt i p + 1) (by unfold mz; rw [y_un (by decide), y_us]) (by unfold mz; rw [y_us]) a3 (by omega) (by omega) (by omega)
      have hz9 : ∀ bo bl, mz Z bo bl 9 = nI (mlo tt (tt 3)) := fun bo bl => by unfold mz; rw [y_un (by decide), y_un (by decide)]; exact h9
      by_cases hbt : 100 * (moi tt i p + mlo tt (tt 3)) + (mla tt i p + 1) < 100 * bo + bl
      · rw [if_pos hbt] at eb
        generalize hse : lkF Lf (fun r => mlv tt r i p) W wc &&& ltt tt i = se
        have hsl : se < 65536 := by rw [← hse]; exact n_and_ltl (k := 16) hll
        -- readings
        have e48 : ∀ (k g ch : Nat → Int32) (bo bl : Nat) x, x < wc → ldI (HH (ma A k g ch) (mz Z bo bl) B Q P F q' D c) .int 48 (nI ((i + 1) * 16 + W x)) = some (nI (mtu tt (tt 1) (W x) j)) := fun k g ch bo bl x hx => by
          have := hWl x hx
          have e := h48 (i + 1) (W x) (by omega) this
          rw [show tt 1 - (i + 1) = j by omega] at e
          rw [ld_48 (by omega), ← e]
          rfl
        have hmt : ∀ r, mtu tt (tt 1) r j ≤ 1000000 := fun r => by have := mtu_top hW (tt 1) r j (by omega); omega
        -- the kinds
        have hkinds : ∀ (kk N2 : Nat) (k g ch : Nat → Int32) (bo1 bl1 : Nat) (o1 : Option Nat), kk ≤ tt 3 → tt 3 - kk < N2 → (∀ r, r < i → ch r = kv (mdg tt i p r)) → (∀ x, x < wc → g (W x) = nI (mlv tt (W x) i p)) → Bk tt (tt 1) o1 k bo1 bl1 → se ≠ 0 → BV (mcv tt (tt 1)) (VM tt Lf Mf (tt 1)) (fun w => ∃ d, d ≤ kk ∧ mpr tt j w = p * mb tt + d) (100 * bo + bl) o (100 * bo1 + bl1) o1 → ∃ k' g' ch' bo' bl' o', f_X6_seek_106 (f_X6_seek N) N2 (HH (ma A k g ch) (mz Z bo1 bl1) B Q P F q' D c) 39 q (nI i) (nI (moi tt i p)) (nI (mla tt i p)) (nI se) (nI kk) = some (HH (ma A k' g' ch') (mz Z bo' bl') B Q P F q' D c) ∧ (∀ x, x < wc → g' (W x) = nI (mlv tt (W x) i p)) ∧ (∀ r, r < i → ch' r = ch r) ∧ Bk tt (tt 1) o' k' bo' bl' ∧ BV (mcv tt (tt 1)) (VM tt Lf Mf (tt 1)) (fun w => ∃ d, d ≤ tt 3 ∧ mpr tt j w = p * mb tt + d) (100 * bo + bl) o (100 * bo' + bl') o' := by
          intro kk N2
          induction N2 generalizing kk with
          | zero => intro k g ch bo1 bl1 o1 h1 h2; omega
          | succ N2 ih2 =>
            intro k g ch bo1 bl1 o1 hkk hN2 hch1 hg1 hb1 hse0 hbv
            by_cases hend : kk = tt 3
            · subst hend
              refine ⟨k, g, ch, bo1, bl1, o1, ?_, hg1, fun _ _ => rfl, hb1, hbv⟩
              rw [f_X6_seek_106, hs_4 H, Option.bind_some, if_pos (Int32.le_refl _)]
            · have hk3 : kk < tt 3 := by omega
              have hd : kk + 1 < mb tt := by unfold mb; omega
              have ebr : mbr tt (kk + 1) = tt (248 + 2 * kk) := by unfold mbr; rw [if_neg (by omega), Nat.add_sub_cancel]
              have eol : mol tt (kk + 1) = tt (248 + 2 * kk + 1) := by unfold mol; rw [if_neg (by omega), Nat.add_sub_cancel]
              have hsum : ∀ r, mlv tt r (i + 1) (p * mb tt + (kk + 1)) = mlv tt r i p + GG tt (tt (248 + 2 * kk)) i r := fun r => by rw [mlv_c hd, ebr]
              have e47 : ∀ (k g ch f : Nat → Int32) (bo bl : Nat) x, x < wc → ldI (HH (upA (ma A k g ch) 44 f) (mz Z bo bl) B Q P F q' D c) .int 47 (nI ((kk * 8 + i) * 16 + W x)) = some (nI (GG tt (tt (248 + 2 * kk)) i (W x))) := fun k g ch f bo bl x hx => by
                have := hWl x hx
                have e := h47 kk i (W x) hk3 (by omega) (by omega)
                rw [ld_47 (by omega), ← e]
                rfl
              obtain ⟨g2, e2, k2⟩ := b1_add (A := ma A k g ch) (Z := mz Z bo1 bl1) (B := B) (Q := Q) (P := P) (F := F) (q := q') (D := D) (c := c) (S := fun r => mlv tt r i p) (X := GG tt (tt (248 + 2 * kk)) i) (Lf := Lf) (Mf := Mf) (W := W) (wc := wc) hB (fun x hx => hg1 x hx) (fun f x hx => e47 k g ch f bo1 bl1 x hx)
              rw [ma_44] at e2
              have k2' : ∀ x, x < wc → g2 (W x) = nI (mlv tt (W x) (i + 1) (p * mb tt + (kk + 1))) := fun x hx => by rw [hsum]; exact k2 x hx
              generalize hch2 : va_up ch i (nI kk) = ch2
              have hchc : ∀ r, r < i + 1 → ch2 r = kv (mdg tt (i + 1) (p * mb tt + (kk + 1)) r) := fun r hr => by
                rw [mdg_c hd, ← hch2]
                by_cases e : r = i
                · rw [e, y_vs, if_pos rfl, kv_s]
                · rw [y_vn e, if_neg e]; exact hch1 r (by omega)
              have e46 : ∀ k g ch, ma A k g ch 46 = ch := fun k g ch => by unfold ma; rw [y_us]
              have hback : ∀ (k3 g3 ch3 : Nat → Int32) (bo3 bl3 : Nat), (∀ x, x < wc → g3 (W x) = nI (mlv tt (W x) (i + 1) (p * mb tt + (kk + 1)))) → ∃ g4, f_X6_seek_205 (f_X6_seek N) (f_X6_seek_106 (f_X6_seek N) N2) (HH (ma A k3 g3 ch3) (mz Z bo3 bl3) B Q P F q' D c) 39 q (nI i) (nI (moi tt i p)) (nI (mla tt i p)) (nI se) (nI kk) = f_X6_seek_106 (f_X6_seek N) N2 (HH (ma A k3 g4 ch3) (mz Z bo3 bl3) B Q P F q' D c) 39 q (nI i) (nI (moi tt i p)) (nI (mla tt i p)) (nI se) (nI (kk + 1)) ∧ ∀ x, x < wc → g4 (W x) = nI (mlv tt (W x) i p) := by
                intro k3 g3 ch3 bo3 bl3 hg3
                obtain ⟨g4, e4, k4⟩ := b1_sub (A := ma A k3 g3 ch3) (Z := mz Z bo3 bl3) (B := B) (Q := Q) (P := P) (F := F) (q := q') (D := D) (c := c) (S := fun r => mlv tt r (i + 1) (p * mb tt + (kk + 1))) (X := GG tt (tt (248 + 2 * kk)) i) (Lf := Lf) (Mf := Mf) (W := W) (wc := wc) hB (fun x hx => hg3 x hx) (fun r => hmv r (i + 1) _ (by omega)) (fun f x hx => e47 k3 g3 ch3 f bo3 bl3 x hx) (fun r => by rw [hsum]; omega)
                rw [ma_44] at e4
                refine ⟨g4, ?_, fun x hx => ?_⟩
                · unfold f_X6_seek_205 f_X6_rowOf
                  rw [gf_39_5, Option.bind_some, gf_39_8, Option.bind_some, Option.bind_some, gO_41, Option.bind_some, show (8 : Int32) = nI 8 from rfl, show (16 : Int32) = nI 16 from rfl, pk_mul, nI_add, pk_mul, show (-1 : Int32) = nM from rfl, e4, Option.bind_some, nI_1]
                · rw [k4 x hx, hsum, Nat.add_sub_cancel]
              have estep : ∀ r13, f_X0_isBearable (HH (ma A k g2 ch2) (mz Z bo1 bl1) B Q P F q' D c) 41 = some r13 → f_X6_seek_106 (f_X6_seek N) (N2 + 1) (HH (ma A k g ch) (mz Z bo1 bl1) B Q P F q' D c) 39 q (nI i) (nI (moi tt i p)) (nI (mla tt i p)) (nI se) (nI kk) = (if r13 = 0 then (f_X6_seek_205 (f_X6_seek N) (f_X6_seek_106 (f_X6_seek N) N2) (HH (ma A k g2 ch2) (mz Z bo1 bl1) B Q P F q' D c) 39 q (nI i) (nI (moi tt i p)) (nI (mla tt i p)) (nI se) (nI kk)) else ((f_X0_enoughWith (HH (ma A k g2 ch2) (mz Z bo1 bl1) B Q P F q' D c) 41 48 (nI ((i + 1) * 16)) (nI se)).bind fun r18 => (if r18 = 0 then (f_X6_seek_205 (f_X6_seek N) (f_X6_seek_106 (f_X6_seek N) N2) (HH (ma A k g2 ch2) (mz Z bo1 bl1) B Q P F q' D c) 39 q (nI i) (nI (moi tt i p)) (nI (mla tt i p)) (nI se) (nI kk)) else ((f_X0_lacking (HH (ma A k g2 ch2) (mz Z bo1 bl1) B Q P F q' D c) 41).bind fun r24 => (f_X6_seek N (HH (ma A k g2 ch2) (mz Z bo1 bl1) B Q P F q' D c) 39 q (nI (i + 1)) (nI (moi tt i p) + nI (tt (248 + 2 * kk + 1))) (nI (mla tt i p) + 1) r24).bind fun r25 => f_X6_seek_205 (f_X6_seek N) (f_X6_seek_106 (f_X6_seek N) N2) r25 39 q (nI i) (nI (moi tt i p)) (nI (mla tt i p)) (nI se) (nI kk))))) := by
                intro r13 e13
                rw [f_X6_seek_106, hs_4 H, Option.bind_some, if_neg (by rw [y_le (by omega) (by omega)]; omega), if_neg (by rw [← nI_0, y_eq (by omega) (by omega)]; exact hse0), gf_39_5, Option.bind_some, gf_39_8, Option.bind_some]
                unfold f_X6_rowOf
                rw [Option.bind_some, gO_41, Option.bind_some, show (8 : Int32) = nI 8 from rfl, show (16 : Int32) = nI 16 from rfl, show (1 : Int32) = nI 1 from rfl, pk_mul, nI_add, pk_mul, e2, Option.bind_some, gf_39_7, Option.bind_some, st_46 (by omega), Option.bind_some, ma_46, e46, hch2, gf_39_5, Option.bind_some, gO_41, Option.bind_some, e13, Option.bind_some, Option.bind_some, gf_39_9, Option.bind_some, gO_41, Option.bind_some, nI_add, pk_mul, hs_gO H, Option.bind_some, c_oilK H hW hk3, Option.bind_some, Option.bind_some, gO_41, Option.bind_some]
              have hE : ∀ w, (∃ d, d ≤ kk + 1 ∧ mpr tt j w = p * mb tt + d) ↔ (∃ d, d ≤ kk ∧ mpr tt j w = p * mb tt + d) ∨ mpr tt j w = p * mb tt + (kk + 1) := fun w => by
                constructor
                · rintro ⟨d, h1, h2⟩
                  by_cases e : d = kk + 1
                  · rw [e] at h2; exact Or.inr h2
                  · exact Or.inl ⟨d, by omega, h2⟩
                · rintro (⟨d, h1, h2⟩ | h)
                  · exact ⟨d, by omega, h2⟩
                  · exact ⟨kk + 1, Nat.le_refl _, h⟩
              have hO : ∀ w1 w2, (∃ d, d ≤ kk ∧ mpr tt j w1 = p * mb tt + d) → mpr tt j w2 = p * mb tt + (kk + 1) → w1 ≤ w2 := fun w1 w2 ⟨d, h1, h2⟩ h3 => Em_ord h2 h3 (by omega)
              have hcont : ∀ (k3 g3 ch3 : Nat → Int32) (bo3 bl3 : Nat) (o3 : Option Nat), (∀ x, x < wc → g3 (W x) = nI (mlv tt (W x) (i + 1) (p * mb tt + (kk + 1)))) → (∀ r, r < i + 1 → ch3 r = ch2 r) → Bk tt (tt 1) o3 k3 bo3 bl3 → BV (mcv tt (tt 1)) (VM tt Lf Mf (tt 1)) (fun w => mpr tt j w = p * mb tt + (kk + 1)) (100 * bo1 + bl1) o1 (100 * bo3 + bl3) o3 → ∃ k' g' ch' bo' bl' o', f_X6_seek_205 (f_X6_seek N) (f_X6_seek_106 (f_X6_seek N) N2) (HH (ma A k3 g3 ch3) (mz Z bo3 bl3) B Q P F q' D c) 39 q (nI i) (nI (moi tt i p)) (nI (mla tt i p)) (nI se) (nI kk) = some (HH (ma A k' g' ch') (mz Z bo' bl') B Q P F q' D c) ∧ (∀ x, x < wc → g' (W x) = nI (mlv tt (W x) i p)) ∧ (∀ r, r < i → ch' r = ch r) ∧ Bk tt (tt 1) o' k' bo' bl' ∧ BV (mcv tt (tt 1)) (VM tt Lf Mf (tt 1)) (fun w => ∃ d, d ≤ tt 3 ∧ mpr tt j w = p * mb tt + d) (100 * bo + bl) o (100 * bo' + bl') o' := by
                intro k3 g3 ch3 bo3 bl3 o3 hg3 hc3 hb3 hbv3
                obtain ⟨g4, e4, k4⟩ := hback k3 g3 ch3 bo3 bl3 hg3
                have hc4 : ∀ r, r < i → ch3 r = ch r := fun r hr => by rw [hc3 r (by omega), ← hch2, y_vn (by omega)]
                obtain ⟨k5, g5, ch5, bo5, bl5, o5, e5, h51, h52, h53, h54⟩ := ih2 (kk + 1) k3 g4 ch3 bo3 bl3 o3 (by omega) (by omega) (fun r hr => by rw [hc4 r hr]; exact hch1 r hr) k4 hb3 hse0 (BV_seq hbv hbv3 hE hO)
                exact ⟨k5, g5, ch5, bo5, bl5, o5, by rw [e4]; exact e5, h51, fun r hr => by rw [h52 r hr, hc4 r hr], h53, h54⟩
              rcases b1_bear (A := ma A k g2 ch2) (Z := mz Z bo1 bl1) (B := B) (Q := Q) (P := P) (F := F) (q := q') (D := D) (c := c) (S := fun r => mlv tt r (i + 1) (p * mb tt + (kk + 1))) (Lf := Lf) (Mf := Mf) (W := W) (wc := wc) hB (fun x hx => k2' x hx) (fun r => hmv r (i + 1) _ (by omega)) with ⟨e5, h5⟩ | ⟨e5, x, hx, h5⟩
              · have hmM : ∀ r, r < 16 → mlv tt r (i + 1) (p * mb tt + (kk + 1)) ≤ Mf r := fun r hr => by
                  apply Classical.byContradiction
                  intro hc
                  by_cases hw : wat Lf Mf r
                  · obtain ⟨x, hx, e⟩ := hB.2.2.2.2.2.1 r hr hw
                    have := h5 x hx
                    try dsimp only at this
                    rw [e] at this
                    omega
                  · have h6 : ¬ Mf r < 99999 := fun h => hw (Or.inr h)
                    have h7 := mlv_top hW (r := r) (i := i + 1) (p := p * mb tt + (kk + 1)) (by omega)
                    omega
                rw [estep _ e5, if_neg (by decide)]
                rcases b1_enough (A := ma A k g2 ch2) (Z := mz Z bo1 bl1) (B := B) (Q := Q) (P := P) (F := F) (q := q') (D := D) (c := c) (S := fun r => mlv tt r (i + 1) (p * mb tt + (kk + 1))) (X := fun r => mtu tt (tt 1) r j) (Lf := Lf) (Mf := Mf) (W := W) (wc := wc) hB (fun x hx => k2' x hx) (fun r => hmv r (i + 1) _ (by omega)) (fun x hx => e48 k g2 ch2 bo1 bl1 x hx) hmt hsl with ⟨e6, h6⟩ | ⟨e6, x, hx, h6, h7⟩
                · have e8 := b1_lack (A := ma A k g2 ch2) (Z := mz Z bo1 bl1) (B := B) (Q := Q) (P := P) (F := F) (q := q') (D := D) (c := c) (S := fun r => mlv tt r (i + 1) (p * mb tt + (kk + 1))) (Lf := Lf) (Mf := Mf) (W := W) (wc := wc) hB (fun x hx => k2' x hx) (fun r => hmv r (i + 1) _ (by omega))
                  obtain ⟨k3, g3, ch3, bo3, bl3, o3, e9, h91, h92, h93, h94⟩ := ih (i + 1) N (p * mb tt + (kk + 1)) bo1 bl1 o1 k g2 ch2 (by omega) (by omega) hchc k2' hmM hb1
                  rw [moi_c hd, eol, mla_c hd, if_neg (by omega)] at e9
                  rw [e6, Option.bind_some, if_neg (by decide), e8, Option.bind_some, nI_add, nI_1, e9, Option.bind_some]
                  exact hcont k3 g3 ch3 bo3 bl3 o3 h91 h92 h93 h94
                · rw [e6, Option.bind_some, if_pos (by decide)]
                  exact hcont k g2 ch2 bo1 bl1 o1 k2' (fun _ _ => rfl) hb1 (BV_no (ms_up (by omega) ⟨W x, (hB.2.2.2.2.1 x hx).2.1, h7⟩))
              · rw [estep _ e5, if_pos (by decide)]
                exact hcont k g2 ch2 bo1 bl1 o1 k2' (fun _ _ => rfl) hb1 (BV_no (ms_bear (by omega) ⟨W x, (hB.2.2.2.2.1 x hx).2.1, h5⟩))
        have hc0 : ∀ r, mlv tt r (i + 1) (p * mb tt + 0) = mlv tt r i p := fun r => by rw [mlv_c mb_pos, show mbr tt 0 = 0 from rfl, GG_0, Nat.add_zero]
        have hmoi0 : moi tt (i + 1) (p * mb tt + 0) = moi tt i p := by rw [moi_c mb_pos]; rfl
        have hmla0 : mla tt (i + 1) (p * mb tt + 0) = mla tt i p := by rw [mla_c mb_pos]; rfl
        generalize hch0 : va_up ch i nM = ch0
        have e46 : ∀ k g ch, ma A k g ch 46 = ch := fun k g ch => by unfold ma; rw [y_us]
        have estart : f_X6_seek (N + 1) (HH (ma A k g ch) (mz Z bo bl) B Q P F q' D c) 39 q (nI i) (nI (moi tt i p)) (nI (mla tt i p)) (nI (lkF Lf (fun r => mlv tt r i p) W wc)) = ((f_X0_enoughWith (HH (ma A k g ch0) (mz Z bo bl) B Q P F q' D c) 41 48 (nI ((i + 1) * 16)) (nI se)).bind fun r15 => (if r15 = 0 then (f_X6_seek_106 (f_X6_seek N) xFU (HH (ma A k g ch0) (mz Z bo bl) B Q P F q' D c) 39 q (nI i) (nI (moi tt i p)) (nI (mla tt i p)) (nI se) (nI 0)) else ((f_X6_seek N (HH (ma A k g ch0) (mz Z bo bl) B Q P F q' D c) 39 q (nI (i + 1)) (nI (moi tt i p)) (nI (mla tt i p)) (nI (lkF Lf (fun r => mlv tt r i p) W wc))).bind fun r17 => f_X6_seek_106 (f_X6_seek N) xFU r17 39 q (nI i) (nI (moi tt i p)) (nI (mla tt i p)) (nI se) (nI 0)))) := by
          rw [f_X6_seek, if_neg (by rw [← nI_0, y_eq (by omega) (by omega)]; exact hl0), hs_1 H, Option.bind_some, if_neg (by rw [y_le (by omega) (by omega)]; omega), gf_39_6, Option.bind_some, gO_39, Option.bind_some, hz9, nI_add, nI_1, eb, Option.bind_some, if_neg (by decide), hs_14 H, Option.bind_some, hs_li H (by omega), Option.bind_some, gf_39_7, Option.bind_some, show (-1 : Int32) = nM from rfl, st_46 (by omega), Option.bind_some, ma_46, e46, hch0, gf_39_5, Option.bind_some, gf_39_9, Option.bind_some, gO_41, Option.bind_some, nI_1, show (16 : Int32) = nI 16 from rfl, pk_mul, fa_and, hse]
          rfl
        have hchc : ∀ r, r < i + 1 → ch0 r = kv (mdg tt (i + 1) (p * mb tt + 0) r) := fun r hr => by
          rw [mdg_c mb_pos, ← hch0]
          by_cases e : r = i
          · rw [e, y_vs, if_pos rfl]; rfl
          · rw [y_vn e, if_neg e]; exact hch r (by omega)
        have hfirst : ∃ k1 g1 ch1 bo1 bl1 o1, f_X6_seek (N + 1) (HH (ma A k g ch) (mz Z bo bl) B Q P F q' D c) 39 q (nI i) (nI (moi tt i p)) (nI (mla tt i p)) (nI (lkF Lf (fun r => mlv tt r i p) W wc)) = f_X6_seek_106 (f_X6_seek N) xFU (HH (ma A k1 g1 ch1) (mz Z bo1 bl1) B Q P F q' D c) 39 q (nI i) (nI (moi tt i p)) (nI (mla tt i p)) (nI se) (nI 0) ∧ (∀ x, x < wc → g1 (W x) = nI (mlv tt (W x) i p)) ∧ (∀ r, r < i → ch1 r = ch r) ∧ Bk tt (tt 1) o1 k1 bo1 bl1 ∧ BV (mcv tt (tt 1)) (VM tt Lf Mf (tt 1)) (fun w => mpr tt j w = p * mb tt + 0) (100 * bo + bl) o (100 * bo1 + bl1) o1 := by
          rcases b1_enough (A := ma A k g ch0) (Z := mz Z bo bl) (B := B) (Q := Q) (P := P) (F := F) (q := q') (D := D) (c := c) (S := fun r => mlv tt r i p) (X := fun r => mtu tt (tt 1) r j) (Lf := Lf) (Mf := Mf) (W := W) (wc := wc) hB (fun x hx => hg x hx) (fun r => hmv r i p (by omega)) (fun x hx => e48 k g ch0 bo bl x hx) hmt hsl with ⟨e6, h6⟩ | ⟨e6, x, hx, h6, h7⟩
          · obtain ⟨k3, g3, ch3, bo3, bl3, o3, e9, h91, h92, h93, h94⟩ := ih (i + 1) N (p * mb tt + 0) bo bl o k g ch0 (by omega) (by omega) hchc (fun x hx => by rw [hc0]; exact hg x hx) (fun r hr => by rw [hc0]; exact hm r hr) hb
            have efun : (fun r => mlv tt r (i + 1) (p * mb tt + 0)) = (fun r => mlv tt r i p) := funext hc0
            rw [hmoi0, hmla0, efun] at e9
            refine ⟨k3, g3, ch3, bo3, bl3, o3, ?_, fun x hx => by rw [← hc0]; exact h91 x hx, fun r hr => by rw [h92 r (by omega), ← hch0, y_vn (by omega)], h93, h94⟩
            rw [estart, e6, Option.bind_some, if_neg (by decide), e9, Option.bind_some]
          · refine ⟨k, g, ch0, bo, bl, o, ?_, hg, fun r hr => by rw [← hch0, y_vn (by omega)], hb, BV_no (ms_up (i := i + 1) (by omega) ⟨W x, (hB.2.2.2.2.1 x hx).2.1, by rw [hc0]; exact h7⟩)⟩
            rw [estart, e6, Option.bind_some, if_pos (by decide)]
        obtain ⟨k1, g1, ch1, bo1, bl1, o1, e1, q1, q2, q3, q4⟩ := hfirst
        by_cases hse0 : se = 0
        · refine ⟨k1, g1, ch1, bo1, bl1, o1, ?_, q1, q2, q3, ?_⟩
          · rw [e1]
            obtain ⟨m, hm2⟩ : ∃ m, xFU = m + 1 := ⟨999999, rfl⟩
            rw [hm2, f_X6_seek_106, hs_4 H, Option.bind_some]
            by_cases h3 : nI (tt 3) ≤ nI 0
            · rw [if_pos h3]
            · rw [if_neg h3, if_pos (by rw [hse0]; rfl)]
          · refine BV_dom (E2 := fun w => ∃ d, d ≠ 0 ∧ d < mb tt ∧ mpr tt j w = p * mb tt + d) q4 (fun w hw hv => ?_) (fun w => ?_)
            · obtain ⟨d, d1, d2, d3⟩ := hw
              exact ms_dom (i := i) d2 d1 (by omega) (fun r hr hk2 => by
                rw [hse0] at hse
                exact z_and hse ((hlb r).mpr ⟨hr, hk2⟩)) w d3 hv
            · rw [Em_split]
              constructor
              · rintro ⟨d, h1, h2⟩
                by_cases e : d = 0
                · rw [e] at h2; exact Or.inl h2
                · exact Or.inr ⟨d, e, h1, h2⟩
              · rintro (h | ⟨d, _, h1, h2⟩)
                · exact ⟨0, mb_pos, h⟩
                · exact ⟨d, h1, h2⟩
        · obtain ⟨k5, g5, ch5, bo5, bl5, o5, e5, r1, r2, r3, r4⟩ := hkinds 0 xFU k1 g1 ch1 bo1 bl1 o1 (by omega) (by unfold xFU; omega) (fun r hr => by rw [q2 r hr]; exact hch r hr) q1 q3 hse0 (BV_cong q4 (fun w => by
            constructor
            · rintro ⟨d, h1, h2⟩
              rw [show d = 0 by omega] at h2
              exact h2
            · intro h
              exact ⟨0, Nat.le_refl _, h⟩))
          refine ⟨k5, g5, ch5, bo5, bl5, o5, by rw [e1]; exact e5, r1, fun r hr => by rw [r2 r hr, q2 r hr], r3, BV_cong r4 (fun w => ?_)⟩
          rw [Em_split]
          constructor
          · rintro ⟨d, h1, h2⟩
            exact ⟨d, by unfold mb at h1; omega, h2⟩
          · rintro ⟨d, h1, h2⟩
            exact ⟨d, by unfold mb; omega, h2⟩
      · rw [if_neg hbt] at eb
        refine ⟨k, g, ch, bo, bl, o, ?_, hg, fun _ _ => rfl, hb, ms_more hn hlx (by omega)⟩
        rw [f_X6_seek, if_neg (by rw [← nI_0, y_eq (by omega) (by omega)]; exact hl0), hs_1 H, Option.bind_some, if_neg (by rw [y_le (by omega) (by omega)]; omega), gf_39_6, Option.bind_some, gO_39, Option.bind_some, hz9, nI_add, nI_1, eb, Option.bind_some, if_pos (by decide)]
end MSeek
