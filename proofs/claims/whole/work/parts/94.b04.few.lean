/-! ===== FEWEST of class and reference; lights, barred ===== -/
def Dual (n : Nat) (lit nx : Nat → Nat) : Prop := (∀ r x, r < n → x < n → (lit r).testBit x = (nx x).testBit r) ∧ ∀ x, x < n → nx x < 2 ^ n
theorem cnt_nx {n : Nat} {lit nx : Nat → Nat} (hd : Dual n lit nx) (hn : n ≤ 64) {S x : Nat} (hx : x < n) : cnt lit S x n = pc (nx x &&& S) := by
  rw [pc_eq hn (n_and_ltl (hd.2 x hx))]
  unfold cnt
  exact fb_ct_cong (fun k hk => by
    rw [Nat.testBit_and, hd.1 k x hk hx]
    exact Bool.and_comm _ _)
theorem all_bit (n x : Nat) : (2 ^ n - 1).testBit x = decide (x < n) := Nat.testBit_two_pow_sub_one n x
theorem Cov_lit {n : Nat} {lit nx : Nat → Nat} (hd : Dual n lit nx) (hn : n ≤ 63) {S : Nat} : Cov lit n (2 ^ n - 1) 0 S ↔ litB nx n S (2 ^ n - 1) = true := by
  unfold litB
  rw [allB_iff]
  have hz : ∀ x, x < n → (pc (nx x &&& S) = 0 ↔ nx x &&& S = 0) := fun x hx => pc_zero (Nat.lt_of_lt_of_le (n_and_ltl (hd.2 x hx)) (n_pwl (by omega)))
  constructor
  · intro h x hx
    have h1 := (h x).1 (by rw [all_bit]; exact decide_eq_true hx)
    rw [cnt_nx hd (by omega) hx] at h1
    rw [all_bit]
    have := hz x hx
    have h2 : nx x &&& S ≠ 0 := fun e => by rw [this.mpr e] at h1; omega
    simp [hx, h2]
  · intro h x
    refine ⟨fun hx => ?_, fun hx => by rw [Nat.zero_testBit] at hx; cases hx⟩
    rw [all_bit] at hx
    have hx := of_decide_eq_true hx
    have h1 := h x hx
    rw [all_bit] at h1
    rw [cnt_nx hd (by omega) hx]
    have := hz x hx
    by_cases e : nx x &&& S = 0
    · simp [hx, e] at h1
    · have : pc (nx x &&& S) ≠ 0 := fun h => e (this.mp h)
      omega
theorem Cov_twi {n : Nat} {lit nx : Nat → Nat} (hd : Dual n lit nx) (hn : n ≤ 63) {S : Nat} : Cov lit n 0 (2 ^ n - 1) S ↔ twiB nx n S = true := by
  unfold twiB
  rw [allB_iff]
  constructor
  · intro h x hx
    have h1 := (h x).2 (by rw [all_bit]; exact decide_eq_true hx)
    rw [cnt_nx hd (by omega) hx] at h1
    exact decide_eq_true h1
  · intro h x
    refine ⟨fun hx => (by rw [Nat.zero_testBit] at hx; cases hx), fun hx => ?_⟩
    rw [all_bit] at hx
    have hx := of_decide_eq_true hx
    rw [cnt_nx hd (by omega) hx]
    exact of_decide_eq_true (h x hx)
theorem Cov_msk {lit : Nat → Nat} {al n one two S : Nat} : Cov (msk lit al) n one two S ↔ Cov lit n one two (S &&& al) := by
  have e : ∀ x, cnt (msk lit al) S x n = cnt lit (S &&& al) x n := fun x => fb_ct_cong (fun k _ => by
    unfold msk
    rw [Nat.testBit_and]
    cases hb : al.testBit k
    · simp
    · simp)
  unfold Cov
  simp only [e]
theorem and_le (a b : Nat) : a &&& b ≤ a := Nat.and_le_left
theorem BestF_msk {lit : Nat → Nat} {al n one two : Nat} {o : Option Nat} (h : BestF (Cov (msk lit al) n one two) n o) : BestF (fun S => Cov lit n one two S ∧ sdf S al = 0) n o := by
  have hsub : ∀ T, sdf T al = 0 → T &&& al = T := fun T hT => n_ext (fun k => by
    rw [Nat.testBit_and]
    cases hk : T.testBit k
    · rfl
    · rw [sdf_0.mp hT k hk]; rfl)
  cases o with
  | none => exact fun T hT hc => h T hT (Cov_msk.mpr (by rw [hsub T hc.2]; exact hc.1))
  | some S =>
    obtain ⟨a1, a2, a3⟩ := h
    have hc := Cov_msk.mp a2
    have e : S &&& al = S := by
      have h1 := a3 (S &&& al) (n_and_ltl a1) (Cov_msk.mpr (by rw [Nat.and_assoc, Nat.and_self]; exact hc))
      have h2 : pc (S &&& al) ≤ pc S := pc_sub (fun i hi => by
        rw [Nat.testBit_and] at hi
        cases hs : S.testBit i
        · rw [hs] at hi; simp at hi
        · rfl)
      have h3 := and_le S al
      omega
    rw [e] at hc
    refine ⟨a1, ⟨hc, sdf_0.mpr (fun i hi => ?_)⟩, fun T hT hv => a3 T hT (Cov_msk.mpr (by rw [hsub T hv.2]; exact hv.1))⟩
    rw [← e, Nat.testBit_and] at hi
    cases hk : al.testBit i
    · rw [hk] at hi; simp at hi
    · rfl
theorem sdf_all {n S : Nat} (h : S < 2 ^ n) : sdf S (2 ^ n - 1) = 0 := sdf_0.mpr (fun i hi => by
  rw [all_bit]
  by_cases e : i < n
  · exact decide_eq_true e
  · rw [n_lt_bits h (by omega)] at hi; cases hi)
theorem dual_h (tt : Nat → Nat) (hW : HWf tt) : Dual (tt 1) (ltt tt) (nxt tt) := ⟨fun r x _ _ => (nxt_ltt tt x r).symm, fun x _ => nxt_lt hW x⟩
theorem few_all {n : Nat} {lit nx : Nat → Nat} (hd : Dual n lit nx) (hn : n ≤ 63) {o : Option Nat} (h : BestF (Cov (msk lit (2 ^ n - 1)) n (2 ^ n - 1) 0) n o) : BestF (fun S => litB nx n S (2 ^ n - 1) = true) n o := BestF_cong (fun T hT => by
  rw [← Cov_lit hd hn]
  exact ⟨fun h => h.1, fun h => ⟨h, sdf_all hT⟩⟩) (BestF_msk h)
section Few
variable {A : Nat → Nat → Int32} {Z : Nat → Int32} {B : Nat → Nat → Int64} {Q : Nat → Int64} {P : Nat → Option Nat} {F : Nat → Nat → Option Nat} {q : Nat} {D : List xC} {c : Nat × Nat} {K : Nat → Nat} {tt lk lh : Nat → Nat} {R i : Nat}
theorem c_allRooms (H : Hs K D q tt) (hW : HWf tt) {q' : Nat} : f_X3_allRooms (HH A Z B Q P F q' D c) q = some (nI (2 ^ tt 1 - 1)) := by
  have hro := hW.ro
  unfold f_X3_allRooms
  rw [hs_1 H, Option.bind_some, n_all1 (by omega)]
/-- a house's rows laid in Cover -/
theorem c_layH (H : Hs K D q tt) (hW : HWf tt) (hz : Zro A) {al : Nat} (hal : al < 65536) : ∃ A', f_X2_lay (HH A Z B Q P F q D c) 22 (nI (tt 1)) (q + 8) (nI al) = some (HH A' (upA Z 3 (nI (tt 1))) B Q P F q D c) ∧ Only [23, 24, 25, 26] A A' ∧ Laid A' (tt 1) (msk (ltt tt) al) ∧ Zro A' := by
  have hro := hW.ro
  obtain ⟨A', e1, h1, h2⟩ := c_lay8 (A := A) (Z := Z) (B := B) (Q := Q) (P := P) (F := F) (q := q) (D := D) (c := c) (a := q + 8) hro hal (ltt_lt16 hW) (fun A' Z' r hr => hs_li H (by omega)) hz.1 hz.2.1 hz.2.2.1
  refine ⟨A', e1, h1, h2, ?_⟩
  obtain ⟨u1, u2, u3⟩ := h2.2 0 (Nat.zero_le _)
  obtain ⟨v1, v2, v3, v4, v5, v6⟩ := hz
  refine ⟨u1, u2, u3, ?_, ?_, fun k hk => ?_⟩
  · rw [h1 36 (by decide)]; exact v4
  · rw [h1 55 (by decide)]; exact v5
  · rw [h1 35 (by decide)]; exact v6 k hk
theorem c_fewestOf (H : Hs K D q tt) (hW : HWf tt) (hz : Zro A) {al : Nat} (hal : al < 65536) : ∃ A' o, f_X11_fewestOf (HH A Z B Q P F q D c) 0 (nI al) = some (eo o, HH A' (upA Z 3 (nI (tt 1))) B Q P F q D c) ∧ Only [23, 24, 25, 26] A A' ∧ Laid A' (tt 1) (msk (ltt tt) al) ∧ Zro A' ∧ BestF (Cov (msk (ltt tt) al) (tt 1) (2 ^ tt 1 - 1) 0) (tt 1) o := by
  have hro := hW.ro
  have hpw := pw16 hro
  have hpp := Nat.two_pow_pos (tt 1)
  obtain ⟨A', e1, h1, h2, h3⟩ := c_layH (A := A) (Z := Z) (B := B) (Q := Q) (P := P) (F := F) (c := c) H hW hz hal
  obtain ⟨o, e2, h4⟩ := c_fewest (A := A') (Z := upA Z 3 (nI (tt 1))) (B := B) (Q := Q) (P := P) (F := F) (q := q) (D := D) (c := c) (one := 2 ^ tt 1 - 1) (two := 0) hro (msk_lt (ltt_lt16 hW) al) h2 rfl (by omega) (by omega) (Nat.and_zero _)
  refine ⟨A', o, ?_, h1, h2, h3, h4⟩
  unfold f_X11_fewestOf
  simp only [gf_0_12, y_bs, gf_0_4, hs_1 H, hs_14 H, gO_22, e1, hs_gO H, c_allRooms H hW, y_lit, e2]
theorem eo_lt {o : Option Nat} {n : Nat} {V : Nat → Prop} (hn : n ≤ 16) (h : BestF V n o) {S : Nat} (e : o = some S) : S < 65536 := by
  subst e
  exact Nat.lt_of_lt_of_le h.1 (pw16 hn)
theorem c_litBy (H : Hs K D q tt) (hW : HWf tt) {S : Nat} (hS : S < 65536) {q' : Nat} : f_X3_litBy (HH A Z B Q P F q' D c) q (nI S) = some (nI (orf (fun r => if S.testBit r then ltt tt r else 0) (tt 1))) := by
  have hro := hW.ro
  refine loop0 (F := fun n i (s : Int32) => f_X3_litBy_4 (HH A Z B Q P F q' D c) n q (nI S) s (nI i)) (N := tt 1) (st := fun i => nI (orf (fun r => if S.testBit r then ltt tt r else 0) i)) (fun n i hi => ?_) (fun n => ?_) (by omega)
  · rw [orf]
    cases hb : S.testBit i <;> simp (disch := omega) only [f_X3_litBy_4, if_true, if_false, Bool.false_eq_true, Bool.true_eq_false, y_lit, y_m1, nI_add, pk_mul, fa_and, fa_or, y_bs, if_pos, if_neg, y_shl, y_shr, y_le, y_lt, y_eq, y_sub, y_dv, y_rm, y_b0, y_b1, y_sdf, y_ltM, y_Mlt, y_leM, y_Mle, y_eqM, y_Meq, s_e1, s_e2, s_e3, s_e4, s_e5, s_e6, hs_1 H, hs_14 H, hs_li H, hb, Nat.or_zero]
  · simp (disch := omega) only [f_X3_litBy_4, if_true, if_false, Bool.false_eq_true, Bool.true_eq_false, y_lit, y_m1, nI_add, pk_mul, fa_and, fa_or, y_bs, if_pos, if_neg, y_shl, y_shr, y_le, y_lt, y_eq, y_sub, y_dv, y_rm, y_b0, y_b1, y_sdf, y_ltM, y_Mlt, y_leM, y_Mle, y_eqM, y_Meq, s_e1, s_e2, s_e3, s_e4, s_e5, s_e6, hs_1 H]
theorem litBy_bit (hW : HWf tt) {S x : Nat} (hS : S < 2 ^ tt 1) : (orf (fun r => if S.testBit r then ltt tt r else 0) (tt 1)).testBit x = true ↔ nxt tt x &&& S ≠ 0 := by
  rw [orf_bit]
  constructor
  · rintro ⟨r, hr, h⟩
    cases hb : S.testBit r
    · rw [hb] at h; simp at h
    · rw [hb] at h
      simp only [if_true] at h
      intro e
      have : (nxt tt x &&& S).testBit r = true := by rw [Nat.testBit_and, nxt_ltt, h, hb]; rfl
      rw [e, Nat.zero_testBit] at this
      cases this
  · intro h
    obtain ⟨r, hr⟩ := n_nz h
    rw [Nat.testBit_and] at hr
    have h1 : S.testBit r = true := by
      cases hb : S.testBit r
      · rw [hb] at hr; simp at hr
      · rfl
    rw [h1] at hr
    refine ⟨r, ?_, ?_⟩
    · by_cases e : r < tt 1
      · exact e
      · rw [n_lt_bits hS (by omega)] at h1; cases h1
    · rw [h1]
      simp only [if_true]
      rw [← nxt_ltt]
      simpa using hr
theorem set_of {x : Int32} (hW : HWf tt) : ((x &&& (nI (2 ^ tt 1 - 1) ^^^ (-1 : Int32)) = 0) ↔ rk x (2 ^ tt 1) = true) := by
  have hro := hW.ro
  have hpw := pw16 hro
  have hpp := Nat.two_pow_pos (tt 1)
  obtain ⟨m, hm, rfl⟩ := wb_of32 x
  rw [n_andn hm]
  have hlt : sdf m (2 ^ tt 1 - 1) < 2 ^ 32 := sdf_lt hm
  have e0 : (nI (sdf m (2 ^ tt 1 - 1)) = 0) ↔ sdf m (2 ^ tt 1 - 1) = 0 := by
    constructor
    · intro e
      have : (nI (sdf m (2 ^ tt 1 - 1))).toBitVec.toNat = (0 : Int32).toBitVec.toNat := by rw [e]
      rw [pk_tn hlt] at this
      exact this
    · intro e; rw [e]; rfl
  rw [e0, sdf_0]
  constructor
  · intro h
    have : m < 2 ^ tt 1 := n_bits_lt (fun k hk => by
      cases hb : m.testBit k
      · rfl
      · have := h k hb
        rw [all_bit] at this
        have := of_decide_eq_true this
        omega)
    exact rk_k this (by omega)
  · intro h i hi
    obtain ⟨k, hk, e⟩ := rk_t (by omega) h
    have : m = k := by
      have h1 : (nI m).toBitVec.toNat = (nI k).toBitVec.toNat := by rw [e]
      rw [pk_tn hm, pk_tn (by omega)] at h1
      exact h1
    subst this
    rw [all_bit]
    by_cases e2 : i < tt 1
    · exact decide_eq_true e2
    · rw [n_lt_bits hk (by omega)] at hi; cases hi
theorem c_checkSet (H : Hs K D q tt) (hW : HWf tt) (x : Int32) : f_X11_checkSet (HH A Z B Q P F q D c) 0 x = some (if rk x (2 ^ tt 1) = true then .inr () else .inl ("java/lang/IllegalArgumentException", HH A Z B Q P F q D (c.1 + 1, c.2 + 6))) := by
  unfold f_X11_checkSet
  rw [gf_0_4, Option.bind_some, hs_gO H, Option.bind_some, c_allRooms H hW, Option.bind_some]
  by_cases h : rk x (2 ^ tt 1) = true
  · rw [if_pos ((set_of hW).mpr h), if_pos h]
  · rw [if_neg (fun e => h ((set_of hW).mp e)), if_neg h, thr_HH]
theorem m_isSet (hT : Told (A 58) tt lk lh) (hW : HWf tt) (x : Int32) : f_X12_isSet (HH A Z B Q P F q D c) 57 x = some (if rk x (2 ^ tt 1) = true then nI 1 else nI 0) := by
  have hro := hW.ro
  have hpw := pw16 hro
  unfold f_X12_isSet
  rw [gO_57, Option.bind_some, m_all hT hW, Option.bind_some, rk_withinN _ _ (Nat.two_pow_pos _) (by omega), Option.bind_some]
  cases rk x (2 ^ tt 1) <;> rfl
theorem MEB_t {cl mo : xH → Option (Int32 × xH)} (hI : Inv K A Z B Q P F q D c tt lk lh R i) {Z' : Nat → Int32} {k : Nat} {b : Int32} (hk : ¬ nI k = 0) (e1 : cl (HH A Z B Q P F q D c) = some (nI k, HH A Z B Q P F q D (c.1 + 1, c.2 + 6))) (e2 : mo (HH A Z B Q P F q D (c.1 + 1, c.2 + 6)) = some (b, HH A Z' B Q P F q D (c.1 + 1, c.2 + 6))) (hZ : Only SZ Z Z') (h18 : Z' 18 = nI k) : MEBR cl mo (HH A Z B Q P F q D c) i :=
  ⟨nI k, _, b, _, e1, ⟨_, _, _, _, _, _, _, _, _, rfl⟩, e2, by rw [gf_57_4, h18], fun e => absurd e hk, JJ_q hI Only.rf hI.2.1.2.2.2 hZ Only.rf (Nat.le_add_right _ _) (Nat.add_le_add_left (by decide) _) (Nat.add_le_add_left (by decide) _)⟩
theorem oA63 (f : Nat → Int32) : Only SA A (upA A 63 f) := Only.rf.up (by decide)
end Few
theorem ok_lights : ∀ x0 x1, MEB (fun h => f_L_lights h 0 x0 x1 76) (fun h => f_X12_lights h 57 x0 x1) := by
  intro x y h i hJ hi
  obtain ⟨K, A, Z, B, Q, P, F, q, D, c, tt, lk, lh, R, rfl, hI⟩ := hJ
  have hz := hI.2.1.2.2.2
  obtain ⟨H, hW, hL, hT, hLm⟩ := hI.1
  have hro := hW.ro
  have hpw := pw16 hro
  cases hx : rk x (2 ^ tt 1)
  · refine MEB_t hI (k := 1) (b := nI 0) (by decide) ?_ ?_ (oZ18 (nI 1)) rfl
    · simp (disch := omega) only [f_L_lights, f_X11_lights, if_true, if_false, Bool.false_eq_true, Bool.true_eq_false, y_lit, y_m1, nI_add, pk_mul, fa_and, fa_or, y_bs, if_pos, if_neg, y_shl, y_shr, y_le, y_lt, y_eq, y_sub, y_dv, y_rm, y_b0, y_b1, y_sdf, y_ltM, y_Mlt, y_leM, y_Mle, y_eqM, y_Meq, s_e1, s_e2, s_e3, s_e4, s_e5, s_e6, gO_0, c_checkSet H hW, hx]
    · simp (disch := omega) only [f_X12_lights, f_X12_lights_21, f_X12_lights_22, if_true, if_false, Bool.false_eq_true, Bool.true_eq_false, y_lit, y_m1, nI_add, pk_mul, fa_and, fa_or, y_bs, if_pos, if_neg, y_shl, y_shr, y_le, y_lt, y_eq, y_sub, y_dv, y_rm, y_b0, y_b1, y_sdf, y_ltM, y_Mlt, y_leM, y_Mle, y_eqM, y_Meq, s_e1, s_e2, s_e3, s_e4, s_e5, s_e6, gO_57, m_isSet hT hW, hx, pf_57_4, gf_57_4, y_us, y_un, y_vs, y_vn, y_uu, y_vv, ne_eq, not_false_eq_true, not_true_eq_false]
  · obtain ⟨S, hS, rfl⟩ := rk_t (by omega) hx
    cases hy : rk y (2 ^ tt 1)
    · refine MEB_t hI (k := 1) (b := nI 0) (by decide) ?_ ?_ (oZ18 (nI 1)) rfl
      · simp (disch := omega) only [f_L_lights, f_X11_lights, if_true, if_false, Bool.false_eq_true, Bool.true_eq_false, y_lit, y_m1, nI_add, pk_mul, fa_and, fa_or, y_bs, if_pos, if_neg, y_shl, y_shr, y_le, y_lt, y_eq, y_sub, y_dv, y_rm, y_b0, y_b1, y_sdf, y_ltM, y_Mlt, y_leM, y_Mle, y_eqM, y_Meq, s_e1, s_e2, s_e3, s_e4, s_e5, s_e6, gO_0, c_checkSet H hW, hx, hy]
      · simp (disch := omega) only [f_X12_lights, f_X12_lights_21, f_X12_lights_22, if_true, if_false, Bool.false_eq_true, Bool.true_eq_false, y_lit, y_m1, nI_add, pk_mul, fa_and, fa_or, y_bs, if_pos, if_neg, y_shl, y_shr, y_le, y_lt, y_eq, y_sub, y_dv, y_rm, y_b0, y_b1, y_sdf, y_ltM, y_Mlt, y_leM, y_Mle, y_eqM, y_Meq, s_e1, s_e2, s_e3, s_e4, s_e5, s_e6, gO_57, m_isSet hT hW, hx, hy, pf_57_4, gf_57_4, y_us, y_un, y_vs, y_vn, y_uu, y_vv, ne_eq, not_false_eq_true, not_true_eq_false]
    · obtain ⟨o, ho, rfl⟩ := rk_t (by omega) hy
      have hl : sdf o (orf (fun r => if S.testBit r then ltt tt r else 0) (tt 1)) < 65536 := sdf_lt (k := 16) (by omega)
      have hiff : sdf o (orf (fun r => if S.testBit r then ltt tt r else 0) (tt 1)) = 0 ↔ litB (nxt tt) (tt 1) S o = true := by
        rw [sdf_0]
        unfold litB
        rw [allB_iff]
        constructor
        · intro h x hx
          cases hb : o.testBit x
          · rfl
          · have := (litBy_bit hW hS).mp (h x hb)
            simp [this]
        · intro h x hb
          have hx : x < tt 1 := by
            by_cases e : x < tt 1
            · exact e
            · rw [n_lt_bits ho (by omega)] at hb; cases hb
          have := h x hx
          rw [hb] at this
          exact (litBy_bit hW hS).mpr (by simpa using this)
      obtain ⟨f, e2, hf⟩ := m_layNexts (A := A) (Z := upA Z 18 (nI 0)) (B := oB B (if litB (nxt tt) (tt 1) S o then 1 else 0)) (Q := Q) (P := P) (F := F) (q := q) (D := D) (c := c) hT hW
      have e3 := m_isLit (A := upA A 63 f) (Z := upA Z 18 (nI 0)) (B := oB B (if litB (nxt tt) (tt 1) S o then 1 else 0)) (Q := Q) (P := P) (F := F) (q := q) (D := D) (c := c) hT hW hf (nxt_lt16 hW) (S := S) (o := o) (by omega) (by omega)
      refine ⟨nI 0, HH A Z (oB B (if litB (nxt tt) (tt 1) S o then 1 else 0)) Q P F q D c, nI (if litB (nxt tt) (tt 1) S o then 1 else 0), HH (upA A 63 f) (upA Z 18 (nI 0)) (oB B (if litB (nxt tt) (tt 1) S o then 1 else 0)) Q P F q D c, ?_, ⟨_, _, _, _, _, _, _, _, _, rfl⟩, ?_, gf_57_4, fun _ => ?_, JJ_q hI (oA63 f) hz (oZ18 _) (oB_o _) (Nat.le_refl _) (Nat.le_add_right _ _) (Nat.le_add_right _ _)⟩
      · show f_L_lights (HH A Z B Q P F q D c) 0 (nI S) (nI o) 76 = _
        cases hb : litB (nxt tt) (tt 1) S o
        · have h0 : sdf o (orf (fun r => if S.testBit r then ltt tt r else 0) (tt 1)) ≠ 0 := fun e => by rw [hiff.mp e] at hb; cases hb
          simp (disch := omega) only [f_L_lights, f_X11_lights, if_true, if_false, Bool.false_eq_true, Bool.true_eq_false, y_lit, y_m1, nI_add, pk_mul, fa_and, fa_or, y_bs, if_pos, if_neg, y_shl, y_shr, y_le, y_lt, y_eq, y_sub, y_dv, y_rm, y_b0, y_b1, y_sdf, y_ltM, y_Mlt, y_leM, y_Mle, y_eqM, y_Meq, s_e1, s_e2, s_e3, s_e4, s_e5, s_e6, gO_0, c_checkSet H hW, hx, hy, gf_0_4, hs_gO H, c_litBy H hW, h0, f_L_lights_16, oB_st]
        · have h0 := hiff.mpr hb
          simp (disch := omega) only [f_L_lights, f_X11_lights, if_true, if_false, Bool.false_eq_true, Bool.true_eq_false, y_lit, y_m1, nI_add, pk_mul, fa_and, fa_or, y_bs, if_pos, if_neg, y_shl, y_shr, y_le, y_lt, y_eq, y_sub, y_dv, y_rm, y_b0, y_b1, y_sdf, y_ltM, y_Mlt, y_leM, y_Mle, y_eqM, y_Meq, s_e1, s_e2, s_e3, s_e4, s_e5, s_e6, gO_0, c_checkSet H hW, hx, hy, gf_0_4, hs_gO H, c_litBy H hW, h0, f_L_lights_16, oB_st]
      · show f_X12_lights (HH A Z (oB B (if litB (nxt tt) (tt 1) S o then 1 else 0)) Q P F q D c) 57 (nI S) (nI o) = _
        simp (disch := omega) only [f_X12_lights, f_X12_lights_22, if_true, if_false, Bool.false_eq_true, Bool.true_eq_false, y_lit, y_m1, nI_add, pk_mul, fa_and, fa_or, y_bs, if_pos, if_neg, y_shl, y_shr, y_le, y_lt, y_eq, y_sub, y_dv, y_rm, y_b0, y_b1, y_sdf, y_ltM, y_Mlt, y_leM, y_Mle, y_eqM, y_Meq, s_e1, s_e2, s_e3, s_e4, s_e5, s_e6, gO_57, m_isSet hT hW, hx, hy, pf_57_4, gf_57_4, y_us, y_un, y_vs, y_vn, y_uu, y_vv, ne_eq, not_false_eq_true, not_true_eq_false, e2, e3]
        cases litB (nxt tt) (tt 1) S o <;> rfl
      · rw [← nI_0, oB_ld]
        cases litB (nxt tt) (tt 1) S o <;> rfl
