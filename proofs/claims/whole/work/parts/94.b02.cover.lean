/-! ===== Cover: lay, seek, fewest, suffice ===== -/
def eo (o : Option Nat) : Int32 := match o with
  | none => nM
  | some s => nI s
section Cover
variable {A : Nat → Nat → Int32} {Z : Nat → Int32} {B : Nat → Nat → Int64} {Q : Nat → Int64} {P : Nat → Option Nat} {F : Nat → Nat → Option Nat} {q : Nat} {D : List xC} {c : Nat × Nat} {K : Nat → Nat} {tt lk lh : Nat → Nat} {R i : Nat}
/-- the rows of Cover laid for g -/
def Laid (A : Nat → Nat → Int32) (n : Nat) (g : Nat → Nat) : Prop := (∀ r, r < n → A 23 r = nI (g r)) ∧ ∀ r, r ≤ n → A 24 r = nI (orf g r) ∧ A 25 r = nI (twc g r) ∧ A 26 r = nI (wid g r)
theorem orf_lt16 {g : Nat → Nat} (hg : ∀ r, g r < 65536) (i : Nat) : orf g i < 65536 := orf_lt (k := 16) (fun r _ => hg r)
theorem twc_lt16 {g : Nat → Nat} (hg : ∀ r, g r < 65536) : ∀ i, twc g i < 65536
  | 0 => Nat.zero_lt_succ _
  | i + 1 => n_or_lt (k := 16) (twc_lt16 hg i) (n_and_ltr (k := 16) (hg i))
theorem wid_le {g : Nat → Nat} (hg : ∀ r, g r < 65536) : ∀ i, wid g i ≤ 16
  | 0 => Nat.zero_le _
  | i + 1 => Nat.max_le.mpr ⟨wid_le hg i, pc_le_n (by decide) (hg i)⟩
theorem y_max (a b : Nat) : (if a < b then nI b else nI a) = nI (max a b) := by
  by_cases h : a < b
  · rw [if_pos h, Nat.max_eq_right (by omega)]
  · rw [if_neg h, Nat.max_eq_left (by omega)]
def msk (lit : Nat → Nat) (al : Nat) (r : Nat) : Nat := if al.testBit r then lit r else 0
theorem msk_lt {lit : Nat → Nat} (h : ∀ r, lit r < 65536) (al r : Nat) : msk lit al r < 65536 := by
  unfold msk
  split
  · exact h r
  · decide
theorem c_lay8 {n al a : Nat} {lit : Nat → Nat} (hn : n ≤ 16) (hal : al < 65536) (hlit : ∀ r, lit r < 65536) (hld : ∀ A' Z' r, r < n → ldI (HH A' Z' B Q P F q D c) .int a (nI r) = some (nI (lit r))) (z1 : A 24 0 = 0) (z2 : A 25 0 = 0) (z3 : A 26 0 = 0) : ∃ A', f_X2_lay (HH A Z B Q P F q D c) 22 (nI n) a (nI al) = some (HH A' (upA Z 3 (nI n)) B Q P F q D c) ∧ Only [23, 24, 25, 26] A A' ∧ Laid A' n (msk lit al) := by
  have hm := msk_lt hlit al
  unfold f_X2_lay
  rw [pf_22_0, Option.bind_some]
  have key := loop_J (F := fun m i (s : xH) => f_X2_lay_8 m s 22 (nI n) a (nI al) (nI i)) (N := n) some (fun i s => ∃ A', s = HH A' (upA Z 3 (nI n)) B Q P F q D c ∧ Only [23, 24, 25, 26] A A' ∧ Laid A' i (msk lit al)) (fun m i s hi hs => ?_) (fun m s hs => ?_) (by omega) (s := HH A (upA Z 3 (nI n)) B Q P F q D c) ⟨A, rfl, Only.rf, fun r hr => by omega, fun r hr => by
    have : r = 0 := by omega
    subst this
    exact ⟨z1, z2, z3⟩⟩
  · obtain ⟨s, e1, A', e2, h1, h2⟩ := key
    exact ⟨A', by rw [← e2]; exact e1, h1, h2⟩
  · obtain ⟨A', rfl, h1, h2, h3⟩ := hs
    obtain ⟨u1, u2, u3⟩ := h3 i (Nat.le_refl _)
    have l1 := orf_lt16 hm i
    have l2 := twc_lt16 hm i
    have l3 := wid_le hm i
    have l4 := hm i
    have l5 : pc (msk lit al i) ≤ 16 := pc_le_n (by decide) l4
    refine ⟨HH (upA (upA (upA (upA A' 23 (va_up (A' 23) i (nI (msk lit al i)))) 25 (va_up (A' 25) (i + 1) (nI (twc (msk lit al) (i + 1))))) 24 (va_up (A' 24) (i + 1) (nI (orf (msk lit al) (i + 1))))) 26 (va_up (A' 26) (i + 1) (nI (wid (msk lit al) (i + 1))))) (upA Z 3 (nI n)) B Q P F q D c, ?_, _, rfl, (((h1.up (by decide)).up (by decide)).up (by decide)).up (by decide), fun r hr => ?_, fun r hr => ?_⟩
    · have em : msk lit al i = if al.testBit i then lit i else 0 := rfl
      have e1 : twc (msk lit al) (i + 1) = twc (msk lit al) i ||| (orf (msk lit al) i &&& msk lit al i) := rfl
      have e2 : orf (msk lit al) (i + 1) = orf (msk lit al) i ||| msk lit al i := rfl
      have e3 : wid (msk lit al) (i + 1) = max (wid (msk lit al) i) (pc (msk lit al i)) := rfl
      rw [e1, e2, e3]
      have hl := hld A' (upA Z 3 (nI n)) i hi
      cases hb : al.testBit i
      · rw [hb] at em
        simp only [Bool.false_eq_true, if_false] at em
        rw [em] at l5 ⊢
        simp (disch := omega) only [f_X2_lay_8, f_X2_lay_31, if_true, if_false, Bool.false_eq_true, Bool.true_eq_false, y_lit, y_m1, nI_add, pk_mul, fa_and, fa_or, y_bs, if_pos, if_neg, y_shl, y_shr, y_le, y_lt, y_eq, y_sub, y_dv, y_rm, y_b0, y_b1, y_sdf, y_ltM, y_Mlt, y_leM, y_Mle, y_eqM, y_Meq, s_e1, s_e2, s_e3, s_e4, s_e5, s_e6, hb, gf_22_1, gf_22_2, gf_22_3, gf_22_4, st_23, st_24, st_25, st_26, ld_24, ld_25, ld_26, y_us, y_un, y_vs, y_vn, y_uu, y_vv, ne_eq, not_false_eq_true, not_true_eq_false, u1, u2, u3, bitCount_spec, y_max]
      · rw [hb] at em
        simp only [if_true] at em
        rw [em] at l4 l5 ⊢
        simp (disch := omega) only [f_X2_lay_8, f_X2_lay_31, if_true, if_false, Bool.false_eq_true, Bool.true_eq_false, y_lit, y_m1, nI_add, pk_mul, fa_and, fa_or, y_bs, if_pos, if_neg, y_shl, y_shr, y_le, y_lt, y_eq, y_sub, y_dv, y_rm, y_b0, y_b1, y_sdf, y_ltM, y_Mlt, y_leM, y_Mle, y_eqM, y_Meq, s_e1, s_e2, s_e3, s_e4, s_e5, s_e6, hb, hl, gf_22_1, gf_22_2, gf_22_3, gf_22_4, st_23, st_24, st_25, st_26, ld_24, ld_25, ld_26, y_us, y_un, y_vs, y_vn, y_uu, y_vv, ne_eq, not_false_eq_true, not_true_eq_false, u1, u2, u3, bitCount_spec, y_max]
    · show va_up (A' 23) i (nI (msk lit al i)) r = _
      by_cases e : r = i
      · subst e; rw [y_vs]
      · rw [y_vn e]
        exact h2 r (by omega)
    · show va_up (A' 24) (i + 1) _ r = _ ∧ va_up (A' 25) (i + 1) _ r = _ ∧ va_up (A' 26) (i + 1) _ r = _
      by_cases e : r = i + 1
      · subst e; rw [y_vs, y_vs, y_vs]; exact ⟨rfl, rfl, rfl⟩
      · rw [y_vn e, y_vn e, y_vn e]
        exact h3 r (by omega)
  · obtain ⟨A', rfl, h1, h2⟩ := hs
    simp (disch := omega) only [f_X2_lay_8, if_true, if_false, Bool.false_eq_true, Bool.true_eq_false, y_lit, y_m1, nI_add, pk_mul, fa_and, fa_or, y_bs, if_pos, if_neg, y_shl, y_shr, y_le, y_lt, y_eq, y_sub, y_dv, y_rm, y_b0, y_b1, y_sdf, y_ltM, y_Mlt, y_leM, y_Mle, y_eqM, y_Meq, s_e1, s_e2, s_e3, s_e4, s_e5, s_e6]
theorem sk_lt {g : Nat → Nat} {i one two left S : Nat} (hi : i ≤ 64) (h1 : one < 2 ^ 64) (h2 : two < 2 ^ 64) (hd : one &&& two = 0) (h : sk g i one two left = some S) : S < 2 ^ i := by
  have := sk_ok (g := g) i one two left hi h1 h2 hd
  rw [h] at this
  exact this.1
theorem c_seek_eq {n : Nat} {g : Nat → Nat} (hn : n ≤ 16) (hg : ∀ r, g r < 65536) (hl : Laid A n g) {i one two left m : Nat} (hi : i + 1 ≤ n) (h1 : one < 65536) (h2 : two < 65536) (hleft : left ≤ 16) : f_X2_seek (HH A Z B Q P F q D c) (m + 1) 22 (nI (i + 1)) (nI one) (nI two) (nI left) = if one ||| two = 0 then some (nI 0) else if sdf (one ||| two) (orf g (i + 1)) = 0 then (if sdf two (twc g (i + 1)) = 0 then (if pc one + 2 * pc two ≤ left * wid g (i + 1) then ((f_X2_seek (HH A Z B Q P F q D c) m 22 (nI i) (nI one) (nI two) (nI left)).bind fun r14 => if r14 = nM then (if g i &&& (one ||| two) = 0 then some r14 else (f_X2_seek (HH A Z B Q P F q D c) m 22 (nI i) (nI (sdf one (g i) ||| (two &&& g i))) (nI (sdf two (g i))) (nI left - nI 1)).bind fun r19 => if r19 = nM then some nM else some (r19 ||| nI (2 ^ i))) else some r14) else some nM) else some nM) else some nM := by
  have ho := n_or_lt (k := 16) h1 h2
  obtain ⟨u1, u2, u3⟩ := hl.2 (i + 1) hi
  have u0 := hl.1 i (by omega)
  have l0 := hg i
  have l1 : sdf (one ||| two) (orf g (i + 1)) < 65536 := sdf_lt (k := 16) ho
  have l2 : sdf two (twc g (i + 1)) < 65536 := sdf_lt (k := 16) h2
  have l3 := wid_le hg (i + 1)
  have p1 : pc one ≤ 16 := pc_le_n (by decide) h1
  have p2 : pc two ≤ 16 := pc_le_n (by decide) h2
  have l4 : left * wid g (i + 1) ≤ 16 * 16 := Nat.mul_le_mul hleft l3
  have l5 : g i &&& (one ||| two) < 65536 := n_and_ltl (k := 16) (hg i)
  have e0 : nI (i + 1) - nI 1 = nI i := n_sub1 i
  have ez : (nI (i + 1) ≤ nI 0) = False := by rw [y_le (by omega) (by omega)]; exact eq_false (by omega)
  have em : (-1 : Int32) = nM := rfl
  rw [f_X2_seek, fa_or]
  by_cases h : one ||| two = 0
  · rw [if_pos (by rw [h]; exact nI_0), if_pos h]
    rfl
  · rw [if_neg (by rw [n_z (by omega)]; exact h), if_neg h, if_neg (by rw [← nI_0, ez]; exact id), gf_22_2, Option.bind_some, ld_24 (by omega), Option.bind_some, u1, em, y_sdf (by omega)]
    by_cases hp1 : sdf (one ||| two) (orf g (i + 1)) = 0
    · rw [if_pos (by rw [hp1]; exact nI_0), if_pos hp1, gf_22_3, Option.bind_some, ld_25 (by omega), Option.bind_some, u2, y_sdf (by omega)]
      by_cases hp2 : sdf two (twc g (i + 1)) = 0
      · rw [if_pos (by rw [hp2]; exact nI_0), if_pos hp2, bitCount_spec _ (by omega), Option.bind_some, bitCount_spec _ (by omega), Option.bind_some, gf_22_4, Option.bind_some, ld_26 (by omega), Option.bind_some, u3, show (2 : Int32) = nI 2 from rfl, pk_mul, nI_add, pk_mul]
        by_cases hp3 : pc one + 2 * pc two ≤ left * wid g (i + 1)
        · rw [if_pos (by rw [y_le (by omega) (by omega)]; exact hp3), if_pos hp3, show (1 : Int32) = nI 1 from rfl, e0]
          refine congrArg (Option.bind _) (funext fun r14 => ?_)
          rw [gf_22_1, Option.bind_some, ld_23 (by omega), Option.bind_some, u0, y_sdf (by omega), y_sdf (by omega), fa_and, fa_and, fa_or]
          by_cases hr : r14 = nM
          · rw [if_pos hr, if_pos hr]
            by_cases hgz : g i &&& (one ||| two) = 0
            · rw [if_pos (by rw [hgz]; exact nI_0), if_pos hgz]
            · rw [if_neg (by rw [n_z (by omega)]; exact hgz), if_neg hgz, show (31 : Int32) = nI 31 from rfl, fa_and, y_shl (by omega)]
          · rw [if_neg hr, if_neg hr]
        · rw [if_neg (by rw [y_le (by omega) (by omega)]; exact hp3), if_neg hp3]
      · rw [if_neg (by rw [n_z (by omega)]; exact hp2), if_neg hp2]
    · rw [if_neg (by rw [n_z (by omega)]; exact hp1), if_neg hp1]
theorem c_seek {n : Nat} {g : Nat → Nat} (hn : n ≤ 16) (hg : ∀ r, g r < 65536) (hl : Laid A n g) : ∀ (i one two left m : Nat), i ≤ n → i < m → one < 65536 → two < 65536 → one &&& two = 0 → left ≤ 16 → f_X2_seek (HH A Z B Q P F q D c) m 22 (nI i) (nI one) (nI two) (nI left) = some (eo (sk g i one two left))
  | 0, one, two, left, m, hi, hm, h1, h2, hd, hleft => by
    obtain ⟨m, rfl⟩ : ∃ k, m = k + 1 := ⟨m - 1, by omega⟩
    have ho := n_or_lt (k := 16) h1 h2
    rw [sk]
    by_cases h : one ||| two = 0
    · rw [if_pos h]
      simp (disch := omega) only [f_X2_seek, if_true, if_false, Bool.false_eq_true, Bool.true_eq_false, y_lit, y_m1, nI_add, pk_mul, fa_and, fa_or, y_bs, if_pos, if_neg, y_shl, y_shr, y_le, y_lt, y_eq, y_sub, y_dv, y_rm, y_b0, y_b1, y_sdf, y_ltM, y_Mlt, y_leM, y_Mle, y_eqM, y_Meq, s_e1, s_e2, s_e3, s_e4, s_e5, s_e6, h, eo]
    · rw [if_neg h]
      simp (disch := omega) only [f_X2_seek, if_true, if_false, Bool.false_eq_true, Bool.true_eq_false, y_lit, y_m1, nI_add, pk_mul, fa_and, fa_or, y_bs, if_pos, if_neg, y_shl, y_shr, y_le, y_lt, y_eq, y_sub, y_dv, y_rm, y_b0, y_b1, y_sdf, y_ltM, y_Mlt, y_leM, y_Mle, y_eqM, y_Meq, s_e1, s_e2, s_e3, s_e4, s_e5, s_e6, h, eo]
  | i + 1, one, two, left, m, hi, hm, h1, h2, hd, hleft => by
    obtain ⟨m, rfl⟩ : ∃ k, m = k + 1 := ⟨m - 1, by omega⟩
    have o1 : sdf one (g i) ||| (two &&& g i) < 65536 := n_or_lt (k := 16) (sdf_lt (k := 16) h1) (n_and_ltl (k := 16) h2)
    have o2 : sdf two (g i) < 65536 := sdf_lt (k := 16) h2
    have ih1 := c_seek hn hg hl i one two left m (by omega) (by omega) h1 h2 hd hleft
    have hS2 : 2 ^ i ≤ 2 ^ 16 := n_pwl (by omega)
    rw [c_seek_eq hn hg hl hi h1 h2 hleft, sk]
    by_cases h : one ||| two = 0
    · rw [if_pos h, if_pos h]
      rfl
    · rw [if_neg h, if_neg h]
      by_cases hp1 : sdf (one ||| two) (orf g (i + 1)) = 0
      · by_cases hp2 : sdf two (twc g (i + 1)) = 0
        · by_cases hp3 : pc one + 2 * pc two ≤ left * wid g (i + 1)
          · rw [if_pos hp1, if_pos hp2, if_pos hp3, if_pos ⟨hp1, hp2, hp3⟩]
            have hleft0 : 0 < left := by
              rcases Nat.eq_zero_or_pos left with e | e
              · exfalso
                rw [e, Nat.zero_mul] at hp3
                have q1 : pc one = 0 := by omega
                have q2 : pc two = 0 := by omega
                rw [pc_zero (by omega)] at q1
                rw [pc_zero (by omega)] at q2
                exact h (by rw [q1, q2]; rfl)
              · exact e
            have ih2 := c_seek hn hg hl i (sdf one (g i) ||| (two &&& g i)) (sdf two (g i)) (left - 1) m (by omega) (by omega) o1 o2 (dis_hi hd) (by omega)
            rw [ih1, Option.bind_some, y_sub hleft0, ih2]
            cases hs : sk g i one two left with
            | some S =>
              have hS := sk_lt (by omega) (by omega) (by omega) hd hs
              rw [if_neg (by show ¬ nI S = nM; rw [y_eqM (by omega)]; exact id)]
            | none =>
              rw [if_pos (show eo none = nM from rfl), Option.bind_some]
              by_cases hgz : g i &&& (one ||| two) = 0
              · rw [if_pos hgz]
                simp only [if_pos hgz]
              · rw [if_neg hgz]
                simp only [if_neg hgz]
                cases hs2 : sk g i (sdf one (g i) ||| (two &&& g i)) (sdf two (g i)) (left - 1) with
                | none =>
                  rw [if_pos (show eo none = nM from rfl)]
                  rfl
                | some S =>
                  have hS := sk_lt (by omega) (by omega) (by omega) (dis_hi hd) hs2
                  rw [if_neg (by show ¬ nI S = nM; rw [y_eqM (by omega)]; exact id)]
                  show some (nI S ||| nI (2 ^ i)) = some (nI (S ||| 2 ^ i))
                  rw [fa_or]
          · rw [if_pos hp1, if_pos hp2, if_neg hp3, if_neg (fun hh => hp3 hh.2.2)]
            rfl
        · rw [if_pos hp1, if_neg hp2, if_neg (fun hh => hp2 hh.2.1)]
          rfl
      · rw [if_neg hp1, if_neg (fun hh => hp1 hh.1)]
        rfl
theorem c_fewest {n one two : Nat} {g : Nat → Nat} (hn : n ≤ 16) (hg : ∀ r, g r < 65536) (hl : Laid A n g) (h3 : Z 3 = nI n) (h1 : one < 65536) (h2 : two < 65536) (hd : one &&& two = 0) : ∃ o, f_X2_fewest (HH A Z B Q P F q D c) 22 (nI one) (nI two) = some (eo o) ∧ BestF (Cov g n one two) n o := by
  have ho := n_or_lt (k := 16) h1 h2
  obtain ⟨u1, u2, u3⟩ := hl.2 n (Nat.le_refl _)
  have l1 : sdf (one ||| two) (orf g n) < 65536 := sdf_lt (k := 16) ho
  have l2 : sdf two (twc g n) < 65536 := sdf_lt (k := 16) h2
  have hno : ∀ T, T < 2 ^ n → Cov g n one two T → sdf (one ||| two) (orf g n) = 0 ∧ sdf two (twc g n) = 0 := fun T _ hc => ⟨sdf_0.mpr (fun x hx => by
    rw [Nat.testBit_or] at hx
    cases ho : one.testBit x
    · rw [ho] at hx
      exact cnt_once _ (Nat.le_trans (by decide) ((hc x).2 (by simpa using hx)))
    · exact cnt_once _ ((hc x).1 ho)), sdf_0.mpr (fun x hx => cnt_twice _ ((hc x).2 hx))⟩
  unfold f_X2_fewest
  by_cases hp1 : sdf (one ||| two) (orf g n) = 0
  · by_cases hp2 : sdf two (twc g n) = 0
    · have hloop : ∀ (k m f : Nat), m + k = n + 1 → k < f → f_X2_fewest_38 (HH A Z B Q P F q D c) f 22 (nI one) (nI two) (nI m) = some (eo (fwl g n one two k m)) := by
        intro k
        induction k with
        | zero =>
          intro m f hm hf
          obtain ⟨f, rfl⟩ : ∃ k, f = k + 1 := ⟨f - 1, by omega⟩
          simp (disch := omega) only [f_X2_fewest_38, if_true, if_false, Bool.false_eq_true, Bool.true_eq_false, y_lit, y_m1, nI_add, pk_mul, fa_and, fa_or, y_bs, if_pos, if_neg, y_shl, y_shr, y_le, y_lt, y_eq, y_sub, y_dv, y_rm, y_b0, y_b1, y_sdf, y_ltM, y_Mlt, y_leM, y_Mle, y_eqM, y_Meq, s_e1, s_e2, s_e3, s_e4, s_e5, s_e6, gf_22_0, h3, fwl, eo]
        | succ k ih =>
          intro m f hm hf
          obtain ⟨f, rfl⟩ : ∃ k, f = k + 1 := ⟨f - 1, by omega⟩
          have es := c_seek (A := A) (Z := Z) (B := B) (Q := Q) (P := P) (F := F) (q := q) (D := D) (c := c) hn hg hl n one two m 40 (Nat.le_refl _) (by omega) h1 h2 hd (by omega)
          rw [fwl]
          cases hs : sk g n one two m with
          | some S =>
            have hS := sk_lt (by omega) (by omega) (by omega) hd hs
            have hS2 : 2 ^ n ≤ 2 ^ 16 := n_pwl (by omega)
            rw [hs] at es
            simp only [eo] at es ⊢
            simp (disch := omega) only [f_X2_fewest_38, if_true, if_false, Bool.false_eq_true, Bool.true_eq_false, y_lit, y_m1, nI_add, pk_mul, fa_and, fa_or, y_bs, if_pos, if_neg, y_shl, y_shr, y_le, y_lt, y_eq, y_sub, y_dv, y_rm, y_b0, y_b1, y_sdf, y_ltM, y_Mlt, y_leM, y_Mle, y_eqM, y_Meq, s_e1, s_e2, s_e3, s_e4, s_e5, s_e6, gf_22_0, h3, es]
          | none =>
            rw [hs] at es
            simp only [eo] at es
            have e2 := ih (m + 1) f (by omega) (by omega)
            simp only [eo] at e2 ⊢
            simp (disch := omega) only [f_X2_fewest_38, if_true, if_false, Bool.false_eq_true, Bool.true_eq_false, y_lit, y_m1, nI_add, pk_mul, fa_and, fa_or, y_bs, if_pos, if_neg, y_shl, y_shr, y_le, y_lt, y_eq, y_sub, y_dv, y_rm, y_b0, y_b1, y_sdf, y_ltM, y_Mlt, y_leM, y_Mle, y_eqM, y_Meq, s_e1, s_e2, s_e3, s_e4, s_e5, s_e6, gf_22_0, h3, es, e2]
      refine ⟨fwl g n one two (n + 1) 0, ?_, fwl_ok (by omega) (by omega) (by omega) hd (n + 1) 0 (by omega) (fun T _ _ => Nat.zero_le _)⟩
      have e1 := hloop (n + 1) 0 xFU (by omega) (by unfold xFU; omega)
      generalize xFU = N at e1 ⊢
      simp (disch := omega) only [if_true, if_false, Bool.false_eq_true, Bool.true_eq_false, y_lit, y_m1, nI_add, pk_mul, fa_and, fa_or, y_bs, if_pos, if_neg, y_shl, y_shr, y_le, y_lt, y_eq, y_sub, y_dv, y_rm, y_b0, y_b1, y_sdf, y_ltM, y_Mlt, y_leM, y_Mle, y_eqM, y_Meq, s_e1, s_e2, s_e3, s_e4, s_e5, s_e6, gf_22_0, gf_22_2, gf_22_3, h3, ld_24, ld_25, u1, u2, hp1, hp2, e1]
    · refine ⟨none, ?_, fun T hT hc => hp2 (hno T hT hc).2⟩
      generalize xFU = N
      simp (disch := omega) only [if_true, if_false, Bool.false_eq_true, Bool.true_eq_false, y_lit, y_m1, nI_add, pk_mul, fa_and, fa_or, y_bs, if_pos, if_neg, y_shl, y_shr, y_le, y_lt, y_eq, y_sub, y_dv, y_rm, y_b0, y_b1, y_sdf, y_ltM, y_Mlt, y_leM, y_Mle, y_eqM, y_Meq, s_e1, s_e2, s_e3, s_e4, s_e5, s_e6, gf_22_0, gf_22_2, gf_22_3, h3, ld_24, ld_25, u1, u2, hp1, eo]
  · refine ⟨none, ?_, fun T hT hc => hp1 (hno T hT hc).1⟩
    generalize xFU = N
    simp (disch := omega) only [if_true, if_false, Bool.false_eq_true, Bool.true_eq_false, y_lit, y_m1, nI_add, pk_mul, fa_and, fa_or, y_bs, if_pos, if_neg, y_shl, y_shr, y_le, y_lt, y_eq, y_sub, y_dv, y_rm, y_b0, y_b1, y_sdf, y_ltM, y_Mlt, y_leM, y_Mle, y_eqM, y_Meq, s_e1, s_e2, s_e3, s_e4, s_e5, s_e6, gf_22_0, gf_22_2, gf_22_3, h3, ld_24, ld_25, u1, u2, eo]
end Cover
