/-! ===== night ===== -/
def drw (x : Int32) : Nat := x.toBitVec.toNat / 2 ^ 16 % 100
def nxS (x : Int32) : Int32 := 1103515245 * x + 12345
theorem y_drw (x : Int32) : rmI (UInt32.toInt32 (Int32.toUInt32 x >>> (Int32.toUInt32 (16 : Int32) &&& Int32.toUInt32 31))) (100 : Int32) = some (nI (drw x)) := by
  obtain ⟨m, hm, rfl⟩ := wb_of32 x
  have e := pk_ushrN hm (16 : Int32) 16 (by decide)
  rw [e, show (100 : Int32) = nI 100 from rfl, y_rm (by omega) (by omega) (by omega)]
  unfold drw
  rw [pk_tn hm]
theorem drw_lt (x : Int32) : drw x < 100 := Nat.mod_lt _ (by decide)
/-- after k rooms of an hour: x, what still burns, how many went out -/
def nrm (S0 f : Nat) (x : Int32) : Nat → Int32 × Nat × Nat
  | 0 => (x, S0, 0)
  | k + 1 => if S0.testBit k then (if drw (nxS (nrm S0 f x k).1) < f then (nxS (nrm S0 f x k).1, sdf (nrm S0 f x k).2.1 (2 ^ k), (nrm S0 f x k).2.2 + 1) else (nxS (nrm S0 f x k).1, (nrm S0 f x k).2.1, (nrm S0 f x k).2.2)) else nrm S0 f x k
theorem nrm_lt {S0 f : Nat} {x : Int32} (h : S0 < 65536) : ∀ k, (nrm S0 f x k).2.1 < 65536 ∧ (nrm S0 f x k).2.2 ≤ k
  | 0 => ⟨h, Nat.le_refl _⟩
  | k + 1 => by
    obtain ⟨h1, h2⟩ := nrm_lt h k
    rw [nrm]
    split
    · split
      · exact ⟨sdf_lt (k := 16) h1, by show _ + 1 ≤ _; omega⟩
      · exact ⟨h1, by show (nrm S0 f x k).2.2 ≤ _; omega⟩
    · exact ⟨h1, by omega⟩
theorem nrm_bit {S0 f : Nat} {x : Int32} {j : Nat} : ∀ k, k ≤ j → (nrm S0 f x k).2.1.testBit j = S0.testBit j
  | 0, _ => rfl
  | k + 1, h => by
    have ih := nrm_bit (S0 := S0) (f := f) (x := x) (j := j) k (by omega)
    rw [nrm]
    split
    · split
      · show (sdf (nrm S0 f x k).2.1 (2 ^ k)).testBit j = _
        rw [sdf_bit, ih, n_two]
        have : ¬ k = j := by omega
        simp [this]
      · exact ih
    · exact ih
/-- after t hours: x, dark rooms, hours with one, lamps out -/
def nht (tt lk lh : Nat → Nat) (f : Nat) (x : Int32) : Nat → Int32 × Nat × Nat × Nat
  | 0 => (x, 0, 0, 0)
  | t + 1 => ((nrm (brn lh t) f (nht tt lk lh f x t).1 (tt 1)).1, (nht tt lk lh f x t).2.1 + pc (drk tt (Lsum tt (shn tt lk (nrm (brn lh t) f (nht tt lk lh f x t).1 (tt 1)).2.1)) t), (nht tt lk lh f x t).2.2.1 + (if drk tt (Lsum tt (shn tt lk (nrm (brn lh t) f (nht tt lk lh f x t).1 (tt 1)).2.1)) t = 0 then 0 else 1), (nht tt lk lh f x t).2.2.2 + (nrm (brn lh t) f (nht tt lk lh f x t).1 (tt 1)).2.2)
section Night
variable {A : Nat → Nat → Int32} {Z : Nat → Int32} {B : Nat → Nat → Int64} {Q : Nat → Int64} {P : Nat → Option Nat} {F : Nat → Nat → Option Nat} {q : Nat} {D : List xC} {c : Nat × Nat} {K : Nat → Nat} {tt lk lh : Nat → Nat} {R i : Nat}
theorem c_night67 (H : Hs K D q tt) (hW : HWf tt) (hL : LWf tt lk lh) (hLm : Lam (A 13) (A 14) lk lh) {k42 : xH → Nat → Int32 → Int32 → Int32 → Int32 → Int32 → Int32 → Int32 → Option ((String × xH) ⊕ (Int32 × xH))} {S0 f t : Nat} (hS : S0 < 65536) (hf : f ≤ 100) (ht : t < 24) (w x : Int32) (a b d : Nat) : ∃ g, f_X11_night_67 k42 xFU (HH A Z B Q P F q D c) 0 (nI f) w x (nI a) (nI b) (nI d) (nI t) (nI S0) (nI S0) (nI 0) = k42 (HH (upA A 21 g) Z B Q P F q D c) 0 (nI f) w (nrm S0 f x (tt 1)).1 (nI (a + pc (drk tt (Lsum tt (shn tt lk (nrm S0 f x (tt 1)).2.1)) t))) (nI (b + (if drk tt (Lsum tt (shn tt lk (nrm S0 f x (tt 1)).2.1)) t = 0 then 0 else 1))) (nI (d + (nrm S0 f x (tt 1)).2.2)) (nI (t + 1)) := by
  have hro := hW.ro
  obtain ⟨g, e1⟩ := c_darkRooms (A := A) (Z := Z) (B := B) (Q := Q) (P := P) (F := F) (c := c) H hW hL hLm (nrm_lt (f := f) (x := x) hS (tt 1)).1 ht
  refine ⟨g, loop0 (F := fun m i (s : Int32 × Nat × Nat) => f_X11_night_67 k42 m (HH A Z B Q P F q D c) 0 (nI f) w s.1 (nI a) (nI b) (nI (d + s.2.2)) (nI t) (nI S0) (nI s.2.1) (nI i)) (N := tt 1) (st := fun i => nrm S0 f x i) (fun n i hi => ?_) (fun n => ?_) (by omega)⟩
  · obtain ⟨l1, l2⟩ := nrm_lt (f := f) (x := x) hS i
    rw [nrm]
    generalize nrm S0 f x i = p at l1 l2
    obtain ⟨px, ps, po⟩ := p
    simp only at l1 l2
    have hx := drw_lt (nxS px)
    have ex : rmI (UInt32.toInt32 (Int32.toUInt32 (((1103515245 : Int32) * px) + (12345 : Int32)) >>> (Int32.toUInt32 (16 : Int32) &&& Int32.toUInt32 31))) (100 : Int32) = some (nI (drw (nxS px))) := y_drw (nxS px)
    have en : ((1103515245 : Int32) * px) + (12345 : Int32) = nxS px := rfl
    rw [f_X11_night_67, gf_0_4, Option.bind_some, hs_1 H, Option.bind_some, if_neg (by rw [y_le (by omega) (by omega)]; omega), ex, Option.bind_some, en]
    generalize nxS px = nx at hx
    cases hb : S0.testBit i
    · simp (disch := omega) only [if_true, if_false, Bool.false_eq_true, Bool.true_eq_false, y_lit, y_m1, nI_add, pk_mul, fa_and, fa_or, y_bs, if_pos, if_neg, y_shl, y_shr, y_le, y_lt, y_eq, y_sub, y_dv, y_rm, y_b0, y_b1, y_sdf, y_ltM, y_Mlt, y_leM, y_Mle, y_eqM, y_Meq, s_e1, s_e2, s_e3, s_e4, s_e5, s_e6, hb]
    · by_cases hd : drw nx < f
      · simp (disch := omega) only [if_true, if_false, Bool.false_eq_true, Bool.true_eq_false, y_lit, y_m1, nI_add, pk_mul, fa_and, fa_or, y_bs, if_pos, if_neg, y_shl, y_shr, y_le, y_lt, y_eq, y_sub, y_dv, y_rm, y_b0, y_b1, y_sdf, y_ltM, y_Mlt, y_leM, y_Mle, y_eqM, y_Meq, s_e1, s_e2, s_e3, s_e4, s_e5, s_e6, hb]
        rfl
      · simp (disch := omega) only [if_true, if_false, Bool.false_eq_true, Bool.true_eq_false, y_lit, y_m1, nI_add, pk_mul, fa_and, fa_or, y_bs, if_pos, if_neg, y_shl, y_shr, y_le, y_lt, y_eq, y_sub, y_dv, y_rm, y_b0, y_b1, y_sdf, y_ltM, y_Mlt, y_leM, y_Mle, y_eqM, y_Meq, s_e1, s_e2, s_e3, s_e4, s_e5, s_e6, hb]
  · obtain ⟨l1, l2⟩ := nrm_lt (f := f) (x := x) hS (tt 1)
    have hlt : drk tt (Lsum tt (shn tt lk (nrm S0 f x (tt 1)).2.1)) t < 65536 := drk_lt16 hW t
    rw [f_X11_night_67, gf_0_4, Option.bind_some, hs_1 H, Option.bind_some, if_pos (by rw [y_le (by omega) (by omega)]; exact Nat.le_refl _), gO_0, Option.bind_some, e1, Option.bind_some]
    by_cases h0 : drk tt (Lsum tt (shn tt lk (nrm S0 f x (tt 1)).2.1)) t = 0
    · simp (disch := omega) only [f_X11_night_165, if_true, if_false, Bool.false_eq_true, Bool.true_eq_false, y_lit, y_m1, nI_add, pk_mul, fa_and, fa_or, y_bs, if_pos, if_neg, y_shl, y_shr, y_le, y_lt, y_eq, y_sub, y_dv, y_rm, y_b0, y_b1, y_sdf, y_ltM, y_Mlt, y_leM, y_Mle, y_eqM, y_Meq, s_e1, s_e2, s_e3, s_e4, s_e5, s_e6, bitCount_spec, h0, Nat.add_zero]
    · simp (disch := omega) only [f_X11_night_165, if_true, if_false, Bool.false_eq_true, Bool.true_eq_false, y_lit, y_m1, nI_add, pk_mul, fa_and, fa_or, y_bs, if_pos, if_neg, y_shl, y_shr, y_le, y_lt, y_eq, y_sub, y_dv, y_rm, y_b0, y_b1, y_sdf, y_ltM, y_Mlt, y_leM, y_Mle, y_eqM, y_Meq, s_e1, s_e2, s_e3, s_e4, s_e5, s_e6, bitCount_spec, h0]
def nwh (tt lk lh : Nat → Nat) (f : Nat) (x : Int32) (w : Nat) : Nat := if w = 0 then (nht tt lk lh f x 24).2.1 else if w = 1 then (nht tt lk lh f x 24).2.2.1 else (nht tt lk lh f x 24).2.2.2
theorem c_night42 (H : Hs K D q tt) (hW : HWf tt) (hL : LWf tt lk lh) (hLm : Lam (A 13) (A 14) lk lh) {f w : Nat} (hf : f ≤ 100) (hw : w < 3) (x : Int32) : ∃ g, f_X11_night_42 xFU (HH A Z B Q P F q D c) 0 (nI f) (nI w) x (nI 0) (nI 0) (nI 0) (nI 0) = some (.inr (nI (nwh tt lk lh f x w), HH (upA A 21 g) Z B Q P F q D c)) := by
  have key := loop_J (F := fun m i (s : xH) => f_X11_night_42 m s 0 (nI f) (nI w) (nht tt lk lh f x i).1 (nI (nht tt lk lh f x i).2.1) (nI (nht tt lk lh f x i).2.2.1) (nI (nht tt lk lh f x i).2.2.2) (nI i)) (N := 24) (fun s => some (.inr (nI (nwh tt lk lh f x w), s))) (fun i s => ∃ g, s = HH (upA A 21 g) Z B Q P F q D c) (fun m i s hi hs => ?_) (fun m s hs => ?_) (by omega) (s := HH A Z B Q P F q D c) ⟨A 21, by rw [y_ua]⟩
  · obtain ⟨r, e1, g, rfl⟩ := key
    exact ⟨g, e1⟩
  · obtain ⟨g, rfl⟩ := hs
    obtain ⟨g2, e2⟩ := c_night67 (A := upA A 21 g) (Z := Z) (B := B) (Q := Q) (P := P) (F := F) (c := c) (k42 := f_X11_night_42 m) H hW hL hLm (brn_lt lh i) hf hi (nI w) (nht tt lk lh f x i).1 (nht tt lk lh f x i).2.1 (nht tt lk lh f x i).2.2.1 (nht tt lk lh f x i).2.2.2
    rw [y_uu] at e2
    refine ⟨_, ?_, g2, rfl⟩
    show f_X11_night_42 (m + 1) _ _ _ _ _ _ _ _ _ = _
    rw [f_X11_night_42, if_neg (by rw [show (24 : Int32) = nI 24 from rfl, y_le (by omega) (by omega)]; omega), gf_0_5, Option.bind_some, gO_12, Option.bind_some, c_burning (A := upA A 21 g) hLm hL hi, Option.bind_some]
    exact e2
  · obtain ⟨g, rfl⟩ := hs
    show f_X11_night_42 (m + 1) _ _ _ _ _ _ _ _ _ = _
    rw [f_X11_night_42, if_pos (by decide)]
    unfold nwh
    have hc : w = 0 ∨ w = 1 ∨ w = 2 := by omega
    rcases hc with rfl | rfl | rfl
    · rw [if_pos (by decide)]; rfl
    · rw [if_neg (by decide), if_pos (by decide)]; rfl
    · rw [if_neg (by decide), if_neg (by decide)]; rfl
theorem m_night75 (hT : Told (A 58) tt lk lh) (hW : HWf tt) (hL : LWf tt lk lh) {k59 : xH → Nat → Int32 → Int32 → Int32 → Int32 → Int32 → Int32 → Option (Int32 × xH)} {f t : Nat} (hf : f ≤ 100) (ht : t < 24) (hs : ∀ r, r < tt 1 → A 64 r = nI (shn tt lk (brn lh t) r)) (w x : Int32) (h29 : Z 29 = x) (a b d : Nat) : ∃ g, f_X12_night_75 k59 xFU (HH A Z B Q P F q D c) 57 (nI f) w (nI a) (nI b) (nI d) (nI t) (nI 0) = k59 (HH (upA A 64 g) (upA Z 29 (nrm (brn lh t) f x (tt 1)).1) B Q P F q D c) 57 (nI f) w (nI (a + pc (drk tt (Lsum tt (shn tt lk (nrm (brn lh t) f x (tt 1)).2.1)) t))) (nI (b + (if drk tt (Lsum tt (shn tt lk (nrm (brn lh t) f x (tt 1)).2.1)) t = 0 then 0 else 1))) (nI (d + (nrm (brn lh t) f x (tt 1)).2.2)) (nI (t + 1)) := by
  have hro := hW.ro
  have key := loop_I (F := fun m i (s : xH) => f_X12_night_75 k59 m s 57 (nI f) w (nI a) (nI b) (nI (d + (nrm (brn lh t) f x i).2.2)) (nI t) (nI i)) (N := tt 1) (ρ := Nat → Int32) (fun g => k59 (HH (upA A 64 g) (upA Z 29 (nrm (brn lh t) f x (tt 1)).1) B Q P F q D c) 57 (nI f) w (nI (a + pc (drk tt (Lsum tt (shn tt lk (nrm (brn lh t) f x (tt 1)).2.1)) t))) (nI (b + (if drk tt (Lsum tt (shn tt lk (nrm (brn lh t) f x (tt 1)).2.1)) t = 0 then 0 else 1))) (nI (d + (nrm (brn lh t) f x (tt 1)).2.2)) (nI (t + 1))) (fun i s => ∃ g, s = HH (upA A 64 g) (upA Z 29 (nrm (brn lh t) f x i).1) B Q P F q D c ∧ ∀ r, r < tt 1 → g r = nI (shn tt lk (nrm (brn lh t) f x i).2.1 r)) (fun _ => True) (fun m i s hi hh => ?_) (fun m s hh => ?_) (by omega) (s := HH A Z B Q P F q D c) ⟨A 64, by rw [y_ua]; show _ = HH A (upA Z 29 x) B Q P F q D c; rw [← h29, y_ua], hs⟩
  · obtain ⟨g, e1, _⟩ := key
    exact ⟨g, e1⟩
  · obtain ⟨g, rfl, hg⟩ := hh
    have hT2 : Told (upA A 64 g 58) tt lk lh := hT
    left
    have hbit := nrm_bit (S0 := brn lh t) (f := f) (x := x) (j := i) i (Nat.le_refl _)
    have hgi := hg i hi
    have hsn := shn_le hW hL (nrm (brn lh t) f x i).2.1 i
    have hpos : (nrm (brn lh t) f x i).2.1.testBit i = true → 0 < shn tt lk (nrm (brn lh t) f x i).2.1 i := by
      intro hb
      unfold shn brt
      rw [hb, if_pos rfl]
      rw [hbit, brn_bit (by omega)] at hb
      obtain ⟨l1, l2, l3, l4⟩ := hL i
      have hk : lk i ≠ 0 := fun e => by rw [l3 e, Nat.zero_testBit] at hb; cases hb
      have := (hW.kind (i := lk i - 1) (by omega)).1
      rw [if_neg hk]
      omega
    have hneg : (nrm (brn lh t) f x i).2.1.testBit i = false → shn tt lk (nrm (brn lh t) f x i).2.1 i = 0 := by
      intro hb
      unfold shn
      rw [hb]
      rfl
    rw [hbit] at hpos hneg
    show ∃ s', f_X12_night_75 k59 (m + 1) _ _ _ _ _ _ _ _ _ = _ ∧ _
    rw [f_X12_night_75]
    cases hb : (brn lh t).testBit i
    · have h0 := hneg hb
      have en : nrm (brn lh t) f x (i + 1) = nrm (brn lh t) f x i := by rw [nrm, hb]; rfl
      refine ⟨HH (upA A 64 g) (upA Z 29 (nrm (brn lh t) f x i).1) B Q P F q D c, ?_, g, by rw [en], by rw [en]; exact hg⟩
      rw [en]
      rw [h0] at hgi
      simp (disch := omega) only [if_true, if_false, Bool.false_eq_true, Bool.true_eq_false, y_lit, y_m1, nI_add, pk_mul, fa_and, fa_or, y_bs, if_pos, if_neg, y_shl, y_shr, y_le, y_lt, y_eq, y_sub, y_dv, y_rm, y_b0, y_b1, y_sdf, y_ltM, y_Mlt, y_leM, y_Mle, y_eqM, y_Meq, s_e1, s_e2, s_e3, s_e4, s_e5, s_e6, gO_57, m_rooms hT2, gf_57_17, ld_64, y_us, y_un, y_vs, y_vn, y_uu, y_vv, ne_eq, not_false_eq_true, not_true_eq_false, hgi]
    · have h0 := hpos hb
      have hx := drw_lt (nxS (nrm (brn lh t) f x i).1)
      have ed : f_X12_draw (HH (upA A 64 g) (upA Z 29 (nrm (brn lh t) f x i).1) B Q P F q D c) 57 (nI 100) = some (nI (drw (nxS (nrm (brn lh t) f x i).1)), HH (upA A 64 g) (upA Z 29 (nxS (nrm (brn lh t) f x i).1)) B Q P F q D c) := by
        unfold f_X12_draw
        rw [gf_57_28, Option.bind_some, pf_57_28, Option.bind_some, gf_57_28, Option.bind_some, y_us, y_us, y_uu]
        have := y_drw (nxS (nrm (brn lh t) f x i).1)
        rw [show (nI 100 : Int32) = 100 from rfl, show (1103515245 : Int32) * (nrm (brn lh t) f x i).1 + 12345 = nxS (nrm (brn lh t) f x i).1 from rfl, this, Option.bind_some]
      by_cases hd : drw (nxS (nrm (brn lh t) f x i).1) < f
      · have en : nrm (brn lh t) f x (i + 1) = (nxS (nrm (brn lh t) f x i).1, sdf (nrm (brn lh t) f x i).2.1 (2 ^ i), (nrm (brn lh t) f x i).2.2 + 1) := by rw [nrm, hb, if_pos rfl, if_pos hd]
        refine ⟨HH (upA A 64 (va_up g i (nI 0))) (upA Z 29 (nxS (nrm (brn lh t) f x i).1)) B Q P F q D c, ?_, va_up g i (nI 0), by rw [en], fun r hr => ?_⟩
        · rw [en]
          simp (disch := omega) only [if_true, if_false, Bool.false_eq_true, Bool.true_eq_false, y_lit, y_m1, nI_add, pk_mul, fa_and, fa_or, y_bs, if_pos, if_neg, y_shl, y_shr, y_le, y_lt, y_eq, y_sub, y_dv, y_rm, y_b0, y_b1, y_sdf, y_ltM, y_Mlt, y_leM, y_Mle, y_eqM, y_Meq, s_e1, s_e2, s_e3, s_e4, s_e5, s_e6, gO_57, m_rooms hT2, gf_57_17, ld_64, y_us, y_un, y_vs, y_vn, y_uu, y_vv, ne_eq, not_false_eq_true, not_true_eq_false, hgi, ed, st_64]
          rfl
        · rw [en]
          unfold shn
          rw [sdf_bit, n_two]
          by_cases e : r = i
          · subst e
            rw [y_vs]
            simp
          · rw [y_vn e, hg r hr]
            have e3 : ¬ i = r := fun h => e h.symm
            unfold shn
            simp [e3]
      · have en : nrm (brn lh t) f x (i + 1) = (nxS (nrm (brn lh t) f x i).1, (nrm (brn lh t) f x i).2.1, (nrm (brn lh t) f x i).2.2) := by rw [nrm, hb, if_pos rfl, if_neg hd]
        refine ⟨HH (upA A 64 g) (upA Z 29 (nxS (nrm (brn lh t) f x i).1)) B Q P F q D c, ?_, g, by rw [en], by rw [en]; exact hg⟩
        rw [en]
        simp (disch := omega) only [if_true, if_false, Bool.false_eq_true, Bool.true_eq_false, y_lit, y_m1, nI_add, pk_mul, fa_and, fa_or, y_bs, if_pos, if_neg, y_shl, y_shr, y_le, y_lt, y_eq, y_sub, y_dv, y_rm, y_b0, y_b1, y_sdf, y_ltM, y_Mlt, y_leM, y_Mle, y_eqM, y_Meq, s_e1, s_e2, s_e3, s_e4, s_e5, s_e6, gO_57, m_rooms hT2, gf_57_17, ld_64, y_us, y_un, y_vs, y_vn, y_uu, y_vv, ne_eq, not_false_eq_true, not_true_eq_false, hgi, ed]
  · obtain ⟨g, rfl, hg⟩ := hh
    have hT2 : Told (upA A 64 g 58) tt lk lh := hT
    refine ⟨g, ?_, trivial⟩
    have e1 := m_darkBy (A := upA A 64 g) (Z := upA Z 29 (nrm (brn lh t) f x (tt 1)).1) (B := B) (Q := Q) (P := P) (F := F) (q := q) (D := D) (c := c) hT hW (sh := shn tt lk (nrm (brn lh t) f x (tt 1)).2.1) hg (fun r _ => shn_le hW hL _ r) ht
    have hlt : drk tt (Lsum tt (shn tt lk (nrm (brn lh t) f x (tt 1)).2.1)) t < 65536 := drk_lt16 hW t
    have hp := pc_le (drk tt (Lsum tt (shn tt lk (nrm (brn lh t) f x (tt 1)).2.1)) t)
    show f_X12_night_75 k59 (m + 1) _ _ _ _ _ _ _ _ _ = _
    rw [f_X12_night_75]
    by_cases h0 : drk tt (Lsum tt (shn tt lk (nrm (brn lh t) f x (tt 1)).2.1)) t = 0
    · rw [h0] at e1
      simp (disch := omega) only [f_X12_night_154, if_true, if_false, Bool.false_eq_true, Bool.true_eq_false, y_lit, y_m1, nI_add, pk_mul, fa_and, fa_or, y_bs, if_pos, if_neg, y_shl, y_shr, y_le, y_lt, y_eq, y_sub, y_dv, y_rm, y_b0, y_b1, y_sdf, y_ltM, y_Mlt, y_leM, y_Mle, y_eqM, y_Meq, s_e1, s_e2, s_e3, s_e4, s_e5, s_e6, gO_57, m_rooms hT2, e1, ones_spec, h0, pc_0, Nat.add_zero]
    · have h1 : pc (drk tt (Lsum tt (shn tt lk (nrm (brn lh t) f x (tt 1)).2.1)) t) ≠ 0 := fun e => h0 ((pc_zero (by omega)).mp e)
      simp (disch := omega) only [f_X12_night_154, if_true, if_false, Bool.false_eq_true, Bool.true_eq_false, y_lit, y_m1, nI_add, pk_mul, fa_and, fa_or, y_bs, if_pos, if_neg, y_shl, y_shr, y_le, y_lt, y_eq, y_sub, y_dv, y_rm, y_b0, y_b1, y_sdf, y_ltM, y_Mlt, y_leM, y_Mle, y_eqM, y_Meq, s_e1, s_e2, s_e3, s_e4, s_e5, s_e6, gO_57, m_rooms hT2, e1, ones_spec, h0]
theorem m_night59 (hT : Told (A 58) tt lk lh) (hW : HWf tt) (hL : LWf tt lk lh) {f w : Nat} (hf : f ≤ 100) (hw : w < 3) (x : Int32) (h29 : Z 29 = x) : ∃ g y, f_X12_night_59 xFU (HH A Z B Q P F q D c) 57 (nI f) (nI w) (nI 0) (nI 0) (nI 0) (nI 0) = some (nI (nwh tt lk lh f x w), HH (upA A 64 g) (upA Z 29 y) B Q P F q D c) := by
  have key := loop_J (F := fun m i (s : xH) => f_X12_night_59 m s 57 (nI f) (nI w) (nI (nht tt lk lh f x i).2.1) (nI (nht tt lk lh f x i).2.2.1) (nI (nht tt lk lh f x i).2.2.2) (nI i)) (N := 24) (fun s => some (nI (nwh tt lk lh f x w), s)) (fun i s => ∃ g, s = HH (upA A 64 g) (upA Z 29 (nht tt lk lh f x i).1) B Q P F q D c) (fun m i s hi hs => ?_) (fun m s hs => ?_) (by omega) (s := HH A Z B Q P F q D c) ⟨A 64, by rw [y_ua]; show _ = HH A (upA Z 29 x) B Q P F q D c; rw [← h29, y_ua]⟩
  · obtain ⟨r, e1, g, rfl⟩ := key
    exact ⟨g, _, e1⟩
  · obtain ⟨g, rfl⟩ := hs
    obtain ⟨g1, e1, h1⟩ := m_layShine (A := upA A 64 g) (Z := upA Z 29 (nht tt lk lh f x i).1) (B := B) (Q := Q) (P := P) (F := F) (q := q) (D := D) (c := c) hT hW hL hi
    rw [y_uu] at e1
    obtain ⟨g2, e2⟩ := m_night75 (A := upA A 64 g1) (Z := upA Z 29 (nht tt lk lh f x i).1) (B := B) (Q := Q) (P := P) (F := F) (q := q) (D := D) (c := c) (k59 := f_X12_night_59 m) hT hW hL hf hi h1 (nI w) (nht tt lk lh f x i).1 rfl (nht tt lk lh f x i).2.1 (nht tt lk lh f x i).2.2.1 (nht tt lk lh f x i).2.2.2
    rw [y_uu, y_uu] at e2
    refine ⟨_, ?_, g2, rfl⟩
    show f_X12_night_59 (m + 1) _ _ _ _ _ _ _ _ = _
    rw [f_X12_night_59, if_neg (by rw [show (24 : Int32) = nI 24 from rfl, y_le (by omega) (by omega)]; omega), gO_57, Option.bind_some, e1, Option.bind_some]
    exact e2
  · obtain ⟨g, rfl⟩ := hs
    show f_X12_night_59 (m + 1) _ _ _ _ _ _ _ _ = _
    rw [f_X12_night_59, if_pos (by decide)]
    unfold nwh
    have hc : w = 0 ∨ w = 1 ∨ w = 2 := by omega
    rcases hc with rfl | rfl | rfl
    · rw [if_pos (by decide)]; rfl
    · rw [if_neg (by decide), if_pos (by decide)]; rfl
    · rw [if_neg (by decide), if_neg (by decide)]; rfl
theorem m_w101 (h : xH) (x : Int32) : f_X12_within h x.toInt64 (0 : Int64) (100 : Int64) = some (if rk x 101 = true then nI 1 else nI 0) := rk_withinL h x (by decide) (by decide)
end Night
theorem ok_night : ∀ x0 x1 x2, ME (fun h => f_L_night h 0 x0 x1 x2 76) (fun h => f_X12_night h 57 x0 x1 x2) := by
  intro x y z h i hJ hi
  obtain ⟨K, A, Z, B, Q, P, F, q, D, c, tt, lk, lh, R, rfl, hI⟩ := hJ
  have hz := hI.2.1.2.2.2
  obtain ⟨H, hW, hL, hT, hLm⟩ := hI.1
  cases hy : rk y 101
  · refine ME_t hI (k := 1) (b := nI 0) (by decide) ?_ ?_ (oZ18 (nI 1)) rfl
    · unfold f_L_night f_X11_night f_X11_night_10
      generalize xFU = N
      rcases rk_f (by decide) hy with h1 | ⟨k, k1, k2, rfl⟩
      · simp (disch := omega) only [if_true, if_false, Bool.false_eq_true, Bool.true_eq_false, y_lit, y_m1, nI_add, pk_mul, fa_and, fa_or, y_bs, if_pos, if_neg, y_shl, y_shr, y_le, y_lt, y_eq, y_sub, y_dv, y_rm, y_b0, y_b1, y_sdf, y_ltM, y_Mlt, y_leM, y_Mle, y_eqM, y_Meq, s_e1, s_e2, s_e3, s_e4, s_e5, s_e6, gO_0, h1, thr_HH]
      · simp (disch := omega) only [if_true, if_false, Bool.false_eq_true, Bool.true_eq_false, y_lit, y_m1, nI_add, pk_mul, fa_and, fa_or, y_bs, if_pos, if_neg, y_shl, y_shr, y_le, y_lt, y_eq, y_sub, y_dv, y_rm, y_b0, y_b1, y_sdf, y_ltM, y_Mlt, y_leM, y_Mle, y_eqM, y_Meq, s_e1, s_e2, s_e3, s_e4, s_e5, s_e6, gO_0, thr_HH]
    · unfold f_X12_night f_X12_night_29 f_X12_night_30
      generalize xFU = N
      simp (disch := omega) only [if_true, if_false, Bool.false_eq_true, Bool.true_eq_false, y_lit, y_m1, nI_add, pk_mul, fa_and, fa_or, y_bs, if_pos, if_neg, y_shl, y_shr, y_le, y_lt, y_eq, y_sub, y_dv, y_rm, y_b0, y_b1, y_sdf, y_ltM, y_Mlt, y_leM, y_Mle, y_eqM, y_Meq, s_e1, s_e2, s_e3, s_e4, s_e5, s_e6, m_w101, hy, pf_57_4, gf_57_4, y_us, y_un, y_vs, y_vn, y_uu, y_vv, ne_eq, not_false_eq_true, not_true_eq_false]
  · obtain ⟨f, hf, rfl⟩ := rk_t (by decide) hy
    cases hw : rk z 3
    · refine ME_t hI (k := 1) (b := nI 0) (by decide) ?_ ?_ (oZ18 (nI 1)) rfl
      · unfold f_L_night f_X11_night f_X11_night_10
        generalize xFU = N
        simp (disch := omega) only [if_true, if_false, Bool.false_eq_true, Bool.true_eq_false, y_lit, y_m1, nI_add, pk_mul, fa_and, fa_or, y_bs, if_pos, if_neg, y_shl, y_shr, y_le, y_lt, y_eq, y_sub, y_dv, y_rm, y_b0, y_b1, y_sdf, y_ltM, y_Mlt, y_leM, y_Mle, y_eqM, y_Meq, s_e1, s_e2, s_e3, s_e4, s_e5, s_e6, gO_0, c_checkWhat, hw]
      · unfold f_X12_night f_X12_night_29 f_X12_night_30
        generalize xFU = N
        simp (disch := omega) only [if_true, if_false, Bool.false_eq_true, Bool.true_eq_false, y_lit, y_m1, nI_add, pk_mul, fa_and, fa_or, y_bs, if_pos, if_neg, y_shl, y_shr, y_le, y_lt, y_eq, y_sub, y_dv, y_rm, y_b0, y_b1, y_sdf, y_ltM, y_Mlt, y_leM, y_Mle, y_eqM, y_Meq, s_e1, s_e2, s_e3, s_e4, s_e5, s_e6, m_w101, hy, m_w3, hw, pf_57_4, gf_57_4, y_us, y_un, y_vs, y_vn, y_uu, y_vv, ne_eq, not_false_eq_true, not_true_eq_false]
    · obtain ⟨w, hw1, rfl⟩ := rk_t (by decide) hw
      obtain ⟨g, e1⟩ := c_night42 (A := A) (Z := Z) (B := B) (Q := Q) (P := P) (F := F) (c := c) (f := f) (w := w) H hW hL hLm (by omega) hw1 x
      obtain ⟨g2, u, e2⟩ := m_night59 (A := upA A 21 g) (Z := upA (upA Z 18 (nI 0)) 29 x) (B := oB B (Int32.toInt64 (nI (nwh tt lk lh f x w)))) (Q := Q) (P := P) (F := F) (q := q) (D := D) (c := c) (f := f) (w := w) hT hW hL (by omega) hw1 x rfl
      rw [y_uu] at e2
      refine ME_r hI (v := nI (nwh tt lk lh f x w)) (A1 := upA A 21 g) (Z1 := Z) (A2 := upA (upA A 21 g) 64 g2) (Z2 := upA (upA Z 18 (nI 0)) 29 u) ?_ ?_ (oA2164 g g2) hz ((Only.rf.up (by decide)).up (by decide)) rfl
      · unfold f_L_night f_X11_night f_X11_night_10
        generalize xFU = N at e1 ⊢
        simp (disch := omega) only [if_true, if_false, Bool.false_eq_true, Bool.true_eq_false, y_lit, y_m1, nI_add, pk_mul, fa_and, fa_or, y_bs, if_pos, if_neg, y_shl, y_shr, y_le, y_lt, y_eq, y_sub, y_dv, y_rm, y_b0, y_b1, y_sdf, y_ltM, y_Mlt, y_leM, y_Mle, y_eqM, y_Meq, s_e1, s_e2, s_e3, s_e4, s_e5, s_e6, gO_0, c_checkWhat, hw, e1, oB_st]
      · unfold f_X12_night f_X12_night_30
        generalize xFU = N at e2 ⊢
        simp (disch := omega) only [if_true, if_false, Bool.false_eq_true, Bool.true_eq_false, y_lit, y_m1, nI_add, pk_mul, fa_and, fa_or, y_bs, if_pos, if_neg, y_shl, y_shr, y_le, y_lt, y_eq, y_sub, y_dv, y_rm, y_b0, y_b1, y_sdf, y_ltM, y_Mlt, y_leM, y_Mle, y_eqM, y_Meq, s_e1, s_e2, s_e3, s_e4, s_e5, s_e6, m_w101, hy, m_w3, hw, pf_57_4, gf_57_4, pf_57_28, y_us, y_un, y_vs, y_vn, y_uu, y_vv, ne_eq, not_false_eq_true, not_true_eq_false, e2]
