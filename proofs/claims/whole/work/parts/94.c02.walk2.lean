/-! ===== walk ===== -/
theorem adj_door {tt : Nat → Nat} {a b : Nat} (h : adj tt a b = true) : ∃ j, j < tt 2 ∧ ((pF0 tt j = a ∧ pT0 tt j = b) ∨ (pF0 tt j = b ∧ pT0 tt j = a)) := by
  unfold adj at h
  rw [Nat.testBit_or, Bool.or_eq_true] at h
  unfold nxt ltt at h
  rw [orf_bit, orf_bit] at h
  rcases h with ⟨j, hj, h⟩ | ⟨j, hj, h⟩
  · refine ⟨j, hj, ?_⟩
    unfold nx1 at h
    rw [Nat.testBit_or, Bool.or_eq_true, ite_bit, ite_bit] at h
    rcases h with h | h
    · obtain ⟨h1, h2⟩ := of_decide_eq_true h; exact Or.inr ⟨h2, h1⟩
    · obtain ⟨h1, h2⟩ := of_decide_eq_true h; exact Or.inl ⟨h1.2, h2⟩
  · refine ⟨j, hj, ?_⟩
    unfold lt1 at h
    rw [Nat.testBit_or, Bool.or_eq_true, ite_bit, ite_bit] at h
    rcases h with h | h
    · obtain ⟨h1, h2⟩ := of_decide_eq_true h; exact Or.inl ⟨h1, h2⟩
    · obtain ⟨h1, h2⟩ := of_decide_eq_true h; exact Or.inr ⟨h2, h1.2⟩
theorem door_adj {tt : Nat → Nat} {j : Nat} (hj : j < tt 2) : adj tt (pF0 tt j) (pT0 tt j) = true := by
  unfold adj
  rw [Nat.testBit_or]
  have : (ltt tt (pF0 tt j)).testBit (pT0 tt j) = true := by
    unfold ltt
    rw [orf_bit]
    refine ⟨j, hj, ?_⟩
    unfold lt1
    rw [Nat.testBit_or, ite_bit, decide_eq_true ⟨rfl, rfl⟩]
    rfl
  rw [this, Bool.or_true]
def Mx (tt : Nat → Nat) (f : Nat → Int32) (w : Nat → Nat → Nat) : Prop := (∀ a b, a < tt 1 → b < tt 1 → f (16 * a + b) = nI (w a b)) ∧ FWs tt w
def wup (w : Nat → Nat → Nat) (a b v : Nat) : Nat → Nat → Nat := fun x y => if x = a ∧ y = b then v else w x y
theorem wup_s {w : Nat → Nat → Nat} {a b v : Nat} : wup w a b v a b = v := if_pos ⟨rfl, rfl⟩
theorem wup_n {w : Nat → Nat → Nat} {a b v x y : Nat} (h : ¬ (x = a ∧ y = b)) : wup w a b v x y = w x y := if_neg h
theorem wup_le {w : Nat → Nat → Nat} {a b v : Nat} (h : v ≤ w a b) (x y : Nat) : wup w a b v x y ≤ w x y := by
  by_cases e : x = a ∧ y = b
  · obtain ⟨rfl, rfl⟩ := e; rw [wup_s]; exact h
  · rw [wup_n e]; exact Nat.le_refl _
theorem Mx_up {tt : Nat → Nat} (hro : tt 1 ≤ 16) {f : Nat → Int32} {w : Nat → Nat → Nat} (h : Mx tt f w) {a b v : Nat} (hb : b < tt 1) (hv : v ≤ FAR ∧ (v < FAR → Wk tt (tt 1) a b v)) : Mx tt (va_up f (16 * a + b) (nI v)) (wup w a b v) := by
  refine ⟨fun x y hx hy => ?_, fun x y hx hy => ?_⟩
  · by_cases e : x = a ∧ y = b
    · obtain ⟨rfl, rfl⟩ := e; rw [y_vs, wup_s]
    · rw [y_vn (by omega), wup_n e]; exact h.1 x y hx hy
  · by_cases e : x = a ∧ y = b
    · obtain ⟨rfl, rfl⟩ := e; rw [wup_s]; exact hv
    · rw [wup_n e]; exact h.2 x y hx hy
theorem y_min (a b : Nat) : (if a < b then nI a else nI b) = nI (min b a) := by
  split
  · rw [Nat.min_eq_right (by omega)]
  · rw [Nat.min_eq_left (by omega)]
section Walks
variable {A : Nat → Nat → Int32} {Z : Nat → Int32} {B : Nat → Nat → Int64} {Q : Nat → Int64} {P : Nat → Option Nat} {F : Nat → Nat → Option Nat} {q : Nat} {D : List xC} {c : Nat × Nat} {K : Nat → Nat} {tt lk lh : Nat → Nat} {R i : Nat}
theorem lw_10 (k2 : xH → Nat → Int32 → Option xH) {a : Nat} (ha : a < 16) (f0 : Nat → Int32) : ∃ f, f_X12_layWalks_10 k2 xFU (HH (upA A 68 f0) Z B Q P F q D c) 57 (nI a) (nI 0) = k2 (HH (upA A 68 f) Z B Q P F q D c) 57 (nI (a + 1)) ∧ (∀ k, k < 16 * a → f k = f0 k) ∧ ∀ b, b < 16 → f (16 * a + b) = nI (if a = b then 0 else FAR) := by
  have key := loop_J (F := fun n j (s : xH) => f_X12_layWalks_10 k2 n s 57 (nI a) (nI j)) (N := 16) (fun s => k2 s 57 (nI (a + 1))) (fun j s => ∃ f, s = HH (upA A 68 f) Z B Q P F q D c ∧ (∀ k, k < 16 * a → f k = f0 k) ∧ ∀ b, b < j → f (16 * a + b) = nI (if a = b then 0 else FAR)) (fun n j s hj hs => ?_) (fun n s hs => ?_) (by omega) (s := HH (upA A 68 f0) Z B Q P F q D c) ⟨f0, rfl, fun _ _ => rfl, fun r hr => by omega⟩
  · obtain ⟨s, e1, f, rfl, hf⟩ := key
    exact ⟨f, e1, hf⟩
  · obtain ⟨f, rfl, h1, h2⟩ := hs
    refine ⟨_, ?_, va_up f (16 * a + j) (nI (if a = j then 0 else FAR)), rfl, fun k hk => ?_, fun b hb => ?_⟩
    · by_cases e : a = j
      · subst e
        simp (disch := omega) only [f_X12_layWalks_10, f_X12_layWalks_38, if_true, if_false, Bool.false_eq_true, Bool.true_eq_false, y_lit, y_m1, nI_add, pk_mul, fa_and, fa_or, y_bs, if_pos, if_neg, y_shl, y_shr, y_le, y_lt, y_eq, y_sub, y_dv, y_rm, y_b0, y_b1, y_sdf, y_ltM, y_Mlt, y_leM, y_Mle, y_eqM, y_Meq, s_e1, s_e2, s_e3, s_e4, s_e5, s_e6, gf_57_21, st_68, y_us, y_un, y_vs, y_vn, y_uu, y_vv, ne_eq, not_false_eq_true, not_true_eq_false]
      · simp (disch := omega) only [f_X12_layWalks_10, f_X12_layWalks_38, if_true, if_false, Bool.false_eq_true, Bool.true_eq_false, y_lit, y_m1, nI_add, pk_mul, fa_and, fa_or, y_bs, if_pos, if_neg, y_shl, y_shr, y_le, y_lt, y_eq, y_sub, y_dv, y_rm, y_b0, y_b1, y_sdf, y_ltM, y_Mlt, y_leM, y_Mle, y_eqM, y_Meq, s_e1, s_e2, s_e3, s_e4, s_e5, s_e6, gf_57_21, st_68, y_us, y_un, y_vs, y_vn, y_uu, y_vv, ne_eq, not_false_eq_true, not_true_eq_false, e, FAR]
    · rw [y_vn (by omega)]; exact h1 k hk
    · by_cases e : b = j
      · subst e; rw [y_vs]
      · rw [y_vn (by omega)]; exact h2 b (by omega)
  · obtain ⟨f, rfl, h1, h2⟩ := hs
    simp (disch := omega) only [f_X12_layWalks_10, if_true, if_false, Bool.false_eq_true, Bool.true_eq_false, y_lit, y_m1, nI_add, pk_mul, fa_and, fa_or, y_bs, if_pos, if_neg, y_shl, y_shr, y_le, y_lt, y_eq, y_sub, y_dv, y_rm, y_b0, y_b1, y_sdf, y_ltM, y_Mlt, y_leM, y_Mle, y_eqM, y_Meq, s_e1, s_e2, s_e3, s_e4, s_e5, s_e6]
theorem lw_145 (hT : Told (A 58) tt lk lh) (hW : HWf tt) (k125 : xH → Nat → Int32 → Option xH) (k135 : xH → Nat → Int32 → Int32 → Option xH) {m a : Nat} (hm : m < tt 1) (ha : a < tt 1) {f0 : Nat → Int32} {w0 : Nat → Nat → Nat} (h0 : Mx tt f0 w0) : ∃ f w, f_X12_layWalks_145 k125 k135 xFU (HH (upA A 68 f0) Z B Q P F q D c) 57 (nI m) (nI a) (nI 0) = k135 (HH (upA A 68 f) Z B Q P F q D c) 57 (nI m) (nI (a + 1)) ∧ Mx tt f w ∧ (∀ x y, w x y ≤ w0 x y) ∧ ∀ y, y < tt 1 → w a y ≤ w0 a m + w0 m y := by
  have hro := hW.ro
  have key := loop_J (F := fun n j (s : xH) => f_X12_layWalks_145 k125 k135 n s 57 (nI m) (nI a) (nI j)) (N := tt 1) (fun s => k135 s 57 (nI m) (nI (a + 1))) (fun j s => ∃ f w, s = HH (upA A 68 f) Z B Q P F q D c ∧ Mx tt f w ∧ (∀ x y, w x y ≤ w0 x y) ∧ ∀ y, y < j → w a y ≤ w0 a m + w0 m y) (fun n j s hj hs => ?_) (fun n s hs => ?_) (by omega) (s := HH (upA A 68 f0) Z B Q P F q D c) ⟨f0, w0, rfl, h0, fun _ _ => Nat.le_refl _, fun r hr => by omega⟩
  · obtain ⟨s, e1, f, w, rfl, hf⟩ := key
    exact ⟨f, w, e1, hf⟩
  · obtain ⟨f, w, rfl, h1, h2, h3⟩ := hs
    have hT2 : Told (upA A 68 f 58) tt lk lh := hT
    have g1 := h1.1 a j ha hj
    have g2 := h1.1 a m ha hm
    have g3 := h1.1 m j hm hj
    have b1 := (h1.2 a j ha hj).1
    have b2 := (h1.2 a m ha hm).1
    have b3 := (h1.2 m j hm hj).1
    unfold FAR at b1 b2 b3
    refine ⟨_, ?_, va_up f (16 * a + j) (nI (min (w a j) (w a m + w m j))), wup w a j (min (w a j) (w a m + w m j)), rfl, ?_, fun x y => ?_, fun y hy => ?_⟩
    · simp (disch := omega) only [f_X12_layWalks_145, if_true, if_false, Bool.false_eq_true, Bool.true_eq_false, y_lit, y_m1, nI_add, pk_mul, fa_and, fa_or, y_bs, if_pos, if_neg, y_shl, y_shr, y_le, y_lt, y_eq, y_sub, y_dv, y_rm, y_b0, y_b1, y_sdf, y_ltM, y_Mlt, y_leM, y_Mle, y_eqM, y_Meq, s_e1, s_e2, s_e3, s_e4, s_e5, s_e6, gO_57, m_rooms hT2, gf_57_21, ld_68, st_68, y_us, y_un, y_vs, y_vn, y_uu, y_vv, ne_eq, not_false_eq_true, not_true_eq_false, g1, g2, g3, y_min]
    · exact Mx_up hro h1 hj (FWs_min hW h1.2 ha hj hm)
    · exact Nat.le_trans (wup_le (Nat.min_le_left _ _) x y) (h2 x y)
    · by_cases e : y = j
      · subst e
        rw [wup_s]
        have := h2 a m
        have := h2 m y
        omega
      · rw [wup_n (fun h => e h.2)]
        exact h3 y (by omega)
  · obtain ⟨f, w, rfl, h1, h2⟩ := hs
    have hT2 : Told (upA A 68 f 58) tt lk lh := hT
    simp (disch := omega) only [f_X12_layWalks_145, if_true, if_false, Bool.false_eq_true, Bool.true_eq_false, y_lit, y_m1, nI_add, pk_mul, fa_and, fa_or, y_bs, if_pos, if_neg, y_shl, y_shr, y_le, y_lt, y_eq, y_sub, y_dv, y_rm, y_b0, y_b1, y_sdf, y_ltM, y_Mlt, y_leM, y_Mle, y_eqM, y_Meq, s_e1, s_e2, s_e3, s_e4, s_e5, s_e6, gO_57, m_rooms hT2]
theorem lw_135 (hT : Told (A 58) tt lk lh) (hW : HWf tt) (k125 : xH → Nat → Int32 → Option xH) {m : Nat} (hm : m < tt 1) {f0 : Nat → Int32} {w0 : Nat → Nat → Nat} (h0 : Mx tt f0 w0) : ∃ f w, f_X12_layWalks_135 k125 xFU (HH (upA A 68 f0) Z B Q P F q D c) 57 (nI m) (nI 0) = k125 (HH (upA A 68 f) Z B Q P F q D c) 57 (nI (m + 1)) ∧ Mx tt f w ∧ (∀ x y, w x y ≤ w0 x y) ∧ ∀ x y, x < tt 1 → y < tt 1 → w x y ≤ w0 x m + w0 m y := by
  have hro := hW.ro
  have key := loop_J (F := fun n j (s : xH) => f_X12_layWalks_135 k125 n s 57 (nI m) (nI j)) (N := tt 1) (fun s => k125 s 57 (nI (m + 1))) (fun j s => ∃ f w, s = HH (upA A 68 f) Z B Q P F q D c ∧ Mx tt f w ∧ (∀ x y, w x y ≤ w0 x y) ∧ ∀ x y, x < j → y < tt 1 → w x y ≤ w0 x m + w0 m y) (fun n j s hj hs => ?_) (fun n s hs => ?_) (by omega) (s := HH (upA A 68 f0) Z B Q P F q D c) ⟨f0, w0, rfl, h0, fun _ _ => Nat.le_refl _, fun r _ hr => by omega⟩
  · obtain ⟨s, e1, f, w, rfl, hf⟩ := key
    exact ⟨f, w, e1, hf⟩
  · obtain ⟨f, w, rfl, h1, h2, h3⟩ := hs
    have hT2 : Told (upA A 68 f 58) tt lk lh := hT
    obtain ⟨f', w', e, g1, g2, g3⟩ := lw_145 (Z := Z) (B := B) (Q := Q) (P := P) (F := F) (q := q) (D := D) (c := c) hT hW k125 (f_X12_layWalks_135 k125 n) hm hj h1
    refine ⟨_, ?_, f', w', rfl, g1, fun x y => Nat.le_trans (g2 x y) (h2 x y), fun x y hx hy => ?_⟩
    · simp (disch := omega) only [f_X12_layWalks_135, if_true, if_false, Bool.false_eq_true, Bool.true_eq_false, y_lit, y_m1, nI_add, pk_mul, fa_and, fa_or, y_bs, if_pos, if_neg, y_shl, y_shr, y_le, y_lt, y_eq, y_sub, y_dv, y_rm, y_b0, y_b1, y_sdf, y_ltM, y_Mlt, y_leM, y_Mle, y_eqM, y_Meq, s_e1, s_e2, s_e3, s_e4, s_e5, s_e6, gO_57, m_rooms hT2]
      exact e
    · by_cases ex : x = j
      · subst ex
        have := g3 y hy
        have := h2 x m
        have := h2 m y
        omega
      · exact Nat.le_trans (g2 x y) (h3 x y (by omega) hy)
  · obtain ⟨f, w, rfl, h1, h2⟩ := hs
    have hT2 : Told (upA A 68 f 58) tt lk lh := hT
    simp (disch := omega) only [f_X12_layWalks_135, if_true, if_false, Bool.false_eq_true, Bool.true_eq_false, y_lit, y_m1, nI_add, pk_mul, fa_and, fa_or, y_bs, if_pos, if_neg, y_shl, y_shr, y_le, y_lt, y_eq, y_sub, y_dv, y_rm, y_b0, y_b1, y_sdf, y_ltM, y_Mlt, y_leM, y_Mle, y_eqM, y_Meq, s_e1, s_e2, s_e3, s_e4, s_e5, s_e6, gO_57, m_rooms hT2]
theorem lw_125 (hT : Told (A 58) tt lk lh) (hW : HWf tt) {f0 : Nat → Int32} {w0 : Nat → Nat → Nat} (h0 : Mx tt f0 w0) (hc : FWc tt 0 w0) : ∃ f, f_X12_layWalks_125 xFU (HH (upA A 68 f0) Z B Q P F q D c) 57 (nI 0) = some (HH (upA A 68 f) Z B Q P F q D c) ∧ ∀ a b, a < tt 1 → b < tt 1 → f (16 * a + b) = nI (way tt a b) := by
  have hro := hW.ro
  have key := loop_J (F := fun n j (s : xH) => f_X12_layWalks_125 n s 57 (nI j)) (N := tt 1) some (fun j s => ∃ f w, s = HH (upA A 68 f) Z B Q P F q D c ∧ Mx tt f w ∧ FWc tt j w) (fun n j s hj hs => ?_) (fun n s hs => ?_) (by omega) (s := HH (upA A 68 f0) Z B Q P F q D c) ⟨f0, w0, rfl, h0, hc⟩
  · obtain ⟨s, e1, f, w, rfl, h1, h2⟩ := key
    refine ⟨f, e1, fun a b ha hb => ?_⟩
    rw [h1.1 a b ha hb, FW_end hW h1.2 h2 ha hb]
  · obtain ⟨f, w, rfl, h1, h2⟩ := hs
    have hT2 : Told (upA A 68 f 58) tt lk lh := hT
    obtain ⟨f', w', e, g1, g2, g3⟩ := lw_135 (Z := Z) (B := B) (Q := Q) (P := P) (F := F) (q := q) (D := D) (c := c) hT hW (f_X12_layWalks_125 n) hj h1
    refine ⟨_, ?_, f', w', rfl, g1, FW_step h2 hj (fun a b ha hb => ⟨g2 a b, g3 a b ha hb⟩)⟩
    simp (disch := omega) only [f_X12_layWalks_125, if_true, if_false, Bool.false_eq_true, Bool.true_eq_false, y_lit, y_m1, nI_add, pk_mul, fa_and, fa_or, y_bs, if_pos, if_neg, y_shl, y_shr, y_le, y_lt, y_eq, y_sub, y_dv, y_rm, y_b0, y_b1, y_sdf, y_ltM, y_Mlt, y_leM, y_Mle, y_eqM, y_Meq, s_e1, s_e2, s_e3, s_e4, s_e5, s_e6, gO_57, m_rooms hT2]
    exact e
  · obtain ⟨f, w, rfl, h1, h2⟩ := hs
    have hT2 : Told (upA A 68 f 58) tt lk lh := hT
    simp (disch := omega) only [f_X12_layWalks_125, if_true, if_false, Bool.false_eq_true, Bool.true_eq_false, y_lit, y_m1, nI_add, pk_mul, fa_and, fa_or, y_bs, if_pos, if_neg, y_shl, y_shr, y_le, y_lt, y_eq, y_sub, y_dv, y_rm, y_b0, y_b1, y_sdf, y_ltM, y_Mlt, y_leM, y_Mle, y_eqM, y_Meq, s_e1, s_e2, s_e3, s_e4, s_e5, s_e6, gO_57, m_rooms hT2]
theorem lw_54 (hT : Told (A 58) tt lk lh) (hW : HWf tt) {f0 : Nat → Int32} (h0 : ∀ a b, a < 16 → b < 16 → f0 (16 * a + b) = nI (if a = b then 0 else FAR)) : ∃ f, f_X12_layWalks_54 xFU (HH (upA A 68 f0) Z B Q P F q D c) 57 (nI 8) = some (HH (upA A 68 f) Z B Q P F q D c) ∧ ∀ a b, a < tt 1 → b < tt 1 → f (16 * a + b) = nI (way tt a b) := by
  have hro := hW.ro
  have hpa := hW.pa
  have key := loop_I (F := fun n j (s : xH) => f_X12_layWalks_54 n s 57 (nI (8 + 4 * j))) (N := tt 2) some (fun j s => ∃ f w, s = HH (upA A 68 f) Z B Q P F q D c ∧ Mx tt f w ∧ (∀ a, a < tt 1 → w a a = 0) ∧ ∀ d, d < j → w (pF0 tt d) (pT0 tt d) ≤ 1 ∧ w (pT0 tt d) (pF0 tt d) ≤ 1) (fun s => ∃ f, s = HH (upA A 68 f) Z B Q P F q D c ∧ ∀ a b, a < tt 1 → b < tt 1 → f (16 * a + b) = nI (way tt a b)) (fun n j s hj hs => Or.inl ?_) (fun n s hs => ?_) (by omega) (s := HH (upA A 68 f0) Z B Q P F q D c) ⟨f0, fun a b => if a = b then 0 else FAR, rfl, ⟨fun a b ha hb => h0 a b (by omega) (by omega), fun a b ha hb => ?_⟩, fun a _ => if_pos rfl, fun d hd => by omega⟩
  · obtain ⟨s, e1, f, rfl, hf⟩ := key
    exact ⟨f, e1, hf⟩
  · obtain ⟨f, w, rfl, h1, h2, h3⟩ := hs
    have hT2 : Told (upA A 68 f 58) tt lk lh := hT
    obtain ⟨p1, p2, p3, _⟩ := hW.pane hj
    have w1 : ∀ v : Nat, Wk tt (tt 1) (pF0 tt j) (pT0 tt j) 1 := fun _ => Wk_s.mpr ⟨_, door_adj hj, Or.inr rfl, rfl⟩
    have w2 : Wk tt (tt 1) (pT0 tt j) (pF0 tt j) 1 := Wk_sym hW p1 (w1 0)
    have i1 := Mx_up hro h1 (a := pF0 tt j) (b := pT0 tt j) (v := 1) p2 ⟨by decide, fun _ => w1 0⟩
    have i2 := Mx_up hro i1 (a := pT0 tt j) (b := pF0 tt j) (v := 1) p1 ⟨by decide, fun _ => w2⟩
    refine ⟨_, ?_, _, _, rfl, i2, fun a ha => ?_, fun d hd => ?_⟩
    · have q1 : pF0 tt j = tt (8 + 4 * j) := rfl
      have q2 : pT0 tt j = tt (8 + 4 * j + 1) := rfl
      rw [q1] at p1
      rw [q2] at p2
      rw [q1, q2]
      simp (disch := omega) only [f_X12_layWalks_54, if_true, if_false, Bool.false_eq_true, Bool.true_eq_false, y_lit, y_m1, nI_add, pk_mul, fa_and, fa_or, y_bs, if_pos, if_neg, y_shl, y_shr, y_le, y_lt, y_eq, y_sub, y_dv, y_rm, y_b0, y_b1, y_sdf, y_ltM, y_Mlt, y_leM, y_Mle, y_eqM, y_Meq, s_e1, s_e2, s_e3, s_e4, s_e5, s_e6, gf_57_0, ld_58, gf_57_21, st_68, y_us, y_un, y_vs, y_vn, y_uu, y_vv, ne_eq, not_false_eq_true, not_true_eq_false, hT.1]
      rfl
    · rw [wup_n (by omega), wup_n (by omega)]; exact h2 a ha
    · by_cases e : d = j
      · subst e
        refine ⟨?_, by rw [wup_s]; exact Nat.le_refl _⟩
        rw [wup_n (by omega), wup_s]
        exact Nat.le_refl _
      · obtain ⟨g1, g2⟩ := h3 d (by omega)
        constructor
        · unfold wup
          split
          · exact Nat.le_refl _
          · split
            · exact Nat.le_refl _
            · exact g1
        · unfold wup
          split
          · exact Nat.le_refl _
          · split
            · exact Nat.le_refl _
            · exact g2
  · obtain ⟨f, w, rfl, h1, h2, h3⟩ := hs
    have hc : FWc tt 0 w := fun a b L ha hb hL => by
      cases L with
      | zero =>
        have : a = b := hL
        subst this
        rw [h2 a ha]
        exact Nat.le_refl _
      | succ L =>
        obtain ⟨x, g1, g2, g3⟩ := Wk_s.mp hL
        have : L = 0 := by omega
        subst this
        have : x = b := g3
        subst this
        obtain ⟨d, hd, g | g⟩ := adj_door g1
        · have := h3 d hd
          rw [g.1, g.2] at this
          exact this.1
        · have := h3 d hd
          rw [g.1, g.2] at this
          exact this.2
    obtain ⟨f', e, g⟩ := lw_125 (Z := Z) (B := B) (Q := Q) (P := P) (F := F) (q := q) (D := D) (c := c) hT hW h1 hc
    refine ⟨_, ?_, f', rfl, g⟩
    have hT2 : Told (upA A 68 f 58) tt lk lh := hT
    simp (disch := omega) only [f_X12_layWalks_54, if_true, if_false, Bool.false_eq_true, Bool.true_eq_false, y_lit, y_m1, nI_add, pk_mul, fa_and, fa_or, y_bs, if_pos, if_neg, y_shl, y_shr, y_le, y_lt, y_eq, y_sub, y_dv, y_rm, y_b0, y_b1, y_sdf, y_ltM, y_Mlt, y_leM, y_Mle, y_eqM, y_Meq, s_e1, s_e2, s_e3, s_e4, s_e5, s_e6, gf_57_0, ld_58, y_us, y_un, y_vs, y_vn, y_uu, y_vv, ne_eq, not_false_eq_true, not_true_eq_false, hT.1]
    exact e
  · dsimp only
    by_cases e : a = b
    · rw [if_pos e]; exact ⟨Nat.zero_le _, fun _ => e⟩
    · rw [if_neg e]; exact ⟨Nat.le_refl _, fun h => absurd h (Nat.lt_irrefl _)⟩
theorem m_layWalks (hT : Told (A 58) tt lk lh) (hW : HWf tt) : ∃ f, f_X12_layWalks (HH A Z B Q P F q D c) 57 = some (HH (upA A 68 f) Z B Q P F q D c) ∧ ∀ a b, a < tt 1 → b < tt 1 → f (16 * a + b) = nI (way tt a b) := by
  unfold f_X12_layWalks
  have key := loop_I (F := fun n j (s : xH) => f_X12_layWalks_2 n s 57 (nI j)) (N := 16) some (fun j s => ∃ f, s = HH (upA A 68 f) Z B Q P F q D c ∧ ∀ a b, a < j → b < 16 → f (16 * a + b) = nI (if a = b then 0 else FAR)) (fun s => ∃ f, s = HH (upA A 68 f) Z B Q P F q D c ∧ ∀ a b, a < tt 1 → b < tt 1 → f (16 * a + b) = nI (way tt a b)) (fun n j s hj hs => Or.inl ?_) (fun n s hs => ?_) (by omega) (s := HH A Z B Q P F q D c) ⟨A 68, by rw [y_ua], fun a b ha => by omega⟩
  · obtain ⟨s, e1, f, rfl, hf⟩ := key
    exact ⟨f, e1, hf⟩
  · obtain ⟨f, rfl, hf⟩ := hs
    obtain ⟨f', e, g1, g2⟩ := lw_10 (A := A) (Z := Z) (B := B) (Q := Q) (P := P) (F := F) (q := q) (D := D) (c := c) (f_X12_layWalks_2 n) hj f
    refine ⟨_, ?_, f', rfl, fun a b ha hb => ?_⟩
    · simp (disch := omega) only [f_X12_layWalks_2, if_true, if_false, Bool.false_eq_true, Bool.true_eq_false, y_lit, y_m1, nI_add, pk_mul, fa_and, fa_or, y_bs, if_pos, if_neg, y_shl, y_shr, y_le, y_lt, y_eq, y_sub, y_dv, y_rm, y_b0, y_b1, y_sdf, y_ltM, y_Mlt, y_leM, y_Mle, y_eqM, y_Meq, s_e1, s_e2, s_e3, s_e4, s_e5, s_e6]
      exact e
    · by_cases ea : a = j
      · subst ea; exact g2 b hb
      · rw [g1 _ (by omega)]; exact hf a b (by omega) hb
  · obtain ⟨f, rfl, hf⟩ := hs
    obtain ⟨f', e, g⟩ := lw_54 (A := A) (Z := Z) (B := B) (Q := Q) (P := P) (F := F) (q := q) (D := D) (c := c) hT hW hf
    refine ⟨_, ?_, f', rfl, g⟩
    simp (disch := omega) only [f_X12_layWalks_2, if_true, if_false, Bool.false_eq_true, Bool.true_eq_false, y_lit, y_m1, nI_add, pk_mul, fa_and, fa_or, y_bs, if_pos, if_neg, y_shl, y_shr, y_le, y_lt, y_eq, y_sub, y_dv, y_rm, y_b0, y_b1, y_sdf, y_ltM, y_Mlt, y_leM, y_Mle, y_eqM, y_Meq, s_e1, s_e2, s_e3, s_e4, s_e5, s_e6]
    exact e
end Walks
theorem wv_way {tt : Nat → Nat} {a b : Nat} (hb : b < 16) : wv tt (a * 16 + b) = if way tt a b < 1000000 then nI (way tt a b) else nM := by
  have e1 : (a * 16 + b) / 16 = a := by omega
  have e2 : (a * 16 + b) % 16 = b := by omega
  unfold wv way FAR
  rw [e1, e2]
  generalize dst tt a b = d
  by_cases h : a < tt 1 ∧ d < 16
  · rw [if_pos h, if_pos h, if_pos (by omega)]
  · rw [if_neg h, if_neg h, if_neg (by omega)]
theorem oWalk {A : Nat → Nat → Int32} (f : Nat → Int32) : Only SA A (upA A 68 f) := Only.rf.up (by decide)
theorem ok_walk : ∀ x0 x1, ME (fun h => f_L_walk h 0 x0 x1 76) (fun h => f_X12_walk h 57 x0 x1) := by
  intro x y h i hJ hi
  obtain ⟨K, A, Z, B, Q, P, F, q, D, c, tt, lk, lh, R, rfl, hI⟩ := hJ
  have hz := hI.2.1.2.2.2
  obtain ⟨H, hW, hL, hT, hLm⟩ := hI.1
  have hro := hW.ro
  cases hr : rk x (tt 1)
  · refine ME_t hI (k := 1) (b := nI 0) (by decide) ?_ ?_ (oZ182 (nI 0) (nI 1)) rfl
    · simp (disch := omega) only [f_L_walk, f_X11_walk, if_true, if_false, Bool.false_eq_true, Bool.true_eq_false, y_lit, y_m1, nI_add, pk_mul, fa_and, fa_or, y_bs, if_pos, if_neg, y_shl, y_shr, y_le, y_lt, y_eq, y_sub, y_dv, y_rm, y_b0, y_b1, y_sdf, y_ltM, y_Mlt, y_leM, y_Mle, y_eqM, y_Meq, s_e1, s_e2, s_e3, s_e4, s_e5, s_e6, gO_0, c_checkRoom H, hr]
    · simp (disch := omega) only [f_X12_walk, f_X12_walk_21, if_true, if_false, Bool.false_eq_true, Bool.true_eq_false, y_lit, y_m1, nI_add, pk_mul, fa_and, fa_or, y_bs, if_pos, if_neg, y_shl, y_shr, y_le, y_lt, y_eq, y_sub, y_dv, y_rm, y_b0, y_b1, y_sdf, y_ltM, y_Mlt, y_leM, y_Mle, y_eqM, y_Meq, s_e1, s_e2, s_e3, s_e4, s_e5, s_e6, pf_57_4, gO_57, m_isRoom hT hW, hr, m_fails]
  · obtain ⟨a, ha, rfl⟩ := rk_t (by omega) hr
    cases hy : rk y (tt 1)
    · refine ME_t hI (k := 1) (b := nI 0) (by decide) ?_ ?_ (oZ182 (nI 0) (nI 1)) rfl
      · simp (disch := omega) only [f_L_walk, f_X11_walk, if_true, if_false, Bool.false_eq_true, Bool.true_eq_false, y_lit, y_m1, nI_add, pk_mul, fa_and, fa_or, y_bs, if_pos, if_neg, y_shl, y_shr, y_le, y_lt, y_eq, y_sub, y_dv, y_rm, y_b0, y_b1, y_sdf, y_ltM, y_Mlt, y_leM, y_Mle, y_eqM, y_Meq, s_e1, s_e2, s_e3, s_e4, s_e5, s_e6, gO_0, c_checkRoom H, hr, hy]
      · simp (disch := omega) only [f_X12_walk, f_X12_walk_21, if_true, if_false, Bool.false_eq_true, Bool.true_eq_false, y_lit, y_m1, nI_add, pk_mul, fa_and, fa_or, y_bs, if_pos, if_neg, y_shl, y_shr, y_le, y_lt, y_eq, y_sub, y_dv, y_rm, y_b0, y_b1, y_sdf, y_ltM, y_Mlt, y_leM, y_Mle, y_eqM, y_Meq, s_e1, s_e2, s_e3, s_e4, s_e5, s_e6, pf_57_4, gO_57, m_isRoom hT hW, hr, hy, m_fails]
    · obtain ⟨b, hb, rfl⟩ := rk_t (by omega) hy
      obtain ⟨f, e1, hf⟩ := m_layWalks (A := A) (Z := upA Z 18 (nI 0)) (B := oB B (Int32.toInt64 (wv tt (a * 16 + b)))) (Q := Q) (P := P) (F := F) (q := q) (D := D) (c := c) hT hW
      have hw := way_le (tt := tt) (a := a) (b := b)
      unfold FAR at hw
      have hf' := hf a b ha hb
      refine ME_r hI (v := wv tt (a * 16 + b)) (A1 := A) (Z1 := Z) (A2 := upA A 68 f) (Z2 := upA Z 18 (nI 0)) ?_ ?_ (oWalk f) hz (oZ18 _) rfl
      · simp (disch := omega) only [f_L_walk, f_X11_walk, if_true, if_false, Bool.false_eq_true, Bool.true_eq_false, y_lit, y_m1, nI_add, pk_mul, fa_and, fa_or, y_bs, if_pos, if_neg, y_shl, y_shr, y_le, y_lt, y_eq, y_sub, y_dv, y_rm, y_b0, y_b1, y_sdf, y_ltM, y_Mlt, y_leM, y_Mle, y_eqM, y_Meq, s_e1, s_e2, s_e3, s_e4, s_e5, s_e6, gO_0, c_checkRoom H, hr, hy, gf_0_4, hs_15 H, hs_wa H, oB_st]
      · have hwv := wv_way (tt := tt) (a := a) (b := b) (by omega)
        by_cases hlt : way tt a b < 1000000
        · rw [if_pos hlt] at hwv
          rw [hwv] at e1 ⊢
          simp (disch := omega) only [f_X12_walk, if_true, if_false, Bool.false_eq_true, Bool.true_eq_false, y_lit, y_m1, nI_add, pk_mul, fa_and, fa_or, y_bs, if_pos, if_neg, y_shl, y_shr, y_le, y_lt, y_eq, y_sub, y_dv, y_rm, y_b0, y_b1, y_sdf, y_ltM, y_Mlt, y_leM, y_Mle, y_eqM, y_Meq, s_e1, s_e2, s_e3, s_e4, s_e5, s_e6, pf_57_4, gO_57, m_isRoom hT hW, hr, hy, e1, gf_57_21, ld_68, y_us, y_un, y_vs, y_vn, y_uu, y_vv, ne_eq, not_false_eq_true, not_true_eq_false, hf', hlt]
        · rw [if_neg hlt] at hwv
          rw [hwv] at e1 ⊢
          simp (disch := omega) only [f_X12_walk, if_true, if_false, Bool.false_eq_true, Bool.true_eq_false, y_lit, y_m1, nI_add, pk_mul, fa_and, fa_or, y_bs, if_pos, if_neg, y_shl, y_shr, y_le, y_lt, y_eq, y_sub, y_dv, y_rm, y_b0, y_b1, y_sdf, y_ltM, y_Mlt, y_leM, y_Mle, y_eqM, y_Meq, s_e1, s_e2, s_e3, s_e4, s_e5, s_e6, pf_57_4, gO_57, m_isRoom hT hW, hr, hy, e1, gf_57_21, ld_68, y_us, y_un, y_vs, y_vn, y_uu, y_vv, ne_eq, not_false_eq_true, not_true_eq_false, hf', hlt]
