/-! ===== sooner ===== -/
def tls (b : Nat → Int64) (s : Nat) : Nat → Int64
  | 0 => 0
  | j + 1 => if s.testBit j then tls b s j + b j else tls b s j
def wrg (tt : Nat → Nat) (b : Nat → Int64) (s : Nat) : Bool := decide (¬ lg_cmp (Int32.toInt64 (nI (sav tt s))) (tls b s (tt 1)) ≤ 0)
/-- the least set that is wronged -/
def fwr (tt : Nat → Nat) (b : Nat → Int64) : Int32 := if fa_first (fun j => wrg tt b (j + 1)) (2 ^ tt 1 - 1) < 2 ^ tt 1 - 1 then nI (fa_first (fun j => wrg tt b (j + 1)) (2 ^ tt 1 - 1) + 1) else nM
theorem fwr_y {tt : Nat → Nat} {b : Nat → Int64} {j : Nat} (hj : j < 2 ^ tt 1 - 1) (h : ∀ k, k < j → wrg tt b (k + 1) = false) (h1 : wrg tt b (j + 1) = true) : fwr tt b = nI (j + 1) := by
  unfold fwr
  rw [first_eq (p := fun j => wrg tt b (j + 1)) hj h1 h, if_pos hj]
theorem fwr_n {tt : Nat → Nat} {b : Nat → Int64} (h : ∀ k, k < 2 ^ tt 1 - 1 → wrg tt b (k + 1) = false) : fwr tt b = nM := by
  unfold fwr
  rw [if_neg]
  intro hl
  have h1 := fa_first_yes (fun j => wrg tt b (j + 1)) (2 ^ tt 1 - 1) hl
  rw [h _ hl] at h1
  cases h1
section Soon
variable {A : Nat → Nat → Int32} {Z : Nat → Int32} {B : Nat → Nat → Int64} {Q : Nat → Int64} {P : Nat → Option Nat} {F : Nat → Nat → Option Nat} {q : Nat} {D : List xC} {c : Nat × Nat} {K : Nat → Nat} {tt lk lh : Nat → Nat} {R i : Nat}
theorem c_wr33 (H : Hs K D q tt) (hW : HWf tt) (k8 : xH → Nat → Nat → Nat → Int32 → Int32 → Option (Int32 × xH)) {s t : Nat} (ht : t < 4) (hs : s < 1024) (h56 : A 56 s = nI (sav tt s)) : f_X9_firstWronged_33 k8 xFU (HH A Z B Q P F q D c) 53 q 17 (nI t) (nI s) 0 (nI 0) = if wrg tt (fun k => B 18 (40 * t + k)) s = true then some (nI s, HH A Z B Q P F q D c) else k8 (HH A Z B Q P F q D c) 53 q 17 (nI t) (nI (s + 1)) := by
  have hro := hW.ro
  refine loop0 (F := fun m j (x : Int64) => f_X9_firstWronged_33 k8 m (HH A Z B Q P F q D c) 53 q 17 (nI t) (nI s) x (nI j)) (N := tt 1) (st := fun j => tls (fun k => B 18 (40 * t + k)) s j) (fun m j hj => ?_) (fun m => ?_) (by omega)
  · rw [tls]
    cases hb : s.testBit j
    · simp (disch := omega) only [f_X9_firstWronged_33, if_true, if_false, Bool.false_eq_true, Bool.true_eq_false, y_lit, y_m1, nI_add, pk_mul, fa_and, fa_or, y_bs, if_pos, if_neg, y_shl, y_shr, y_le, y_lt, y_eq, y_sub, y_dv, y_rm, y_b0, y_b1, y_sdf, y_ltM, y_Mlt, y_leM, y_Mle, y_eqM, y_Meq, s_e1, s_e2, s_e3, s_e4, s_e5, s_e6, hs_1 H, hb]
    · simp (disch := omega) only [f_X9_firstWronged_33, if_true, if_false, Bool.false_eq_true, Bool.true_eq_false, y_lit, y_m1, nI_add, pk_mul, fa_and, fa_or, y_bs, if_pos, if_neg, y_shl, y_shr, y_le, y_lt, y_eq, y_sub, y_dv, y_rm, y_b0, y_b1, y_sdf, y_ltM, y_Mlt, y_leM, y_Mle, y_eqM, y_Meq, s_e1, s_e2, s_e3, s_e4, s_e5, s_e6, hs_1 H, hb, gO_17, c_numberAt]
  · rw [f_X9_firstWronged_33, hs_1 H, Option.bind_some, if_pos (by rw [y_le (by omega) (by omega)]; exact Nat.le_refl _), gf_53_3, Option.bind_some, ld_56 hs, Option.bind_some, h56]
    unfold wrg
    by_cases e : lg_cmp (Int32.toInt64 (nI (sav tt s))) (tls (fun k => B 18 (40 * t + k)) s (tt 1)) ≤ 0
    · rw [if_pos e, decide_eq_false (fun h => h e), if_neg Bool.false_ne_true, show (1 : Int32) = nI 1 from rfl, nI_add]
    · rw [if_neg e, if_pos (decide_eq_true e)]
theorem c_wr8 (H : Hs K D q tt) (hW : HWf tt) (h10 : tt 1 ≤ 10) {t : Nat} (ht : t < 4) (h56 : ∀ s, s < 2 ^ tt 1 → A 56 s = nI (sav tt s)) : f_X9_firstWronged_8 xFU (HH A Z B Q P F q D c) 53 q 17 (nI t) (nI 1) = some (fwr tt (fun k => B 18 (40 * t + k)), HH A Z B Q P F q D c) := by
  have hpw : 2 ^ tt 1 ≤ 1024 := n_pwl (m := 10) h10
  have hpp := Nat.two_pow_pos (tt 1)
  have key := loop_I (F := fun m j (s : Unit) => f_X9_firstWronged_8 m (HH A Z B Q P F q D c) 53 q 17 (nI t) (nI (j + 1))) (N := 2 ^ tt 1 - 1) some (fun j _ => ∀ k, k < j → wrg tt (fun k => B 18 (40 * t + k)) (k + 1) = false) (fun r => r = (fwr tt (fun k => B 18 (40 * t + k)), HH A Z B Q P F q D c)) (fun m j s hj hs => ?_) (fun m s hs => ?_) (by omega) (s := ()) (fun k hk => by omega)
  · obtain ⟨r, e1, rfl⟩ := key
    exact e1
  · have e0 := c_wr33 (A := A) (Z := Z) (B := B) (Q := Q) (P := P) (F := F) (c := c) H hW (f_X9_firstWronged_8 m) ht (s := j + 1) (by omega) (h56 (j + 1) (by omega))
    have e1 : f_X9_firstWronged_8 (m + 1) (HH A Z B Q P F q D c) 53 q 17 (nI t) (nI (j + 1)) = f_X9_firstWronged_33 (f_X9_firstWronged_8 m) xFU (HH A Z B Q P F q D c) 53 q 17 (nI t) (nI (j + 1)) 0 (nI 0) := by
      rw [f_X9_firstWronged_8, gf_53_3, Option.bind_some, al_56, Option.bind_some, if_neg (by rw [y_le (by omega) (by omega)]; omega), hs_gO H, Option.bind_some, c_allRooms H hW, Option.bind_some, if_neg (by rw [y_lt (by omega) (by omega)]; omega)]
      rfl
    cases hw : wrg tt (fun k => B 18 (40 * t + k)) (j + 1)
    · left
      rw [hw, if_neg (by decide)] at e0
      refine ⟨(), e1.trans e0, fun k hk => ?_⟩
      by_cases e : k = j
      · subst e; exact hw
      · exact hs k (by omega)
    · right
      rw [hw, if_pos rfl] at e0
      refine ⟨_, e1.trans e0, ?_⟩
      rw [fwr_y hj hs hw]
  · refine ⟨_, ?_, rfl⟩
    rw [fwr_n hs]
    have en : 2 ^ tt 1 - 1 + 1 = 2 ^ tt 1 := by omega
    rw [en, f_X9_firstWronged_8, gf_53_3, Option.bind_some, al_56, Option.bind_some]
    by_cases e : 1024 ≤ 2 ^ tt 1
    · rw [if_pos (by rw [y_le (by omega) (by omega)]; exact e)]
      rfl
    · rw [if_neg (by rw [y_le (by omega) (by omega)]; exact e), hs_gO H, Option.bind_some, c_allRooms H hW, Option.bind_some, if_pos (by rw [y_lt (by omega) (by omega)]; omega)]
      rfl
theorem m_so147 (hT : Told (A 58) tt lk lh) (hW : HWf tt) (k133 : xH → Nat → Int32 → Int32 → Option (Int32 × xH)) {s t : Nat} (ht : t < 4) (hs : s < 1024) (h70 : A 70 s = nI (sav tt s)) : f_X12_sooner_147 k133 xFU (HH A Z B Q P F q D c) 57 (nI t) (nI s) 0 (nI 0) = if wrg tt (fun k => B 75 (40 * t + k)) s = true then some (nI s, HH A Z B Q P F q D c) else k133 (HH A Z B Q P F q D c) 57 (nI t) (nI (s + 1)) := by
  have hro := hW.ro
  refine loop0 (F := fun m j (x : Int64) => f_X12_sooner_147 k133 m (HH A Z B Q P F q D c) 57 (nI t) (nI s) x (nI j)) (N := tt 1) (st := fun j => tls (fun k => B 75 (40 * t + k)) s j) (fun m j hj => ?_) (fun m => ?_) (by omega)
  · rw [tls]
    cases hb : s.testBit j
    · simp (disch := omega) only [f_X12_sooner_147, f_X12_sooner_183, if_true, if_false, Bool.false_eq_true, Bool.true_eq_false, y_lit, y_m1, nI_add, pk_mul, fa_and, fa_or, y_bs, if_pos, if_neg, y_shl, y_shr, y_le, y_lt, y_eq, y_sub, y_dv, y_rm, y_b0, y_b1, y_sdf, y_ltM, y_Mlt, y_leM, y_Mle, y_eqM, y_Meq, s_e1, s_e2, s_e3, s_e4, s_e5, s_e6, gO_57, m_rooms hT, has_spec, hb]
      rw [show ∀ x : Int64, x + 0 = x from fun x => Int64.add_zero x]
    · simp (disch := omega) only [f_X12_sooner_147, f_X12_sooner_183, if_true, if_false, Bool.false_eq_true, Bool.true_eq_false, y_lit, y_m1, nI_add, pk_mul, fa_and, fa_or, y_bs, if_pos, if_neg, y_shl, y_shr, y_le, y_lt, y_eq, y_sub, y_dv, y_rm, y_b0, y_b1, y_sdf, y_ltM, y_Mlt, y_leM, y_Mle, y_eqM, y_Meq, s_e1, s_e2, s_e3, s_e4, s_e5, s_e6, gO_57, m_rooms hT, has_spec, hb, gf_57_31, ld_75]
  · rw [f_X12_sooner_147, gO_57, Option.bind_some, m_rooms hT, Option.bind_some, if_pos (by rw [y_le (by omega) (by omega)]; exact Nat.le_refl _), gf_57_23, Option.bind_some, ld_70 hs, Option.bind_some, h70]
    unfold wrg
    by_cases e : lg_cmp (Int32.toInt64 (nI (sav tt s))) (tls (fun k => B 75 (40 * t + k)) s (tt 1)) ≤ 0
    · rw [if_pos e, decide_eq_false (fun h => h e), if_neg Bool.false_ne_true, show (1 : Int32) = nI 1 from rfl, nI_add]
    · rw [if_neg e, if_pos (decide_eq_true e)]
theorem m_so133 (hT : Told (A 58) tt lk lh) (hW : HWf tt) (h10 : tt 1 ≤ 10) {t : Nat} (ht : t < 4) (h70 : ∀ s, s < 2 ^ tt 1 → A 70 s = nI (sav tt s)) : f_X12_sooner_133 xFU (HH A Z B Q P F q D c) 57 (nI t) (nI 1) = some (fwr tt (fun k => B 75 (40 * t + k)), HH A Z B Q P F q D c) := by
  have hpw : 2 ^ tt 1 ≤ 1024 := n_pwl (m := 10) h10
  have hpp := Nat.two_pow_pos (tt 1)
  have key := loop_I (F := fun m j (s : Unit) => f_X12_sooner_133 m (HH A Z B Q P F q D c) 57 (nI t) (nI (j + 1))) (N := 2 ^ tt 1 - 1) some (fun j _ => ∀ k, k < j → wrg tt (fun k => B 75 (40 * t + k)) (k + 1) = false) (fun r => r = (fwr tt (fun k => B 75 (40 * t + k)), HH A Z B Q P F q D c)) (fun m j s hj hs => ?_) (fun m s hs => ?_) (by omega) (s := ()) (fun k hk => by omega)
  · obtain ⟨r, e1, rfl⟩ := key
    exact e1
  · have e0 := m_so147 (A := A) (Z := Z) (B := B) (Q := Q) (P := P) (F := F) (q := q) (D := D) (c := c) hT hW (f_X12_sooner_133 m) ht (s := j + 1) (by omega) (h70 (j + 1) (by omega))
    have e1 : f_X12_sooner_133 (m + 1) (HH A Z B Q P F q D c) 57 (nI t) (nI (j + 1)) = f_X12_sooner_147 (f_X12_sooner_133 m) xFU (HH A Z B Q P F q D c) 57 (nI t) (nI (j + 1)) 0 (nI 0) := by
      rw [f_X12_sooner_133, gO_57, Option.bind_some, m_all hT hW, Option.bind_some, if_neg (by rw [y_lt (by omega) (by omega)]; omega)]
      rfl
    cases hw : wrg tt (fun k => B 75 (40 * t + k)) (j + 1)
    · left
      rw [hw, if_neg (by decide)] at e0
      refine ⟨(), e1.trans e0, fun k hk => ?_⟩
      by_cases e : k = j
      · subst e; exact hw
      · exact hs k (by omega)
    · right
      rw [hw, if_pos rfl] at e0
      refine ⟨_, e1.trans e0, ?_⟩
      rw [fwr_y hj hs hw]
  · refine ⟨_, ?_, rfl⟩
    rw [fwr_n hs]
    have en : 2 ^ tt 1 - 1 + 1 = 2 ^ tt 1 := by omega
    rw [en, f_X12_sooner_133, gO_57, Option.bind_some, m_all hT hW, Option.bind_some, if_pos (by rw [y_lt (by omega) (by omega)]; omega)]
    rfl
end Soon
