/-! ===== grid ===== -/
def dif (a b : Nat) : Nat := if b ≤ a then a - b else b - a
def bsd (w p o : Nat) : Bool := decide (dif (p % w) (o % w) + dif (p / w) (o / w) = 1)
def nbr (w n p : Nat) : Nat := orf (fun o => if bsd w p o then 2 ^ o else 0) n
def bes (w n p : Nat) : Nat := (((if p % w ≤ 0 then 0 else 2 ^ (p - 1)) ||| (if w - 1 ≤ p % w then 0 else 2 ^ (p + 1))) ||| (if p < w then 0 else 2 ^ (p - w))) ||| (if n ≤ p + w then 0 else 2 ^ (p + w))
def gchk : Bool := allB (fun w => allB (fun h => !decide (w * h ≤ 16) || allB (fun p => decide (bes w (w * h) p = nbr w (w * h) p)) (w * h)) 17) 17
theorem gchk_t : gchk = true := by decide +kernel
theorem bes_nbr {w h p : Nat} (hw : w ≤ 16) (hh : h ≤ 16) (hwh : w * h ≤ 16) (hp : p < w * h) : bes w (w * h) p = nbr w (w * h) p := by
  have h1 := allB_iff.mp gchk_t w (by omega)
  have h2 := allB_iff.mp h1 h (by omega)
  rw [decide_eq_true hwh] at h2
  have h3 : allB (fun p => decide (bes w (w * h) p = nbr w (w * h) p)) (w * h) = true := h2
  exact of_decide_eq_true (allB_iff.mp h3 p hp)
theorem dif_sym (a b : Nat) : dif a b = dif b a := by
  unfold dif
  split <;> split <;> omega
theorem dif_lt {a b : Nat} (ha : a < 100) (hb : b < 100) : dif a b < 100 := by
  unfold dif
  split <;> omega
theorem bsd_sym (w p o : Nat) : bsd w p o = bsd w o p := by
  unfold bsd
  rw [dif_sym (p % w), dif_sym (p / w)]
theorem nbr_lt {w n p : Nat} : nbr w n p < 2 ^ n := orf_lt (fun o ho => by
  split
  · exact n_pw ho
  · exact Nat.two_pow_pos _)
theorem nbr_bit {w n p o : Nat} (ho : o < n) : (nbr w n p).testBit o = bsd w p o := by
  apply Bool.eq_iff_iff.mpr
  unfold nbr
  rw [orf_bit]
  constructor
  · rintro ⟨k, hk, h⟩
    cases hb : bsd w p k
    · rw [hb] at h; simp at h
    · rw [hb] at h
      simp only [if_true] at h
      rw [n_two] at h
      have : k = o := of_decide_eq_true h
      subst this
      exact hb
  · intro h
    refine ⟨o, ho, ?_⟩
    rw [h]
    simp only [if_true]
    rw [n_two]
    exact decide_eq_true rfl
theorem dual_nbr (w n : Nat) : Dual n (nbr w n) (nbr w n) := ⟨fun r x hr hx => by rw [nbr_bit hx, nbr_bit hr, bsd_sym], fun x _ => nbr_lt⟩
theorem y_dif {a b : Nat} (ha : a < 1000000) (hb : b < 1000000) : (if (0 : Int32) ≤ nI a - nI b then nI a - nI b else 0 - (nI a - nI b)) = nI (dif a b) := by
  unfold dif
  by_cases h : b ≤ a
  · rw [if_pos h, y_sub h, if_pos]
    show nI 0 ≤ _
    rw [y_le (by omega) (by omega)]
    omega
  · rw [if_neg h, if_neg, ← y_sub (by omega)]
    · show nI 0 - _ = _
      have e : nI b = nI a + nI (b - a) := by rw [nI_add]; congr 1; omega
      rw [e]
      have e2 : nI a - (nI a + nI (b - a)) = - nI (b - a) := by
        rw [Int32.sub_eq_add_neg, Int32.neg_add, Int32.sub_eq_add_neg, ← Int32.add_assoc, Int32.add_right_neg, Int32.zero_add]
      rw [e2, Int32.sub_eq_add_neg, Int32.neg_neg, Int32.add_comm (nI a), Int32.add_sub_cancel]
      exact Int32.zero_add _
    · intro h0
      have e1 : (nI a).toInt = a := nI_toInt (by omega)
      have e2 : (nI b).toInt = b := nI_toInt (by omega)
      have e3 := Int32.le_iff_toInt_le.mp h0
      rw [fb_subI (by rw [e1, e2]; omega) (by rw [e1, e2]; omega), e1, e2] at e3
      have : (0 : Int32).toInt = 0 := rfl
      omega
section Grid
variable {A : Nat → Nat → Int32} {Z : Nat → Int32} {B : Nat → Nat → Int64} {Q : Nat → Int64} {P : Nat → Option Nat} {F : Nat → Nat → Option Nat} {q : Nat} {D : List xC} {c : Nat × Nat} {K : Nat → Nat} {tt lk lh : Nat → Nat} {R i : Nat}
theorem m_areBeside (h : xH) {p o w : Nat} (hp : p < 17) (ho : o < 17) (hw : 0 < w) (hw2 : w < 17) : f_X12_areBeside h (nI p) (nI o) (nI w) = some (nI (if bsd w p o then 1 else 0)) := by
  have a1 := Nat.mod_lt p hw
  have a2 := Nat.mod_lt o hw
  have a3 := Nat.div_le_self p w
  have a4 := Nat.div_le_self o w
  unfold f_X12_areBeside
  rw [y_rm (by omega) hw (by omega), Option.bind_some, y_rm (by omega) hw (by omega), Option.bind_some, y_dv (by omega) hw (by omega), Option.bind_some, y_dv (by omega) hw (by omega), Option.bind_some, y_dif (by omega) (by omega), y_dif (by omega) (by omega), nI_add]
  have b1 : dif (p % w) (o % w) < 100 := dif_lt (by omega) (by omega)
  have b2 : dif (p / w) (o / w) < 100 := dif_lt (by omega) (by omega)
  unfold bsd
  have b3 : dif (p % w) (o % w) + dif (p / w) (o / w) < 200 := by omega
  generalize dif (p % w) (o % w) + dif (p / w) (o / w) = s at *
  by_cases hs : s = 1
  · subst hs; rfl
  · rw [if_neg (by show ¬ nI s = nI 1; rw [y_eq (by omega) (by omega)]; exact hs), decide_eq_false hs]
    rfl
theorem mg_74 (k57 : xH → Nat → Int32 → Int32 → Int32 → Option (Int32 × xH)) {w n p : Nat} (hw : 0 < w) (hw2 : w ≤ 16) (hn : n ≤ 16) (hp : p < n) (f0 : Nat → Int32) (h0 : f0 p = nI 0) : ∃ f, f_X12_grid_74 k57 xFU (HH (upA A 67 f0) Z B Q P F q D c) 57 (nI w) (nI n) (nI p) (nI 0) = k57 (HH (upA A 67 f) Z B Q P F q D c) 57 (nI w) (nI n) (nI (p + 1)) ∧ (∀ k, k ≠ p → f k = f0 k) ∧ f p = nI (nbr w n p) := by
  have key := loop_J (F := fun m j (s : xH) => f_X12_grid_74 k57 m s 57 (nI w) (nI n) (nI p) (nI j)) (N := n) (fun s => k57 s 57 (nI w) (nI n) (nI (p + 1))) (fun j s => ∃ f, s = HH (upA A 67 f) Z B Q P F q D c ∧ (∀ k, k ≠ p → f k = f0 k) ∧ f p = nI (orf (fun o => if bsd w p o then 2 ^ o else 0) j)) (fun m j s hj hs => ?_) (fun m s hs => ?_) (by omega) (s := HH (upA A 67 f0) Z B Q P F q D c) ⟨f0, rfl, fun _ _ => rfl, h0⟩
  · obtain ⟨s, e1, f, rfl, hf⟩ := key
    exact ⟨f, e1, hf⟩
  · obtain ⟨f, rfl, h1, h2⟩ := hs
    have e0 := m_areBeside (HH (upA A 67 f) Z B Q P F q D c) (p := p) (o := j) (w := w) (by omega) (by omega) hw (by omega)
    refine ⟨_, ?_, va_up f p (nI (orf (fun o => if bsd w p o then 2 ^ o else 0) (j + 1))), rfl, fun k hk => ?_, y_vs⟩
    · rw [orf]
      cases hb : bsd w p j
      · rw [hb] at e0
        simp (disch := omega) only [f_X12_grid_74, f_X12_grid_107, if_true, if_false, Bool.false_eq_true, Bool.true_eq_false, y_lit, y_m1, nI_add, pk_mul, fa_and, fa_or, y_bs, if_pos, if_neg, y_shl, y_shr, y_le, y_lt, y_eq, y_sub, y_dv, y_rm, y_b0, y_b1, y_sdf, y_ltM, y_Mlt, y_leM, y_Mle, y_eqM, y_Meq, s_e1, s_e2, s_e3, s_e4, s_e5, s_e6, gf_57_20, ld_67, st_67, y_us, y_un, y_vs, y_vn, y_uu, y_vv, ne_eq, not_false_eq_true, not_true_eq_false, e0, h2]
      · rw [hb] at e0
        simp (disch := omega) only [f_X12_grid_74, f_X12_grid_107, if_true, if_false, Bool.false_eq_true, Bool.true_eq_false, y_lit, y_m1, nI_add, pk_mul, fa_and, fa_or, y_bs, if_pos, if_neg, y_shl, y_shr, y_le, y_lt, y_eq, y_sub, y_dv, y_rm, y_b0, y_b1, y_sdf, y_ltM, y_Mlt, y_leM, y_Mle, y_eqM, y_Meq, s_e1, s_e2, s_e3, s_e4, s_e5, s_e6, gf_57_20, ld_67, st_67, y_us, y_un, y_vs, y_vn, y_uu, y_vv, ne_eq, not_false_eq_true, not_true_eq_false, e0, h2]
    · rw [y_vn hk]; exact h1 k hk
  · obtain ⟨f, rfl, h1, h2⟩ := hs
    simp (disch := omega) only [f_X12_grid_74, if_true, if_false, Bool.false_eq_true, Bool.true_eq_false, y_lit, y_m1, nI_add, pk_mul, fa_and, fa_or, y_bs, if_pos, if_neg, y_shl, y_shr, y_le, y_lt, y_eq, y_sub, y_dv, y_rm, y_b0, y_b1, y_sdf, y_ltM, y_Mlt, y_leM, y_Mle, y_eqM, y_Meq, s_e1, s_e2, s_e3, s_e4, s_e5, s_e6]
theorem mg_163 (k127 : xH → Nat → Int32 → Int32 → Int32 → Option (Int32 × xH)) {nx : Nat → Nat} {n S : Nat} {l4 : Int32} (hn : n ≤ 16) (hx : ∀ r, r < n → A 67 r = nI (nx r)) (hx2 : ∀ r, nx r < 65536) (hS : S < 65536) : f_X12_grid_163 k127 xFU (HH A Z B Q P F q D c) 57 (nI n) l4 (nI S) (nI 1) (nI 0) = k127 (HH A Z B Q P F q D c) 57 (nI n) (if litB nx n S (2 ^ n - 1) then nI S else l4) (nI (S + 1)) := by
  have key := loop_I (F := fun m j (s : Bool) => f_X12_grid_163 k127 m (HH A Z B Q P F q D c) 57 (nI n) l4 (nI S) (nI (if s then 1 else 0)) (nI j)) (N := n) (fun s => k127 (HH A Z B Q P F q D c) 57 (nI n) (if s = true then nI S else l4) (nI (S + 1))) (fun j s => s = allB (fun r => !(2 ^ n - 1).testBit r || decide (nx r &&& S ≠ 0)) j) (fun r => r = litB nx n S (2 ^ n - 1)) (fun m j s hj hs => ?_) (fun m s hs => ?_) (by omega) (s := true) rfl
  · obtain ⟨r, e1, rfl⟩ := key
    exact e1
  · have l1 : nx j &&& S < 65536 := n_and_ltl (k := 16) (hx2 j)
    have hb : (2 ^ n - 1).testBit j = true := by rw [all_bit]; exact decide_eq_true hj
    cases s
    · right
      refine ⟨false, ?_, ?_⟩
      · simp (disch := omega) only [f_X12_grid_163, f_X12_grid_200, if_true, if_false, Bool.false_eq_true, Bool.true_eq_false, y_lit, y_m1, nI_add, pk_mul, fa_and, fa_or, y_bs, if_pos, if_neg, y_shl, y_shr, y_le, y_lt, y_eq, y_sub, y_dv, y_rm, y_b0, y_b1, y_sdf, y_ltM, y_Mlt, y_leM, y_Mle, y_eqM, y_Meq, s_e1, s_e2, s_e3, s_e4, s_e5, s_e6]
      · by_cases hl : litB nx n S (2 ^ n - 1) = true
        · have := allB_iff.mp hl
          rw [allB_t (fun i hi => this i (by omega))] at hs
          cases hs
        · exact (Bool.eq_false_iff.mpr hl).symm
    · left
      by_cases hz : nx j &&& S = 0
      · refine ⟨false, ?_, ?_⟩
        · simp (disch := omega) only [f_X12_grid_163, if_true, if_false, Bool.false_eq_true, Bool.true_eq_false, y_lit, y_m1, nI_add, pk_mul, fa_and, fa_or, y_bs, if_pos, if_neg, y_shl, y_shr, y_le, y_lt, y_eq, y_sub, y_dv, y_rm, y_b0, y_b1, y_sdf, y_ltM, y_Mlt, y_leM, y_Mle, y_eqM, y_Meq, s_e1, s_e2, s_e3, s_e4, s_e5, s_e6, gf_57_20, ld_67, hx, hz]
        · rw [allB, ← hs, hb, hz]; rfl
      · refine ⟨true, ?_, ?_⟩
        · simp (disch := omega) only [f_X12_grid_163, if_true, if_false, Bool.false_eq_true, Bool.true_eq_false, y_lit, y_m1, nI_add, pk_mul, fa_and, fa_or, y_bs, if_pos, if_neg, y_shl, y_shr, y_le, y_lt, y_eq, y_sub, y_dv, y_rm, y_b0, y_b1, y_sdf, y_ltM, y_Mlt, y_leM, y_Mle, y_eqM, y_Meq, s_e1, s_e2, s_e3, s_e4, s_e5, s_e6, gf_57_20, ld_67, hx, hz]
        · rw [allB, ← hs, hb]; simp [hz]
  · refine ⟨s, ?_, hs⟩
    cases s
    · simp (disch := omega) only [f_X12_grid_163, f_X12_grid_200, if_true, if_false, Bool.false_eq_true, Bool.true_eq_false, y_lit, y_m1, nI_add, pk_mul, fa_and, fa_or, y_bs, if_pos, if_neg, y_shl, y_shr, y_le, y_lt, y_eq, y_sub, y_dv, y_rm, y_b0, y_b1, y_sdf, y_ltM, y_Mlt, y_leM, y_Mle, y_eqM, y_Meq, s_e1, s_e2, s_e3, s_e4, s_e5, s_e6]
    · simp (disch := omega) only [f_X12_grid_163, f_X12_grid_200, if_true, if_false, Bool.false_eq_true, Bool.true_eq_false, y_lit, y_m1, nI_add, pk_mul, fa_and, fa_or, y_bs, if_pos, if_neg, y_shl, y_shr, y_le, y_lt, y_eq, y_sub, y_dv, y_rm, y_b0, y_b1, y_sdf, y_ltM, y_Mlt, y_leM, y_Mle, y_eqM, y_Meq, s_e1, s_e2, s_e3, s_e4, s_e5, s_e6]
theorem mg_127 {nx : Nat → Nat} {n : Nat} (hn : n ≤ 16) (hx : ∀ r, r < n → A 67 r = nI (nx r)) (hx2 : ∀ r, nx r < 65536) : f_X12_grid_127 xFU (HH A Z B Q P F q D c) 57 (nI n) nM (nI 0) = some (eo (bst (fun S => litB nx n S (2 ^ n - 1)) (2 ^ n)), HH A Z B Q P F q D c) := by
  have hpw := pw16 hn
  have hpp := Nat.two_pow_pos n
  refine loop0 (F := fun m k (s : Option Nat) => f_X12_grid_127 m (HH A Z B Q P F q D c) 57 (nI n) (eo s) (nI k)) (N := 2 ^ n) (st := fun k => bst (fun S => litB nx n S (2 ^ n - 1)) k) (fun m k hk => ?_) (fun m => ?_) (by omega)
  · have e0 : ∀ l4, _ := fun l4 => mg_163 (Z := Z) (B := B) (Q := Q) (P := P) (F := F) (q := q) (D := D) (c := c) (f_X12_grid_127 m) (l4 := l4) hn hx hx2 (S := k) (by omega)
    have pk : pc k ≤ 64 := pc_le k
    rw [bst]
    cases hs : bst (fun S => litB nx n S (2 ^ n - 1)) k with
    | none =>
      simp only [eo]
      rw [f_X12_grid_127]
      simp (disch := omega) only [f_X12_grid_157, if_true, if_false, Bool.false_eq_true, Bool.true_eq_false, y_lit, y_m1, nI_add, pk_mul, fa_and, fa_or, y_bs, if_pos, if_neg, y_shl, y_shr, y_le, y_lt, y_eq, y_sub, y_dv, y_rm, y_b0, y_b1, y_sdf, y_ltM, y_Mlt, y_leM, y_Mle, y_eqM, y_Meq, s_e1, s_e2, s_e3, s_e4, s_e5, s_e6]
      rw [e0]
      cases hv : litB nx n k (2 ^ n - 1) <;> rfl
    | some b =>
      have hb := bst_lt hs
      have pb : pc b ≤ 64 := pc_le b
      simp only [eo]
      rw [f_X12_grid_127]
      by_cases hp : pc k < pc b
      · simp (disch := omega) only [f_X12_grid_157, if_true, if_false, Bool.false_eq_true, Bool.true_eq_false, y_lit, y_m1, nI_add, pk_mul, fa_and, fa_or, y_bs, if_pos, if_neg, y_shl, y_shr, y_le, y_lt, y_eq, y_sub, y_dv, y_rm, y_b0, y_b1, y_sdf, y_ltM, y_Mlt, y_leM, y_Mle, y_eqM, y_Meq, s_e1, s_e2, s_e3, s_e4, s_e5, s_e6, ones_spec]
        rw [e0]
        cases hv : litB nx n k (2 ^ n - 1)
        · have h9 : ¬ (pc k < pc b ∧ false = true) := fun h => Bool.false_ne_true h.2
          rw [if_neg h9]; rfl
        · have h9 : pc k < pc b ∧ true = true := ⟨hp, rfl⟩
          rw [if_pos h9]; rfl
      · have h9 : ¬ (pc k < pc b ∧ litB nx n k (2 ^ n - 1) = true) := fun h => hp h.1
        rw [if_neg h9]
        simp (disch := omega) only [if_true, if_false, Bool.false_eq_true, Bool.true_eq_false, y_lit, y_m1, nI_add, pk_mul, fa_and, fa_or, y_bs, if_pos, if_neg, y_shl, y_shr, y_le, y_lt, y_eq, y_sub, y_dv, y_rm, y_b0, y_b1, y_sdf, y_ltM, y_Mlt, y_leM, y_Mle, y_eqM, y_Meq, s_e1, s_e2, s_e3, s_e4, s_e5, s_e6, ones_spec]
  · rw [f_X12_grid_127]
    simp (disch := omega) only [if_true, if_false, Bool.false_eq_true, Bool.true_eq_false, y_lit, y_m1, nI_add, pk_mul, fa_and, fa_or, y_bs, if_pos, if_neg, y_shl, y_shr, y_le, y_lt, y_eq, y_sub, y_dv, y_rm, y_b0, y_b1, y_sdf, y_ltM, y_Mlt, y_leM, y_Mle, y_eqM, y_Meq, s_e1, s_e2, s_e3, s_e4, s_e5, s_e6]
theorem mg_57 {w n : Nat} (hw : 0 < w) (hw2 : w ≤ 16) (hn : n ≤ 16) : ∃ f, f_X12_grid_57 xFU (HH A Z B Q P F q D c) 57 (nI w) (nI n) (nI 0) = some (eo (bst (fun S => litB (nbr w n) n S (2 ^ n - 1)) (2 ^ n)), HH (upA A 67 f) Z B Q P F q D c) := by
  have hpw := pw16 hn
  have key := loop_I (F := fun m j (s : xH) => f_X12_grid_57 m s 57 (nI w) (nI n) (nI j)) (N := n) some (fun j s => ∃ f, s = HH (upA A 67 f) Z B Q P F q D c ∧ ∀ r, r < j → f r = nI (nbr w n r)) (fun s => ∃ f, s = (eo (bst (fun S => litB (nbr w n) n S (2 ^ n - 1)) (2 ^ n)), HH (upA A 67 f) Z B Q P F q D c)) (fun m j s hj hs => Or.inl ?_) (fun m s hs => ?_) (by omega) (s := HH A Z B Q P F q D c) ⟨A 67, by rw [y_ua], fun r hr => by omega⟩
  · obtain ⟨s, e1, f, rfl⟩ := key
    exact ⟨f, e1⟩
  · obtain ⟨f, rfl, hf⟩ := hs
    obtain ⟨f', e, g1, g2⟩ := mg_74 (A := A) (Z := Z) (B := B) (Q := Q) (P := P) (F := F) (q := q) (D := D) (c := c) (f_X12_grid_57 m) hw hw2 hn hj (va_up f j (nI 0)) y_vs
    refine ⟨_, ?_, f', rfl, fun r hr => ?_⟩
    · rw [f_X12_grid_57]
      simp (disch := omega) only [if_true, if_false, Bool.false_eq_true, Bool.true_eq_false, y_lit, y_m1, nI_add, pk_mul, fa_and, fa_or, y_bs, if_pos, if_neg, y_shl, y_shr, y_le, y_lt, y_eq, y_sub, y_dv, y_rm, y_b0, y_b1, y_sdf, y_ltM, y_Mlt, y_leM, y_Mle, y_eqM, y_Meq, s_e1, s_e2, s_e3, s_e4, s_e5, s_e6, gf_57_20, st_67, y_us, y_un, y_vs, y_vn, y_uu, y_vv, ne_eq, not_false_eq_true, not_true_eq_false]
      exact e
    · by_cases er : r = j
      · subst er; exact g2
      · rw [g1 r er, y_vn er]; exact hf r (by omega)
  · obtain ⟨f, rfl, hf⟩ := hs
    refine ⟨_, ?_, f, rfl⟩
    rw [f_X12_grid_57]
    simp (disch := omega) only [if_true, if_false, Bool.false_eq_true, Bool.true_eq_false, y_lit, y_m1, nI_add, pk_mul, fa_and, fa_or, y_bs, if_pos, if_neg, y_shl, y_shr, y_le, y_lt, y_eq, y_sub, y_dv, y_rm, y_b0, y_b1, y_sdf, y_ltM, y_Mlt, y_leM, y_Mle, y_eqM, y_Meq, s_e1, s_e2, s_e3, s_e4, s_e5, s_e6]
    exact mg_127 hn (fun r hr => by rw [y_us]; exact hf r hr) (fun r => Nat.lt_of_lt_of_le nbr_lt hpw)
end Grid
