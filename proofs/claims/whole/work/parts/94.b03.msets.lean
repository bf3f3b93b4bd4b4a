/-! ===== the reference's sets ===== -/
def allB (p : Nat → Bool) : Nat → Bool
  | 0 => true
  | n + 1 => allB p n && p n
theorem allB_iff {p : Nat → Bool} : ∀ {n : Nat}, allB p n = true ↔ ∀ i, i < n → p i = true
  | 0 => ⟨fun _ i h => absurd h (Nat.not_lt_zero i), fun _ => rfl⟩
  | n + 1 => by
    rw [allB, Bool.and_eq_true, allB_iff]
    constructor
    · rintro ⟨h1, h2⟩ i hi
      by_cases e : i = n
      · subst e; exact h2
      · exact h1 i (by omega)
    · intro h
      exact ⟨fun i hi => h i (by omega), h n (by omega)⟩
theorem allB_f {p : Nat → Bool} {n k : Nat} (hk : k < n) (h : p k = false) : allB p n = false := by
  cases e : allB p n
  · rfl
  · rw [allB_iff.mp e k hk] at h; cases h
theorem allB_t {p : Nat → Bool} {n : Nat} (h : ∀ i, i < n → p i = true) : allB p n = true := allB_iff.mpr h
def litB (nx : Nat → Nat) (n S o : Nat) : Bool := allB (fun r => !o.testBit r || decide (nx r &&& S ≠ 0)) n
def twiB (nx : Nat → Nat) (n S : Nat) : Bool := allB (fun r => decide (2 ≤ pc (nx r &&& S))) n
def apaB (nx ht : Nat → Nat) (n S : Nat) : Bool := allB (fun r => decide (nx r &&& S &&& ht r = 0)) n
def bst (V : Nat → Bool) : Nat → Option Nat
  | 0 => none
  | k + 1 => match bst V k with
    | none => if V k then some k else none
    | some b => if pc k < pc b ∧ V k = true then some k else some b
theorem bst_ok (V : Nat → Bool) : ∀ k, match bst V k with
    | none => ∀ T, T < k → V T = false
    | some S => S < k ∧ V S = true ∧ ∀ T, T < k → V T = true → pc S < pc T ∨ (pc S = pc T ∧ S ≤ T)
  | 0 => fun T h => absurd h (Nat.not_lt_zero T)
  | k + 1 => by
    have ih := bst_ok V k
    rw [bst]
    cases hb : bst V k with
    | none =>
      rw [hb] at ih
      simp only at ih ⊢
      cases hv : V k
      · simp only [Bool.false_eq_true, if_false]
        intro T hT
        by_cases e : T = k
        · subst e; exact hv
        · exact ih T (by omega)
      · simp only [if_true]
        refine ⟨by omega, hv, fun T hT h => ?_⟩
        by_cases e : T = k
        · subst e; right; exact ⟨rfl, Nat.le_refl _⟩
        · rw [ih T (by omega)] at h; cases h
    | some b =>
      rw [hb] at ih
      simp only at ih ⊢
      obtain ⟨a1, a2, a3⟩ := ih
      by_cases h : pc k < pc b ∧ V k = true
      · rw [if_pos h]
        simp only
        refine ⟨by omega, h.2, fun T hT hv => ?_⟩
        by_cases e : T = k
        · subst e; right; exact ⟨rfl, Nat.le_refl _⟩
        · have := a3 T (by omega) hv
          omega
      · rw [if_neg h]
        simp only
        refine ⟨by omega, a2, fun T hT hv => ?_⟩
        by_cases e : T = k
        · subst e
          have : ¬ pc T < pc b := fun hh => h ⟨hh, hv⟩
          omega
        · exact a3 T (by omega) hv
theorem bst_best {V : Nat → Bool} {n : Nat} : BestF (fun S => V S = true) n (bst V (2 ^ n)) := by
  have h := bst_ok V (2 ^ n)
  cases hb : bst V (2 ^ n) with
  | none =>
    rw [hb] at h
    intro T hT hv
    rw [h T hT] at hv
    cases hv
  | some S =>
    rw [hb] at h
    exact h
theorem bst_lt {V : Nat → Bool} {k S : Nat} (h : bst V k = some S) : S < k := by
  have := bst_ok V k
  rw [h] at this
  exact this.1
section MSets
variable {A : Nat → Nat → Int32} {Z : Nat → Int32} {B : Nat → Nat → Int64} {Q : Nat → Int64} {P : Nat → Option Nat} {F : Nat → Nat → Option Nat} {q : Nat} {D : List xC} {c : Nat × Nat} {K : Nat → Nat} {tt lk lh : Nat → Nat} {R i : Nat}
theorem m_layNexts (hT : Told (A 58) tt lk lh) (hW : HWf tt) : ∃ f, f_X12_layNexts (HH A Z B Q P F q D c) 57 = some (HH (upA A 63 f) Z B Q P F q D c) ∧ ∀ r, r < tt 1 → f r = nI (nxt tt r) := by
  have hro := hW.ro
  unfold f_X12_layNexts
  have key := loop_J (F := fun n i (s : xH) => f_X12_layNexts_2 n s 57 (nI i)) (N := tt 1) some (fun i s => ∃ f, s = HH (upA A 63 f) Z B Q P F q D c ∧ ∀ r, r < i → f r = nI (nxt tt r)) (fun n i s hi hs => ?_) (fun n s hs => ?_) (by omega) (s := HH A Z B Q P F q D c) ⟨A 63, by rw [y_ua], fun r hr => by omega⟩
  · obtain ⟨s, e1, f, e2, hf⟩ := key
    exact ⟨f, by rw [← e2]; exact e1, hf⟩
  · obtain ⟨f, rfl, hf⟩ := hs
    have hT2 : Told (upA A 63 f 58) tt lk lh := hT
    refine ⟨_, ?_, va_up f i (nI (nxt tt i)), rfl, fun r hr => ?_⟩
    · simp (disch := omega) only [f_X12_layNexts_2, if_true, if_false, Bool.false_eq_true, Bool.true_eq_false, y_lit, y_m1, nI_add, pk_mul, fa_and, fa_or, y_bs, if_pos, if_neg, y_shl, y_shr, y_le, y_lt, y_eq, y_sub, y_dv, y_rm, y_b0, y_b1, y_sdf, y_ltM, y_Mlt, y_leM, y_Mle, y_eqM, y_Meq, s_e1, s_e2, s_e3, s_e4, s_e5, s_e6, gO_57, m_rooms hT2, gf_57_16, m_nextOf hT2 hW, st_63, y_us, y_un, y_vs, y_vn, y_uu, y_vv, ne_eq, not_false_eq_true, not_true_eq_false]
    · by_cases e : r = i
      · subst e; rw [y_vs]
      · rw [y_vn e]; exact hf r (by omega)
  · obtain ⟨f, rfl, hf⟩ := hs
    have hT2 : Told (upA A 63 f 58) tt lk lh := hT
    simp (disch := omega) only [f_X12_layNexts_2, if_true, if_false, Bool.false_eq_true, Bool.true_eq_false, y_lit, y_m1, nI_add, pk_mul, fa_and, fa_or, y_bs, if_pos, if_neg, y_shl, y_shr, y_le, y_lt, y_eq, y_sub, y_dv, y_rm, y_b0, y_b1, y_sdf, y_ltM, y_Mlt, y_leM, y_Mle, y_eqM, y_Meq, s_e1, s_e2, s_e3, s_e4, s_e5, s_e6, gO_57, m_rooms hT2]
theorem m_isLit (hT : Told (A 58) tt lk lh) (hW : HWf tt) {nx : Nat → Nat} (hn : ∀ r, r < tt 1 → A 63 r = nI (nx r)) (hx : ∀ r, nx r < 65536) {S o : Nat} (hS : S < 65536) (ho : o < 65536) : f_X12_isLit (HH A Z B Q P F q D c) 57 (nI S) (nI o) = some (nI (if litB nx (tt 1) S o then 1 else 0)) := by
  have hro := hW.ro
  unfold f_X12_isLit
  have key := loop_I (F := fun m i (s : Unit) => f_X12_isLit_2 (HH A Z B Q P F q D c) m 57 (nI S) (nI o) (nI i)) (N := tt 1) some (fun i _ => ∀ r, r < i → (!o.testBit r || decide (nx r &&& S ≠ 0)) = true) (fun r => r = nI (if litB nx (tt 1) S o then 1 else 0)) (fun m i s hi hs => ?_) (fun m s hs => ?_) (by omega) (s := ()) (fun k hk => by omega)
  · obtain ⟨r, e1, rfl⟩ := key
    exact e1
  · have l1 : nx i &&& S < 65536 := n_and_ltl (k := 16) (hx i)
    cases hb : o.testBit i
    · left
      refine ⟨(), ?_, fun r hr => ?_⟩
      · simp (disch := omega) only [f_X12_isLit_2, if_true, if_false, Bool.false_eq_true, Bool.true_eq_false, y_lit, y_m1, nI_add, pk_mul, fa_and, fa_or, y_bs, if_pos, if_neg, y_shl, y_shr, y_le, y_lt, y_eq, y_sub, y_dv, y_rm, y_b0, y_b1, y_sdf, y_ltM, y_Mlt, y_leM, y_Mle, y_eqM, y_Meq, s_e1, s_e2, s_e3, s_e4, s_e5, s_e6, gO_57, m_rooms hT, has_spec, hb]
      · by_cases e : r = i
        · subst e; rw [hb]; rfl
        · exact hs r (by omega)
    · by_cases hz : nx i &&& S = 0
      · right
        refine ⟨nI 0, ?_, ?_⟩
        · simp (disch := omega) only [f_X12_isLit_2, if_true, if_false, Bool.false_eq_true, Bool.true_eq_false, y_lit, y_m1, nI_add, pk_mul, fa_and, fa_or, y_bs, if_pos, if_neg, y_shl, y_shr, y_le, y_lt, y_eq, y_sub, y_dv, y_rm, y_b0, y_b1, y_sdf, y_ltM, y_Mlt, y_leM, y_Mle, y_eqM, y_Meq, s_e1, s_e2, s_e3, s_e4, s_e5, s_e6, gO_57, m_rooms hT, has_spec, hb, gf_57_16, ld_63, hn, hz]
        · unfold litB
          rw [allB_f hi (by rw [hb, hz]; rfl)]
          rfl
      · left
        refine ⟨(), ?_, fun r hr => ?_⟩
        · simp (disch := omega) only [f_X12_isLit_2, if_true, if_false, Bool.false_eq_true, Bool.true_eq_false, y_lit, y_m1, nI_add, pk_mul, fa_and, fa_or, y_bs, if_pos, if_neg, y_shl, y_shr, y_le, y_lt, y_eq, y_sub, y_dv, y_rm, y_b0, y_b1, y_sdf, y_ltM, y_Mlt, y_leM, y_Mle, y_eqM, y_Meq, s_e1, s_e2, s_e3, s_e4, s_e5, s_e6, gO_57, m_rooms hT, has_spec, hb, gf_57_16, ld_63, hn, hz]
        · by_cases e : r = i
          · subst e; rw [hb]; simp [hz]
          · exact hs r (by omega)
  · refine ⟨nI 1, ?_, ?_⟩
    · simp (disch := omega) only [f_X12_isLit_2, if_true, if_false, Bool.false_eq_true, Bool.true_eq_false, y_lit, y_m1, nI_add, pk_mul, fa_and, fa_or, y_bs, if_pos, if_neg, y_shl, y_shr, y_le, y_lt, y_eq, y_sub, y_dv, y_rm, y_b0, y_b1, y_sdf, y_ltM, y_Mlt, y_leM, y_Mle, y_eqM, y_Meq, s_e1, s_e2, s_e3, s_e4, s_e5, s_e6, gO_57, m_rooms hT]
    · unfold litB
      rw [allB_t hs]
      rfl
theorem m_isTwice (hT : Told (A 58) tt lk lh) (hW : HWf tt) {nx : Nat → Nat} (hn : ∀ r, r < tt 1 → A 63 r = nI (nx r)) (hx : ∀ r, nx r < 65536) {S : Nat} (hS : S < 65536) : f_X12_isTwice (HH A Z B Q P F q D c) 57 (nI S) = some (nI (if twiB nx (tt 1) S then 1 else 0)) := by
  have hro := hW.ro
  unfold f_X12_isTwice
  have key := loop_I (F := fun m i (s : Unit) => f_X12_isTwice_2 (HH A Z B Q P F q D c) m 57 (nI S) (nI i)) (N := tt 1) some (fun i _ => ∀ r, r < i → decide (2 ≤ pc (nx r &&& S)) = true) (fun r => r = nI (if twiB nx (tt 1) S then 1 else 0)) (fun m i s hi hs => ?_) (fun m s hs => ?_) (by omega) (s := ()) (fun k hk => by omega)
  · obtain ⟨r, e1, rfl⟩ := key
    exact e1
  · have l1 : nx i &&& S < 65536 := n_and_ltl (k := 16) (hx i)
    have l2 : pc (nx i &&& S) ≤ 16 := pc_le_n (by decide) l1
    by_cases hz : 2 ≤ pc (nx i &&& S)
    · left
      refine ⟨(), ?_, fun r hr => ?_⟩
      · simp (disch := omega) only [f_X12_isTwice_2, if_true, if_false, Bool.false_eq_true, Bool.true_eq_false, y_lit, y_m1, nI_add, pk_mul, fa_and, fa_or, y_bs, if_pos, if_neg, y_shl, y_shr, y_le, y_lt, y_eq, y_sub, y_dv, y_rm, y_b0, y_b1, y_sdf, y_ltM, y_Mlt, y_leM, y_Mle, y_eqM, y_Meq, s_e1, s_e2, s_e3, s_e4, s_e5, s_e6, gO_57, m_rooms hT, gf_57_16, ld_63, hn, ones_spec]
      · by_cases e : r = i
        · subst e; exact decide_eq_true hz
        · exact hs r (by omega)
    · right
      refine ⟨nI 0, ?_, ?_⟩
      · simp (disch := omega) only [f_X12_isTwice_2, if_true, if_false, Bool.false_eq_true, Bool.true_eq_false, y_lit, y_m1, nI_add, pk_mul, fa_and, fa_or, y_bs, if_pos, if_neg, y_shl, y_shr, y_le, y_lt, y_eq, y_sub, y_dv, y_rm, y_b0, y_b1, y_sdf, y_ltM, y_Mlt, y_leM, y_Mle, y_eqM, y_Meq, s_e1, s_e2, s_e3, s_e4, s_e5, s_e6, gO_57, m_rooms hT, gf_57_16, ld_63, hn, ones_spec]
      · unfold twiB
        rw [allB_f hi (decide_eq_false hz)]
        rfl
  · refine ⟨nI 1, ?_, ?_⟩
    · simp (disch := omega) only [f_X12_isTwice_2, if_true, if_false, Bool.false_eq_true, Bool.true_eq_false, y_lit, y_m1, nI_add, pk_mul, fa_and, fa_or, y_bs, if_pos, if_neg, y_shl, y_shr, y_le, y_lt, y_eq, y_sub, y_dv, y_rm, y_b0, y_b1, y_sdf, y_ltM, y_Mlt, y_leM, y_Mle, y_eqM, y_Meq, s_e1, s_e2, s_e3, s_e4, s_e5, s_e6, gO_57, m_rooms hT]
    · unfold twiB
      rw [allB_t hs]
      rfl
theorem m_isApart (hT : Told (A 58) tt lk lh) (hW : HWf tt) {nx : Nat → Nat} (hn : ∀ r, r < tt 1 → A 63 r = nI (nx r)) (hx : ∀ r, nx r < 65536) {S : Nat} (hS : S < 65536) : f_X12_isApart (HH A Z B Q P F q D c) 57 (nI S) = some (nI (if apaB nx (fun r => tt (432 + r)) (tt 1) S && litB nx (tt 1) S (2 ^ tt 1 - 1) then 1 else 0)) := by
  have hro := hW.ro
  have hpw := pw16 hro
  have hpp := Nat.two_pow_pos (tt 1)
  unfold f_X12_isApart
  have key := loop_I (F := fun m i (s : Unit) => f_X12_isApart_2 (HH A Z B Q P F q D c) m 57 (nI S) (nI i)) (N := tt 1) some (fun i _ => ∀ r, r < i → decide (nx r &&& S &&& tt (432 + r) = 0) = true) (fun r => r = nI (if apaB nx (fun r => tt (432 + r)) (tt 1) S && litB nx (tt 1) S (2 ^ tt 1 - 1) then 1 else 0)) (fun m i s hi hs => ?_) (fun m s hs => ?_) (by omega) (s := ()) (fun k hk => by omega)
  · obtain ⟨r, e1, rfl⟩ := key
    exact e1
  · have l1 : nx i &&& S &&& tt (432 + i) < 65536 := and3_lt (hx i)
    by_cases hz : nx i &&& S &&& tt (432 + i) = 0
    · left
      refine ⟨(), ?_, fun r hr => ?_⟩
      · simp (disch := omega) only [f_X12_isApart_2, if_true, if_false, Bool.false_eq_true, Bool.true_eq_false, y_lit, y_m1, nI_add, pk_mul, fa_and, fa_or, y_bs, if_pos, if_neg, y_shl, y_shr, y_le, y_lt, y_eq, y_sub, y_dv, y_rm, y_b0, y_b1, y_sdf, y_ltM, y_Mlt, y_leM, y_Mle, y_eqM, y_Meq, s_e1, s_e2, s_e3, s_e4, s_e5, s_e6, gO_57, m_rooms hT, gf_57_16, gf_57_0, ld_63, ld_58, hT.1, hn, hz]
      · by_cases e : r = i
        · subst e; exact decide_eq_true hz
        · exact hs r (by omega)
    · right
      refine ⟨nI 0, ?_, ?_⟩
      · simp (disch := omega) only [f_X12_isApart_2, if_true, if_false, Bool.false_eq_true, Bool.true_eq_false, y_lit, y_m1, nI_add, pk_mul, fa_and, fa_or, y_bs, if_pos, if_neg, y_shl, y_shr, y_le, y_lt, y_eq, y_sub, y_dv, y_rm, y_b0, y_b1, y_sdf, y_ltM, y_Mlt, y_leM, y_Mle, y_eqM, y_Meq, s_e1, s_e2, s_e3, s_e4, s_e5, s_e6, gO_57, m_rooms hT, gf_57_16, gf_57_0, ld_63, ld_58, hT.1, hn, hz]
      · unfold apaB
        rw [allB_f hi (decide_eq_false hz)]
        rfl
  · have hA : apaB nx (fun r => tt (432 + r)) (tt 1) S = true := allB_t hs
    have e1 := m_isLit (A := A) (Z := Z) (B := B) (Q := Q) (P := P) (F := F) (q := q) (D := D) (c := c) hT hW hn hx hS (o := 2 ^ tt 1 - 1) (by omega)
    refine ⟨nI (if litB nx (tt 1) S (2 ^ tt 1 - 1) then 1 else 0), ?_, by rw [hA]; rfl⟩
    show f_X12_isApart_2 (HH A Z B Q P F q D c) (m + 1) _ _ _ = _
    rw [f_X12_isApart_2, gO_57, Option.bind_some, m_rooms hT, Option.bind_some, if_pos (by rw [y_le (by omega) (by omega)]; exact Nat.le_refl _), Option.bind_some, m_all hT hW, Option.bind_some, Option.bind_some, e1, Option.bind_some]
    cases litB nx (tt 1) S (2 ^ tt 1 - 1) <;> rfl
def isoB (tt nx : Nat → Nat) (w S : Nat) : Bool := if w = 0 then litB nx (tt 1) S (2 ^ tt 1 - 1) else if w = 1 then twiB nx (tt 1) S else apaB nx (fun r => tt (432 + r)) (tt 1) S && litB nx (tt 1) S (2 ^ tt 1 - 1)
theorem m_isSo (hT : Told (A 58) tt lk lh) (hW : HWf tt) {nx : Nat → Nat} (hn : ∀ r, r < tt 1 → A 63 r = nI (nx r)) (hx : ∀ r, nx r < 65536) {w S : Nat} (hw : w < 3) (hS : S < 65536) : f_X12_isSo (HH A Z B Q P F q D c) 57 (nI w) (nI S) = some (nI (if isoB tt nx w S then 1 else 0)) := by
  have hro := hW.ro
  have hpw := pw16 hro
  have hpp := Nat.two_pow_pos (tt 1)
  have e0 := m_isLit (A := A) (Z := Z) (B := B) (Q := Q) (P := P) (F := F) (q := q) (D := D) (c := c) hT hW hn hx hS (o := 2 ^ tt 1 - 1) (by omega)
  have e1 := m_isTwice (A := A) (Z := Z) (B := B) (Q := Q) (P := P) (F := F) (q := q) (D := D) (c := c) hT hW hn hx hS
  have e2 := m_isApart (A := A) (Z := Z) (B := B) (Q := Q) (P := P) (F := F) (q := q) (D := D) (c := c) hT hW hn hx hS
  have nb : ∀ b : Bool, (if narrow .boolean (.int (nI (if b then 1 else 0))) = .int (nI (if b then 1 else 0)) then some (nI (if b then 1 else 0)) else none) = some (nI (if b then 1 else 0)) := fun b => by cases b <;> rfl
  unfold f_X12_isSo isoB
  have hc : w = 0 ∨ w = 1 ∨ w = 2 := by omega
  rcases hc with rfl | rfl | rfl
  · rw [if_pos (by decide), gO_57, Option.bind_some, m_all hT hW, Option.bind_some, Option.bind_some, e0, Option.bind_some, nb]
    rfl
  · rw [if_neg (by decide), if_pos (by decide), gO_57, Option.bind_some, e1, Option.bind_some, nb]
    rfl
  · rw [if_neg (by decide), if_neg (by decide), if_pos (by decide), gO_57, Option.bind_some, e2, Option.bind_some, nb]
    rfl
theorem m_bestOf (hT : Told (A 58) tt lk lh) (hW : HWf tt) {nx : Nat → Nat} (hn : ∀ r, r < tt 1 → A 63 r = nI (nx r)) (hx : ∀ r, nx r < 65536) {w : Nat} (hw : w < 3) : f_X12_bestOf (HH A Z B Q P F q D c) 57 (nI w) = some (eo (bst (isoB tt nx w) (2 ^ tt 1))) := by
  have hro := hW.ro
  have hpw := pw16 hro
  have hpp := Nat.two_pow_pos (tt 1)
  refine loop0 (F := fun m k (s : Option Nat) => f_X12_bestOf_4 (HH A Z B Q P F q D c) m 57 (nI w) (eo s) (nI k)) (N := 2 ^ tt 1) (st := fun k => bst (isoB tt nx w) k) (fun m k hk => ?_) (fun m => ?_) (by omega)
  · have e0 := m_isSo (A := A) (Z := Z) (B := B) (Q := Q) (P := P) (F := F) (q := q) (D := D) (c := c) hT hW hn hx hw (S := k) (by omega)
    have pk : pc k ≤ 64 := pc_le k
    rw [bst]
    cases hs : bst (isoB tt nx w) k with
    | none =>
      simp only [eo]
      cases hv : isoB tt nx w k
      · rw [hv] at e0
        simp (disch := omega) only [f_X12_bestOf_4, f_X12_bestOf_50, if_true, if_false, Bool.false_eq_true, Bool.true_eq_false, y_lit, y_m1, nI_add, pk_mul, fa_and, fa_or, y_bs, if_pos, if_neg, y_shl, y_shr, y_le, y_lt, y_eq, y_sub, y_dv, y_rm, y_b0, y_b1, y_sdf, y_ltM, y_Mlt, y_leM, y_Mle, y_eqM, y_Meq, s_e1, s_e2, s_e3, s_e4, s_e5, s_e6, gO_57, m_all hT hW, e0]
      · rw [hv] at e0
        simp (disch := omega) only [f_X12_bestOf_4, f_X12_bestOf_50, if_true, if_false, Bool.false_eq_true, Bool.true_eq_false, y_lit, y_m1, nI_add, pk_mul, fa_and, fa_or, y_bs, if_pos, if_neg, y_shl, y_shr, y_le, y_lt, y_eq, y_sub, y_dv, y_rm, y_b0, y_b1, y_sdf, y_ltM, y_Mlt, y_leM, y_Mle, y_eqM, y_Meq, s_e1, s_e2, s_e3, s_e4, s_e5, s_e6, gO_57, m_all hT hW, e0]
    | some b =>
      have hb := bst_lt hs
      have pb : pc b ≤ 64 := pc_le b
      have w3 : (nI w = nI 3) = False := by rw [y_eq (by omega) (by omega)]; exact eq_false (by omega)
      simp only [eo]
      cases hv : isoB tt nx w k
      · rw [hv] at e0
        by_cases hp : pc k < pc b
        · simp (disch := omega) only [f_X12_bestOf_4, f_X12_bestOf_50, if_true, if_false, Bool.false_eq_true, Bool.true_eq_false, y_lit, y_m1, nI_add, pk_mul, fa_and, fa_or, y_bs, if_pos, if_neg, y_shl, y_shr, y_le, y_lt, y_eq, y_sub, y_dv, y_rm, y_b0, y_b1, y_sdf, y_ltM, y_Mlt, y_leM, y_Mle, y_eqM, y_Meq, s_e1, s_e2, s_e3, s_e4, s_e5, s_e6, gO_57, m_all hT hW, w3, ones_spec, e0, and_false]
        · simp (disch := omega) only [f_X12_bestOf_4, f_X12_bestOf_50, if_true, if_false, Bool.false_eq_true, Bool.true_eq_false, y_lit, y_m1, nI_add, pk_mul, fa_and, fa_or, y_bs, if_pos, if_neg, y_shl, y_shr, y_le, y_lt, y_eq, y_sub, y_dv, y_rm, y_b0, y_b1, y_sdf, y_ltM, y_Mlt, y_leM, y_Mle, y_eqM, y_Meq, s_e1, s_e2, s_e3, s_e4, s_e5, s_e6, gO_57, m_all hT hW, w3, ones_spec, and_false]
      · rw [hv] at e0
        by_cases hp : pc k < pc b
        · simp (disch := omega) only [f_X12_bestOf_4, f_X12_bestOf_50, if_true, if_false, Bool.false_eq_true, Bool.true_eq_false, y_lit, y_m1, nI_add, pk_mul, fa_and, fa_or, y_bs, if_pos, if_neg, y_shl, y_shr, y_le, y_lt, y_eq, y_sub, y_dv, y_rm, y_b0, y_b1, y_sdf, y_ltM, y_Mlt, y_leM, y_Mle, y_eqM, y_Meq, s_e1, s_e2, s_e3, s_e4, s_e5, s_e6, gO_57, m_all hT hW, w3, ones_spec, e0, and_true]
        · simp (disch := omega) only [f_X12_bestOf_4, f_X12_bestOf_50, if_true, if_false, Bool.false_eq_true, Bool.true_eq_false, y_lit, y_m1, nI_add, pk_mul, fa_and, fa_or, y_bs, if_pos, if_neg, y_shl, y_shr, y_le, y_lt, y_eq, y_sub, y_dv, y_rm, y_b0, y_b1, y_sdf, y_ltM, y_Mlt, y_leM, y_Mle, y_eqM, y_Meq, s_e1, s_e2, s_e3, s_e4, s_e5, s_e6, gO_57, m_all hT hW, w3, ones_spec, and_true]
  · simp (disch := omega) only [f_X12_bestOf_4, if_true, if_false, Bool.false_eq_true, Bool.true_eq_false, y_lit, y_m1, nI_add, pk_mul, fa_and, fa_or, y_bs, if_pos, if_neg, y_shl, y_shr, y_le, y_lt, y_eq, y_sub, y_dv, y_rm, y_b0, y_b1, y_sdf, y_ltM, y_Mlt, y_leM, y_Mle, y_eqM, y_Meq, s_e1, s_e2, s_e3, s_e4, s_e5, s_e6, gO_57, m_all hT hW]
end MSets
