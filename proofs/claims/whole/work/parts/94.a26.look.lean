/-! ===== look ===== -/
/-- the best rule so far: lamps, p, bits -/
def lkt (n : Nat) (ring : Bool) (p b : Nat) (s : Option (Nat × Nat × Nat)) : Option (Nat × Nat × Nat) := if unl n ring (rls n p b) = 0 ∧ (∀ v, s = some v → pc (rls n p b) < v.1) then some (pc (rls n p b), p, b) else s
def lkb (n : Nat) (ring : Bool) (p : Nat) (s : Option (Nat × Nat × Nat)) : Nat → Option (Nat × Nat × Nat)
  | 0 => s
  | b + 1 => lkt n ring p b (lkb n ring p s b)
def lkp (n : Nat) (ring : Bool) : Nat → Option (Nat × Nat × Nat)
  | 0 => none
  | k + 1 => lkb n ring (k + 1) (lkp n ring k) (2 ^ (k + 1))
def lcA (n : Nat) (s : Option (Nat × Nat × Nat)) : Int32 := match s with | none => nI (n + 1) | some v => nI v.1
def lmA (s : Option (Nat × Nat × Nat)) : Int32 := match s with | none => nM | some v => nI v.1
def leB (s : Option (Nat × Nat × Nat)) : Int32 := match s with | none => nM | some v => nI v.2.1
def leC (s : Option (Nat × Nat × Nat)) : Int32 := match s with | none => nM | some v => nI v.2.2
def lok (n : Nat) (s : Option (Nat × Nat × Nat)) : Prop := ∀ v, s = some v → v.1 ≤ n ∧ v.2.1 ≤ 8 ∧ v.2.2 < 256
theorem pc_rls {n p b : Nat} (hn : n ≤ 40) : pc (rls n p b) = fb_ct (fun k => b.testBit (k % p)) n := by
  rw [pc_eq (k := n) (by omega) (rls_lt n p b)]
  exact fb_ct_cong (fun k hk => by rw [rls_bit]; simp [hk])
theorem pc_rls_le {n p b : Nat} (hn : n ≤ 40) : pc (rls n p b) ≤ n := by
  rw [pc_rls hn]
  exact fb_ct_le _ _
theorem lok_t {n : Nat} {ring : Bool} {p b : Nat} {s : Option (Nat × Nat × Nat)} (hn : n ≤ 40) (hp : p ≤ 8) (hb : b < 256) (h : lok n s) : lok n (lkt n ring p b s) := by
  unfold lkt
  split
  · intro v e
    cases e
    exact ⟨pc_rls_le hn, hp, hb⟩
  · exact h
theorem lok_b {n : Nat} {ring : Bool} {p : Nat} {s : Option (Nat × Nat × Nat)} (hn : n ≤ 40) (hp : p ≤ 8) (h : lok n s) : ∀ b, b ≤ 2 ^ p → lok n (lkb n ring p s b)
  | 0, _ => h
  | b + 1, hb => lok_t hn hp (by have : 2 ^ p ≤ 2 ^ 8 := n_pwl hp; omega) (lok_b hn hp h b (by omega))
theorem lok_p {n : Nat} {ring : Bool} (hn : n ≤ 40) : ∀ k, k ≤ 8 → lok n (lkp n ring k)
  | 0, _ => fun v e => by cases e
  | k + 1, hk => lok_b hn hk (lok_p hn k (by omega)) _ (Nat.le_refl _)
section Look
variable {A : Nat → Nat → Int32} {Z : Nat → Int32} {B : Nat → Nat → Int64} {Q : Nat → Int64} {P : Nat → Option Nat} {F : Nat → Nat → Option Nat} {q : Nat} {D : List xC} {c : Nat × Nat} {K : Nat → Nat} {tt lk lh : Nat → Nat} {R i : Nat}
theorem c_look35 (h : xH) {k25 : Int32 → Int32 → Int32 → Int32 → Int32 → Int32 → Int32 → Option ((String × xH) ⊕ (Int32))} {n p : Nat} (ring : Bool) (w : Int32) (n0 : 0 < n) (hn : n ≤ 40) (hp : 0 < p) (hp8 : p ≤ 8) {s : Option (Nat × Nat × Nat)} (hs : lok n s) : f_X11_look_35 h k25 xFU (nI n) (if ring then 1 else 0) w (lcA n s) (leB s) (leC s) (nI p) (nI 0) = k25 (nI n) (if ring then 1 else 0) w (lcA n (lkb n ring p s (2 ^ p))) (leB (lkb n ring p s (2 ^ p))) (leC (lkb n ring p s (2 ^ p))) (nI (p + 1)) := by
  have h28 : 2 ^ p ≤ 2 ^ 8 := n_pwl hp8
  refine loop0 (F := fun m b (s : Option (Nat × Nat × Nat)) => f_X11_look_35 h k25 m (nI n) (if ring then 1 else 0) w (lcA n s) (leB s) (leC s) (nI p) (nI b)) (N := 2 ^ p) (st := fun b => lkb n ring p s b) (fun m b hb => ?_) (fun m => ?_) (by omega)
  · have hsb := lok_b (ring := ring) hn hp8 hs b (by omega)
    have hpl := pc_rls_le (p := p) (b := b) hn
    have hU := unl_lt n ring (rls n p b)
    have h40 := pw40 hn
    have hR := rls_lt n p b
    have e1 := c_lampsByRule h hn hp hp8 hb
    have e2 := c_unlitBy h ring n0 hn (rls_lt n p b)
    rw [lkb]
    generalize lkb n ring p s b = s at hsb
    generalize (if ring then (1 : Int32) else 0) = rr at e2 ⊢
    show f_X11_look_35 h k25 (m + 1) _ _ _ _ _ _ _ _ = f_X11_look_35 h k25 m _ _ _ _ _ _ _ _
    rw [f_X11_look_35, if_neg (by rw [n_shl (by omega), y_le (by omega) (by omega)]; omega), e1, Option.bind_some, bitCountL_spec h (by omega), Option.bind_some, e2, Option.bind_some]
    unfold lkt
    cases s with
    | none =>
      rw [if_neg (by show ¬ nI (n + 1) ≤ _; rw [y_le (by omega) (by omega)]; omega)]
      by_cases hu : unl n ring (rls n p b) = 0
      · rw [if_pos (by rw [cmp_lN0 (by omega)]; exact hu), Option.bind_some, if_pos ⟨hu, fun v e => by cases e⟩, nI_1]
        rfl
      · rw [if_neg (by rw [cmp_lN0 (by omega)]; exact hu), if_neg (fun hh => hu hh.1), nI_1]
    | some v =>
      obtain ⟨v1, v2, v3⟩ := hsb v rfl
      by_cases hlt : pc (rls n p b) < v.1
      · rw [if_neg (by show ¬ nI v.1 ≤ _; rw [y_le (by omega) (by omega)]; omega)]
        by_cases hu : unl n ring (rls n p b) = 0
        · rw [if_pos (by rw [cmp_lN0 (by omega)]; exact hu), Option.bind_some, if_pos ⟨hu, fun v' e => by cases e; exact hlt⟩, nI_1]
          rfl
        · rw [if_neg (by rw [cmp_lN0 (by omega)]; exact hu), if_neg (fun hh => hu hh.1), nI_1]
      · rw [if_pos (by show nI v.1 ≤ _; rw [y_le (by omega) (by omega)]; omega), if_neg (fun hh => hlt (hh.2 v rfl)), nI_1]
  · show f_X11_look_35 h k25 (m + 1) _ _ _ _ _ _ _ _ = _
    rw [f_X11_look_35, if_pos (by rw [n_shl (by omega), y_le (by omega) (by omega)]; exact Nat.le_refl _), nI_1]
def lkr (n : Nat) (ring : Bool) (w : Nat) : Int32 := if w = 0 then lmA (lkp n ring 8) else if w = 1 then leB (lkp n ring 8) else leC (lkp n ring 8)
theorem c_look25 (h : xH) {n w : Nat} (ring : Bool) (n0 : 0 < n) (hn : n ≤ 40) (hw : w < 3) : f_X11_look_25 h xFU (nI n) (if ring then 1 else 0) (nI w) (nI (n + 1)) nM nM (nI 1) = some (.inr (lkr n ring w)) := by
  refine loop0 (F := fun m k (s : Option (Nat × Nat × Nat)) => f_X11_look_25 h m (nI n) (if ring then 1 else 0) (nI w) (lcA n s) (leB s) (leC s) (nI (k + 1))) (N := 8) (st := fun k => lkp n ring k) (fun m k hk => ?_) (fun m => ?_) (by omega)
  · show f_X11_look_25 h (m + 1) _ _ _ _ _ _ _ = f_X11_look_25 h m _ _ _ _ _ _ _
    rw [f_X11_look_25, if_neg (by rw [show (8 : Int32) = nI 8 from rfl, y_lt (by omega) (by omega)]; omega)]
    exact c_look35 h ring (nI w) n0 hn (by omega) (by omega) (lok_p hn k (by omega))
  · show f_X11_look_25 h (m + 1) _ _ _ _ _ _ _ = _
    have hs := lok_p (ring := ring) hn 8 (Nat.le_refl _)
    rw [f_X11_look_25, if_pos (by decide)]
    unfold lkr
    generalize lkp n ring 8 = s at hs
    have hc : w = 0 ∨ w = 1 ∨ w = 2 := by omega
    rcases hc with rfl | rfl | rfl
    · rw [if_pos (by decide), if_pos rfl]
      cases s with
      | none => rfl
      | some v =>
        obtain ⟨v1, v2, v3⟩ := hs v rfl
        rw [if_neg (by show ¬ nI v.2.1 = nM; rw [y_eqM (by omega)]; exact id)]
        rfl
    · rw [if_neg (by decide), if_pos (by decide)]; rfl
    · rw [if_neg (by decide), if_neg (by decide)]; rfl
theorem m_look91 {k50 : xH → Int32 → Int32 → Int32 → Int32 → Int32 → Int32 → Int32 → Option (Int32 × xH)} {k60 : xH → Int32 → Int32 → Int32 → Int32 → Int32 → Int32 → Int32 → Int32 → Option (Int32 × xH)} (h : xH) {n p b : Nat} (r w : Int32) (hn : n ≤ 40) (hp : 0 < p) (hp8 : p ≤ 8) (hb : b < 2 ^ p) {s : Option (Nat × Nat × Nat)} (hs : lok n s) : f_X12_look_91 k50 k60 xFU h (nI n) r w (lmA s) (leB s) (leC s) (nI p) (nI b) (nI 0) (nI 0) = if (∀ v, s = some v → pc (rls n p b) < v.1) then k60 h (nI n) r w (nI (pc (rls n p b))) (nI p) (nI b) (nI p) (nI (b + 1)) else k60 h (nI n) r w (lmA s) (leB s) (leC s) (nI p) (nI (b + 1)) := by
  have hb2 : b < 256 := Nat.lt_of_lt_of_le hb (n_pwl (m := 8) hp8)
  refine loop0 (F := fun m k (t : Nat) => f_X12_look_91 k50 k60 m h (nI n) r w (lmA s) (leB s) (leC s) (nI p) (nI b) (nI t) (nI k)) (N := n) (st := fun k => fb_ct (fun k => b.testBit (k % p)) k) (fun m k hk => ?_) (fun m => ?_) (by omega)
  · have hm := Nat.mod_lt k hp
    rw [fb_ct_succ]
    show f_X12_look_91 k50 k60 (m + 1) _ _ _ _ _ _ _ _ _ _ _ = f_X12_look_91 k50 k60 m _ _ _ _ _ _ _ _ _ _ _
    rw [f_X12_look_91]
    cases ht : b.testBit (k % p) <;> simp (disch := omega) only [f_X12_look_117, if_true, if_false, Bool.false_eq_true, Bool.true_eq_false, y_lit, y_m1, nI_add, pk_mul, fa_and, fa_or, y_bs, if_pos, if_neg, y_shl, y_shr, y_le, y_lt, y_eq, y_sub, y_dv, y_rm, y_b0, y_b1, y_sdf, y_ltM, y_Mlt, y_leM, y_Mle, y_eqM, y_Meq, s_e1, s_e2, s_e3, s_e4, s_e5, s_e6, has_spec, ht]
  · show f_X12_look_91 k50 k60 (m + 1) _ _ _ _ _ _ _ _ _ _ _ = _
    have hpl := pc_rls_le (p := p) (b := b) hn
    have he := pc_rls (p := p) (b := b) hn
    rw [← he, f_X12_look_91, if_pos (by rw [y_le (by omega) (by omega)]; exact Nat.le_refl _)]
    unfold f_X12_look_142
    cases s with
    | none =>
      rw [if_pos (show lmA none = -1 from rfl), if_pos (fun v e => by cases e), nI_1]
    | some v =>
      obtain ⟨v1, v2, v3⟩ := hs v rfl
      rw [if_neg (by show ¬ nI v.1 = nM; rw [y_eqM (by omega)]; exact id)]
      by_cases hlt : pc (rls n p b) < v.1
      · rw [if_pos (by show nI _ < nI v.1; rw [y_lt (by omega) (by omega)]; exact hlt), if_pos (fun v' e => by cases e; exact hlt), nI_1]
      · rw [if_neg (by show ¬ nI _ < nI v.1; rw [y_lt (by omega) (by omega)]; exact hlt), if_neg (fun hh => hlt (hh v rfl)), nI_1]
theorem m_look60 {k50 : xH → Int32 → Int32 → Int32 → Int32 → Int32 → Int32 → Int32 → Option (Int32 × xH)} (h : xH) {n p : Nat} (ring : Bool) (n3 : ring = true → 3 ≤ n) (w : Int32) (hn : n ≤ 40) (hp : 0 < p) (hp8 : p ≤ 8) {s : Option (Nat × Nat × Nat)} (hs : lok n s) : f_X12_look_60 k50 xFU h (nI n) (if ring then 1 else 0) w (lmA s) (leB s) (leC s) (nI p) (nI 0) = k50 h (nI n) (if ring then 1 else 0) w (lmA (lkb n ring p s (2 ^ p))) (leB (lkb n ring p s (2 ^ p))) (leC (lkb n ring p s (2 ^ p))) (nI (p + 1)) := by
  have h28 : 2 ^ p ≤ 2 ^ 8 := n_pwl hp8
  refine loop0 (F := fun m b (s : Option (Nat × Nat × Nat)) => f_X12_look_60 k50 m h (nI n) (if ring then 1 else 0) w (lmA s) (leB s) (leC s) (nI p) (nI b)) (N := 2 ^ p) (st := fun b => lkb n ring p s b) (fun m b hb => ?_) (fun m => ?_) (by omega)
  · have hsb := lok_b (ring := ring) hn hp8 hs b (by omega)
    have e1 := m_firstDark h ring n3 hn hp hp8 hb
    rw [lkb]
    generalize lkb n ring p s b = s at hsb
    generalize (if ring then (1 : Int32) else 0) = rr at e1 ⊢
    have e2 := m_look91 (k50 := k50) (k60 := f_X12_look_60 k50 m) h rr w hn hp hp8 hb hsb
    show f_X12_look_60 k50 (m + 1) _ _ _ _ _ _ _ _ _ = f_X12_look_60 k50 m _ _ _ _ _ _ _ _ _
    rw [f_X12_look_60, if_neg (by rw [n_shl (by omega), y_le (by omega) (by omega)]; omega), e1, Option.bind_some]
    unfold lkt
    by_cases hu : unl n ring (rls n p b) = 0
    · rw [if_pos (by unfold fdk; rw [if_pos hu]; rfl)]
      refine Eq.trans e2 ?_
      by_cases hlt : ∀ v, s = some v → pc (rls n p b) < v.1
      · rw [if_pos hlt, if_pos ⟨hu, hlt⟩]
        rfl
      · rw [if_neg hlt, if_neg (fun hh => hlt hh.2)]
    · have hU := unl_lt n ring (rls n p b)
      have h40 := pw40 hn
      obtain ⟨l1, l2, l3⟩ := low_spec hu (by omega)
      rw [if_neg (by unfold fdk; rw [if_neg hu, show (-1 : Int32) = nM from rfl, y_eqM (by omega)]; exact id), if_neg (fun hh => hu hh.1), nI_1]
  · show f_X12_look_60 k50 (m + 1) _ _ _ _ _ _ _ _ _ = _
    rw [f_X12_look_60, if_pos (by rw [n_shl (by omega), y_le (by omega) (by omega)]; exact Nat.le_refl _), nI_1]
theorem m_look50 (h : xH) {n w : Nat} (ring : Bool) (n3 : ring = true → 3 ≤ n) (hn : n ≤ 40) (hw : w < 3) : f_X12_look_50 xFU h (nI n) (if ring then 1 else 0) (nI w) nM nM nM (nI 1) = some (lkr n ring w, h) := by
  refine loop0 (F := fun m k (s : Option (Nat × Nat × Nat)) => f_X12_look_50 m h (nI n) (if ring then 1 else 0) (nI w) (lmA s) (leB s) (leC s) (nI (k + 1))) (N := 8) (st := fun k => lkp n ring k) (fun m k hk => ?_) (fun m => ?_) (by omega)
  · show f_X12_look_50 (m + 1) _ _ _ _ _ _ _ _ = f_X12_look_50 m _ _ _ _ _ _ _ _
    rw [f_X12_look_50, if_neg (by rw [show (8 : Int32) = nI 8 from rfl, y_lt (by omega) (by omega)]; omega)]
    exact m_look60 h ring n3 (nI w) hn (by omega) (by omega) (lok_p hn k (by omega))
  · show f_X12_look_50 (m + 1) _ _ _ _ _ _ _ _ = _
    rw [f_X12_look_50, if_pos (by decide)]
    unfold lkr
    have hc : w = 0 ∨ w = 1 ∨ w = 2 := by omega
    rcases hc with rfl | rfl | rfl
    · rw [if_pos (by decide)]; rfl
    · rw [if_neg (by decide), if_pos (by decide)]; rfl
    · rw [if_neg (by decide), if_neg (by decide)]; rfl
end Look
theorem ok_look : ∀ x0 r x2, (r = 0 ∨ r = 1) → ME (fun h => f_L_look h 0 x0 r x2 76) (fun h => f_X12_look h 57 x0 r x2) := by
  intro x r y hr h i hJ hi
  obtain ⟨K, A, Z, B, Q, P, F, q, D, c, tt, lk, lh, R, rfl, hI⟩ := hJ
  obtain ⟨ring, rfl⟩ : ∃ ring : Bool, r = if ring then 1 else 0 := by
    rcases hr with rfl | rfl
    · exact ⟨false, rfl⟩
    · exact ⟨true, rfl⟩
  by_cases hrow : (if ring then nI 3 else nI 1) ≤ x ∧ x ≤ nI 40
  · obtain ⟨n, rfl, n0, n40, n3⟩ := row_of hrow
    cases hw : rk y 3
    · refine ME_t hI (k := 1) (b := nI 0) (by decide) ?_ ?_ (oZ18 (nI 1)) rfl
      · show f_L_look (HH A Z B Q P F q D c) 0 (nI n) (if ring then 1 else 0) y 76 = _
        unfold f_L_look f_X11_look
        rw [gO_0, Option.bind_some, c_checkRow, if_pos hrow, Option.bind_some]
        have := c_checkWhat (A := A) (Z := Z) (B := B) (Q := Q) (P := P) (F := F) (q := q) (D := D) (c := c) y (m := 2) (by decide)
        rw [hw, if_neg (by decide)] at this
        show ((f_X11_checkWhat (HH A Z B Q P F q D c) y (nI 0) (nI 2)).bind _).bind _ = _
        rw [this, Option.bind_some]
        rfl
      · show f_X12_look (HH A Z B Q P F q D (c.1 + 1, c.2 + 6)) 57 (nI n) (if ring then 1 else 0) y = _
        unfold f_X12_look f_X12_look_25 f_X12_look_26
        rw [m_isLong, if_pos hrow, Option.bind_some, if_neg (by decide), m_w3, hw, Option.bind_some, if_pos (by decide), pf_57_4, Option.bind_some, gf_57_4, Option.bind_some, y_us, if_neg (by decide)]
        rfl
    · obtain ⟨w, hw1, rfl⟩ := rk_t (by decide) hw
      refine ME_s hI (lkr n ring w) ?_ ?_
      · show f_L_look (HH A Z B Q P F q D c) 0 (nI n) (if ring then 1 else 0) (nI w) 76 = _
        unfold f_L_look f_X11_look
        rw [gO_0, Option.bind_some, c_checkRow, if_pos hrow, Option.bind_some]
        have := c_checkWhat (A := A) (Z := Z) (B := B) (Q := Q) (P := P) (F := F) (q := q) (D := D) (c := c) (nI w) (m := 2) (by decide)
        rw [hw, if_pos rfl] at this
        show ((f_X11_checkWhat (HH A Z B Q P F q D c) (nI w) (nI 0) (nI 2)).bind _).bind _ = _
        rw [this, Option.bind_some]
        show ((f_X11_look_25 (HH A Z B Q P F q D c) xFU (nI n) (if ring then 1 else 0) (nI w) (nI n + nI 1) nM nM (nI 1))).bind _ = _
        rw [nI_add, c_look25 _ ring n0 n40 hw1, Option.bind_some]
        show ((stJ _ 76 (nI 0) (Int32.toInt64 (lkr n ring w))).bind _) = _
        rw [oB_st, Option.bind_some]
        rfl
      · show f_X12_look (HH A Z _ Q P F q D c) 57 (nI n) (if ring then 1 else 0) (nI w) = _
        unfold f_X12_look f_X12_look_26
        rw [m_isLong, if_pos hrow, Option.bind_some, if_neg (by decide), m_w3, hw, Option.bind_some, if_neg (by decide), pf_57_4, Option.bind_some, gf_57_4, Option.bind_some, y_us, if_pos (by decide)]
        exact m_look50 _ ring n3 n40 hw1
  · refine ME_t hI (k := 1) (b := nI 0) (by decide) ?_ ?_ (oZ18 (nI 1)) rfl
    · show f_L_look (HH A Z B Q P F q D c) 0 x (if ring then 1 else 0) y 76 = _
      unfold f_L_look f_X11_look
      rw [gO_0, Option.bind_some, c_checkRow, if_neg hrow, Option.bind_some]
      rfl
    · show f_X12_look (HH A Z B Q P F q D (c.1 + 1, c.2 + 6)) 57 x (if ring then 1 else 0) y = _
      unfold f_X12_look f_X12_look_25 f_X12_look_26
      rw [m_isLong, if_neg hrow, Option.bind_some, if_pos nI_0, pf_57_4, Option.bind_some, gf_57_4, Option.bind_some, y_us, if_neg (by decide)]
      rfl
