/-! ===== tenants: what a set of lamps saves ===== -/
theorem minf_top {f : Nat → Nat} {top : Nat} : ∀ n, minf f top n ≤ top
  | 0 => Nat.le_refl _
  | n + 1 => Nat.le_trans (Nat.min_le_left _ _) (minf_top n)
theorem minf_le {f : Nat → Nat} {top i : Nat} : ∀ {n}, i < n → minf f top n ≤ f i
  | n + 1, h => by
    by_cases e : i = n
    · subst e; exact Nat.min_le_right _ _
    · exact Nat.le_trans (Nat.min_le_left _ _) (minf_le (by omega))
theorem minf_get {f : Nat → Nat} {top : Nat} : ∀ n, minf f top n = top ∨ ∃ i, i < n ∧ minf f top n = f i
  | 0 => Or.inl rfl
  | n + 1 => by
    rw [minf]
    by_cases e : minf f top n ≤ f n
    · rw [Nat.min_eq_left e]
      rcases minf_get (f := f) (top := top) n with h | ⟨i, hi, h⟩
      · exact Or.inl h
      · exact Or.inr ⟨i, by omega, h⟩
    · rw [Nat.min_eq_right (by omega)]
      exact Or.inr ⟨n, by omega, rfl⟩
def oT (g : Nat → Nat) (T : Nat) (i : Nat) : Nat := orf (fun r => if T.testBit r then g r else 0) i
def bT (bn : Nat → Nat) (T : Nat) (i : Nat) : Nat := fb_sm (fun r => if T.testBit r then bn r else 0) i
theorem oT_s (g : Nat → Nat) (T i : Nat) : oT g T (i + 1) = oT g T i ||| (if T.testBit i then g i else 0) := rfl
theorem bT_s (g : Nat → Nat) (T i : Nat) : bT g T (i + 1) = bT g T i + (if T.testBit i then g i else 0) := rfl
theorem oT_cong {g : Nat → Nat} {T U : Nat} : ∀ {i}, (∀ r, r < i → T.testBit r = U.testBit r) → oT g T i = oT g U i
  | 0, _ => rfl
  | i + 1, h => by rw [oT_s, oT_s, oT_cong (fun r hr => h r (by omega)), h i (by omega)]
theorem bT_cong {g : Nat → Nat} {T U : Nat} : ∀ {i}, (∀ r, r < i → T.testBit r = U.testBit r) → bT g T i = bT g U i
  | 0, _ => rfl
  | i + 1, h => by rw [bT_s, bT_s, bT_cong (fun r hr => h r (by omega)), h i (by omega)]
def opt (g bn : Nat → Nat) (d : Nat) : Nat → Nat → Nat → Nat
  | 0, lit, bu => d * pc lit - bu
  | i + 1, lit, bu => max (opt g bn d i lit bu) (opt g bn d i (lit ||| g i) (bu + bn i))
theorem opt_ge {g bn : Nat → Nat} {d : Nat} (T : Nat) : ∀ i lit bu, d * pc (lit ||| oT g T i) - (bu + bT bn T i) ≤ opt g bn d i lit bu
  | 0, lit, bu => by
    show d * pc (lit ||| 0) - (bu + 0) ≤ d * pc lit - bu
    rw [Nat.or_zero]
    exact Nat.le_refl _
  | i + 1, lit, bu => by
    rw [oT_s, bT_s, opt]
    cases hb : T.testBit i
    · simp only [Bool.false_eq_true, if_false, Nat.or_zero, Nat.add_zero]
      exact Nat.le_trans (opt_ge T i lit bu) (Nat.le_max_left _ _)
    · simp only [if_true]
      rw [Nat.or_comm (oT g T i), ← Nat.or_assoc, Nat.add_comm (bT bn T i), ← Nat.add_assoc]
      exact Nat.le_trans (opt_ge T i _ _) (Nat.le_max_right _ _)
theorem opt_get {g bn : Nat → Nat} {d : Nat} : ∀ i lit bu, ∃ T, T < 2 ^ i ∧ opt g bn d i lit bu = d * pc (lit ||| oT g T i) - (bu + bT bn T i)
  | 0, lit, bu => ⟨0, by decide, by
    show d * pc lit - bu = d * pc (lit ||| 0) - (bu + 0)
    rw [Nat.or_zero]; rfl⟩
  | i + 1, lit, bu => by
    rw [opt]
    have hp : 2 ^ (i + 1) = 2 * 2 ^ i := by rw [Nat.pow_succ, Nat.mul_comm]
    by_cases e : opt g bn d i (lit ||| g i) (bu + bn i) ≤ opt g bn d i lit bu
    · rw [Nat.max_eq_left e]
      obtain ⟨T, hT, h⟩ := opt_get (g := g) (bn := bn) (d := d) i lit bu
      refine ⟨T, by omega, ?_⟩
      rw [oT_s, bT_s, n_lt_bits hT (Nat.le_refl _), h]
      simp only [Bool.false_eq_true, if_false, Nat.or_zero, Nat.add_zero]
    · rw [Nat.max_eq_right (by omega)]
      obtain ⟨T, hT, h⟩ := opt_get (g := g) (bn := bn) (d := d) i (lit ||| g i) (bu + bn i)
      have hb : ∀ r, r < i → (T ||| 2 ^ i).testBit r = T.testBit r := fun r hr => by
        rw [Nat.testBit_or, n_two, decide_eq_false (by omega), Bool.or_false]
      refine ⟨T ||| 2 ^ i, n_or_lt (by omega) (n_pw (by omega)), ?_⟩
      rw [oT_s, bT_s, oT_cong hb, bT_cong hb, Nat.testBit_or, n_two, decide_eq_true rfl, Bool.or_true, h]
      simp only [if_true]
      rw [Nat.or_comm (oT g T i) (g i), ← Nat.or_assoc, Nat.add_comm (bT bn T i) (bn i), ← Nat.add_assoc]
theorem opt_lo {g bn : Nat → Nat} {d : Nat} : ∀ i lit bu, d * pc lit - bu ≤ opt g bn d i lit bu
  | 0, _, _ => Nat.le_refl _
  | i + 1, lit, bu => Nat.le_trans (opt_lo i lit bu) (Nat.le_max_left _ _)
theorem opt_hi {g bn : Nat → Nat} {d : Nat} : ∀ i lit bu, opt g bn d i lit bu ≤ d * pc (lit ||| orf g i) - bu
  | 0, lit, bu => by
    show d * pc lit - bu ≤ d * pc (lit ||| 0) - bu
    rw [Nat.or_zero]
    exact Nat.le_refl _
  | i + 1, lit, bu => by
    rw [opt, orf]
    refine Nat.max_le.mpr ⟨Nat.le_trans (opt_hi i lit bu) ?_, Nat.le_trans (opt_hi i _ _) ?_⟩
    · have : pc (lit ||| orf g i) ≤ pc (lit ||| (orf g i ||| g i)) := pc_sub (fun k hk => by
        rw [← Nat.or_assoc, Nat.testBit_or, hk]; rfl)
      have := Nat.mul_le_mul_left d this
      omega
    · rw [Nat.or_assoc, Nat.or_comm (g i)]
      omega
theorem or_sdf (a b : Nat) : a ||| b = a ||| sdf b a := n_ext (fun i => by
  rw [Nat.testBit_or, Nat.testBit_or, sdf_bit]
  cases a.testBit i <;> cases b.testBit i <;> rfl)
theorem pc_or_sdf (a b : Nat) : pc (a ||| b) = pc a + pc (sdf b a) := by
  rw [or_sdf]
  exact pc_or (and_z (fun i hi => by rw [sdf_bit, hi]; simp))
/-- a lamp that burns as much as it lights anew can be left out -/
theorem opt_out {g bn : Nat → Nat} {d : Nat} : ∀ i lit bu a b, d * pc (sdf a lit) ≤ b → opt g bn d i (lit ||| a) (bu + b) ≤ opt g bn d i lit bu
  | 0, lit, bu, a, b, h => by
    show d * pc (lit ||| a) - (bu + b) ≤ d * pc lit - bu
    rw [pc_or_sdf, Nat.mul_add]
    omega
  | i + 1, lit, bu, a, b, h => by
    rw [opt, opt]
    have h2 : d * pc (sdf a (lit ||| g i)) ≤ b := Nat.le_trans (Nat.mul_le_mul_left d (pc_sub (fun k hk => by
      rw [sdf_bit, Nat.testBit_or] at hk
      rw [sdf_bit]
      revert hk
      cases a.testBit k <;> cases lit.testBit k <;> cases (g i).testBit k <;> simp))) h
    refine Nat.max_le.mpr ⟨Nat.le_trans (opt_out i lit bu a b h) (Nat.le_max_left _ _), Nat.le_trans ?_ (Nat.le_max_right _ _)⟩
    have := opt_out (g := g) (bn := bn) i (lit ||| g i) (bu + bn i) a b h2
    rw [Nat.or_assoc, Nat.or_comm a, ← Nat.or_assoc, show bu + b + bn i = bu + bn i + b by omega]
    exact this
/-- the search of the class -/
def sq (g bn : Nat → Nat) (d : Nat) : Nat → Nat → Nat → Nat → Nat
  | 0, lit, bu, best => max best (d * pc lit - bu)
  | i + 1, lit, bu, best => if d * pc (lit ||| orf g (i + 1)) - bu ≤ max best (d * pc lit - bu) then max best (d * pc lit - bu) else sq g bn d i lit bu (if bn i < d * pc (sdf (g i) lit) then sq g bn d i (lit ||| sdf (g i) lit) (bu + bn i) (max best (d * pc lit - bu)) else max best (d * pc lit - bu))
theorem sq_ok {g bn : Nat → Nat} {d : Nat} : ∀ i lit bu best, sq g bn d i lit bu best = max best (opt g bn d i lit bu)
  | 0, _, _, _ => rfl
  | i + 1, lit, bu, best => by
    rw [sq]
    have h1 := opt_lo (g := g) (bn := bn) (d := d) (i + 1) lit bu
    have h2 := opt_hi (g := g) (bn := bn) (d := d) (i + 1) lit bu
    have h3 := opt_lo (g := g) (bn := bn) (d := d) i lit bu
    by_cases e : d * pc (lit ||| orf g (i + 1)) - bu ≤ max best (d * pc lit - bu)
    · rw [if_pos e]
      omega
    · rw [if_neg e, sq_ok i lit bu]
      by_cases e2 : bn i < d * pc (sdf (g i) lit)
      · rw [if_pos e2, sq_ok i, ← or_sdf, opt]
        omega
      · rw [if_neg e2, opt]
        have h4 := opt_out (g := g) (bn := bn) (d := d) i lit bu (g i) (bn i) (by omega)
        omega
/-- what lamp r lights of the set -/
def gvs (tt : Nat → Nat) (s r : Nat) : Nat := if s.testBit r then ltt tt r &&& s else 0
def bur (tt : Nat → Nat) (r : Nat) : Nat := tt (416 + r)
theorem sm_ct (d : Nat) (p : Nat → Bool) : ∀ n, fb_sm (fun r => if p r then d else 0) n = d * fb_ct p n
  | 0 => by rw [fb_sm, fb_ct, Nat.mul_zero]
  | n + 1 => by
    rw [fb_sm_succ, fb_ct_succ, sm_ct d p n, Nat.mul_add]
    cases p n <;> simp
theorem oT_lit {tt : Nat → Nat} (hW : HWf tt) {s l r : Nat} (hl : l &&& s = l) (hr : s.testBit r = true) : (oT (gvs tt s) l (tt 1)).testBit r = true ↔ nxt tt r &&& l ≠ 0 := by
  unfold oT
  rw [orf_bit]
  constructor
  · rintro ⟨x, hx, h⟩ hz
    cases hb : l.testBit x
    · rw [hb] at h; simp at h
    · rw [hb] at h
      simp only [if_true] at h
      unfold gvs at h
      cases hs : s.testBit x
      · rw [hs] at h; simp at h
      · rw [hs] at h
        simp only [if_true] at h
        rw [Nat.testBit_and, Bool.and_eq_true, ← nxt_ltt] at h
        have := z_and hz h.1
        rw [hb] at this
        cases this
  · intro h
    obtain ⟨x, hx⟩ := Nat.exists_testBit_of_ne_zero h
    rw [Nat.testBit_and, Bool.and_eq_true] at hx
    have hxn : x < tt 1 := by
      by_cases e : x < tt 1
      · exact e
      · rw [n_lt_bits (nxt_lt hW r) (by omega)] at hx; cases hx.1
    have hs : s.testBit x = true := by
      have := hx.2
      rw [← hl, Nat.testBit_and, Bool.and_eq_true] at this
      exact this.2
    refine ⟨x, hxn, ?_⟩
    rw [hx.2]
    simp only [if_true]
    unfold gvs
    rw [hs]
    simp only [if_true]
    rw [Nat.testBit_and, ← nxt_ltt, hx.1, hr]
    rfl
theorem oT_sub {tt : Nat → Nat} {s l r : Nat} (h : (oT (gvs tt s) l (tt 1)).testBit r = true) : s.testBit r = true := by
  unfold oT at h
  rw [orf_bit] at h
  obtain ⟨x, hx, h⟩ := h
  cases hb : l.testBit x
  · rw [hb] at h; simp at h
  · rw [hb] at h
    simp only [if_true] at h
    unfold gvs at h
    cases hs : s.testBit x
    · rw [hs] at h; simp at h
    · rw [hs] at h
      simp only [if_true] at h
      rw [Nat.testBit_and, Bool.and_eq_true] at h
      exact h.2
theorem cva_eq {tt : Nat → Nat} (hW : HWf tt) {s l : Nat} (hs : s < 2 ^ tt 1) (hl : l &&& s = l) : cva tt s l + tt 6 * pc (oT (gvs tt s) l (tt 1)) = bT (bur tt) l (tt 1) + tt 6 * pc s := by
  have hro := hW.ro
  have h1 : sdf s (oT (gvs tt s) l (tt 1)) < 2 ^ tt 1 := sdf_lt hs
  have h2 := pc_sdf s (oT (gvs tt s) l (tt 1))
  have h3 : s &&& oT (gvs tt s) l (tt 1) = oT (gvs tt s) l (tt 1) := n_ext (fun i => by
    rw [Nat.testBit_and]
    cases e : (oT (gvs tt s) l (tt 1)).testBit i
    · rw [Bool.and_false]
    · rw [oT_sub e]; rfl)
  rw [h3] at h2
  unfold cva
  rw [fb_sm_add, show fb_sm (fun k => if l.testBit k then tt (416 + k) else 0) (tt 1) = bT (bur tt) l (tt 1) from rfl]
  have h4 : fb_sm (fun k => if s.testBit k = true ∧ nxt tt k &&& l = 0 then tt 6 else 0) (tt 1) = tt 6 * pc (sdf s (oT (gvs tt s) l (tt 1))) := by
    rw [pc_eq (by omega) h1, ← sm_ct]
    refine fb_sm_cong (fun k hk => ?_)
    rw [sdf_bit]
    cases e : s.testBit k
    · simp
    · have := oT_lit hW hl e
      cases e2 : (oT (gvs tt s) l (tt 1)).testBit k
      · rw [e2] at this
        have hz : nxt tt k &&& l = 0 := by
          by_cases hz : nxt tt k &&& l = 0
          · exact hz
          · exact absurd (this.mpr hz) (by simp)
        simp [hz]
      · have hz := this.mp e2
        simp [hz]
  rw [h4, ← h2, Nat.mul_add]
  omega
theorem sav_opt {tt : Nat → Nat} (hW : HWf tt) {s : Nat} (hs : s < 2 ^ tt 1) : opt (gvs tt s) (bur tt) (tt 6) (tt 1) 0 0 = sav tt s := by
  unfold sav cst
  apply Nat.le_antisymm
  · obtain ⟨T, hT, h⟩ := opt_get (g := gvs tt s) (bn := bur tt) (d := tt 6) (tt 1) 0 0
    rw [h, Nat.zero_or, Nat.zero_add]
    have e1 : oT (gvs tt s) T (tt 1) = oT (gvs tt s) (T &&& s) (tt 1) := by
      unfold oT
      congr 1
      funext r
      rw [Nat.testBit_and]
      unfold gvs
      cases T.testBit r <;> cases s.testBit r <;> rfl
    have e2 : bT (bur tt) (T &&& s) (tt 1) ≤ bT (bur tt) T (tt 1) := fb_sm_le (fun r _ => by
      rw [Nat.testBit_and]
      cases T.testBit r <;> cases s.testBit r <;> simp)
    have hl : (T &&& s) &&& s = T &&& s := by rw [Nat.and_assoc, Nat.and_self]
    have h2 := cva_eq hW hs hl
    have h3 : minf (fun l => if l &&& s = l then cva tt s l else tt 6 * pc s) (tt 6 * pc s) (2 ^ tt 1) ≤ cva tt s (T &&& s) := by
      have := minf_le (f := fun l => if l &&& s = l then cva tt s l else tt 6 * pc s) (top := tt 6 * pc s) (i := T &&& s) (n := 2 ^ tt 1) (Nat.lt_of_le_of_lt Nat.and_le_right hs)
      rw [if_pos hl] at this
      exact this
    rw [e1]
    omega
  · rcases minf_get (f := fun l => if l &&& s = l then cva tt s l else tt 6 * pc s) (top := tt 6 * pc s) (2 ^ tt 1) with h | ⟨l, hl, h⟩
    · rw [h]; omega
    · rw [h]
      by_cases e : l &&& s = l
      · rw [if_pos e]
        have h2 := cva_eq hW hs e
        have h3 := opt_ge (g := gvs tt s) (bn := bur tt) (d := tt 6) l (tt 1) 0 0
        rw [Nat.zero_or, Nat.zero_add] at h3
        omega
      · rw [if_neg e]; omega
