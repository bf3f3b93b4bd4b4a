/-! ===== walks: the way of Floyd and Warshall against steps ===== -/
theorem adj_sym (tt : Nat → Nat) (a b : Nat) : adj tt a b = adj tt b a := by
  unfold adj
  rw [Nat.testBit_or, Nat.testBit_or, nxt_ltt, nxt_ltt tt b a]
  exact Bool.or_comm _ _
theorem adj_lt {tt : Nat → Nat} (hW : HWf tt) {a b : Nat} (h : adj tt a b = true) : b < tt 1 := by
  by_cases e : b < tt 1
  · exact e
  · unfold adj at h
    rw [n_lt_bits (n_or_lt (nxt_lt hW a) (ltt_lt hW a)) (by omega)] at h
    cases h
/-- a walk of so many steps, all rooms between its ends below m -/
def Wk (tt : Nat → Nat) (m a b : Nat) : Nat → Prop
  | 0 => a = b
  | L + 1 => ∃ c, adj tt a c = true ∧ (c < m ∨ L = 0) ∧ Wk tt m c b L
theorem Wk_s {tt : Nat → Nat} {m a b L : Nat} : Wk tt m a b (L + 1) ↔ ∃ c, adj tt a c = true ∧ (c < m ∨ L = 0) ∧ Wk tt m c b L := by
  rw [Wk]
theorem Wk_split {tt : Nat → Nat} {m b : Nat} : ∀ {L a : Nat}, Wk tt (m + 1) a b L → Wk tt m a b L ∨ ∃ L1 L2, L1 + L2 ≤ L ∧ Wk tt m a m L1 ∧ Wk tt m m b L2
  | 0, a, h => Or.inl h
  | L + 1, a, h => by
    obtain ⟨c, h1, h2, h3⟩ := Wk_s.mp h
    have one : c = m → Wk tt m a m 1 := fun e => Wk_s.mpr ⟨c, h1, Or.inr rfl, e⟩
    rcases Wk_split h3 with h4 | ⟨L1, L2, h4, h5, h6⟩
    · by_cases hc : c < m ∨ L = 0
      · exact Or.inl (Wk_s.mpr ⟨c, h1, hc, h4⟩)
      · have e : c = m := by omega
        right
        exact ⟨1, L, by omega, one e, by rw [← e]; exact (e ▸ h4)⟩
    · right
      by_cases hc : c < m ∨ L1 = 0
      · exact ⟨L1 + 1, L2, by omega, Wk_s.mpr ⟨c, h1, hc, h5⟩, h6⟩
      · have e : c = m := by omega
        exact ⟨1, L2, by omega, one e, h6⟩
theorem Wk_cat {tt : Nat → Nat} (hW : HWf tt) {m b : Nat} : ∀ {L1 L2 a : Nat}, Wk tt (tt 1) a m L1 → Wk tt (tt 1) m b L2 → Wk tt (tt 1) a b (L1 + L2)
  | 0, L2, a, h1, h2 => by
    have : a = m := h1
    subst this
    rw [Nat.zero_add]
    exact h2
  | L1 + 1, L2, a, h1, h2 => by
    obtain ⟨c, g1, g2, g3⟩ := Wk_s.mp h1
    rw [show L1 + 1 + L2 = L1 + L2 + 1 by omega]
    exact Wk_s.mpr ⟨c, g1, Or.inl (adj_lt hW g1), Wk_cat hW g3 h2⟩
theorem Wk_sym {tt : Nat → Nat} (hW : HWf tt) : ∀ {L a b : Nat}, a < tt 1 → Wk tt (tt 1) a b L → Wk tt (tt 1) b a L
  | 0, a, b, _, h => (show a = b from h).symm
  | L + 1, a, b, ha, h => by
    obtain ⟨c, g1, g2, g3⟩ := Wk_s.mp h
    have h1 := Wk_sym hW (adj_lt hW g1) g3
    have h2 : Wk tt (tt 1) c a 1 := Wk_s.mpr ⟨a, by rw [adj_sym]; exact g1, Or.inr rfl, rfl⟩
    exact Wk_cat hW h1 h2
/-- rooms within k steps -/
theorem rch_wk {tt : Nat → Nat} (hW : HWf tt) {a : Nat} (ha : a < tt 1) : ∀ k b, ((rch tt a k).testBit b = true ↔ ∃ L, L ≤ k ∧ Wk tt (tt 1) a b L)
  | 0, b => by
    rw [rch, n_two]
    constructor
    · intro h
      exact ⟨0, Nat.le_refl _, (show a = b from of_decide_eq_true h)⟩
    · rintro ⟨L, hL, h⟩
      have : L = 0 := by omega
      subst this
      exact decide_eq_true (show a = b from h)
  | k + 1, b => by
    rw [rch, Nat.testBit_or, Bool.or_eq_true, rch_wk hW ha k b, orf_bit]
    constructor
    · rintro (⟨L, hL, h⟩ | ⟨r, hr, h⟩)
      · exact ⟨L, by omega, h⟩
      · cases hb : (rch tt a k).testBit r
        · rw [hb] at h; simp at h
        · rw [hb] at h
          simp only [if_true] at h
          obtain ⟨L, hL, h2⟩ := (rch_wk hW ha k r).mp hb
          exact ⟨L + 1, by omega, Wk_cat hW h2 (Wk_s.mpr ⟨b, h, Or.inr rfl, rfl⟩)⟩
    · rintro ⟨L, hL, h⟩
      by_cases e : L ≤ k
      · exact Or.inl ⟨L, e, h⟩
      · have e2 : L = k + 1 := by omega
        subst e2
        right
        -- the last step
        have h2 := Wk_sym hW ha h
        obtain ⟨c, g1, g2, g3⟩ := Wk_s.mp h2
        have hc := adj_lt hW g1
        refine ⟨c, hc, ?_⟩
        have h3 : (rch tt a k).testBit c = true := (rch_wk hW ha k c).mpr ⟨k, Nat.le_refl _, Wk_sym hW hc g3⟩
        rw [h3]
        simp only [if_true]
        have := adj_sym tt b c
        unfold adj at this g1
        rw [← this]
        exact g1
theorem rch_mono (tt : Nat → Nat) (a : Nat) {b : Nat} : ∀ d k, (rch tt a k).testBit b = true → (rch tt a (k + d)).testBit b = true
  | 0, _, h => h
  | d + 1, k, h => by
    have := rch_mono tt a d k h
    show (rch tt a (k + d + 1)).testBit b = true
    rw [rch, Nat.testBit_or, this]
    rfl
theorem rch_lt {tt : Nat → Nat} (hW : HWf tt) {a : Nat} (ha : a < tt 1) : ∀ k, rch tt a k < 2 ^ tt 1
  | 0 => n_pw ha
  | k + 1 => n_or_lt (rch_lt hW ha k) (orf_lt (fun r _ => by
      split
      · exact n_or_lt (nxt_lt hW r) (ltt_lt hW r)
      · exact Nat.two_pow_pos _))
theorem rch_stop (tt : Nat → Nat) (a : Nat) {k : Nat} (h : rch tt a (k + 1) = rch tt a k) : ∀ d, rch tt a (k + d) = rch tt a k
  | 0 => rfl
  | d + 1 => by
    have ih := rch_stop tt a h d
    show rch tt a (k + d + 1) = _
    rw [rch, ih, ← h]
    conv => rhs; rw [rch]
    rw [h]
theorem rch_grow {tt : Nat → Nat} (hW : HWf tt) {a : Nat} (ha : a < tt 1) : ∀ k, (∃ j, j < k ∧ rch tt a (j + 1) = rch tt a j) ∨ k + 1 ≤ pc (rch tt a k)
  | 0 => Or.inr (by
      have hro := hW.ro
      show 1 ≤ pc (2 ^ a)
      rw [pc_two (by omega)]
      exact Nat.le_refl _)
  | k + 1 => by
    have hro := hW.ro
    have hpw := pw16 hro
    rcases rch_grow hW ha k with ⟨j, hj, h⟩ | h
    · exact Or.inl ⟨j, by omega, h⟩
    · by_cases e : rch tt a (k + 1) = rch tt a k
      · exact Or.inl ⟨k, by omega, e⟩
      · right
        have hsub : ∀ i, (rch tt a k).testBit i = true → (rch tt a (k + 1)).testBit i = true := fun i hi => rch_mono tt a 1 k hi
        have h2 : sdf (rch tt a (k + 1)) (rch tt a k) ≠ 0 := fun hz => e (n_ext (fun i => by
          cases h1 : (rch tt a (k + 1)).testBit i
          · cases h2 : (rch tt a k).testBit i
            · rfl
            · rw [hsub i h2] at h1; cases h1
          · exact (sdf_0.mp hz i h1).symm))
        have h3 := pc_sdf (rch tt a (k + 1)) (rch tt a k)
        have h4 : rch tt a (k + 1) &&& rch tt a k = rch tt a k := n_ext (fun i => by
          rw [Nat.testBit_and]
          cases h2 : (rch tt a k).testBit i
          · simp
          · rw [hsub i h2]; rfl)
        rw [h4] at h3
        have h5 : pc (sdf (rch tt a (k + 1)) (rch tt a k)) ≠ 0 := fun hz => h2 ((pc_zero (by have := sdf_lt (b := rch tt a k) (rch_lt hW ha (k + 1)); omega)).mp hz)
        omega
/-- who can be come to, can be in fewer than 16 steps -/
theorem dst_wk {tt : Nat → Nat} (hW : HWf tt) {a b : Nat} (ha : a < tt 1) : (dst tt a b < 16 → Wk tt (tt 1) a b (dst tt a b)) ∧ ∀ L, Wk tt (tt 1) a b L → dst tt a b ≤ L ∧ dst tt a b < 16 := by
  have hro := hW.ro
  have no : ∀ L, L < dst tt a b → (rch tt a L).testBit b = false := fa_first_no (fun n => (rch tt a n).testBit b) 16
  have yes : dst tt a b < 16 → (rch tt a (dst tt a b)).testBit b = true := fa_first_yes (fun n => (rch tt a n).testBit b) 16
  have le : dst tt a b ≤ 16 := fa_first_le (fun n => (rch tt a n).testBit b) 16
  generalize dst tt a b = d at *
  have all : ∀ L, Wk tt (tt 1) a b L → ∃ k, k < 16 ∧ (rch tt a k).testBit b = true := fun L hL => by
    have h1 := (rch_wk hW ha L b).mpr ⟨L, Nat.le_refl _, hL⟩
    by_cases e : L < 16
    · exact ⟨L, e, h1⟩
    · rcases rch_grow hW ha 16 with ⟨j, hj, h⟩ | h
      · refine ⟨j, hj, ?_⟩
        have := rch_stop tt a h (L - j)
        rw [show j + (L - j) = L by omega] at this
        rw [← this]
        exact h1
      · have := pc_le_n (by omega) (rch_lt hW ha 16)
        omega
  constructor
  · intro h
    obtain ⟨L, hL, h2⟩ := (rch_wk hW ha (d) b).mp (yes h)
    by_cases e : L = d
    · rw [← e]; exact h2
    · exfalso
      have h3 := no L (show L < d by omega)
      have h4 := (rch_wk hW ha L b).mpr ⟨L, Nat.le_refl _, h2⟩
      rw [h4] at h3
      cases h3
  · intro L hL
    obtain ⟨k, hk, h1⟩ := all L hL
    have h2 : d ≤ k := by
      by_cases e : d ≤ k
      · exact e
      · have h3 := no k (show k < d by omega)
        rw [h1] at h3
        cases h3
    refine ⟨?_, by omega⟩
    by_cases e : d ≤ L
    · exact e
    · have h3 := no L (show L < d by omega)
      have h4 := (rch_wk hW ha L b).mpr ⟨L, Nat.le_refl _, hL⟩
      rw [h4] at h3
      cases h3
theorem way_le {tt : Nat → Nat} {a b : Nat} : way tt a b ≤ FAR := by
  unfold way FAR
  split <;> omega
/-- a matrix that is sound, and no more than any walk below m -/
def FWs (tt : Nat → Nat) (w : Nat → Nat → Nat) : Prop := ∀ a b, a < tt 1 → b < tt 1 → w a b ≤ FAR ∧ (w a b < FAR → Wk tt (tt 1) a b (w a b))
def FWc (tt : Nat → Nat) (m : Nat) (w : Nat → Nat → Nat) : Prop := ∀ a b L, a < tt 1 → b < tt 1 → Wk tt m a b L → w a b ≤ L
theorem FW_end {tt : Nat → Nat} (hW : HWf tt) {w : Nat → Nat → Nat} (h1 : FWs tt w) (h2 : FWc tt (tt 1) w) {a b : Nat} (ha : a < tt 1) (hb : b < tt 1) : w a b = way tt a b := by
  obtain ⟨d1, d2⟩ := dst_wk hW (b := b) ha
  obtain ⟨s1, s2⟩ := h1 a b ha hb
  unfold way
  generalize dst tt a b = d at *
  by_cases h : d < 16
  · rw [if_pos ⟨ha, h⟩]
    have h3 := h2 a b _ ha hb (d1 h)
    have h4 := (d2 _ (s2 (by unfold FAR; omega))).1
    omega
  · rw [if_neg (fun hh => h hh.2)]
    by_cases e : w a b < FAR
    · exact absurd (d2 _ (s2 e)).2 h
    · omega
theorem FW_step {tt : Nat → Nat} {m : Nat} {w w' : Nat → Nat → Nat} (h : FWc tt m w) (hm : m < tt 1) (h1 : ∀ a b, a < tt 1 → b < tt 1 → w' a b ≤ w a b ∧ w' a b ≤ w a m + w m b) : FWc tt (m + 1) w' := fun a b L ha hb hL => by
  obtain ⟨u1, u2⟩ := h1 a b ha hb
  rcases Wk_split hL with h2 | ⟨L1, L2, h2, h3, h4⟩
  · exact Nat.le_trans u1 (h a b L ha hb h2)
  · have := h a m L1 ha hm h3
    have := h m b L2 hm hb h4
    omega
theorem FWs_min {tt : Nat → Nat} (hW : HWf tt) {w : Nat → Nat → Nat} (h : FWs tt w) {a b m : Nat} (ha : a < tt 1) (hb : b < tt 1) (hm : m < tt 1) : min (w a b) (w a m + w m b) ≤ FAR ∧ (min (w a b) (w a m + w m b) < FAR → Wk tt (tt 1) a b (min (w a b) (w a m + w m b))) := by
  obtain ⟨s1, s2⟩ := h a b ha hb
  refine ⟨by omega, fun hlt => ?_⟩
  by_cases e : w a b ≤ w a m + w m b
  · rw [Nat.min_eq_left e] at hlt ⊢
    exact s2 hlt
  · rw [Nat.min_eq_right (by omega)] at hlt ⊢
    obtain ⟨_, t2⟩ := h a m ha hm
    obtain ⟨_, t4⟩ := h m b hm hb
    exact Wk_cat hW (t2 (by omega)) (t4 (by omega))
