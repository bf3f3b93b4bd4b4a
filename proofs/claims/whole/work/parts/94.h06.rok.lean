/-! ===== round ===== -/
section RLeft2
variable {tt : Nat → Nat} {s m I t : Nat} {xr xS xv : Nat → Nat}
variable {A : Nat → Nat → Int32} {Z : Nat → Int32} {B : Nat → Nat → Int64} {Q : Nat → Int64} {P : Nat → Option Nat} {F : Nat → Nat → Option Nat} {q : Nat} {D : List xC} {c : Nat × Nat} {K : Nat → Nat} {lk lh : Nat → Nat}
theorem litB_lts {tt : Nat → Nat} (hW : HWf tt) {S : Nat} (hS : S < 2 ^ tt 1) : litB (nxt tt) (tt 1) S (2 ^ tt 1 - 1) = true ↔ lts tt S = 2 ^ tt 1 - 1 := by
  unfold litB
  rw [allB_iff]
  constructor
  · intro h
    refine n_ext (fun x => ?_)
    apply Bool.eq_iff_iff.mpr
    rw [Nat.testBit_two_pow_sub_one]
    constructor
    · intro hx
      apply decide_eq_true
      apply Classical.byContradiction
      intro hn
      rw [n_lt_bits (lts_lt hW S) (by omega)] at hx
      cases hx
    · intro hx
      have hx := of_decide_eq_true hx
      have h1 := h x hx
      rw [Nat.testBit_two_pow_sub_one, decide_eq_true hx] at h1
      exact (litBy_bit hW hS).mpr (of_decide_eq_true (by simpa using h1))
  · intro h x hx
    have h1 : (lts tt S).testBit x = true := by
      rw [h, Nat.testBit_two_pow_sub_one]
      exact decide_eq_true hx
    have h2 := (litBy_bit hW hS).mp h1
    simp [h2]
theorem m_ll104 (hT : Told (A 58) tt lk lh) (hW : HWf tt) (hn : tt 1 ≤ 12) (h68 : ∀ a b, a < tt 1 → b < tt 1 → A 68 (16 * a + b) = nI (way tt a b)) {lf qf : Nat → Int32} (H : LQ tt s xr xS xv m 0 0) (hA : LA tt xr xS xv m lf qf) : ∃ m2 xr2 xS2 xv2 lf2 qf2, f_X12_layLeft_104 xFU (HH (upA (upA A 71 lf) 72 qf) Z B Q P F q D c) 57 (nI m) (nI 0) = some (HH (upA (upA A 71 lf2) 72 qf2) Z B Q P F q D c) ∧ LQ tt s xr2 xS2 xv2 m2 m2 0 ∧ LA tt xr2 xS2 xv2 m2 lf2 qf2 := by
  have hpw : 2 ^ tt 1 ≤ 2 ^ 12 := n_pwl hn
  have key := loop_I (F := fun n I (h : xH × Nat) => f_X12_layLeft_104 n h.1 57 (nI h.2) (nI I)) (N := 49152) some (fun I h => I ≤ h.2 ∧ ∃ xr2 xS2 xv2 lf2 qf2, h.1 = HH (upA (upA A 71 lf2) 72 qf2) Z B Q P F q D c ∧ LQ tt s xr2 xS2 xv2 h.2 I 0 ∧ LA tt xr2 xS2 xv2 h.2 lf2 qf2) (fun o => ∃ m2 xr2 xS2 xv2 lf2 qf2, o = HH (upA (upA A 71 lf2) 72 qf2) Z B Q P F q D c ∧ LQ tt s xr2 xS2 xv2 m2 m2 0 ∧ LA tt xr2 xS2 xv2 m2 lf2 qf2) (fun n I h hI hh => ?_) (fun n h hh => ?_) (by omega) (s := (HH (upA (upA A 71 lf) 72 qf) Z B Q P F q D c, m)) ⟨Nat.zero_le _, xr, xS, xv, lf, qf, rfl, H, hA⟩
  · obtain ⟨o, e1, m2, xr2, xS2, xv2, lf2, qf2, rfl, h1, h2⟩ := key
    exact ⟨m2, xr2, xS2, xv2, lf2, qf2, e1, h1, h2⟩
  · obtain ⟨h, m1⟩ := h
    obtain ⟨hle, xr1, xS1, xv1, lf1, qf1, e0, H1, hA1⟩ := hh
    dsimp only at hle e0 H1 hA1
    subst e0
    have hmr := LQ_room hn H1
    by_cases hI1 : I < m1
    · left
      obtain ⟨b1, b2, b3, b4, b5⟩ := H1.1 I hI1
      obtain ⟨m2, xr2, xS2, xv2, lf2, qf2, e2, H2, hA2, hlt2⟩ := m_ll136 (A := A) (Z := Z) (B := B) (Q := Q) (P := P) (F := F) (q := q) (D := D) (c := c) hT hW hn h68 H1 hA1 hI1 (f_X12_layLeft_104 n)
      have eq1 := (hA1.1 I hI1).1
      have e72 : (upA (upA A 71 lf1) 72 qf1) 72 = qf1 := by rw [y_us]
      refine ⟨(HH (upA (upA A 71 lf2) 72 qf2) Z B Q P F q D c, m2), Eq.trans ?_ e2, hlt2, xr2, xS2, xv2, lf2, qf2, rfl, H2, hA2⟩
      show f_X12_layLeft_104 (n + 1) (HH (upA (upA A 71 lf1) 72 qf1) Z B Q P F q D c) 57 (nI m1) (nI I) = _
      rw [f_X12_layLeft_104, if_neg (by rw [y_le (by omega) (by omega)]; omega), gf_57_27, Option.bind_some, ld_72 (by omega), Option.bind_some, e72, eq1, show (4096 : Int32) = nI 4096 from rfl, y_dv (by omega) (by omega) (by omega), Option.bind_some, Option.bind_some, ld_72 (by omega), Option.bind_some, e72, eq1, y_rm (by omega) (by omega) (by omega), Option.bind_some, show (4096 * xr1 I + xS1 I) / 4096 = xr1 I by omega, show (4096 * xr1 I + xS1 I) % 4096 = xS1 I by omega]
      rfl
    · right
      have em : I = m1 := by omega
      subst em
      refine ⟨HH (upA (upA A 71 lf1) 72 qf1) Z B Q P F q D c, ?_, I, xr1, xS1, xv1, lf1, qf1, rfl, H1, hA1⟩
      show f_X12_layLeft_104 (n + 1) (HH (upA (upA A 71 lf1) 72 qf1) Z B Q P F q D c) 57 (nI I) (nI I) = _
      rw [f_X12_layLeft_104, if_pos (Int32.le_refl _)]
  · obtain ⟨h, m1⟩ := h
    obtain ⟨hle, xr1, xS1, xv1, lf1, qf1, e0, H1, hA1⟩ := hh
    dsimp only at hle e0 H1 hA1
    subst e0
    have hmr := LQ_room hn H1
    have em : m1 = 49152 := by omega
    subst em
    refine ⟨HH (upA (upA A 71 lf1) 72 qf1) Z B Q P F q D c, ?_, 49152, xr1, xS1, xv1, lf1, qf1, rfl, H1, hA1⟩
    show f_X12_layLeft_104 (n + 1) (HH (upA (upA A 71 lf1) 72 qf1) Z B Q P F q D c) 57 (nI 49152) (nI 49152) = _
    rw [f_X12_layLeft_104, if_pos (Int32.le_refl _)]
/-- the sets that are right at home -/
theorem m_ll36 (hT : Told (A 58) tt lk lh) (hW : HWf tt) (hn : tt 1 ≤ 12) (hs : s < tt 1) (h63 : ∀ r, r < tt 1 → A 63 r = nI (nxt tt r)) {lf qf : Nat → Int32} (hlf : ∀ x, x < 49152 → lf x = nM) : ∃ m2 xr2 xS2 xv2 lf2 qf2, f_X12_layLeft_36 xFU (HH (upA (upA A 71 lf) 72 qf) Z B Q P F q D c) 57 (nI s) (nI 0) (nI 0) = f_X12_layLeft_104 xFU (HH (upA (upA A 71 lf2) 72 qf2) Z B Q P F q D c) 57 (nI m2) (nI 0) ∧ LQ tt s xr2 xS2 xv2 m2 0 0 ∧ LA tt xr2 xS2 xv2 m2 lf2 qf2 := by
  have hpw : 2 ^ tt 1 ≤ 2 ^ 12 := n_pwl hn
  have hpp := Nat.two_pow_pos (tt 1)
  have key := loop_I (F := fun n j (h : xH × Nat) => f_X12_layLeft_36 n h.1 57 (nI s) (nI h.2) (nI j)) (N := 2 ^ tt 1) (ρ := Option xH) id (fun j h => h.2 ≤ j ∧ ∃ xS2 lf2 qf2, h.1 = HH (upA (upA A 71 lf2) 72 qf2) Z B Q P F q D c ∧ LA tt (fun _ => s) xS2 (fun _ => 0) h.2 lf2 qf2 ∧ (∀ i, i < h.2 → xS2 i < j ∧ (xS2 i).testBit s = true ∧ lts tt (xS2 i) = 2 ^ tt 1 - 1) ∧ (∀ i k, i < k → k < h.2 → xS2 i ≠ xS2 k) ∧ ∀ S, S < j → S.testBit s = true → lts tt S = 2 ^ tt 1 - 1 → ∃ i, i < h.2 ∧ xS2 i = S) (fun o => ∃ m2 xr2 xS2 xv2 lf2 qf2, o = f_X12_layLeft_104 xFU (HH (upA (upA A 71 lf2) 72 qf2) Z B Q P F q D c) 57 (nI m2) (nI 0) ∧ LQ tt s xr2 xS2 xv2 m2 0 0 ∧ LA tt xr2 xS2 xv2 m2 lf2 qf2) (fun n j h hj hh => Or.inl ?_) (fun n h hh => ?_) (by omega) (s := (HH (upA (upA A 71 lf) 72 qf) Z B Q P F q D c, 0)) ⟨Nat.le_refl _, fun _ => 0, lf, qf, rfl, ⟨fun i hi => by omega, fun r S hr hS _ => hlf _ (by omega)⟩, fun i hi => by omega, fun i k hi hk => by omega, fun S hS => by omega⟩
  · obtain ⟨o, e1, m2, xr2, xS2, xv2, lf2, qf2, rfl, h1, h2⟩ := key
    exact ⟨m2, xr2, xS2, xv2, lf2, qf2, e1, h1, h2⟩
  · obtain ⟨h, m1⟩ := h
    obtain ⟨hle, xS1, lf1, qf1, e0, hA1, h2, h3, h4⟩ := hh
    dsimp only at hle e0 hA1 h2 h3 h4
    subst e0
    have hT1 : Told (upA (upA A 71 lf1) 72 qf1 58) tt lk lh := hT
    have eL := m_isLit (A := upA (upA A 71 lf1) 72 qf1) (Z := Z) (B := B) (Q := Q) (P := P) (F := F) (q := q) (D := D) (c := c) hT1 hW (nx := nxt tt) h63 (fun r => nxt_lt16 hW r) (S := j) (by omega) (o := 2 ^ tt 1 - 1) (by omega)
    have hlit := litB_lts hW (S := j) hj
    have es : f_X12_layLeft_36 (n + 1) (HH (upA (upA A 71 lf1) 72 qf1) Z B Q P F q D c) 57 (nI s) (nI m1) (nI j) = if j.testBit s = true ∧ lts tt j = 2 ^ tt 1 - 1 then f_X12_layLeft_36 n (HH (upA (upA A 71 (va_up lf1 (4096 * s + j) (nI 0))) 72 (va_up qf1 m1 (nI (4096 * s + j)))) Z B Q P F q D c) 57 (nI s) (nI (m1 + 1)) (nI (j + 1)) else f_X12_layLeft_36 n (HH (upA (upA A 71 lf1) 72 qf1) Z B Q P F q D c) 57 (nI s) (nI m1) (nI (j + 1)) := by
      have eA : ∀ x y, upA (upA (upA (upA A 71 lf1) 72 qf1) 71 x) 72 y = upA (upA A 71 x) 72 y := fun x y => by
        funext k
        unfold upA
        by_cases e1 : k = 72
        · subst e1; simp
        · by_cases e2 : k = 71
          · subst e2; simp
          · simp [e1, e2]
      have e71 : (upA (upA A 71 lf1) 72 qf1) 71 = lf1 := by rw [y_un (by decide), y_us]
      have e72 : ∀ x, (upA (upA (upA A 71 lf1) 72 qf1) 71 x) 72 = qf1 := fun x => by rw [y_un (by decide), y_us]
      rw [f_X12_layLeft_36, gO_57, Option.bind_some, m_all hT1 hW, Option.bind_some, if_neg (by rw [y_lt (by omega) (by omega)]; omega), has_spec _ (by omega) (by omega), Option.bind_some]
      cases hb : j.testBit s
      · rw [if_pos (by decide), if_neg (fun h => by cases h.1), nI_1]
      · rw [if_neg (by decide), Option.bind_some, Option.bind_some, Option.bind_some, eL, Option.bind_some]
        by_cases hl : lts tt j = 2 ^ tt 1 - 1
        · rw [hlit.mpr hl, if_neg (by decide), gf_57_26, Option.bind_some, show (4096 : Int32) = nI 4096 from rfl, show (0 : Int32) = nI 0 from rfl, pk_mul, nI_add, st_71 (by omega), Option.bind_some, gf_57_27, Option.bind_some, st_72 (by omega), Option.bind_some, e71, e72, eA, nI_1, nI_1, if_pos ⟨rfl, hl⟩]
        · have hlf : litB (nxt tt) (tt 1) j (2 ^ tt 1 - 1) = false := by
            cases hx : litB (nxt tt) (tt 1) j (2 ^ tt 1 - 1)
            · rfl
            · exact absurd (hlit.mp hx) hl
          rw [hlf, if_pos (by decide), nI_1, if_neg (fun h => hl h.2)]
    by_cases hc : j.testBit s = true ∧ lts tt j = 2 ^ tt 1 - 1
    · refine ⟨(HH (upA (upA A 71 (va_up lf1 (4096 * s + j) (nI 0))) 72 (va_up qf1 m1 (nI (4096 * s + j)))) Z B Q P F q D c, m1 + 1), es.trans (if_pos hc), by dsimp only; omega, va_up xS1 m1 j, _, _, rfl, ⟨fun i hi => ?_, fun r S hr hS hxi => ?_⟩, fun i hi => ?_, fun i k hi hk => ?_, fun S hS hb hl => ?_⟩
      · dsimp only at hi ⊢
        by_cases e : i = m1
        · subst e
          rw [y_vs, y_vs]
          exact ⟨rfl, y_vs⟩
        · have := h2 i (by omega)
          rw [show va_up xS1 m1 j i = xS1 i from y_vn e, show va_up qf1 m1 (nI (4096 * s + j)) i = qf1 i from y_vn e]
          obtain ⟨b1, b2⟩ := hA1.1 i (by omega)
          refine ⟨b1, ?_⟩
          rw [y_vn (by omega)]
          exact b2
      · dsimp only at hxi
        have hne : ¬ (r = s ∧ S = j) := fun h => by
          have := hxi m1 (by omega)
          rw [y_vs] at this
          exact this ⟨h.1.symm, h.2.symm⟩
        rw [y_vn (fun h => hne ((c4_inj (by omega) (by omega)).mp h))]
        refine hA1.2 r S hr hS (fun i hi => ?_)
        have := hxi i (by omega)
        rw [y_vn (by omega)] at this
        exact this
      · dsimp only at hi
        by_cases e : i = m1
        · subst e; rw [y_vs]; exact ⟨by omega, hc.1, hc.2⟩
        · rw [y_vn e]
          obtain ⟨b1, b2, b3⟩ := h2 i (by omega)
          exact ⟨by omega, b2, b3⟩
      · dsimp only at hk
        rw [y_vn (by omega)]
        by_cases e : k = m1
        · subst e
          rw [y_vs]
          have := (h2 i hi).1
          omega
        · rw [y_vn e]; exact h3 i k hi (by omega)
      · dsimp only
        by_cases e : S = j
        · exact ⟨m1, by omega, by rw [y_vs, e]⟩
        · obtain ⟨i, i1, i2⟩ := h4 S (by omega) hb hl
          exact ⟨i, by omega, by rw [y_vn (by omega)]; exact i2⟩
    · refine ⟨(HH (upA (upA A 71 lf1) 72 qf1) Z B Q P F q D c, m1), es.trans (if_neg hc), by dsimp only; omega, xS1, lf1, qf1, rfl, hA1, fun i hi => ?_, h3, fun S hS hb hl => ?_⟩
      · obtain ⟨b1, b2, b3⟩ := h2 i hi
        exact ⟨by omega, b2, b3⟩
      · by_cases e : S = j
        · subst e; exact absurd ⟨hb, hl⟩ hc
        · exact h4 S (by omega) hb hl
  · obtain ⟨h, m1⟩ := h
    obtain ⟨hle, xS1, lf1, qf1, e0, hA1, h2, h3, h4⟩ := hh
    dsimp only at hle e0 hA1 h2 h3 h4
    subst e0
    have hT1 : Told (upA (upA A 71 lf1) 72 qf1 58) tt lk lh := hT
    refine ⟨f_X12_layLeft_104 xFU (HH (upA (upA A 71 lf1) 72 qf1) Z B Q P F q D c) 57 (nI m1) (nI 0), ?_, m1, fun _ => s, xS1, fun _ => 0, lf1, qf1, rfl, ⟨fun i hi => ?_, fun i j hij hj => ⟨Nat.le_refl _, fun h => h3 i j hij hj h.2⟩, fun _ j _ => Nat.zero_le _, fun S a1 a2 a3 => ?_, fun a o S ha => by omega⟩, hA1⟩
    · show f_X12_layLeft_36 (n + 1) (HH (upA (upA A 71 lf1) 72 qf1) Z B Q P F q D c) 57 (nI s) (nI m1) (nI (2 ^ tt 1)) = _
      rw [f_X12_layLeft_36, gO_57, Option.bind_some, m_all hT1 hW, Option.bind_some, if_pos (by rw [y_lt (by omega) (by omega)]; omega)]
      rfl
    · obtain ⟨b1, b2, b3⟩ := h2 i hi
      exact ⟨hs, b1, b2, ⟨b3, rfl⟩, Nat.zero_le _⟩
    · obtain ⟨i, i1, i2⟩ := h4 S a1 a2 a3
      exact ⟨i, i1, rfl, i2, rfl⟩
/-- what the reference's rows say of a state -/
def LL2 (tt : Nat → Nat) (s : Nat) (lf : Nat → Int32) : Prop := ∀ r S, r < tt 1 → S < 2 ^ tt 1 → S.testBit r = true → (∃ k, k ≤ 49152 ∧ lf (4096 * r + S) = nI k ∧ Ld tt s (lts tt S) r k) ∨ (lf (4096 * r + S) = nM ∧ ∀ k, ¬ Wn tt s k (lts tt S) r)
theorem m_layLeft (hT : Told (A 58) tt lk lh) (hW : HWf tt) (hn : tt 1 ≤ 12) (hs : s < tt 1) : ∃ A', f_X12_layLeft (HH A Z B Q P F q D c) 57 (nI s) = some (HH A' Z B Q P F q D c) ∧ Only [63, 68, 71, 72] A A' ∧ (∀ a b, a < tt 1 → b < tt 1 → A' 68 (16 * a + b) = nI (way tt a b)) ∧ LL2 tt s (A' 71) := by
  have hpw : 2 ^ tt 1 ≤ 2 ^ 12 := n_pwl hn
  obtain ⟨f, e1, h68⟩ := m_layWalks (A := A) (Z := Z) (B := B) (Q := Q) (P := P) (F := F) (q := q) (D := D) (c := c) hT hW
  have hT1 : Told (upA A 68 f 58) tt lk lh := hT
  obtain ⟨g, e2, h63⟩ := m_layNexts (A := upA A 68 f) (Z := Z) (B := B) (Q := Q) (P := P) (F := F) (q := q) (D := D) (c := c) hT1 hW
  generalize hA0 : upA (upA A 68 f) 63 g = A0 at e2
  have hT0 : Told (A0 58) tt lk lh := by rw [← hA0]; exact hT
  have o0 : Only [63, 68, 71, 72] A A0 := by rw [← hA0]; exact (Only.rf.up (by decide)).up (by decide)
  have h68' : ∀ a b, a < tt 1 → b < tt 1 → A0 68 (16 * a + b) = nI (way tt a b) := by rw [← hA0]; exact h68
  have h63' : ∀ r, r < tt 1 → A0 63 r = nI (nxt tt r) := by rw [← hA0]; exact h63
  -- all none
  have h12 : ∃ lf, f_X12_layLeft_12 xFU (HH A0 Z B Q P F q D c) 57 (nI s) (nI 0) (nI 0) = f_X12_layLeft_36 xFU (HH (upA A0 71 lf) Z B Q P F q D c) 57 (nI s) (nI 0) (nI 0) ∧ ∀ x, x < 49152 → lf x = nM := by
    have key := loop_J (F := fun n j (h : xH) => f_X12_layLeft_12 n h 57 (nI s) (nI 0) (nI j)) (N := 49152) (fun h => f_X12_layLeft_36 xFU h 57 (nI s) (nI 0) (nI 0)) (fun j h => ∃ lf, h = HH (upA A0 71 lf) Z B Q P F q D c ∧ ∀ x, x < j → lf x = nM) (fun n j h hj hh => ?_) (fun n h hh => ?_) (by omega) (s := HH A0 Z B Q P F q D c) ⟨A0 71, by rw [y_ua], fun x hx => by omega⟩
    · obtain ⟨h, e3, lf, rfl, h1⟩ := key
      exact ⟨lf, e3, h1⟩
    · obtain ⟨lf, rfl, h1⟩ := hh
      refine ⟨HH (upA A0 71 (va_up lf j nM)) Z B Q P F q D c, ?_, _, rfl, fun x hx => ?_⟩
      · show f_X12_layLeft_12 (n + 1) _ 57 _ _ _ = _
        rw [f_X12_layLeft_12, gf_57_26, Option.bind_some, al_71, Option.bind_some, if_neg (by rw [y_le (by omega) (by omega)]; omega), Option.bind_some, show (-1 : Int32) = nM from rfl, st_71 hj, Option.bind_some, y_uu, y_us, nI_1]
      · by_cases e : x = j
        · subst e; rw [y_vs]
        · rw [y_vn e]; exact h1 x (by omega)
    · obtain ⟨lf, rfl, h1⟩ := hh
      show f_X12_layLeft_12 (n + 1) _ 57 _ _ _ = _
      rw [f_X12_layLeft_12, gf_57_26, Option.bind_some, al_71, Option.bind_some, if_pos (by rw [y_le (by omega) (by omega)]; exact Nat.le_refl _)]
      rfl
  obtain ⟨lf, e3, hlf⟩ := h12
  have eq72 : upA (upA A0 71 lf) 72 (A0 72) = upA A0 71 lf := y_ua (A := upA A0 71 lf) (k := 72)
  obtain ⟨m2, xr2, xS2, xv2, lf2, qf2, e4, H2, hA2⟩ := m_ll36 (A := A0) (Z := Z) (B := B) (Q := Q) (P := P) (F := F) (q := q) (D := D) (c := c) hT0 hW hn hs h63' (qf := A0 72) hlf
  obtain ⟨m3, xr3, xS3, xv3, lf3, qf3, e5, H3, hA3⟩ := m_ll104 (A := A0) (Z := Z) (B := B) (Q := Q) (P := P) (F := F) (q := q) (D := D) (c := c) hT0 hW hn h68' H2 hA2
  rw [eq72] at e4
  refine ⟨upA (upA A0 71 lf3) 72 qf3, ?_, (o0.up (by decide)).up (by decide), h68', fun r S hr hS hb => ?_⟩
  · unfold f_X12_layLeft
    rw [gO_57, Option.bind_some, e1, Option.bind_some, gO_57, Option.bind_some, e2, Option.bind_some]
    exact e3.trans (e4.trans e5)
  · have e71 : (upA (upA A0 71 lf3) 72 qf3) 71 = lf3 := by rw [y_un (by decide), y_us]
    rw [e71]
    have hmr := LQ_room hn H3
    by_cases hin : ∃ i, i < m3 ∧ xr3 i = r ∧ xS3 i = S
    · obtain ⟨i, i1, i2, i3⟩ := hin
      have h1 := (hA3.1 i i1).2
      obtain ⟨_, _, _, h2, h2b⟩ := H3.1 i i1
      rw [i2, i3] at h1 h2
      refine Or.inl ⟨xv3 i, by omega, h1, h2, fun j hj hw => ?_⟩
      obtain ⟨i5, j1, j2, j3, j4⟩ := LQ_end hW H3 j r S hr hS hb hw
      have e : i5 = i := by
        rcases Nat.lt_trichotomy i5 i with x | x | x
        · exact absurd ⟨j2.trans i2.symm, j3.trans i3.symm⟩ (H3.2.1 i5 i x i1).2
        · exact x
        · exact absurd ⟨i2.trans j2.symm, i3.trans j3.symm⟩ (H3.2.1 i i5 x j1).2
      rw [e] at j4
      omega
    · refine Or.inr ⟨hA3.2 r S hr hS (fun i hi h => hin ⟨i, hi, h⟩), fun k hw => ?_⟩
      obtain ⟨i5, j1, j2, j3, _⟩ := LQ_end hW H3 k r S hr hS hb hw
      exact hin ⟨i5, j1, j2, j3⟩
end RLeft2
