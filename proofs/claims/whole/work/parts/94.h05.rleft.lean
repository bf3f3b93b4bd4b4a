/-! ===== round: the reference's rows ===== -/
def LQ (tt : Nat → Nat) (s : Nat) (xr xS xv : Nat → Nat) (m I t : Nat) : Prop :=
  (∀ i, i < m → xr i < tt 1 ∧ xS i < 2 ^ tt 1 ∧ (xS i).testBit (xr i) = true ∧ Wn tt s (xv i) (lts tt (xS i)) (xr i) ∧ xv i ≤ i) ∧ (∀ i j, i < j → j < m → xv i ≤ xv j ∧ ¬ (xr i = xr j ∧ xS i = xS j)) ∧ (I < m → ∀ j, j < m → xv j ≤ xv I + 1) ∧ (∀ S, S < 2 ^ tt 1 → S.testBit s = true → lts tt S = 2 ^ tt 1 - 1 → ∃ i, i < m ∧ xr i = s ∧ xS i = S ∧ xv i = 0) ∧ ∀ a o S, (a < I ∨ (a = I ∧ o < t)) → a < m → adj tt (xr a) o = true → S < 2 ^ tt 1 → S.testBit o = true → S ||| 2 ^ xr a = xS a → ∃ i, i < m ∧ xr i = o ∧ xS i = S ∧ xv i ≤ xv a + 1
def LA (tt : Nat → Nat) (xr xS xv : Nat → Nat) (m : Nat) (lf qf : Nat → Int32) : Prop := (∀ i, i < m → qf i = nI (4096 * xr i + xS i) ∧ lf (4096 * xr i + xS i) = nI (xv i)) ∧ ∀ r S, r < tt 1 → S < 2 ^ tt 1 → (∀ i, i < m → ¬ (xr i = r ∧ xS i = S)) → lf (4096 * r + S) = nM
section RLeft
variable {tt : Nat → Nat} {s m I t : Nat} {xr xS xv : Nat → Nat}
theorem c4_inj {r S r2 S2 : Nat} (h1 : S < 4096) (h2 : S2 < 4096) : 4096 * r + S = 4096 * r2 + S2 ↔ r = r2 ∧ S = S2 := by omega
theorem LQ_room (hn : tt 1 ≤ 12) (H : LQ tt s xr xS xv m I t) : m ≤ 49152 := by
  have hpw : 2 ^ tt 1 ≤ 2 ^ 12 := n_pwl hn
  refine pig 49152 m (fun i => 4096 * xr i + xS i) (fun i hi => by have := H.1 i hi; omega) (fun i j hij hj h => ?_)
  have h1 := H.1 i (by omega)
  have h2 := H.1 j hj
  exact (H.2.1 i j hij hj).2 ((c4_inj (by omega) (by omega)).mp h)
theorem LQ_new (hW : HWf tt) (H : LQ tt s xr xS xv m I t) (hI : I < m) {o S : Nat} (ho : adj tt (xr I) o = true) (hS : S < 2 ^ tt 1) (hb : S.testBit o = true) (hu : S ||| 2 ^ xr I = xS I) (hn : ∀ i, i < m → ¬ (xr i = o ∧ xS i = S)) : LQ tt s (va_up xr m o) (va_up xS m S) (va_up xv m (xv I + 1)) (m + 1) I t := by
  obtain ⟨h1, h2, h3, h4, h5⟩ := H
  have er : ∀ i, i < m → va_up xr m o i = xr i := fun i hi => y_vn (by omega)
  have eS : ∀ i, i < m → va_up xS m S i = xS i := fun i hi => y_vn (by omega)
  have ev : ∀ i, i < m → va_up xv m (xv I + 1) i = xv i := fun i hi => y_vn (by omega)
  have erm : va_up xr m o m = o := y_vs
  have eSm : va_up xS m S m = S := y_vs
  have evm : va_up xv m (xv I + 1) m = xv I + 1 := y_vs
  refine ⟨fun i hi => ?_, fun i j hij hj => ?_, fun _ j hj => ?_, fun S2 a1 a2 a3 => ?_, fun a o2 S2 ha ham hao b1 b2 b3 => ?_⟩
  · by_cases e : i = m
    · subst e
      rw [erm, eSm, evm]
      refine ⟨adj_lt hW ho, hS, hb, ⟨xr I, by rw [adj_sym]; exact ho, ?_⟩, by have := (h1 I hI).2.2.2.2; omega⟩
      rw [← lts_or (h1 I hI).1, hu]
      exact (h1 I hI).2.2.2.1
    · rw [er i (by omega), eS i (by omega), ev i (by omega)]; exact h1 i (by omega)
  · rw [er i (by omega), eS i (by omega), ev i (by omega)]
    by_cases e : j = m
    · subst e
      rw [erm, eSm, evm]
      exact ⟨h3 hI i (by omega), hn i (by omega)⟩
    · rw [er j (by omega), eS j (by omega), ev j (by omega)]
      exact h2 i j hij (by omega)
  · rw [ev I hI]
    by_cases e : j = m
    · subst e; rw [evm]; exact Nat.le_refl _
    · rw [ev j (by omega)]; exact h3 hI j (by omega)
  · obtain ⟨i, i1, i2, i3, i4⟩ := h4 S2 a1 a2 a3
    exact ⟨i, by omega, by rw [er i i1]; exact i2, by rw [eS i i1]; exact i3, by rw [ev i i1]; exact i4⟩
  · have ham2 : a < m := by omega
    rw [er a ham2] at hao b3
    rw [eS a ham2] at b3
    obtain ⟨i, i1, i2, i3, i4⟩ := h5 a o2 S2 ha ham2 hao b1 b2 b3
    exact ⟨i, by omega, by rw [er i i1]; exact i2, by rw [eS i i1]; exact i3, by rw [ev i i1, ev a ham2]; exact i4⟩
/-- all is done: least steps -/
theorem LQ_end (hW : HWf tt) (H : LQ tt s xr xS xv m m 0) : ∀ k r S, r < tt 1 → S < 2 ^ tt 1 → S.testBit r = true → Wn tt s k (lts tt S) r → ∃ i, i < m ∧ xr i = r ∧ xS i = S ∧ xv i ≤ k := by
  obtain ⟨h1, h2, h3, h4, h5⟩ := H
  intro k
  induction k with
  | zero =>
    intro r S hr hS hb h
    obtain ⟨i, i1, i2, i3, i4⟩ := h4 S hS (by rw [← h.2]; exact hb) h.1
    exact ⟨i, i1, by rw [i2, h.2], i3, by omega⟩
  | succ k ih =>
    intro r S hr hS hb h
    obtain ⟨o, g1, g2⟩ := h
    have ho := adj_lt hW g1
    rw [← lts_or ho] at g2
    obtain ⟨i, i1, i2, i3, i4⟩ := ih o (S ||| 2 ^ o) ho (n_or_lt hS (n_pw ho)) (by rw [Nat.testBit_or, n_two]; simp) g2
    obtain ⟨i5, j1, j2, j3, j4⟩ := h5 i r S (Or.inl i1) i1 (by rw [i2, adj_sym]; exact g1) hS hb (by rw [i2, i3])
    exact ⟨i5, j1, j2, j3, by omega⟩
variable {A : Nat → Nat → Int32} {Z : Nat → Int32} {B : Nat → Nat → Int64} {Q : Nat → Int64} {P : Nat → Option Nat} {F : Nat → Nat → Option Nat} {q : Nat} {D : List xC} {c : Nat × Nat} {K : Nat → Nat} {lk lh : Nat → Nat}
theorem m_comes (hW : HWf tt) (hn : tt 1 ≤ 12) {lf qf : Nat → Int32} (H : LQ tt s xr xS xv m I t) (hA : LA tt xr xS xv m lf qf) (hI : I < m) {o S : Nat} (ho : adj tt (xr I) o = true) (hS : S < 2 ^ tt 1) (hu : S.testBit o = true → S ||| 2 ^ xr I = xS I) : ∃ m2 xr2 xS2 xv2 lf2 qf2, f_X12_comes (HH (upA (upA A 71 lf) 72 qf) Z B Q P F q D c) 57 (nI o) (nI S) (nI (xv I + 1)) (nI m) = some (nI m2, HH (upA (upA A 71 lf2) 72 qf2) Z B Q P F q D c) ∧ LQ tt s xr2 xS2 xv2 m2 I t ∧ LA tt xr2 xS2 xv2 m2 lf2 qf2 ∧ I < m2 ∧ (∀ i, i < m → xr2 i = xr i ∧ xS2 i = xS i ∧ xv2 i = xv i) ∧ m ≤ m2 ∧ (S.testBit o = true → ∃ i, i < m2 ∧ xr2 i = o ∧ xS2 i = S ∧ xv2 i ≤ xv I + 1) := by
  have hpw : 2 ^ tt 1 ≤ 2 ^ 12 := n_pwl hn
  have hol := adj_lt hW ho
  have hmr := LQ_room hn H
  have e71 : (upA (upA A 71 lf) 72 qf) 71 = lf := by rw [y_un (by decide), y_us]
  unfold f_X12_comes
  rw [has_spec _ (by omega) (by omega), Option.bind_some]
  cases hb : S.testBit o
  · refine ⟨m, xr, xS, xv, lf, qf, ?_, H, hA, hI, fun i _ => ⟨rfl, rfl, rfl⟩, Nat.le_refl _, fun h => by cases h⟩
    rw [if_pos (by decide)]
  · rw [if_neg (by decide), gf_57_26, Option.bind_some, show (4096 : Int32) = nI 4096 from rfl, pk_mul, nI_add, ld_71 (by omega), Option.bind_some, e71]
    by_cases hin : ∃ i, i < m ∧ xr i = o ∧ xS i = S
    · obtain ⟨i, i1, i2, i3⟩ := hin
      have h1 := (hA.1 i i1).2
      rw [i2, i3] at h1
      have h2 := (H.1 i i1).2.2.2.2
      refine ⟨m, xr, xS, xv, lf, qf, ?_, H, hA, hI, fun i _ => ⟨rfl, rfl, rfl⟩, Nat.le_refl _, fun _ => ⟨i, i1, i2, i3, H.2.2.1 hI i i1⟩⟩
      rw [h1, if_neg (by show ¬ nI _ = nM; rw [y_eqM (by omega)]; exact fun h => h)]
    · have hno : ∀ i, i < m → ¬ (xr i = o ∧ xS i = S) := fun i hi h => hin ⟨i, hi, h⟩
      have hnl := hA.2 o S hol hS hno
      have hnew := LQ_new hW H hI ho hS hb (hu hb) hno
      have hmr2 := LQ_room hn hnew
      have eA : ∀ x y, upA (upA (upA (upA A 71 lf) 72 qf) 71 x) 72 y = upA (upA A 71 x) 72 y := fun x y => by
        funext k
        unfold upA
        by_cases e1 : k = 72
        · subst e1; simp
        · by_cases e2 : k = 71
          · subst e2; simp
          · simp [e1, e2]
      have e72 : ∀ x, (upA (upA (upA A 71 lf) 72 qf) 71 x) 72 = qf := fun x => by rw [y_un (by decide), y_us]
      refine ⟨m + 1, _, _, _, va_up lf (4096 * o + S) (nI (xv I + 1)), va_up qf m (nI (4096 * o + S)), ?_, hnew, ⟨fun i hi => ?_, fun r S2 hr hS2 hxi => ?_⟩, by omega, fun i hi => ⟨y_vn (by omega), y_vn (by omega), y_vn (by omega)⟩, by omega, fun _ => ⟨m, by omega, y_vs, y_vs, by rw [y_vs]; exact Nat.le_refl _⟩⟩
      · rw [hnl, if_pos (show nM = (-1 : Int32) from rfl), Option.bind_some, st_71 (by omega), Option.bind_some, gf_57_27, Option.bind_some, st_72 (by omega), Option.bind_some, e71, e72, eA, nI_1]
      · by_cases e : i = m
        · subst e
          rw [y_vs, y_vs, y_vs, y_vs, y_vs]
          exact ⟨rfl, rfl⟩
        · have hb2 := H.1 i (by omega)
          rw [show va_up xr m o i = xr i from y_vn e, show va_up xS m S i = xS i from y_vn e, show va_up xv m (xv I + 1) i = xv i from y_vn e, show va_up qf m (nI (4096 * o + S)) i = qf i from y_vn e]
          obtain ⟨b1, b2⟩ := hA.1 i (by omega)
          refine ⟨b1, ?_⟩
          rw [y_vn (fun h => hno i (by omega) ((c4_inj (by omega) (by omega)).mp h))]
          exact b2
      · have hne : ¬ (r = o ∧ S2 = S) := fun h => by
          have := hxi m (by omega)
          rw [y_vs, y_vs] at this
          exact this ⟨h.1.symm, h.2.symm⟩
        rw [y_vn (fun h => hne ((c4_inj (by omega) (by omega)).mp h))]
        refine hA.2 r S2 hr hS2 (fun i hi => ?_)
        have := hxi i (by omega)
        rw [y_vn (by omega), y_vn (by omega)] at this
        exact this
theorem m_ll136 (hT : Told (A 58) tt lk lh) (hW : HWf tt) (hn : tt 1 ≤ 12) (h68 : ∀ a b, a < tt 1 → b < tt 1 → A 68 (16 * a + b) = nI (way tt a b)) {lf qf : Nat → Int32} (H : LQ tt s xr xS xv m I 0) (hA : LA tt xr xS xv m lf qf) (hI : I < m) (k104 : xH → Nat → Int32 → Int32 → Option xH) : ∃ m2 xr2 xS2 xv2 lf2 qf2, f_X12_layLeft_136 k104 xFU (HH (upA (upA A 71 lf) 72 qf) Z B Q P F q D c) 57 (nI m) (nI I) (nI (xr I)) (nI (xS I)) (nI 0) = k104 (HH (upA (upA A 71 lf2) 72 qf2) Z B Q P F q D c) 57 (nI m2) (nI (I + 1)) ∧ LQ tt s xr2 xS2 xv2 m2 (I + 1) 0 ∧ LA tt xr2 xS2 xv2 m2 lf2 qf2 ∧ I < m2 := by
  have hpw : 2 ^ tt 1 ≤ 2 ^ 12 := n_pwl hn
  have key := loop_J (F := fun n j (s : xH × Nat) => f_X12_layLeft_136 k104 n s.1 57 (nI s.2) (nI I) (nI (xr I)) (nI (xS I)) (nI j)) (N := tt 1) (fun s => k104 s.1 57 (nI s.2) (nI (I + 1))) (fun j h => ∃ xr2 xS2 xv2 lf2 qf2, h.1 = HH (upA (upA A 71 lf2) 72 qf2) Z B Q P F q D c ∧ LQ tt s xr2 xS2 xv2 h.2 I j ∧ LA tt xr2 xS2 xv2 h.2 lf2 qf2 ∧ I < h.2 ∧ xr2 I = xr I ∧ xS2 I = xS I ∧ xv2 I = xv I) (fun n j h hj hh => ?_) (fun n h hh => ?_) (by omega) (s := (HH (upA (upA A 71 lf) 72 qf) Z B Q P F q D c, m)) ⟨xr, xS, xv, lf, qf, rfl, H, hA, hI, rfl, rfl, rfl⟩
  · obtain ⟨⟨h, m2⟩, e1, xr2, xS2, xv2, lf2, qf2, e2, h1, h2, h3, e4, e5, e6⟩ := key
    dsimp only at e1 e2 h1 h2 h3
    subst e2
    refine ⟨m2, xr2, xS2, xv2, lf2, qf2, e1, ?_, h2, h3⟩
    obtain ⟨g1, g2, g3, g4, g5⟩ := h1
    refine ⟨g1, g2, fun hI2 j hj => ?_, g4, fun a o S ha ham hao => ?_⟩
    · have a1 := g3 h3 j hj
      have a2 := (g2 I (I + 1) (by omega) hI2).1
      omega
    · refine g5 a o S ?_ ham hao
      have := adj_lt hW hao
      omega
  · obtain ⟨h, m1⟩ := h
    obtain ⟨xr1, xS1, xv1, lf1, qf1, e0, H1, hA1, hI1, er, eS, ev⟩ := hh
    dsimp only at e0 H1 hA1 hI1
    subst e0
    have hT1 : Told (upA (upA A 71 lf1) 72 qf1 58) tt lk lh := hT
    obtain ⟨b1, b2, b3, b4, b5⟩ := H1.1 I hI1
    rw [er] at b1 b3
    rw [eS] at b2 b3
    have hmr := LQ_room hn H1
    have hw := h68 j (xr I) hj b1
    have hwa := way_1 hW (a := j) (b := xr I) hj
    have hwl := way_le (tt := tt) (a := j) (b := xr I)
    have hF : FAR = 1000000 := rfl
    by_cases hadj : adj tt (xr I) j = true
    · have hw1 : way tt j (xr I) = 1 := hwa.mpr (by rw [adj_sym]; exact hadj)
      have eq1 := (hA1.1 I hI1).1
      have el1 := (hA1.1 I hI1).2
      rw [er, eS] at eq1 el1
      rw [ev] at el1
      obtain ⟨m2, xr2, xS2, xv2, lf2, qf2, e2, H2, hA2, hI2, hk2, hm2, hx2⟩ := m_comes (A := A) (Z := Z) (B := B) (Q := Q) (P := P) (F := F) (q := q) (D := D) (c := c) hW hn H1 hA1 hI1 (o := j) (S := xS I) (by rw [er]; exact hadj) b2 (fun _ => by rw [er, eS]; exact or_in b3)
      obtain ⟨k1, k2, k3⟩ := hk2 I hI1
      have hmr2 := LQ_room hn H2
      have eq2 := (hA2.1 I hI2).1
      have el2 := (hA2.1 I hI2).2
      rw [k1, k2, er, eS] at eq2 el2
      rw [k3, ev] at el2
      have hsd : sdf (xS I) (2 ^ xr I) < 2 ^ tt 1 := sdf_lt b2
      obtain ⟨m3, xr3, xS3, xv3, lf3, qf3, e3, H3, hA3, hI3, hk3, hm3, hx3⟩ := m_comes (A := A) (Z := Z) (B := B) (Q := Q) (P := P) (F := F) (q := q) (D := D) (c := c) hW hn H2 hA2 hI2 (o := j) (S := sdf (xS I) (2 ^ xr I)) (by rw [k1, er]; exact hadj) hsd (fun _ => by
        rw [k1, k2, er, eS]
        exact n_ext (fun x => by
          rw [Nat.testBit_or, sdf_bit, n_two]
          by_cases e : xr I = x
          · subst e; simp [b3]
          · simp [e]))
      obtain ⟨l1, l2, l3⟩ := hk3 I hI2
      refine ⟨(HH (upA (upA A 71 lf3) 72 qf3) Z B Q P F q D c, m3), ?_, xr3, xS3, xv3, lf3, qf3, rfl, ?_, hA3, hI3, by rw [l1, k1, er], by rw [l2, k2, eS], by rw [l3, k3, ev]⟩
      · show f_X12_layLeft_136 k104 (n + 1) (HH (upA (upA A 71 lf1) 72 qf1) Z B Q P F q D c) 57 (nI m1) _ _ _ (nI j) = f_X12_layLeft_136 k104 n _ 57 (nI m3) _ _ _ (nI (j + 1))
        have e71 : ∀ lf qf, (upA (upA A 71 lf) 72 qf) 71 = lf := fun lf qf => by rw [y_un (by decide), y_us]
        have e72 : ∀ lf qf, (upA (upA A 71 lf) 72 qf) 72 = qf := fun lf qf => by rw [y_us]
        have e68 : ∀ lf qf, (upA (upA A 71 lf) 72 qf) 68 = A 68 := fun lf qf => rfl
        rw [ev] at e2
        rw [k3, ev] at e3
        rw [f_X12_layLeft_136, gO_57, Option.bind_some, m_rooms hT1, Option.bind_some, if_neg (by rw [y_le (by omega) (by omega)]; omega), gf_57_21, Option.bind_some, show (16 : Int32) = nI 16 from rfl, pk_mul, nI_add, ld_68 (by omega), Option.bind_some, e68, hw, hw1, if_pos (show nI 1 = (1 : Int32) from rfl), gf_57_26, Option.bind_some, gf_57_27, Option.bind_some, ld_72 (by omega), Option.bind_some, e72, eq1, ld_71 (by omega), Option.bind_some, e71, el1, Option.bind_some, nI_1, e2, Option.bind_some]
        dsimp only
        rw [gf_57_26, Option.bind_some, gf_57_27, Option.bind_some, ld_72 (by omega), Option.bind_some, e72, eq2, ld_71 (by omega), Option.bind_some, e71, el2, gO_57, Option.bind_some, nI_1, show (1 : Int32) <<< (nI (xr I) &&& 31) = nI (2 ^ xr I) from n_shl (by omega), show nI (xS I) &&& (nI (2 ^ xr I) ^^^ (-1 : Int32)) = nI (sdf (xS I) (2 ^ xr I)) from n_andn (by omega), e3, Option.bind_some, nI_1]
      · obtain ⟨g1, g2, g3, g4, g5⟩ := H3
        refine ⟨g1, g2, g3, g4, fun a o S ha ham hao c1 c2 c3 => ?_⟩
        by_cases e : a = I ∧ o = j
        · obtain ⟨ea, eo⟩ := e
          rw [ea] at c3 ⊢
          rw [eo] at c2 ⊢
          rw [l1, l2, k1, k2, er, eS] at c3
          rw [l3, k3, ev]
          by_cases hbit : S.testBit (xr I) = true
          · have eSS : S = xS I := by rw [← c3]; exact (or_in hbit).symm
            subst eSS
            obtain ⟨i, i1, i2, i3, i4⟩ := hx2 c2
            obtain ⟨j1, j2, j3⟩ := hk3 i i1
            rw [ev] at i4
            exact ⟨i, by omega, by rw [j1]; exact i2, by rw [j2]; exact i3, by rw [j3]; exact i4⟩
          · have eSS : S = sdf (xS I) (2 ^ xr I) := n_ext (fun x => by
              rw [sdf_bit, ← c3, Nat.testBit_or, n_two]
              by_cases e : xr I = x
              · subst e
                cases hx : S.testBit (xr I)
                · simp
                · exact absurd hx hbit
              · simp [e])
            rw [eSS] at c2 ⊢
            obtain ⟨i, i1, i2, i3, i4⟩ := hx3 c2
            rw [k3, ev] at i4
            exact ⟨i, i1, i2, i3, i4⟩
        · exact g5 a o S (by omega) ham hao c1 c2 c3
    · have hw1 : ¬ way tt j (xr I) = 1 := fun h => hadj (by rw [adj_sym]; exact hwa.mp h)
      refine ⟨(HH (upA (upA A 71 lf1) 72 qf1) Z B Q P F q D c, m1), ?_, xr1, xS1, xv1, lf1, qf1, rfl, ?_, hA1, hI1, er, eS, ev⟩
      · show f_X12_layLeft_136 k104 (n + 1) (HH (upA (upA A 71 lf1) 72 qf1) Z B Q P F q D c) 57 (nI m1) _ _ _ (nI j) = f_X12_layLeft_136 k104 n _ 57 (nI m1) _ _ _ (nI (j + 1))
        have e68 : ∀ lf qf, (upA (upA A 71 lf) 72 qf) 68 = A 68 := fun lf qf => rfl
        rw [f_X12_layLeft_136, gO_57, Option.bind_some, m_rooms hT1, Option.bind_some, if_neg (by rw [y_le (by omega) (by omega)]; omega), gf_57_21, Option.bind_some, show (16 : Int32) = nI 16 from rfl, pk_mul, nI_add, ld_68 (by omega), Option.bind_some, e68, hw, if_neg (by rw [show (1 : Int32) = nI 1 from rfl, y_eq (by omega) (by omega)]; exact hw1), nI_1]
      · obtain ⟨g1, g2, g3, g4, g5⟩ := H1
        refine ⟨g1, g2, g3, g4, fun a o S ha ham hao c1 c2 c3 => ?_⟩
        by_cases e : a = I ∧ o = j
        · obtain ⟨ea, eo⟩ := e
          rw [ea] at c3 ⊢
          rw [eo] at c2 ⊢
          rw [ea, er, eo] at hao
          exact absurd hao hadj
        · exact g5 a o S (by omega) ham hao c1 c2 c3
  · obtain ⟨h, m1⟩ := h
    obtain ⟨xr1, xS1, xv1, lf1, qf1, e0, H1, hA1, hI1, er, eS, ev⟩ := hh
    dsimp only at e0
    subst e0
    have hT1 : Told (upA (upA A 71 lf1) 72 qf1 58) tt lk lh := hT
    show f_X12_layLeft_136 k104 (n + 1) (HH (upA (upA A 71 lf1) 72 qf1) Z B Q P F q D c) 57 (nI m1) _ _ _ (nI (tt 1)) = _
    rw [f_X12_layLeft_136, gO_57, Option.bind_some, m_rooms hT1, Option.bind_some, if_pos (by rw [y_le (by omega) (by omega)]; exact Nat.le_refl _), nI_1]
end RLeft
