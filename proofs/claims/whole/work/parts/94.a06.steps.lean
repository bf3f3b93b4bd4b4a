/-! ===== the law's steps out of statements on methods ===== -/
def IsHH (h : xH) : Prop := ∃ A Z B Q P F q D c, h = HH A Z B Q P F q D c
theorem IsHH.g {h : xH} (H : IsHH h) : (∃ x, gO h 57 12 = some x) ∧ ∃ x, gO h 0 11 = some x := by
  obtain ⟨A, Z, B, Q, P, F, q, D, c, rfl⟩ := H
  exact ⟨⟨_, gO_57⟩, ⟨_, gO_0⟩⟩
theorem JJ_HH {h : xH} {i : Nat} (H : JJ h i) : IsHH h := by
  obtain ⟨K, A, Z, B, Q, P, F, q, D, c, tt, lk, lh, R, e, _⟩ := H
  exact ⟨A, Z, B, Q, P, F, q, D, c, e⟩
theorem cmp_self (x : Int64) : lg_cmp x x = 0 := by
  have h1 : ¬ lg_cmp x x < 0 := fun h => by rw [lg_cmp_lt, fa_lt64] at h; omega
  have h2 : ¬ 0 < lg_cmp x x := fun h => by rw [lg_cmp_gt, fa_lt64] at h; omega
  rw [fa_lt] at h1 h2
  rw [fa_eq]
  omega
def MER (cl mo : xH → Option (Int32 × xH)) (h : xH) (i : Nat) : Prop := ∃ k h1 b h2, cl h = some (k, h1) ∧ IsHH h1 ∧ mo h1 = some (b, h2) ∧ gI h2 57 12 4 = some k ∧ (k = 0 → ldJ h2 76 0 = some b.toInt64) ∧ JJ h2 (i + 1)
def ME (cl mo : xH → Option (Int32 × xH)) : Prop := ∀ (h : xH) (i : Nat), JJ h i → i < 512 → MER cl mo h i
def MEBR (cl mo : xH → Option (Int32 × xH)) (h : xH) (i : Nat) : Prop := ∃ k h1 b h2, cl h = some (k, h1) ∧ IsHH h1 ∧ mo h1 = some (b, h2) ∧ gI h2 57 12 4 = some k ∧ (k = 0 → ldJ h2 76 0 = some (if b = 0 then 0 else 1)) ∧ JJ h2 (i + 1)
def MEB (cl mo : xH → Option (Int32 × xH)) : Prop := ∀ (h : xH) (i : Nat), JJ h i → i < 512 → MEBR cl mo h i
def MEJR (cl : xH → Option (Int32 × xH)) (mo : xH → Option (Int64 × xH)) (h : xH) (i : Nat) : Prop := ∃ k h1 b h2, cl h = some (k, h1) ∧ IsHH h1 ∧ mo h1 = some (b, h2) ∧ gI h2 57 12 4 = some k ∧ (k = 0 → ldJ h2 76 0 = some b) ∧ JJ h2 (i + 1)
def MEJ (cl : xH → Option (Int32 × xH)) (mo : xH → Option (Int64 × xH)) : Prop := ∀ (h : xH) (i : Nat), JJ h i → i < 512 → MEJR cl mo h i
def MVR (cl : xH → Option (Int32 × xH)) (mo : xH → Option xH) (h : xH) (i : Nat) : Prop := ∃ k h1 h2, cl h = some (k, h1) ∧ IsHH h1 ∧ mo h1 = some h2 ∧ gI h2 57 12 4 = some k ∧ JJ h2 (i + 1)
def MV (cl : xH → Option (Int32 × xH)) (mo : xH → Option xH) : Prop := ∀ (h : xH) (i : Nat), JJ h i → i < 512 → MVR cl mo h i
def MPR (cl : xH → Option Int32) (mo : xH → Option (Int32 × xH)) (h : xH) (i : Nat) : Prop := ∃ v h2, cl h = some v ∧ mo h = some (v, h2) ∧ JJ h2 (i + 1)
def MP (cl : xH → Option Int32) (mo : xH → Option (Int32 × xH)) : Prop := ∀ (h : xH) (i : Nat), JJ h i → i < 512 → MPR cl mo h i
def MPJR (cl : xH → Option Int64) (mo : xH → Option (Int64 × xH)) (h : xH) (i : Nat) : Prop := ∃ v h2, cl h = some v ∧ mo h = some (v, h2) ∧ JJ h2 (i + 1)
def MPJ (cl : xH → Option Int64) (mo : xH → Option (Int64 × xH)) : Prop := ∀ (h : xH) (i : Nat), JJ h i → i < 512 → MPJR cl mo h i
def MHQR (cl mo : xH → Option (Int32 × xH)) (h : xH) (i : Nat) : Prop := ∃ v h1 h2, cl h = some (v, h1) ∧ IsHH h1 ∧ mo h1 = some (v, h2) ∧ JJ h2 (i + 1)
def MHQ (cl mo : xH → Option (Int32 × xH)) : Prop := ∀ (h : xH) (i : Nat), JJ h i → i < 512 → MHQR cl mo h i
theorem lsx {L i : Nat} {xs : Nat → Int32} (hL : L ≤ 3072) (hi : 6 * i + 6 ≤ L) : ldS L xs (nI (6 * i) + 1) = some (xs (6 * i + 1)) ∧ ldS L xs (nI (6 * i) + 2) = some (xs (6 * i + 2)) ∧ ldS L xs (nI (6 * i) + 3) = some (xs (6 * i + 3)) ∧ ldS L xs (nI (6 * i) + 4) = some (xs (6 * i + 4)) ∧ ldS L xs (nI (6 * i) + 5) = some (xs (6 * i + 5)) := by
  have e : ∀ k, k < 6 → ldS L xs (nI (6 * i) + nI k) = some (xs (6 * i + k)) := fun k hk => by
    rw [nI_add]
    exact ldS_nI (by omega) (by omega)
  exact ⟨e 1 (by decide), e 2 (by decide), e 3 (by decide), e 4 (by decide), e 5 (by decide)⟩
theorem sp_feed (hM : ∀ x0 x1 x2 x3 x4, MHQ (fun h => f_X11_feed h 0 x0 x1 x2 x3 x4) (fun h => f_X12_feed h 57 x0 x1 x2 x3 x4)) : StepOK JJ f_L_law_244 := by
  intro L xs k h i hL hi hJ
  obtain ⟨s1, s2, s3, s4, s5⟩ := lsx (xs := xs) hL hi
  obtain ⟨⟨w0, g0⟩, w1, g1⟩ := (JJ_HH hJ).g
  obtain ⟨v, h1, h2, e1, hh1, e2, hJ2⟩ := hM (xs (6 * i + 1)) (xs (6 * i + 2)) (xs (6 * i + 3)) (xs (6 * i + 4)) (xs (6 * i + 5)) h i hJ (by omega)
  obtain ⟨⟨w2, g2⟩, _⟩ := hh1.g
  refine ⟨h2, ?_, hJ2⟩
  unfold f_L_law_244
  simp only [s1, s2, s3, s4, s5, Option.bind_some, g1, e1, g2, e2, if_true]
theorem sp_house (hM : ∀ x0, ME (fun h => f_L_house h 0 x0 76) (fun h => f_X12_house h 57 x0)) : StepOK JJ f_L_law_317 := by
  intro L xs k h i hL hi hJ
  obtain ⟨s1, s2, s3, s4, s5⟩ := lsx (xs := xs) hL hi
  obtain ⟨⟨w0, g0⟩, w1, g1⟩ := (JJ_HH hJ).g
  obtain ⟨kk, h1, b, h2, e1, hh1, e2, e3, e4, hJ2⟩ := hM (xs (6 * i + 1)) h i hJ (by omega)
  obtain ⟨⟨w2, g2⟩, _⟩ := hh1.g
  obtain ⟨⟨w3, g3⟩, _⟩ := (JJ_HH hJ2).g
  refine ⟨h2, ?_, hJ2⟩
  unfold f_L_law_317
  by_cases hk : kk = 0
  · have e5 := e4 hk
    subst hk
    simp only [s1, s2, s3, s4, s5, Option.bind_some, e1, g2, e2, g3, f_X12_thrown, e3, if_true, e5, cmp_self]
  · simp only [s1, s2, s3, s4, s5, Option.bind_some, e1, g2, e2, g3, f_X12_thrown, e3, if_true, if_neg hk]
theorem sp_fault (hM : ∀ x0, MP (fun h => f_X11_fault h 0 x0) (fun h => f_X12_fault h 57 x0)) : StepOK JJ f_L_law_373 := by
  intro L xs k h i hL hi hJ
  obtain ⟨s1, s2, s3, s4, s5⟩ := lsx (xs := xs) hL hi
  obtain ⟨⟨w0, g0⟩, w1, g1⟩ := (JJ_HH hJ).g
  obtain ⟨v, h2, e1, e2, hJ2⟩ := hM (xs (6 * i + 1)) h i hJ (by omega)
  refine ⟨h2, ?_, hJ2⟩
  unfold f_L_law_373
  simp only [s1, s2, s3, s4, s5, Option.bind_some, g1, g0, e1, e2, cmp_self, if_true]
theorem sp_pane (hM : ∀ x0 x1, ME (fun h => f_L_pane h 0 x0 x1 76) (fun h => f_X12_pane h 57 x0 x1)) : StepOK JJ f_L_law_398 := by
  intro L xs k h i hL hi hJ
  obtain ⟨s1, s2, s3, s4, s5⟩ := lsx (xs := xs) hL hi
  obtain ⟨⟨w0, g0⟩, w1, g1⟩ := (JJ_HH hJ).g
  obtain ⟨kk, h1, b, h2, e1, hh1, e2, e3, e4, hJ2⟩ := hM (xs (6 * i + 1)) (xs (6 * i + 2)) h i hJ (by omega)
  obtain ⟨⟨w2, g2⟩, _⟩ := hh1.g
  obtain ⟨⟨w3, g3⟩, _⟩ := (JJ_HH hJ2).g
  refine ⟨h2, ?_, hJ2⟩
  unfold f_L_law_398
  by_cases hk : kk = 0
  · have e5 := e4 hk
    subst hk
    simp only [s1, s2, s3, s4, s5, Option.bind_some, e1, g2, e2, g3, f_X12_thrown, e3, if_true, e5, cmp_self]
  · simp only [s1, s2, s3, s4, s5, Option.bind_some, e1, g2, e2, g3, f_X12_thrown, e3, if_true, if_neg hk]
theorem sp_kind (hM : ∀ x0 x1, ME (fun h => f_L_kind h 0 x0 x1 76) (fun h => f_X12_kind h 57 x0 x1)) : StepOK JJ f_L_law_466 := by
  intro L xs k h i hL hi hJ
  obtain ⟨s1, s2, s3, s4, s5⟩ := lsx (xs := xs) hL hi
  obtain ⟨⟨w0, g0⟩, w1, g1⟩ := (JJ_HH hJ).g
  obtain ⟨kk, h1, b, h2, e1, hh1, e2, e3, e4, hJ2⟩ := hM (xs (6 * i + 1)) (xs (6 * i + 2)) h i hJ (by omega)
  obtain ⟨⟨w2, g2⟩, _⟩ := hh1.g
  obtain ⟨⟨w3, g3⟩, _⟩ := (JJ_HH hJ2).g
  refine ⟨h2, ?_, hJ2⟩
  unfold f_L_law_466
  by_cases hk : kk = 0
  · have e5 := e4 hk
    subst hk
    simp only [s1, s2, s3, s4, s5, Option.bind_some, e1, g2, e2, g3, f_X12_thrown, e3, if_true, e5, cmp_self]
  · simp only [s1, s2, s3, s4, s5, Option.bind_some, e1, g2, e2, g3, f_X12_thrown, e3, if_true, if_neg hk]
theorem sp_next (hM : ∀ x0, ME (fun h => f_L_next h 0 x0 76) (fun h => f_X12_next h 57 x0)) : StepOK JJ f_L_law_534 := by
  intro L xs k h i hL hi hJ
  obtain ⟨s1, s2, s3, s4, s5⟩ := lsx (xs := xs) hL hi
  obtain ⟨⟨w0, g0⟩, w1, g1⟩ := (JJ_HH hJ).g
  obtain ⟨kk, h1, b, h2, e1, hh1, e2, e3, e4, hJ2⟩ := hM (xs (6 * i + 1)) h i hJ (by omega)
  obtain ⟨⟨w2, g2⟩, _⟩ := hh1.g
  obtain ⟨⟨w3, g3⟩, _⟩ := (JJ_HH hJ2).g
  refine ⟨h2, ?_, hJ2⟩
  unfold f_L_law_534
  by_cases hk : kk = 0
  · have e5 := e4 hk
    subst hk
    simp only [s1, s2, s3, s4, s5, Option.bind_some, e1, g2, e2, g3, f_X12_thrown, e3, if_true, e5, cmp_self]
  · simp only [s1, s2, s3, s4, s5, Option.bind_some, e1, g2, e2, g3, f_X12_thrown, e3, if_true, if_neg hk]
theorem sp_hated (hM : ∀ x0, ME (fun h => f_L_hated h 0 x0 76) (fun h => f_X12_hated h 57 x0)) : StepOK JJ f_L_law_590 := by
  intro L xs k h i hL hi hJ
  obtain ⟨s1, s2, s3, s4, s5⟩ := lsx (xs := xs) hL hi
  obtain ⟨⟨w0, g0⟩, w1, g1⟩ := (JJ_HH hJ).g
  obtain ⟨kk, h1, b, h2, e1, hh1, e2, e3, e4, hJ2⟩ := hM (xs (6 * i + 1)) h i hJ (by omega)
  obtain ⟨⟨w2, g2⟩, _⟩ := hh1.g
  obtain ⟨⟨w3, g3⟩, _⟩ := (JJ_HH hJ2).g
  refine ⟨h2, ?_, hJ2⟩
  unfold f_L_law_590
  by_cases hk : kk = 0
  · have e5 := e4 hk
    subst hk
    simp only [s1, s2, s3, s4, s5, Option.bind_some, e1, g2, e2, g3, f_X12_thrown, e3, if_true, e5, cmp_self]
  · simp only [s1, s2, s3, s4, s5, Option.bind_some, e1, g2, e2, g3, f_X12_thrown, e3, if_true, if_neg hk]
theorem sp_never (hM : MP (fun h => f_X11_never h 0) (fun h => f_X12_never h 57)) : StepOK JJ f_L_law_646 := by
  intro L xs k h i hL hi hJ
  obtain ⟨s1, s2, s3, s4, s5⟩ := lsx (xs := xs) hL hi
  obtain ⟨⟨w0, g0⟩, w1, g1⟩ := (JJ_HH hJ).g
  obtain ⟨v, h2, e1, e2, hJ2⟩ := hM  h i hJ (by omega)
  refine ⟨h2, ?_, hJ2⟩
  unfold f_L_law_646
  simp only [s1, s2, s3, s4, s5, Option.bind_some, g1, g0, e1, e2, cmp_self, if_true]
theorem sp_hang (hM : ∀ x0 x1 x2, ME (fun h => f_L_hang h 0 x0 x1 x2 76) (fun h => f_X12_hang h 57 x0 x1 x2)) : StepOK JJ f_L_law_659 := by
  intro L xs k h i hL hi hJ
  obtain ⟨s1, s2, s3, s4, s5⟩ := lsx (xs := xs) hL hi
  obtain ⟨⟨w0, g0⟩, w1, g1⟩ := (JJ_HH hJ).g
  obtain ⟨kk, h1, b, h2, e1, hh1, e2, e3, e4, hJ2⟩ := hM (xs (6 * i + 1)) (xs (6 * i + 2)) (xs (6 * i + 3)) h i hJ (by omega)
  obtain ⟨⟨w2, g2⟩, _⟩ := hh1.g
  obtain ⟨⟨w3, g3⟩, _⟩ := (JJ_HH hJ2).g
  refine ⟨h2, ?_, hJ2⟩
  unfold f_L_law_659
  by_cases hk : kk = 0
  · have e5 := e4 hk
    subst hk
    simp only [s1, s2, s3, s4, s5, Option.bind_some, e1, g2, e2, g3, f_X12_thrown, e3, if_true, e5, cmp_self]
  · simp only [s1, s2, s3, s4, s5, Option.bind_some, e1, g2, e2, g3, f_X12_thrown, e3, if_true, if_neg hk]
theorem sp_of (hM : ∀ x0 x1, ME (fun h => f_L_of h 0 x0 x1 76) (fun h => f_X12_of h 57 x0 x1)) : StepOK JJ f_L_law_739 := by
  intro L xs k h i hL hi hJ
  obtain ⟨s1, s2, s3, s4, s5⟩ := lsx (xs := xs) hL hi
  obtain ⟨⟨w0, g0⟩, w1, g1⟩ := (JJ_HH hJ).g
  obtain ⟨kk, h1, b, h2, e1, hh1, e2, e3, e4, hJ2⟩ := hM (xs (6 * i + 1)) (xs (6 * i + 2)) h i hJ (by omega)
  obtain ⟨⟨w2, g2⟩, _⟩ := hh1.g
  obtain ⟨⟨w3, g3⟩, _⟩ := (JJ_HH hJ2).g
  refine ⟨h2, ?_, hJ2⟩
  unfold f_L_law_739
  by_cases hk : kk = 0
  · have e5 := e4 hk
    subst hk
    simp only [s1, s2, s3, s4, s5, Option.bind_some, e1, g2, e2, g3, f_X12_thrown, e3, if_true, e5, cmp_self]
  · simp only [s1, s2, s3, s4, s5, Option.bind_some, e1, g2, e2, g3, f_X12_thrown, e3, if_true, if_neg hk]
theorem sp_light (hM : ∀ x0 x1, ME (fun h => f_L_light h 0 x0 x1 76) (fun h => f_X12_light h 57 x0 x1)) : StepOK JJ f_L_law_807 := by
  intro L xs k h i hL hi hJ
  obtain ⟨s1, s2, s3, s4, s5⟩ := lsx (xs := xs) hL hi
  obtain ⟨⟨w0, g0⟩, w1, g1⟩ := (JJ_HH hJ).g
  obtain ⟨kk, h1, b, h2, e1, hh1, e2, e3, e4, hJ2⟩ := hM (xs (6 * i + 1)) (xs (6 * i + 2)) h i hJ (by omega)
  obtain ⟨⟨w2, g2⟩, _⟩ := hh1.g
  obtain ⟨⟨w3, g3⟩, _⟩ := (JJ_HH hJ2).g
  refine ⟨h2, ?_, hJ2⟩
  unfold f_L_law_807
  by_cases hk : kk = 0
  · have e5 := e4 hk
    subst hk
    simp only [s1, s2, s3, s4, s5, Option.bind_some, e1, g2, e2, g3, f_X12_thrown, e3, if_true, e5, cmp_self]
  · simp only [s1, s2, s3, s4, s5, Option.bind_some, e1, g2, e2, g3, f_X12_thrown, e3, if_true, if_neg hk]
theorem sp_by (hM : ∀ x0 x1, ME (fun h => f_L_by h 0 x0 x1 76) (fun h => f_X12_by h 57 x0 x1)) : StepOK JJ f_L_law_875 := by
  intro L xs k h i hL hi hJ
  obtain ⟨s1, s2, s3, s4, s5⟩ := lsx (xs := xs) hL hi
  obtain ⟨⟨w0, g0⟩, w1, g1⟩ := (JJ_HH hJ).g
  obtain ⟨kk, h1, b, h2, e1, hh1, e2, e3, e4, hJ2⟩ := hM (xs (6 * i + 1)) (xs (6 * i + 2)) h i hJ (by omega)
  obtain ⟨⟨w2, g2⟩, _⟩ := hh1.g
  obtain ⟨⟨w3, g3⟩, _⟩ := (JJ_HH hJ2).g
  refine ⟨h2, ?_, hJ2⟩
  unfold f_L_law_875
  by_cases hk : kk = 0
  · have e5 := e4 hk
    subst hk
    simp only [s1, s2, s3, s4, s5, Option.bind_some, e1, g2, e2, g3, f_X12_thrown, e3, if_true, e5, cmp_self]
  · simp only [s1, s2, s3, s4, s5, Option.bind_some, e1, g2, e2, g3, f_X12_thrown, e3, if_true, if_neg hk]
theorem sp_dark (hM : ∀ x0, ME (fun h => f_L_dark h 0 x0 76) (fun h => f_X12_dark h 57 x0)) : StepOK JJ f_L_law_943 := by
  intro L xs k h i hL hi hJ
  obtain ⟨s1, s2, s3, s4, s5⟩ := lsx (xs := xs) hL hi
  obtain ⟨⟨w0, g0⟩, w1, g1⟩ := (JJ_HH hJ).g
  obtain ⟨kk, h1, b, h2, e1, hh1, e2, e3, e4, hJ2⟩ := hM (xs (6 * i + 1)) h i hJ (by omega)
  obtain ⟨⟨w2, g2⟩, _⟩ := hh1.g
  obtain ⟨⟨w3, g3⟩, _⟩ := (JJ_HH hJ2).g
  refine ⟨h2, ?_, hJ2⟩
  unfold f_L_law_943
  by_cases hk : kk = 0
  · have e5 := e4 hk
    subst hk
    simp only [s1, s2, s3, s4, s5, Option.bind_some, e1, g2, e2, g3, f_X12_thrown, e3, if_true, e5, cmp_self]
  · simp only [s1, s2, s3, s4, s5, Option.bind_some, e1, g2, e2, g3, f_X12_thrown, e3, if_true, if_neg hk]
theorem sp_judge (hM : MHQ (fun h => f_X11_judge h 0) (fun h => f_X12_judge h 57)) : StepOK JJ f_L_law_999 := by
  intro L xs k h i hL hi hJ
  obtain ⟨s1, s2, s3, s4, s5⟩ := lsx (xs := xs) hL hi
  obtain ⟨⟨w0, g0⟩, w1, g1⟩ := (JJ_HH hJ).g
  obtain ⟨v, h1, h2, e1, hh1, e2, hJ2⟩ := hM  h i hJ (by omega)
  obtain ⟨⟨w2, g2⟩, _⟩ := hh1.g
  refine ⟨h2, ?_, hJ2⟩
  unfold f_L_law_999
  simp only [s1, s2, s3, s4, s5, Option.bind_some, g1, e1, g2, e2, if_true]
theorem sp_out (hM : ∀ x0 x1, ME (fun h => f_L_out h 0 x0 x1 76) (fun h => f_X12_out h 57 x0 x1)) : StepOK JJ f_L_law_1012 := by
  intro L xs k h i hL hi hJ
  obtain ⟨s1, s2, s3, s4, s5⟩ := lsx (xs := xs) hL hi
  obtain ⟨⟨w0, g0⟩, w1, g1⟩ := (JJ_HH hJ).g
  obtain ⟨kk, h1, b, h2, e1, hh1, e2, e3, e4, hJ2⟩ := hM (xs (6 * i + 1)) (xs (6 * i + 2)) h i hJ (by omega)
  obtain ⟨⟨w2, g2⟩, _⟩ := hh1.g
  obtain ⟨⟨w3, g3⟩, _⟩ := (JJ_HH hJ2).g
  refine ⟨h2, ?_, hJ2⟩
  unfold f_L_law_1012
  by_cases hk : kk = 0
  · have e5 := e4 hk
    subst hk
    simp only [s1, s2, s3, s4, s5, Option.bind_some, e1, g2, e2, g3, f_X12_thrown, e3, if_true, e5, cmp_self]
  · simp only [s1, s2, s3, s4, s5, Option.bind_some, e1, g2, e2, g3, f_X12_thrown, e3, if_true, if_neg hk]
theorem sp_spare (hM : ∀ x0, ME (fun h => f_L_spare h 0 x0 76) (fun h => f_X12_spare h 57 x0)) : StepOK JJ f_L_law_1080 := by
  intro L xs k h i hL hi hJ
  obtain ⟨s1, s2, s3, s4, s5⟩ := lsx (xs := xs) hL hi
  obtain ⟨⟨w0, g0⟩, w1, g1⟩ := (JJ_HH hJ).g
  obtain ⟨kk, h1, b, h2, e1, hh1, e2, e3, e4, hJ2⟩ := hM (xs (6 * i + 1)) h i hJ (by omega)
  obtain ⟨⟨w2, g2⟩, _⟩ := hh1.g
  obtain ⟨⟨w3, g3⟩, _⟩ := (JJ_HH hJ2).g
  refine ⟨h2, ?_, hJ2⟩
  unfold f_L_law_1080
  by_cases hk : kk = 0
  · have e5 := e4 hk
    subst hk
    simp only [s1, s2, s3, s4, s5, Option.bind_some, e1, g2, e2, g3, f_X12_thrown, e3, if_true, e5, cmp_self]
  · simp only [s1, s2, s3, s4, s5, Option.bind_some, e1, g2, e2, g3, f_X12_thrown, e3, if_true, if_neg hk]
theorem sp_angry (hM : ∀ x0, ME (fun h => f_L_angry h 0 x0 76) (fun h => f_X12_angry h 57 x0)) : StepOK JJ f_L_law_1136 := by
  intro L xs k h i hL hi hJ
  obtain ⟨s1, s2, s3, s4, s5⟩ := lsx (xs := xs) hL hi
  obtain ⟨⟨w0, g0⟩, w1, g1⟩ := (JJ_HH hJ).g
  obtain ⟨kk, h1, b, h2, e1, hh1, e2, e3, e4, hJ2⟩ := hM (xs (6 * i + 1)) h i hJ (by omega)
  obtain ⟨⟨w2, g2⟩, _⟩ := hh1.g
  obtain ⟨⟨w3, g3⟩, _⟩ := (JJ_HH hJ2).g
  refine ⟨h2, ?_, hJ2⟩
  unfold f_L_law_1136
  by_cases hk : kk = 0
  · have e5 := e4 hk
    subst hk
    simp only [s1, s2, s3, s4, s5, Option.bind_some, e1, g2, e2, g3, f_X12_thrown, e3, if_true, e5, cmp_self]
  · simp only [s1, s2, s3, s4, s5, Option.bind_some, e1, g2, e2, g3, f_X12_thrown, e3, if_true, if_neg hk]
theorem sp_oil (hM : MP (fun h => f_X11_oil h 0) (fun h => f_X12_oil h 57)) : StepOK JJ f_L_law_1192 := by
  intro L xs k h i hL hi hJ
  obtain ⟨s1, s2, s3, s4, s5⟩ := lsx (xs := xs) hL hi
  obtain ⟨⟨w0, g0⟩, w1, g1⟩ := (JJ_HH hJ).g
  obtain ⟨v, h2, e1, e2, hJ2⟩ := hM  h i hJ (by omega)
  refine ⟨h2, ?_, hJ2⟩
  unfold f_L_law_1192
  simp only [s1, s2, s3, s4, s5, Option.bind_some, g1, g0, e1, e2, cmp_self, if_true]
theorem sp_lights (hM : ∀ x0 x1, MEB (fun h => f_L_lights h 0 x0 x1 76) (fun h => f_X12_lights h 57 x0 x1)) : StepOK JJ f_L_law_1205 := by
  intro L xs k h i hL hi hJ
  obtain ⟨s1, s2, s3, s4, s5⟩ := lsx (xs := xs) hL hi
  obtain ⟨⟨w0, g0⟩, w1, g1⟩ := (JJ_HH hJ).g
  obtain ⟨kk, h1, b, h2, e1, hh1, e2, e3, e4, hJ2⟩ := hM (xs (6 * i + 1)) (xs (6 * i + 2)) h i hJ (by omega)
  obtain ⟨⟨w2, g2⟩, _⟩ := hh1.g
  obtain ⟨⟨w3, g3⟩, _⟩ := (JJ_HH hJ2).g
  refine ⟨h2, ?_, hJ2⟩
  unfold f_L_law_1205 f_L_law_1271
  by_cases hk : kk = 0
  · have e5 := e4 hk
    subst hk
    by_cases hb : b = 0
    · subst hb
      simp only [s1, s2, s3, s4, s5, Option.bind_some, e1, g2, e2, g3, f_X12_thrown, e3, if_true, e5, cmp_self]
    · simp only [s1, s2, s3, s4, s5, Option.bind_some, e1, g2, e2, g3, f_X12_thrown, e3, if_true, e5, if_neg hb, cmp_self]
  · simp only [s1, s2, s3, s4, s5, Option.bind_some, e1, g2, e2, g3, f_X12_thrown, e3, if_true, if_neg hk]
theorem sp_best (hM : ∀ x0, ME (fun h => f_L_best h 0 x0 76) (fun h => f_X12_best h 57 x0)) : StepOK JJ f_L_law_1280 := by
  intro L xs k h i hL hi hJ
  obtain ⟨s1, s2, s3, s4, s5⟩ := lsx (xs := xs) hL hi
  obtain ⟨⟨w0, g0⟩, w1, g1⟩ := (JJ_HH hJ).g
  obtain ⟨kk, h1, b, h2, e1, hh1, e2, e3, e4, hJ2⟩ := hM (xs (6 * i + 1)) h i hJ (by omega)
  obtain ⟨⟨w2, g2⟩, _⟩ := hh1.g
  obtain ⟨⟨w3, g3⟩, _⟩ := (JJ_HH hJ2).g
  refine ⟨h2, ?_, hJ2⟩
  unfold f_L_law_1280
  by_cases hk : kk = 0
  · have e5 := e4 hk
    subst hk
    simp only [s1, s2, s3, s4, s5, Option.bind_some, e1, g2, e2, g3, f_X12_thrown, e3, if_true, e5, cmp_self]
  · simp only [s1, s2, s3, s4, s5, Option.bind_some, e1, g2, e2, g3, f_X12_thrown, e3, if_true, if_neg hk]
theorem sp_gap (hM : MHQ (fun h => f_X11_gap h 0) (fun h => f_X12_gap h 57)) : StepOK JJ f_L_law_1336 := by
  intro L xs k h i hL hi hJ
  obtain ⟨s1, s2, s3, s4, s5⟩ := lsx (xs := xs) hL hi
  obtain ⟨⟨w0, g0⟩, w1, g1⟩ := (JJ_HH hJ).g
  obtain ⟨v, h1, h2, e1, hh1, e2, hJ2⟩ := hM  h i hJ (by omega)
  obtain ⟨⟨w2, g2⟩, _⟩ := hh1.g
  refine ⟨h2, ?_, hJ2⟩
  unfold f_L_law_1336
  simp only [s1, s2, s3, s4, s5, Option.bind_some, g1, e1, g2, e2, if_true]
theorem sp_bright (hM : ∀ x0 x1, ME (fun h => f_L_bright h 0 x0 x1 76) (fun h => f_X12_bright h 57 x0 x1)) : StepOK JJ f_L_law_1349 := by
  intro L xs k h i hL hi hJ
  obtain ⟨s1, s2, s3, s4, s5⟩ := lsx (xs := xs) hL hi
  obtain ⟨⟨w0, g0⟩, w1, g1⟩ := (JJ_HH hJ).g
  obtain ⟨kk, h1, b, h2, e1, hh1, e2, e3, e4, hJ2⟩ := hM (xs (6 * i + 1)) (xs (6 * i + 2)) h i hJ (by omega)
  obtain ⟨⟨w2, g2⟩, _⟩ := hh1.g
  obtain ⟨⟨w3, g3⟩, _⟩ := (JJ_HH hJ2).g
  refine ⟨h2, ?_, hJ2⟩
  unfold f_L_law_1349
  by_cases hk : kk = 0
  · have e5 := e4 hk
    subst hk
    simp only [s1, s2, s3, s4, s5, Option.bind_some, e1, g2, e2, g3, f_X12_thrown, e3, if_true, e5, cmp_self]
  · simp only [s1, s2, s3, s4, s5, Option.bind_some, e1, g2, e2, g3, f_X12_thrown, e3, if_true, if_neg hk]
theorem sp_always (hM : MHQ (fun h => f_X11_always h 0) (fun h => f_X12_always h 57)) : StepOK JJ f_L_law_1417 := by
  intro L xs k h i hL hi hJ
  obtain ⟨s1, s2, s3, s4, s5⟩ := lsx (xs := xs) hL hi
  obtain ⟨⟨w0, g0⟩, w1, g1⟩ := (JJ_HH hJ).g
  obtain ⟨v, h1, h2, e1, hh1, e2, hJ2⟩ := hM  h i hJ (by omega)
  obtain ⟨⟨w2, g2⟩, _⟩ := hh1.g
  refine ⟨h2, ?_, hJ2⟩
  unfold f_L_law_1417
  simp only [s1, s2, s3, s4, s5, Option.bind_some, g1, e1, g2, e2, if_true]
theorem sp_ever (hM : MHQ (fun h => f_X11_ever h 0) (fun h => f_X12_ever h 57)) : StepOK JJ f_L_law_1430 := by
  intro L xs k h i hL hi hJ
  obtain ⟨s1, s2, s3, s4, s5⟩ := lsx (xs := xs) hL hi
  obtain ⟨⟨w0, g0⟩, w1, g1⟩ := (JJ_HH hJ).g
  obtain ⟨v, h1, h2, e1, hh1, e2, hJ2⟩ := hM  h i hJ (by omega)
  obtain ⟨⟨w2, g2⟩, _⟩ := hh1.g
  refine ⟨h2, ?_, hJ2⟩
  unfold f_L_law_1430
  simp only [s1, s2, s3, s4, s5, Option.bind_some, g1, e1, g2, e2, if_true]
theorem sp_barred (hM : ∀ x0, ME (fun h => f_L_barred h 0 x0 76) (fun h => f_X12_barred h 57 x0)) : StepOK JJ f_L_law_1443 := by
  intro L xs k h i hL hi hJ
  obtain ⟨s1, s2, s3, s4, s5⟩ := lsx (xs := xs) hL hi
  obtain ⟨⟨w0, g0⟩, w1, g1⟩ := (JJ_HH hJ).g
  obtain ⟨kk, h1, b, h2, e1, hh1, e2, e3, e4, hJ2⟩ := hM (xs (6 * i + 1)) h i hJ (by omega)
  obtain ⟨⟨w2, g2⟩, _⟩ := hh1.g
  obtain ⟨⟨w3, g3⟩, _⟩ := (JJ_HH hJ2).g
  refine ⟨h2, ?_, hJ2⟩
  unfold f_L_law_1443
  by_cases hk : kk = 0
  · have e5 := e4 hk
    subst hk
    simp only [s1, s2, s3, s4, s5, Option.bind_some, e1, g2, e2, g3, f_X12_thrown, e3, if_true, e5, cmp_self]
  · simp only [s1, s2, s3, s4, s5, Option.bind_some, e1, g2, e2, g3, f_X12_thrown, e3, if_true, if_neg hk]
theorem sp_day (hM : ∀ x0, ME (fun h => f_L_day h 0 x0 76) (fun h => f_X12_day h 57 x0)) : StepOK JJ f_L_law_1499 := by
  intro L xs k h i hL hi hJ
  obtain ⟨s1, s2, s3, s4, s5⟩ := lsx (xs := xs) hL hi
  obtain ⟨⟨w0, g0⟩, w1, g1⟩ := (JJ_HH hJ).g
  obtain ⟨kk, h1, b, h2, e1, hh1, e2, e3, e4, hJ2⟩ := hM (xs (6 * i + 1)) h i hJ (by omega)
  obtain ⟨⟨w2, g2⟩, _⟩ := hh1.g
  obtain ⟨⟨w3, g3⟩, _⟩ := (JJ_HH hJ2).g
  refine ⟨h2, ?_, hJ2⟩
  unfold f_L_law_1499
  by_cases hk : kk = 0
  · have e5 := e4 hk
    subst hk
    simp only [s1, s2, s3, s4, s5, Option.bind_some, e1, g2, e2, g3, f_X12_thrown, e3, if_true, e5, cmp_self]
  · simp only [s1, s2, s3, s4, s5, Option.bind_some, e1, g2, e2, g3, f_X12_thrown, e3, if_true, if_neg hk]
theorem sp_mixed (hM : ∀ x0 x1, ME (fun h => f_L_mixed h 0 x0 x1 76) (fun h => f_X12_mixed h 57 x0 x1)) : StepOK JJ f_L_law_1555 := by
  intro L xs k h i hL hi hJ
  obtain ⟨s1, s2, s3, s4, s5⟩ := lsx (xs := xs) hL hi
  obtain ⟨⟨w0, g0⟩, w1, g1⟩ := (JJ_HH hJ).g
  obtain ⟨kk, h1, b, h2, e1, hh1, e2, e3, e4, hJ2⟩ := hM (xs (6 * i + 1)) (xs (6 * i + 2)) h i hJ (by omega)
  obtain ⟨⟨w2, g2⟩, _⟩ := hh1.g
  obtain ⟨⟨w3, g3⟩, _⟩ := (JJ_HH hJ2).g
  refine ⟨h2, ?_, hJ2⟩
  unfold f_L_law_1555
  by_cases hk : kk = 0
  · have e5 := e4 hk
    subst hk
    simp only [s1, s2, s3, s4, s5, Option.bind_some, e1, g2, e2, g3, f_X12_thrown, e3, if_true, e5, cmp_self]
  · simp only [s1, s2, s3, s4, s5, Option.bind_some, e1, g2, e2, g3, f_X12_thrown, e3, if_true, if_neg hk]
theorem sp_grid (hM : ∀ x0 x1, ME (fun h => f_L_grid h 0 x0 x1 76) (fun h => f_X12_grid h 57 x0 x1)) : StepOK JJ f_L_law_1623 := by
  intro L xs k h i hL hi hJ
  obtain ⟨s1, s2, s3, s4, s5⟩ := lsx (xs := xs) hL hi
  obtain ⟨⟨w0, g0⟩, w1, g1⟩ := (JJ_HH hJ).g
  obtain ⟨kk, h1, b, h2, e1, hh1, e2, e3, e4, hJ2⟩ := hM (xs (6 * i + 1)) (xs (6 * i + 2)) h i hJ (by omega)
  obtain ⟨⟨w2, g2⟩, _⟩ := hh1.g
  obtain ⟨⟨w3, g3⟩, _⟩ := (JJ_HH hJ2).g
  refine ⟨h2, ?_, hJ2⟩
  unfold f_L_law_1623
  by_cases hk : kk = 0
  · have e5 := e4 hk
    subst hk
    simp only [s1, s2, s3, s4, s5, Option.bind_some, e1, g2, e2, g3, f_X12_thrown, e3, if_true, e5, cmp_self]
  · simp only [s1, s2, s3, s4, s5, Option.bind_some, e1, g2, e2, g3, f_X12_thrown, e3, if_true, if_neg hk]
theorem sp_hole (hM : ∀ x0 x1, ME (fun h => f_L_hole h 0 x0 x1 76) (fun h => f_X12_hole h 57 x0 x1)) : StepOK JJ f_L_law_1691 := by
  intro L xs k h i hL hi hJ
  obtain ⟨s1, s2, s3, s4, s5⟩ := lsx (xs := xs) hL hi
  obtain ⟨⟨w0, g0⟩, w1, g1⟩ := (JJ_HH hJ).g
  obtain ⟨kk, h1, b, h2, e1, hh1, e2, e3, e4, hJ2⟩ := hM (xs (6 * i + 1)) (xs (6 * i + 2)) h i hJ (by omega)
  obtain ⟨⟨w2, g2⟩, _⟩ := hh1.g
  obtain ⟨⟨w3, g3⟩, _⟩ := (JJ_HH hJ2).g
  refine ⟨h2, ?_, hJ2⟩
  unfold f_L_law_1691
  by_cases hk : kk = 0
  · have e5 := e4 hk
    subst hk
    simp only [s1, s2, s3, s4, s5, Option.bind_some, e1, g2, e2, g3, f_X12_thrown, e3, if_true, e5, cmp_self]
  · simp only [s1, s2, s3, s4, s5, Option.bind_some, e1, g2, e2, g3, f_X12_thrown, e3, if_true, if_neg hk]
theorem sp_which (hM : MHQ (fun h => f_X11_which h 0) (fun h => f_X12_which h 57)) : StepOK JJ f_L_law_1759 := by
  intro L xs k h i hL hi hJ
  obtain ⟨s1, s2, s3, s4, s5⟩ := lsx (xs := xs) hL hi
  obtain ⟨⟨w0, g0⟩, w1, g1⟩ := (JJ_HH hJ).g
  obtain ⟨v, h1, h2, e1, hh1, e2, hJ2⟩ := hM  h i hJ (by omega)
  obtain ⟨⟨w2, g2⟩, _⟩ := hh1.g
  refine ⟨h2, ?_, hJ2⟩
  unfold f_L_law_1759
  simp only [s1, s2, s3, s4, s5, Option.bind_some, g1, e1, g2, e2, if_true]
theorem sp_walk (hM : ∀ x0 x1, ME (fun h => f_L_walk h 0 x0 x1 76) (fun h => f_X12_walk h 57 x0 x1)) : StepOK JJ f_L_law_1772 := by
  intro L xs k h i hL hi hJ
  obtain ⟨s1, s2, s3, s4, s5⟩ := lsx (xs := xs) hL hi
  obtain ⟨⟨w0, g0⟩, w1, g1⟩ := (JJ_HH hJ).g
  obtain ⟨kk, h1, b, h2, e1, hh1, e2, e3, e4, hJ2⟩ := hM (xs (6 * i + 1)) (xs (6 * i + 2)) h i hJ (by omega)
  obtain ⟨⟨w2, g2⟩, _⟩ := hh1.g
  obtain ⟨⟨w3, g3⟩, _⟩ := (JJ_HH hJ2).g
  refine ⟨h2, ?_, hJ2⟩
  unfold f_L_law_1772
  by_cases hk : kk = 0
  · have e5 := e4 hk
    subst hk
    simp only [s1, s2, s3, s4, s5, Option.bind_some, e1, g2, e2, g3, f_X12_thrown, e3, if_true, e5, cmp_self]
  · simp only [s1, s2, s3, s4, s5, Option.bind_some, e1, g2, e2, g3, f_X12_thrown, e3, if_true, if_neg hk]
theorem sp_carry (hM : ∀ x0 x1 x2 x3, ME (fun h => f_L_carry h 0 x0 x1 x2 x3 76) (fun h => f_X12_carry h 57 x0 x1 x2 x3)) : StepOK JJ f_L_law_1840 := by
  intro L xs k h i hL hi hJ
  obtain ⟨s1, s2, s3, s4, s5⟩ := lsx (xs := xs) hL hi
  obtain ⟨⟨w0, g0⟩, w1, g1⟩ := (JJ_HH hJ).g
  obtain ⟨kk, h1, b, h2, e1, hh1, e2, e3, e4, hJ2⟩ := hM (xs (6 * i + 1)) (xs (6 * i + 2)) (xs (6 * i + 3)) (xs (6 * i + 4)) h i hJ (by omega)
  obtain ⟨⟨w2, g2⟩, _⟩ := hh1.g
  obtain ⟨⟨w3, g3⟩, _⟩ := (JJ_HH hJ2).g
  refine ⟨h2, ?_, hJ2⟩
  unfold f_L_law_1840
  by_cases hk : kk = 0
  · have e5 := e4 hk
    subst hk
    simp only [s1, s2, s3, s4, s5, Option.bind_some, e1, g2, e2, g3, f_X12_thrown, e3, if_true, e5, cmp_self]
  · simp only [s1, s2, s3, s4, s5, Option.bind_some, e1, g2, e2, g3, f_X12_thrown, e3, if_true, if_neg hk]
theorem sp_cost (hM : ∀ x0, ME (fun h => f_L_cost h 0 x0 76) (fun h => f_X12_cost h 57 x0)) : StepOK JJ f_L_law_1932 := by
  intro L xs k h i hL hi hJ
  obtain ⟨s1, s2, s3, s4, s5⟩ := lsx (xs := xs) hL hi
  obtain ⟨⟨w0, g0⟩, w1, g1⟩ := (JJ_HH hJ).g
  obtain ⟨kk, h1, b, h2, e1, hh1, e2, e3, e4, hJ2⟩ := hM (xs (6 * i + 1)) h i hJ (by omega)
  obtain ⟨⟨w2, g2⟩, _⟩ := hh1.g
  obtain ⟨⟨w3, g3⟩, _⟩ := (JJ_HH hJ2).g
  refine ⟨h2, ?_, hJ2⟩
  unfold f_L_law_1932
  by_cases hk : kk = 0
  · have e5 := e4 hk
    subst hk
    simp only [s1, s2, s3, s4, s5, Option.bind_some, e1, g2, e2, g3, f_X12_thrown, e3, if_true, e5, cmp_self]
  · simp only [s1, s2, s3, s4, s5, Option.bind_some, e1, g2, e2, g3, f_X12_thrown, e3, if_true, if_neg hk]
theorem sp_owed (hM : ∀ x0, MEB (fun h => f_L_owed h 0 x0 76) (fun h => f_X12_owed h 57 x0)) : StepOK JJ f_L_law_1988 := by
  intro L xs k h i hL hi hJ
  obtain ⟨s1, s2, s3, s4, s5⟩ := lsx (xs := xs) hL hi
  obtain ⟨⟨w0, g0⟩, w1, g1⟩ := (JJ_HH hJ).g
  obtain ⟨kk, h1, b, h2, e1, hh1, e2, e3, e4, hJ2⟩ := hM (xs (6 * i + 1)) h i hJ (by omega)
  obtain ⟨⟨w2, g2⟩, _⟩ := hh1.g
  obtain ⟨⟨w3, g3⟩, _⟩ := (JJ_HH hJ2).g
  refine ⟨h2, ?_, hJ2⟩
  unfold f_L_law_1988 f_L_law_2042
  by_cases hk : kk = 0
  · have e5 := e4 hk
    subst hk
    by_cases hb : b = 0
    · subst hb
      simp only [s1, s2, s3, s4, s5, Option.bind_some, e1, g2, e2, g3, f_X12_thrown, e3, if_true, e5, cmp_self]
    · simp only [s1, s2, s3, s4, s5, Option.bind_some, e1, g2, e2, g3, f_X12_thrown, e3, if_true, e5, if_neg hb, cmp_self]
  · simp only [s1, s2, s3, s4, s5, Option.bind_some, e1, g2, e2, g3, f_X12_thrown, e3, if_true, if_neg hk]
theorem sp_upper (hM : MPJ (fun h => f_X11_upper h 0) (fun h => f_X12_upper h 57)) : StepOK JJ f_L_law_2051 := by
  intro L xs k h i hL hi hJ
  obtain ⟨s1, s2, s3, s4, s5⟩ := lsx (xs := xs) hL hi
  obtain ⟨⟨w0, g0⟩, w1, g1⟩ := (JJ_HH hJ).g
  obtain ⟨v, h2, e1, e2, hJ2⟩ := hM  h i hJ (by omega)
  refine ⟨h2, ?_, hJ2⟩
  unfold f_L_law_2051
  simp only [s1, s2, s3, s4, s5, Option.bind_some, g1, g0, e1, e2, cmp_self, if_true]
theorem sp_lower (hM : MPJ (fun h => f_X11_lower h 0) (fun h => f_X12_lower h 57)) : StepOK JJ f_L_law_2065 := by
  intro L xs k h i hL hi hJ
  obtain ⟨s1, s2, s3, s4, s5⟩ := lsx (xs := xs) hL hi
  obtain ⟨⟨w0, g0⟩, w1, g1⟩ := (JJ_HH hJ).g
  obtain ⟨v, h2, e1, e2, hJ2⟩ := hM  h i hJ (by omega)
  refine ⟨h2, ?_, hJ2⟩
  unfold f_L_law_2065
  simp only [s1, s2, s3, s4, s5, Option.bind_some, g1, g0, e1, e2, cmp_self, if_true]
theorem sp_sooner (hM : ∀ x0, ME (fun h => f_L_sooner h 0 x0 76) (fun h => f_X12_sooner h 57 x0)) : StepOK JJ f_L_law_2079 := by
  intro L xs k h i hL hi hJ
  obtain ⟨s1, s2, s3, s4, s5⟩ := lsx (xs := xs) hL hi
  obtain ⟨⟨w0, g0⟩, w1, g1⟩ := (JJ_HH hJ).g
  obtain ⟨kk, h1, b, h2, e1, hh1, e2, e3, e4, hJ2⟩ := hM (xs (6 * i + 1)) h i hJ (by omega)
  obtain ⟨⟨w2, g2⟩, _⟩ := hh1.g
  obtain ⟨⟨w3, g3⟩, _⟩ := (JJ_HH hJ2).g
  refine ⟨h2, ?_, hJ2⟩
  unfold f_L_law_2079
  by_cases hk : kk = 0
  · have e5 := e4 hk
    subst hk
    simp only [s1, s2, s3, s4, s5, Option.bind_some, e1, g2, e2, g3, f_X12_thrown, e3, if_true, e5, cmp_self]
  · simp only [s1, s2, s3, s4, s5, Option.bind_some, e1, g2, e2, g3, f_X12_thrown, e3, if_true, if_neg hk]
theorem sp_round (hM : ∀ x0 x1, ME (fun h => f_L_round h 0 x0 x1 76) (fun h => f_X12_round h 57 x0 x1)) : StepOK JJ f_L_law_2135 := by
  intro L xs k h i hL hi hJ
  obtain ⟨s1, s2, s3, s4, s5⟩ := lsx (xs := xs) hL hi
  obtain ⟨⟨w0, g0⟩, w1, g1⟩ := (JJ_HH hJ).g
  obtain ⟨kk, h1, b, h2, e1, hh1, e2, e3, e4, hJ2⟩ := hM (xs (6 * i + 1)) (xs (6 * i + 2)) h i hJ (by omega)
  obtain ⟨⟨w2, g2⟩, _⟩ := hh1.g
  obtain ⟨⟨w3, g3⟩, _⟩ := (JJ_HH hJ2).g
  refine ⟨h2, ?_, hJ2⟩
  unfold f_L_law_2135
  by_cases hk : kk = 0
  · have e5 := e4 hk
    subst hk
    simp only [s1, s2, s3, s4, s5, Option.bind_some, e1, g2, e2, g3, f_X12_thrown, e3, if_true, e5, cmp_self]
  · simp only [s1, s2, s3, s4, s5, Option.bind_some, e1, g2, e2, g3, f_X12_thrown, e3, if_true, if_neg hk]
theorem sp_rule (hM : ∀ x0 r x2 x3, (r = 0 ∨ r = 1) → ME (fun h => f_L_rule h 0 x0 r x2 x3 76) (fun h => f_X12_rule h 57 x0 r x2 x3)) : StepOK JJ f_L_law_2203 := by
  intro L xs k h i hL hi hJ
  obtain ⟨s1, s2, s3, s4, s5⟩ := lsx (xs := xs) hL hi
  obtain ⟨⟨w0, g0⟩, w1, g1⟩ := (JJ_HH hJ).g
  obtain ⟨kk, h1, b, h2, e1, hh1, e2, e3, e4, hJ2⟩ := hM (xs (6 * i + 1)) (if xs (6 * i + 2) = 0 then 0 else 1) (xs (6 * i + 3)) (xs (6 * i + 4)) (by split <;> simp) h i hJ (by omega)
  obtain ⟨⟨w2, g2⟩, _⟩ := hh1.g
  obtain ⟨⟨w3, g3⟩, _⟩ := (JJ_HH hJ2).g
  refine ⟨h2, ?_, hJ2⟩
  unfold f_L_law_2203 f_L_law_2224 f_L_law_2263
  by_cases hr : xs (6 * i + 2) = 0
  · simp only [hr, if_true] at e1 e2
    by_cases hk : kk = 0
    · have e5 := e4 hk
      subst hk
      simp only [s1, s2, s3, s4, s5, Option.bind_some, hr, if_true, e1, g2, e2, g3, f_X12_thrown, e3, e5, cmp_self]
    · simp only [s1, s2, s3, s4, s5, Option.bind_some, hr, if_true, e1, g2, e2, g3, f_X12_thrown, e3, if_neg hk]
  · simp only [hr, if_false] at e1 e2
    by_cases hk : kk = 0
    · have e5 := e4 hk
      subst hk
      simp only [s1, s2, s3, s4, s5, Option.bind_some, hr, if_true, if_false, e1, g2, e2, g3, f_X12_thrown, e3, e5, cmp_self]
    · simp only [s1, s2, s3, s4, s5, Option.bind_some, hr, if_true, if_false, e1, g2, e2, g3, f_X12_thrown, e3, if_neg hk]
theorem sp_look (hM : ∀ x0 r x2, (r = 0 ∨ r = 1) → ME (fun h => f_L_look h 0 x0 r x2 76) (fun h => f_X12_look h 57 x0 r x2)) : StepOK JJ f_L_law_2311 := by
  intro L xs k h i hL hi hJ
  obtain ⟨s1, s2, s3, s4, s5⟩ := lsx (xs := xs) hL hi
  obtain ⟨⟨w0, g0⟩, w1, g1⟩ := (JJ_HH hJ).g
  obtain ⟨kk, h1, b, h2, e1, hh1, e2, e3, e4, hJ2⟩ := hM (xs (6 * i + 1)) (if xs (6 * i + 2) = 0 then 0 else 1) (xs (6 * i + 3)) (by split <;> simp) h i hJ (by omega)
  obtain ⟨⟨w2, g2⟩, _⟩ := hh1.g
  obtain ⟨⟨w3, g3⟩, _⟩ := (JJ_HH hJ2).g
  refine ⟨h2, ?_, hJ2⟩
  unfold f_L_law_2311 f_L_law_2332 f_L_law_2365
  by_cases hr : xs (6 * i + 2) = 0
  · simp only [hr, if_true] at e1 e2
    by_cases hk : kk = 0
    · have e5 := e4 hk
      subst hk
      simp only [s1, s2, s3, s4, s5, Option.bind_some, hr, if_true, e1, g2, e2, g3, f_X12_thrown, e3, e5, cmp_self]
    · simp only [s1, s2, s3, s4, s5, Option.bind_some, hr, if_true, e1, g2, e2, g3, f_X12_thrown, e3, if_neg hk]
  · simp only [hr, if_false] at e1 e2
    by_cases hk : kk = 0
    · have e5 := e4 hk
      subst hk
      simp only [s1, s2, s3, s4, s5, Option.bind_some, hr, if_true, if_false, e1, g2, e2, g3, f_X12_thrown, e3, e5, cmp_self]
    · simp only [s1, s2, s3, s4, s5, Option.bind_some, hr, if_true, if_false, e1, g2, e2, g3, f_X12_thrown, e3, if_neg hk]
theorem sp_night (hM : ∀ x0 x1 x2, ME (fun h => f_L_night h 0 x0 x1 x2 76) (fun h => f_X12_night h 57 x0 x1 x2)) : StepOK JJ f_L_law_2407 := by
  intro L xs k h i hL hi hJ
  obtain ⟨s1, s2, s3, s4, s5⟩ := lsx (xs := xs) hL hi
  obtain ⟨⟨w0, g0⟩, w1, g1⟩ := (JJ_HH hJ).g
  obtain ⟨kk, h1, b, h2, e1, hh1, e2, e3, e4, hJ2⟩ := hM (xs (6 * i + 1)) (xs (6 * i + 2)) (xs (6 * i + 3)) h i hJ (by omega)
  obtain ⟨⟨w2, g2⟩, _⟩ := hh1.g
  obtain ⟨⟨w3, g3⟩, _⟩ := (JJ_HH hJ2).g
  refine ⟨h2, ?_, hJ2⟩
  unfold f_L_law_2407
  by_cases hk : kk = 0
  · have e5 := e4 hk
    subst hk
    simp only [s1, s2, s3, s4, s5, Option.bind_some, e1, g2, e2, g3, f_X12_thrown, e3, if_true, e5, cmp_self]
  · simp only [s1, s2, s3, s4, s5, Option.bind_some, e1, g2, e2, g3, f_X12_thrown, e3, if_true, if_neg hk]
theorem sp_tray (hM : ∀ x0 x1 x2, MV (fun h => f_L_tray h 0 x0 x1 x2) (fun h => f_X12_tray h 57 x0 x1 x2)) : StepOK JJ f_L_law_2487 := by
  intro L xs k h i hL hi hJ
  obtain ⟨s1, s2, s3, s4, s5⟩ := lsx (xs := xs) hL hi
  obtain ⟨⟨w0, g0⟩, w1, g1⟩ := (JJ_HH hJ).g
  obtain ⟨kk, h1, h2, e1, hh1, e2, e3, hJ2⟩ := hM (xs (6 * i + 1)) (xs (6 * i + 2)) (xs (6 * i + 3)) h i hJ (by omega)
  obtain ⟨⟨w2, g2⟩, _⟩ := hh1.g
  obtain ⟨⟨w3, g3⟩, _⟩ := (JJ_HH hJ2).g
  refine ⟨h2, ?_, hJ2⟩
  unfold f_L_law_2487
  simp only [s1, s2, s3, s4, s5, Option.bind_some, e1, g2, e2, g3, f_X12_thrown, e3, if_true]
theorem sp_write (hM : ∀ x0 x1 v, MEJ (fun h => f_L_write h 0 x0 x1 v 76) (fun h => f_X12_write h 57 x0 x1 v)) : StepOK JJ f_L_law_2547 := by
  intro L xs k h i hL hi hJ
  obtain ⟨s1, s2, s3, s4, s5⟩ := lsx (xs := xs) hL hi
  obtain ⟨⟨w0, g0⟩, w1, g1⟩ := (JJ_HH hJ).g
  obtain ⟨kk, h1, b, h2, e1, hh1, e2, e3, e4, hJ2⟩ := hM (xs (6 * i + 1)) (xs (6 * i + 2)) ((Int32.toInt64 (xs (6 * i + 3)) <<< (Int32.toInt64 (32 : Int32) &&& 63)) ||| (Int32.toInt64 (xs (6 * i + 4)) &&& (4294967295 : Int64))) h i hJ (by omega)
  obtain ⟨⟨w2, g2⟩, _⟩ := hh1.g
  obtain ⟨⟨w3, g3⟩, _⟩ := (JJ_HH hJ2).g
  refine ⟨h2, ?_, hJ2⟩
  unfold f_L_law_2547
  by_cases hk : kk = 0
  · have e5 := e4 hk
    subst hk
    simp only [s1, s2, s3, s4, s5, Option.bind_some, e1, g2, e2, g3, f_X12_thrown, e3, if_true, e5, cmp_self]
  · simp only [s1, s2, s3, s4, s5, Option.bind_some, e1, g2, e2, g3, f_X12_thrown, e3, if_true, if_neg hk]
theorem sp_pour (hM : ∀ x0, ME (fun h => f_L_pour h 0 x0 76) (fun h => f_X12_pour h 57 x0)) : StepOK JJ f_L_law_2658 := by
  intro L xs k h i hL hi hJ
  obtain ⟨s1, s2, s3, s4, s5⟩ := lsx (xs := xs) hL hi
  obtain ⟨⟨w0, g0⟩, w1, g1⟩ := (JJ_HH hJ).g
  obtain ⟨kk, h1, b, h2, e1, hh1, e2, e3, e4, hJ2⟩ := hM (xs (6 * i + 1)) h i hJ (by omega)
  obtain ⟨⟨w2, g2⟩, _⟩ := hh1.g
  obtain ⟨⟨w3, g3⟩, _⟩ := (JJ_HH hJ2).g
  refine ⟨h2, ?_, hJ2⟩
  unfold f_L_law_2658
  by_cases hk : kk = 0
  · have e5 := e4 hk
    subst hk
    simp only [s1, s2, s3, s4, s5, Option.bind_some, e1, g2, e2, g3, f_X12_thrown, e3, if_true, e5, cmp_self]
  · simp only [s1, s2, s3, s4, s5, Option.bind_some, e1, g2, e2, g3, f_X12_thrown, e3, if_true, if_neg hk]
theorem sp_image (hM : ∀ x0, MV (fun h => f_L_image h 0 x0) (fun h => f_X12_image h 57 x0)) : StepOK JJ f_L_law_2714 := by
  intro L xs k h i hL hi hJ
  obtain ⟨s1, s2, s3, s4, s5⟩ := lsx (xs := xs) hL hi
  obtain ⟨⟨w0, g0⟩, w1, g1⟩ := (JJ_HH hJ).g
  obtain ⟨kk, h1, h2, e1, hh1, e2, e3, hJ2⟩ := hM (xs (6 * i + 1)) h i hJ (by omega)
  obtain ⟨⟨w2, g2⟩, _⟩ := hh1.g
  obtain ⟨⟨w3, g3⟩, _⟩ := (JJ_HH hJ2).g
  refine ⟨h2, ?_, hJ2⟩
  unfold f_L_law_2714
  simp only [s1, s2, s3, s4, s5, Option.bind_some, e1, g2, e2, g3, f_X12_thrown, e3, if_true]
theorem sp_restore (hM : ∀ x0, MV (fun h => f_L_restore h 0 x0) (fun h => f_X12_restore h 57 x0)) : StepOK JJ f_L_law_2750 := by
  intro L xs k h i hL hi hJ
  obtain ⟨s1, s2, s3, s4, s5⟩ := lsx (xs := xs) hL hi
  obtain ⟨⟨w0, g0⟩, w1, g1⟩ := (JJ_HH hJ).g
  obtain ⟨kk, h1, h2, e1, hh1, e2, e3, hJ2⟩ := hM (xs (6 * i + 1)) h i hJ (by omega)
  obtain ⟨⟨w2, g2⟩, _⟩ := hh1.g
  obtain ⟨⟨w3, g3⟩, _⟩ := (JJ_HH hJ2).g
  refine ⟨h2, ?_, hJ2⟩
  unfold f_L_law_2750
  simp only [s1, s2, s3, s4, s5, Option.bind_some, e1, g2, e2, g3, f_X12_thrown, e3, if_true]
theorem sp_count (hM : ∀ x0, MP (fun h => f_X11_count h 0 x0) (fun h => f_X12_count h 57 x0)) : StepOK JJ f_L_law_2786 := by
  intro L xs k h i hL hi hJ
  obtain ⟨s1, s2, s3, s4, s5⟩ := lsx (xs := xs) hL hi
  obtain ⟨⟨w0, g0⟩, w1, g1⟩ := (JJ_HH hJ).g
  obtain ⟨v, h2, e1, e2, hJ2⟩ := hM (xs (6 * i + 1)) h i hJ (by omega)
  refine ⟨h2, ?_, hJ2⟩
  unfold f_L_law_2786
  simp only [s1, s2, s3, s4, s5, Option.bind_some, g1, g0, e1, e2, cmp_self, if_true]
