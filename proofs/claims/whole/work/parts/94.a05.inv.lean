/-! ===== what holds between calls ===== -/
def FAR : Nat := 1000000
def way (tt : Nat → Nat) (a b : Nat) : Nat := if a < tt 1 ∧ dst tt a b < 16 then dst tt a b else FAR
def need (tt : Nat → Nat) (h : Nat) : Nat := orf (fun w => if (tt (256 + 5 * w + 3) ≤ h ∧ h ≤ tt (256 + 5 * w + 4)) ∧ 0 < tt (256 + 5 * w + 1) then 2 ^ tt (256 + 5 * w) else 0) (tt 4)
/-- the least of top and f i, i < n -/
def minf (f : Nat → Nat) (top : Nat) : Nat → Nat
  | 0 => top
  | n + 1 => min (minf f top n) (f n)
def lgt (tt : Nat → Nat) (n a b : Nat) : Nat := ltt tt a ||| (if n = 2 then ltt tt b else 0)
def sec (tt : Nat → Nat) (n : Nat) : Nat := if n = 2 then tt 1 else min (tt 1) 1
/-- CARRIED: the least walks from places a, b in the hour k ahead of the last one on -/
def csm (tt : Nat → Nat) (n last : Nat) : Nat → Nat → Nat → Nat
  | 0, a, b => if sdf (need tt last) (lgt tt n a b) = 0 then 0 else FAR
  | k + 1, a, b => if sdf (need tt (last - (k + 1))) (lgt tt n a b) = 0 then minf (fun s => if s / 16 < tt 1 ∧ s % 16 < sec tt n then way tt a (s / 16) + (if n = 2 then way tt b (s % 16) else 0) + csm tt n last k (s / 16) (s % 16) else FAR) FAR 256 else FAR
def csl (tt : Nat → Nat) (n last k : Nat) : Nat := minf (fun s => if s / 16 < tt 1 ∧ s % 16 < sec tt n then csm tt n last k (s / 16) (s % 16) else FAR) FAR 256
/-- what lamps l cost the tenants s -/
def cva (tt : Nat → Nat) (s l : Nat) : Nat := fb_sm (fun r => (if l.testBit r then tt (416 + r) else 0) + (if s.testBit r ∧ nxt tt r &&& l = 0 then tt 6 else 0)) (tt 1)
def cst (tt : Nat → Nat) (s : Nat) : Nat := minf (fun l => if l &&& s = l then cva tt s l else tt 6 * pc s) (tt 6 * pc s) (2 ^ tt 1)
def sav (tt : Nat → Nat) (s : Nat) : Nat := tt 6 * pc s - cst tt s
def Lam (f g : Nat → Int32) (lk lh : Nat → Nat) : Prop := ∀ r, r < 16 → f r = kv (lk r) ∧ g r = nI (lh r)
def Lm (K : Nat → Nat) (D : List xC) (l i : Nat) (lk lh : Nat → Nat) : Prop := 77 ≤ l ∧ (∀ j, j < 3 → K (l + j) = i + 1) ∧ HC D l = some (.inr (5, [.ref (l + 1), .ref (l + 2)])) ∧ Ar D (l + 1) 16 (fun r => kv (lk r)) ∧ Ar D (l + 2) 16 (fun r => nI (lh r))
def ImgOK (K : Nat → Nat) (A : Nat → Nat → Int32) (F : Nat → Nat → Option Nat) (D : List xC) : Prop := ∀ i, i < 3 → (A 61 i = 0 ∧ F 15 i = none ∧ F 16 i = none) ∨ (A 61 i = 1 ∧ ∃ qi li tti lki lhi, F 15 i = some qi ∧ F 16 i = some li ∧ Hs K D qi tti ∧ HWf tti ∧ LWf tti lki lhi ∧ Lm K D li i lki lhi ∧ Told (fun k => A 59 (480 * i + k)) tti lki lhi)
def TapeOK (A : Nat → Nat → Int32) (Z : Nat → Int32) : Prop := ∃ n, n ≤ 800 ∧ Z 0 = nI n ∧ Z 19 = nI n ∧ ∀ k, k < n → ∃ b, b < 256 ∧ A 62 k = nI b ∧ A 1 k = (nI b).toInt8.toInt32
def TrayOK (A : Nat → Nat → Int32) (B : Nat → Nat → Int64) : Prop := (∀ t, t < 4 → (A 19 t = nM ∧ A 73 t = nM) ∨ ∃ s m, s < 4 ∧ m ≤ 40 ∧ A 19 t = nI m ∧ A 20 t = nI s ∧ A 73 t = nI s ∧ A 74 t = nI m) ∧ ∀ k, k < 160 → B 18 k = B 75 k
def Zro (A : Nat → Nat → Int32) : Prop := A 24 0 = 0 ∧ A 25 0 = 0 ∧ A 26 0 = 0 ∧ A 36 0 = 0 ∧ A 55 0 = 0 ∧ ∀ k, k < 16 → A 35 k = 0
def PlanOK (K : Nat → Nat) (A : Nat → Nat → Int32) (Z : Nat → Int32) (P : Nat → Option Nat) (D : List xC) : Prop := P 1 = none ∨ ∃ qp tp n f t, P 1 = some qp ∧ Hs K D qp tp ∧ HWf tp ∧ (1 ≤ n ∧ n ≤ 2 ∧ f ≤ t ∧ t ≤ 23) ∧ (Z 11 = nI n ∧ Z 12 = nI f ∧ Z 13 = nI t ∧ Z 14 = nI (tp 1) ∧ Z 15 = nI (sec tp n) ∧ Z 16 = nI (csl tp n t (t - f))) ∧ (∀ k, k < 256 → A 50 k = nI (way tp (k / 16) (k % 16))) ∧ ∀ h a b, f ≤ h → h ≤ t → a < tp 1 → b < sec tp n → A 51 ((h * 16 + a) * 16 + b) = nI (csm tp n t (t - h) a b)
def SvOK (K : Nat → Nat) (A : Nat → Nat → Int32) (P : Nat → Option Nat) (D : List xC) : Prop := P 2 = none ∨ ∃ qs ts, P 2 = some qs ∧ Hs K D qs ts ∧ HWf ts ∧ ∀ s, s < 2 ^ ts 1 → s < 1024 → A 56 s = nI (sav ts s)
/-- MIXED as it was found last -/
def MixOK (K : Nat → Nat) (A : Nat → Nat → Int32) (Z : Nat → Int32) (P : Nat → Option Nat) (D : List xC) : Prop := P 3 = none ∨ ∃ qm tm t bo bl, P 3 = some qm ∧ Hs K D qm tm ∧ HWf tm ∧ (tm 1 ≤ 8 ∧ t < 24) ∧ (Z 30 = nI (wts tm t) ∧ Z 7 = nI bo ∧ Z 8 = nI bl) ∧ Bk tm (tm 1) (mq tm t) (A 40) bo bl
def SavOK (K : Nat → Nat) (A : Nat → Nat → Int32) (Z : Nat → Int32) (P : Nat → Option Nat) (D : List xC) : Prop := SvOK K A P D ∧ MixOK K A Z P D
/-- what a round from s is -/
def WA (tt : Nat → Nat) (s : Nat) (v : Int32) (f : Nat → Int32) : Prop := (∃ d rm Lm, RP tt s d rm Lm ∧ d ≤ 22 ∧ v = nI d ∧ ∀ k, k ≤ d → f k = nI (rm k)) ∨ (v = nM ∧ ∀ k, ¬ Wn tt s k (ltt tt s) s)
/-- the round that was found last -/
def WkOK (K : Nat → Nat) (D : List xC) (R : Nat) (wk : Option Nat) (wf ws : Int32) (f : Nat → Int32) : Prop := wk = none ∨ ∃ qw tw s, wk = some qw ∧ Hs K D qw tw ∧ HWf tw ∧ (tw 1 ≤ R ∧ s < tw 1) ∧ wf = nI s ∧ WA tw s ws f
def RndOK (K : Nat → Nat) (P : Nat → Option Nat) (D : List xC) (R : Nat) : Prop := (P 0 = none ∧ R = 0) ∨ ∃ a qd wk wf ws, P 0 = some a ∧ 77 ≤ a ∧ (∀ j, j < 4 → K (a + j) = 5) ∧ 1 ≤ R ∧ R ≤ 12 ∧ HC D a = some (.inr (8, [.int (nI R), .ref (a + 1), .ref (a + 2), .ref (a + 3), .int qd, va_rf wk, .int wf, .int ws])) ∧ (∃ f, HC D (a + 1) = some (.inl (.int, 24, .inl f)) ∧ WkOK K D R wk wf ws f) ∧ Ar D (a + 2) (R * 2 ^ R) (fun _ => 0) ∧ ∃ g, HC D (a + 3) = some (.inl (.int, R * 2 ^ R, .inl g))
def Inv (K : Nat → Nat) (A : Nat → Nat → Int32) (Z : Nat → Int32) (B : Nat → Nat → Int64) (Q : Nat → Int64) (P : Nat → Option Nat) (F : Nat → Nat → Option Nat) (q : Nat) (D : List xC) (c : Nat × Nat) (tt lk lh : Nat → Nat) (R i : Nat) : Prop :=
  (Hs K D q tt ∧ HWf tt ∧ LWf tt lk lh ∧ Told (A 58) tt lk lh ∧ Lam (A 13) (A 14) lk lh) ∧ (ImgOK K A F D ∧ TapeOK A Z ∧ TrayOK A B ∧ Zro A) ∧ (PlanOK K A Z P D ∧ SavOK K A Z P D ∧ RndOK K P D R) ∧ (Z 1 = Z 27 ∧ Z 2 = Z 28 ∧ Q 0 = Q 2 ∧ Q 1 = Q 3) ∧ (R ≤ 12 ∧ 77 + D.length ≤ c.1 ∧ c.1 ≤ 200 + 40 * i ∧ c.2 ≤ 250000 + 3000 * i + 100000 * R)
def JJ (h : xH) (i : Nat) : Prop := ∃ K A Z B Q P F q D c tt lk lh R, h = HH A Z B Q P F q D c ∧ Inv K A Z B Q P F q D c tt lk lh R i
/-- arrays, fields that hold nothing between calls (of some of them the first elements stay 0: Zro) -/
def SA : List Nat := [21, 23, 24, 25, 26, 27, 30, 31, 32, 33, 34, 35, 36, 37, 38, 42, 43, 44, 45, 46, 47, 48, 52, 54, 55, 60, 63, 64, 65, 66, 67, 68, 69, 70, 71, 72]
def SZ : List Nat := [3, 4, 5, 6, 9, 10, 17, 18, 20, 21, 22, 23, 24, 25, 26, 29]
theorem JJ_m (h : xH) (i : Nat) (H : JJ h i) : JJ h (i + 1) := by
  obtain ⟨K, A, Z, B, Q, P, F, q, D, c, tt, lk, lh, R, e, h1, h2, h3, h4, h5, h6, h7, h8⟩ := H
  exact ⟨K, A, Z, B, Q, P, F, q, D, c, tt, lk, lh, R, e, h1, h2, h3, h4, h5, h6, by omega, by omega⟩
theorem JJ_room (h : xH) (m : Nat) (hm : m ≤ 512) (H : JJ h m) : h.2.1 ≤ 601024 ∧ h.2.2 ≤ 7293034 := by
  obtain ⟨K, A, Z, B, Q, P, F, q, D, c, tt, lk, lh, R, e, h1, h2, h3, h4, h5, h6, h7, h8⟩ := H
  subst e
  show c.1 ≤ 601024 ∧ c.2 ≤ 7293034
  exact ⟨by omega, by omega⟩
theorem Lm_app {K : Nat → Nat} {D E : List xC} {l i : Nat} {lk lh : Nat → Nat} (H : Lm K D l i lk lh) : Lm K (D ++ E) l i lk lh := by
  obtain ⟨h0, h1, h2, h3, h4⟩ := H
  exact ⟨h0, h1, HC_app h2, Ar_app h3, Ar_app h4⟩
theorem Lm_ne {K : Nat → Nat} {D : List xC} {l i j : Nat} {lk lh : Nat → Nat} {y : xC} (hj : 77 ≤ j) (hK : K j ≠ i + 1) (H : Lm K D l i lk lh) : Lm K (D.set (j - 77) y) l i lk lh := by
  obtain ⟨h0, h1, h2, h3, h4⟩ := H
  have n : ∀ k, k < 3 → l + k ≠ j := fun k hk e => hK (e ▸ h1 k hk)
  exact ⟨h0, h1, by rw [HC_ne hj (show l ≠ j from n 0 (by decide))]; exact h2, Ar_ne hj (n 1 (by decide)) h3, Ar_ne hj (n 2 (by decide)) h4⟩
theorem Lm_K {K K' : Nat → Nat} {D : List xC} {l i : Nat} {lk lh : Nat → Nat} (hK : ∀ k, k < 77 + D.length → K' k = K k) (H : Lm K D l i lk lh) : Lm K' D l i lk lh := by
  obtain ⟨h0, h1, h2, h3, h4⟩ := H
  have l2 : l + 2 < 77 + D.length := by
    obtain ⟨f, e, _⟩ := h4
    exact HC_lt e
  exact ⟨h0, fun j hj => by rw [hK _ (by omega)]; exact h1 j hj, h2, h3, h4⟩
/-- what all but the cells of images and rounds need of D -/
def Dok (K K' : Nat → Nat) (D D' : List xC) : Prop := (∀ q tt, Hs K D q tt → Hs K' D' q tt)
def DokL (K K' : Nat → Nat) (D D' : List xC) : Prop := ∀ l i lk lh, i < 3 → Lm K D l i lk lh → Lm K' D' l i lk lh
def DokR (K K' : Nat → Nat) (D D' : List xC) : Prop := ∀ P R, RndOK K P D R → RndOK K' P D' R
theorem Dok_app {K : Nat → Nat} {D E : List xC} : Dok K K D (D ++ E) := fun _ _ h => Hs_app h
theorem DokL_app {K : Nat → Nat} {D E : List xC} : DokL K K D (D ++ E) := fun _ _ _ _ _ h => Lm_app h
theorem Wk_D {K K' : Nat → Nat} {D D' : List xC} {R : Nat} {wk : Option Nat} {wf ws : Int32} {f : Nat → Int32} (h1 : Dok K K' D D') (H : WkOK K D R wk wf ws f) : WkOK K' D' R wk wf ws f := by
  rcases H with h | ⟨qw, tw, s, b1, b2, b3, b4, b5, b6⟩
  · exact Or.inl h
  · exact Or.inr ⟨qw, tw, s, b1, h1 _ _ b2, b3, b4, b5, b6⟩
theorem DokR_app {K : Nat → Nat} {D E : List xC} : DokR K K D (D ++ E) := fun P R h => by
  rcases h with h | ⟨a, qd, wk, wf, ws, h1, h2, h3, h4, h5, h6, ⟨f, h7, hw⟩, h8, g, h9⟩
  · exact Or.inl h
  · exact Or.inr ⟨a, qd, wk, wf, ws, h1, h2, h3, h4, h5, HC_app h6, ⟨f, HC_app h7, Wk_D Dok_app hw⟩, Ar_app h8, g, HC_app h9⟩
theorem Img_D {K K' : Nat → Nat} {A A' : Nat → Nat → Int32} {F : Nat → Nat → Option Nat} {D D' : List xC} (h1 : Dok K K' D D') (h2 : DokL K K' D D') (e1 : A' 61 = A 61) (e2 : A' 59 = A 59) (H : ImgOK K A F D) : ImgOK K' A' F D' := fun i hi => by
  rw [e1, e2]
  rcases H i hi with h | ⟨a, qi, li, tti, lki, lhi, b1, b2, b3, b4, b5, b6, b7⟩
  · exact Or.inl h
  · exact Or.inr ⟨a, qi, li, tti, lki, lhi, b1, b2, h1 _ _ b3, b4, b5, h2 _ _ _ _ hi b6, b7⟩
theorem Plan_D {K K' : Nat → Nat} {A A' : Nat → Nat → Int32} {Z Z' : Nat → Int32} {P : Nat → Option Nat} {D D' : List xC} (h1 : Dok K K' D D') (e1 : A' 50 = A 50) (e2 : A' 51 = A 51) (e3 : ∀ k, 11 ≤ k → k ≤ 16 → Z' k = Z k) (H : PlanOK K A Z P D) : PlanOK K' A' Z' P D' := by
  rcases H with h | ⟨qp, tp, n, f, t, b1, b2, b3, b4, ⟨c1, c2, c3, c4, c5, c6⟩, b6, b7⟩
  · exact Or.inl h
  · refine Or.inr ⟨qp, tp, n, f, t, b1, h1 _ _ b2, b3, b4, ?_, by rw [e1]; exact b6, by rw [e2]; exact b7⟩
    rw [e3 11 (by decide) (by decide), e3 12 (by decide) (by decide), e3 13 (by decide) (by decide), e3 14 (by decide) (by decide), e3 15 (by decide) (by decide), e3 16 (by decide) (by decide)]
    exact ⟨c1, c2, c3, c4, c5, c6⟩
theorem Mix_D {K K' : Nat → Nat} {A A' : Nat → Nat → Int32} {Z Z' : Nat → Int32} {P : Nat → Option Nat} {D D' : List xC} (h1 : Dok K K' D D') (e2 : A' 40 = A 40) (e3 : Z' 7 = Z 7) (e4 : Z' 8 = Z 8) (e5 : Z' 30 = Z 30) (H : MixOK K A Z P D) : MixOK K' A' Z' P D' := by
  rcases H with h | ⟨qm, tm, t, bo, bl, b1, b2, b3, b4, b5, b6⟩
  · exact Or.inl h
  · exact Or.inr ⟨qm, tm, t, bo, bl, b1, h1 _ _ b2, b3, b4, by rw [e3, e4, e5]; exact b5, by rw [e2]; exact b6⟩
theorem Sav_D {K K' : Nat → Nat} {A A' : Nat → Nat → Int32} {Z Z' : Nat → Int32} {P : Nat → Option Nat} {D D' : List xC} (h1 : Dok K K' D D') (e1 : A' 56 = A 56) (e2 : A' 40 = A 40) (e3 : Z' 7 = Z 7) (e4 : Z' 8 = Z 8) (e5 : Z' 30 = Z 30) (H : SavOK K A Z P D) : SavOK K' A' Z' P D' := by
  refine ⟨?_, Mix_D h1 e2 e3 e4 e5 H.2⟩
  rcases H.1 with h | ⟨qs, ts, b1, b2, b3, b4⟩
  · exact Or.inl h
  · exact Or.inr ⟨qs, ts, b1, h1 _ _ b2, b3, by rw [e1]; exact b4⟩
/-- a call that changes nothing but such arrays and fields -/
theorem Inv_q {K : Nat → Nat} {A A' : Nat → Nat → Int32} {Z Z' : Nat → Int32} {B B' : Nat → Nat → Int64} {Q : Nat → Int64} {P : Nat → Option Nat} {F : Nat → Nat → Option Nat} {q : Nat} {D E : List xC} {c c' : Nat × Nat} {tt lk lh : Nat → Nat} {R i : Nat} (H : Inv K A Z B Q P F q D c tt lk lh R i) (hA : Only SA A A') (hz : Zro A') (hZ : Only SZ Z Z') (hB : Only [76] B B') (h1 : c.1 + E.length ≤ c'.1) (h2 : c'.1 ≤ c.1 + 40) (h3 : c'.2 ≤ c.2 + 3000) : Inv K A' Z' B' Q P F q (D ++ E) c' tt lk lh R (i + 1) := by
  obtain ⟨⟨a1, a2, a3, a4, a5⟩, ⟨b1, b2, b3, b4⟩, ⟨p1, p2, p3⟩, ⟨z1, z2, z3, z4⟩, r1, r2, r3, r4⟩ := H
  refine ⟨⟨Hs_app a1, a2, a3, ?_, ?_⟩, ⟨Img_D Dok_app DokL_app (hA 61 (by decide)) (hA 59 (by decide)) b1, ?_, ?_, hz⟩, ⟨Plan_D Dok_app (hA 50 (by decide)) (hA 51 (by decide)) ?_ p1, Sav_D Dok_app (hA 56 (by decide)) (hA 40 (by decide)) (hZ 7 (by decide)) (hZ 8 (by decide)) (hZ 30 (by decide)) p2, DokR_app P R p3⟩, ⟨?_, ?_, z3, z4⟩, r1, ?_, by omega, by omega⟩
  · rw [hA 58 (by decide)]; exact a4
  · rw [hA 13 (by decide), hA 14 (by decide)]; exact a5
  · unfold TapeOK
    rw [hA 62 (by decide), hA 1 (by decide), hZ 0 (by decide), hZ 19 (by decide)]
    exact b2
  · unfold TrayOK
    rw [hA 19 (by decide), hA 20 (by decide), hA 73 (by decide), hA 74 (by decide), hB 18 (by decide), hB 75 (by decide)]
    exact b3
  · intro k k1 k2
    apply hZ
    unfold SZ
    simp only [List.mem_cons, List.not_mem_nil, or_false]
    omega
  · rw [hZ 1 (by decide), hZ 27 (by decide)]; exact z1
  · rw [hZ 2 (by decide), hZ 28 (by decide)]; exact z2
  · rw [List.length_append]; omega
theorem Zro_only {A A' : Nat → Nat → Int32} (H : Zro A) (hA : Only [21, 23, 27, 30, 31, 32, 33, 34, 37, 38, 42, 43, 44, 45, 46, 47, 48, 52, 54, 60, 63, 64, 65, 66, 67, 68, 69, 70, 71, 72] A A') : Zro A' := by
  obtain ⟨h1, h2, h3, h4, h5, h6⟩ := H
  unfold Zro
  rw [hA 24 (by decide), hA 25 (by decide), hA 26 (by decide), hA 36 (by decide), hA 55 (by decide), hA 35 (by decide)]
  exact ⟨h1, h2, h3, h4, h5, h6⟩
/-- of a call: the class's heap and the reference's, the same end -/
theorem JJ_q {K : Nat → Nat} {A A' : Nat → Nat → Int32} {Z Z' : Nat → Int32} {B B' : Nat → Nat → Int64} {Q : Nat → Int64} {P : Nat → Option Nat} {F : Nat → Nat → Option Nat} {q : Nat} {D : List xC} {c c' : Nat × Nat} {tt lk lh : Nat → Nat} {R i : Nat} (H : Inv K A Z B Q P F q D c tt lk lh R i) (hA : Only SA A A') (hz : Zro A') (hZ : Only SZ Z Z') (hB : Only [76] B B') (h1 : c.1 ≤ c'.1) (h2 : c'.1 ≤ c.1 + 40) (h3 : c'.2 ≤ c.2 + 3000) : JJ (HH A' Z' B' Q P F q D c') (i + 1) := by
  have := Inv_q (E := []) H hA hz hZ hB (by simpa using h1) h2 h3
  rw [List.append_nil] at this
  exact ⟨K, A', Z', B', Q, P, F, q, D, c', tt, lk, lh, R, rfl, this⟩
