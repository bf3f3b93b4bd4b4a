/-! ===== carried: the plan that stands; places ===== -/
/-- the plan that the carrier holds -/
def PF (A : Nat → Nat → Int32) (Z : Nat → Int32) (tt : Nat → Nat) (n f t : Nat) : Prop := (Z 11 = nI n ∧ Z 12 = nI f ∧ Z 13 = nI t ∧ Z 14 = nI (tt 1) ∧ Z 15 = nI (sec tt n) ∧ Z 16 = nI (csl tt n t (t - f))) ∧ (∀ k, k < 256 → A 50 k = nI (way tt (k / 16) (k % 16))) ∧ ∀ h a b, f ≤ h → h ≤ t → a < tt 1 → b < sec tt n → A 51 ((h * 16 + a) * 16 + b) = nI (csm tt n t (t - h) a b)
theorem csl_le {tt : Nat → Nat} {n last k : Nat} : csl tt n last k ≤ FAR := minf_top _
/-- what plan answers -/
def pln (tt : Nat → Nat) (n f t : Nat) : Int32 := if csl tt n t (t - f) < FAR then nI (csl tt n t (t - f)) else nM
section CPla2
variable {A : Nat → Nat → Int32} {Z : Nat → Int32} {B : Nat → Nat → Int64} {Q : Nat → Int64} {P : Nat → Option Nat} {F : Nat → Nat → Option Nat} {q : Nat} {D : List xC} {c : Nat × Nat} {K : Nat → Nat} {tt tp lk lh : Nat → Nat} {R i : Nat}
/-- one house at one place -/
theorem car_one (H : Hs K D q tt) (H2 : Hs K D q tp) (hW : HWf tt) (hW2 : HWf tp) : tt 1 = tp 1 ∧ (∀ a b, a < 16 → b < 16 → way tt a b = way tp a b) ∧ ∀ n last k a b, a < 16 → b < 16 → csm tt n last k a b = csm tp n last k a b := by
  have hb := hW.b
  have hb2 := hW2.b
  have hro := hW.ro
  have hwa := hW.wa
  have hF : FAR = 1000000 := rfl
  have inj : ∀ {a b : Nat}, a < 100000 → b < 100000 → some (nI a) = some (nI b) → a = b := fun ha hb e => by
    have := Option.some.inj e
    rw [y_eq (by omega) (by omega)] at this
    exact this
  have e1 : tt 1 = tp 1 := inj (hb 1) (hb2 1) ((hs_1 (A := fun _ _ => 0) (Z := fun _ => 0) (B := fun _ _ => 0) (Q := fun _ => 0) (P := fun _ => none) (F := fun _ _ => none) (c := (0, 0)) (q' := q) H).symm.trans (hs_1 H2))
  have e4 : tt 4 = tp 4 := inj (hb 4) (hb2 4) ((hs_5 (A := fun _ _ => 0) (Z := fun _ => 0) (B := fun _ _ => 0) (Q := fun _ => 0) (P := fun _ => none) (F := fun _ _ => none) (c := (0, 0)) (q' := q) H).symm.trans (hs_5 H2))
  have el : ∀ r, r < 16 → ltt tt r = ltt tp r := fun r hr => inj (by have := ltt_lt16 hW r; omega) (by have := ltt_lt16 hW2 r; omega) ((hs_li (A := fun _ _ => 0) (Z := fun _ => 0) (B := fun _ _ => 0) (Q := fun _ => 0) (P := fun _ => none) (F := fun _ _ => none) (c := (0, 0)) (q' := q) H hr).symm.trans (hs_li H2 hr))
  have w0 : ∀ i, i < 24 → tt (256 + 5 * i) = tp (256 + 5 * i) := fun r hr => inj (hb _) (hb2 _) ((hs_w0 (A := fun _ _ => 0) (Z := fun _ => 0) (B := fun _ _ => 0) (Q := fun _ => 0) (P := fun _ => none) (F := fun _ _ => none) (c := (0, 0)) (q' := q) H hr).symm.trans (hs_w0 H2 hr))
  have w1 : ∀ i, i < 24 → tt (256 + 5 * i + 1) = tp (256 + 5 * i + 1) := fun r hr => inj (hb _) (hb2 _) ((hs_w1 (A := fun _ _ => 0) (Z := fun _ => 0) (B := fun _ _ => 0) (Q := fun _ => 0) (P := fun _ => none) (F := fun _ _ => none) (c := (0, 0)) (q' := q) H hr).symm.trans (hs_w1 H2 hr))
  have w3 : ∀ i, i < 24 → tt (256 + 5 * i + 3) = tp (256 + 5 * i + 3) := fun r hr => inj (hb _) (hb2 _) ((hs_w3 (A := fun _ _ => 0) (Z := fun _ => 0) (B := fun _ _ => 0) (Q := fun _ => 0) (P := fun _ => none) (F := fun _ _ => none) (c := (0, 0)) (q' := q) H hr).symm.trans (hs_w3 H2 hr))
  have w4 : ∀ i, i < 24 → tt (256 + 5 * i + 4) = tp (256 + 5 * i + 4) := fun r hr => inj (hb _) (hb2 _) ((hs_w4 (A := fun _ _ => 0) (Z := fun _ => 0) (B := fun _ _ => 0) (Q := fun _ => 0) (P := fun _ => none) (F := fun _ _ => none) (c := (0, 0)) (q' := q) H hr).symm.trans (hs_w4 H2 hr))
  have en : ∀ h, need tt h = need tp h := fun h => by
    unfold need
    rw [← e4]
    refine orf_cong (fun w hw => ?_)
    rw [w0 w (by omega), w1 w (by omega), w3 w (by omega), w4 w (by omega)]
  have ew : ∀ a b, a < 16 → b < 16 → way tt a b = way tp a b := fun a b ha hb => by
    have h1 := (hs_wa (A := fun _ _ => 0) (Z := fun _ => 0) (B := fun _ _ => 0) (Q := fun _ => 0) (P := fun _ => none) (F := fun _ _ => none) (c := (0, 0)) (q' := q) H (i := a * 16 + b) (by omega)).symm.trans (hs_wa H2 (by omega))
    have h2 := Option.some.inj h1
    have l1 := way_le (tt := tt) (a := a) (b := b)
    have l2 := way_le (tt := tp) (a := a) (b := b)
    rw [wv_way hb, wv_way hb] at h2
    by_cases x1 : way tt a b < 1000000
    · by_cases x2 : way tp a b < 1000000
      · rw [if_pos x1, if_pos x2, y_eq (by omega) (by omega)] at h2
        exact h2
      · rw [if_pos x1, if_neg x2, y_eqM (by omega)] at h2
        exact absurd h2 (fun h => h)
    · by_cases x2 : way tp a b < 1000000
      · rw [if_neg x1, if_pos x2, y_Meq (by omega)] at h2
        exact absurd h2 (fun h => h)
      · omega
  have es : ∀ n, sec tt n = sec tp n := fun n => by unfold sec; rw [e1]
  refine ⟨e1, ew, fun n last k => ?_⟩
  induction k with
  | zero =>
    intro a b ha hb
    rw [csm, csm, en]
    unfold lgt
    rw [el a ha, el b hb]
  | succ k ih =>
    intro a b ha hb
    rw [csm, csm, en]
    unfold lgt
    rw [el a ha, el b hb]
    have hm : minf (fun s => if s / 16 < tt 1 ∧ s % 16 < sec tt n then way tt a (s / 16) + (if n = 2 then way tt b (s % 16) else 0) + csm tt n last k (s / 16) (s % 16) else FAR) FAR 256 = minf (fun s => if s / 16 < tp 1 ∧ s % 16 < sec tp n then way tp a (s / 16) + (if n = 2 then way tp b (s % 16) else 0) + csm tp n last k (s / 16) (s % 16) else FAR) FAR 256 := minf_cong (fun s hs => by
      rw [e1, es, ew a (s / 16) ha (by omega), ew b (s % 16) hb (by omega), ih (s / 16) (s % 16) (by omega) (by omega)])
    rw [hm]
theorem c_fillHours (H : Hs K D q tt) (hW : HWf tt) {n f t : Nat} (hn : n = 1 ∨ n = 2) (hf : f ≤ t) (ht : t < 24) (h11 : Z 11 = nI n) (h12 : Z 12 = nI f) (h13 : Z 13 = nI t) : ∃ A' Z', f_X1_fillHours (HH A Z B Q P F q D c) 49 q = some (HH A' Z' B Q P F q D c) ∧ Only [50, 51, 52] A A' ∧ Only [14, 15, 16] Z Z' ∧ PF A' Z' tt n f t := by
  have hro := hW.ro
  have hb := hW.b 1
  have es : f_X1_fillHours (HH A Z B Q P F q D c) 49 q = f_X1_fillHours_37 xFU (HH A (upA (upA Z 14 (nI (tt 1))) 15 (nI (sec tt n))) B Q P F q D c) 49 q (nI 0) := by
    unfold f_X1_fillHours f_X1_fillHours_32
    rw [hs_1 H, Option.bind_some, pf_49_4, Option.bind_some, gf_49_1, Option.bind_some, y_un (by decide), h11]
    rcases hn with e | e
    · subst e
      rw [if_neg (by decide), gf_49_4, Option.bind_some, y_us, pf_49_5, Option.bind_some]
      have e2 : (if (1 : Int32) < nI (tt 1) then (1 : Int32) else nI (tt 1)) = nI (sec tt 1) := by
        have es1 : sec tt 1 = min (tt 1) 1 := if_neg (by decide)
        rw [es1]
        by_cases h : 1 < tt 1
        · rw [if_pos (by rw [show (1 : Int32) = nI 1 from rfl, y_lt (by omega) (by omega)]; exact h), Nat.min_eq_right (by omega)]
          rfl
        · rw [if_neg (by rw [show (1 : Int32) = nI 1 from rfl, y_lt (by omega) (by omega)]; exact h), Nat.min_eq_left (by omega)]
      rw [e2]
      rfl
    · subst e
      rw [if_pos (by decide), gf_49_4, Option.bind_some, y_us, pf_49_5, Option.bind_some]
      rfl
  generalize hZ1 : upA (upA Z 14 (nI (tt 1))) 15 (nI (sec tt n)) = Z1 at es
  have oZ1 : Only [14, 15, 16] Z Z1 := by rw [← hZ1]; exact (Only.rf.up (by decide)).up (by decide)
  have z13 : Z1 13 = nI t := by rw [oZ1 13 (by decide)]; exact h13
  obtain ⟨w, e1, hw⟩ := c_fw37 (A := A) (Z := Z1) (B := B) (Q := Q) (P := P) (F := F) (c := c) H (q' := q)
  have hC : CR (upA A 50 w) Z1 tt n t := ⟨by rw [oZ1 11 (by decide)]; exact h11, z13, by rw [← hZ1, y_un (by decide), y_us], by rw [← hZ1, y_us], hw⟩
  obtain ⟨f1, g1, e2, h2⟩ := c_fh86 (A := upA A 50 w) (Z := Z1) (B := B) (Q := Q) (P := P) (F := F) (c := c) H hW (q' := q) hn hC hf ht (by rw [oZ1 12 (by decide)]; exact h12)
  rw [z13] at e1
  refine ⟨upA (upA (upA A 50 w) 52 g1) 51 f1, upA Z1 16 (nI (csl tt n t (t - f))), ?_, ((Only.rf.up (by decide)).up (by decide)).up (by decide), oZ1.up (by decide), ⟨?_, ?_, ?_, ?_, ?_, ?_⟩, fun k hk => ?_, fun h a b hh1 hh2 ha hb2 => ?_⟩
  · exact es.trans (e1.trans e2)
  · rw [y_un (by decide)]; exact hC.1
  · rw [y_un (by decide), oZ1 12 (by decide)]; exact h12
  · rw [y_un (by decide)]; exact z13
  · rw [y_un (by decide)]; exact hC.2.2.1
  · rw [y_un (by decide)]; exact hC.2.2.2.1
  · rw [y_us]
  · rw [y_un (by decide), y_un (by decide), y_us]
    have := hw (k / 16) (k % 16) (by omega) (by omega)
    rw [show k / 16 * 16 + k % 16 = k by omega] at this
    exact this
  · have hse := sec_le (tt := tt) (n := n)
    have h3 := h2 (t - h) (by omega) a b ha hb2
    rw [show t - (t - h) = h by omega] at h3
    rw [y_us, h3]
    unfold cs
    obtain ⟨q1, q2⟩ := dm16 (a := a) (b := b) (by omega)
    rw [q1, q2]
theorem c_plan59 {n f t : Nat} (h : Z 16 = nI (csl tt n t (t - f))) : f_X1_plan_59 (HH A Z B Q P F q D c) 49 = some (pln tt n f t, HH A Z B Q P F q D c) := by
  have hle := csl_le (tt := tt) (n := n) (last := t) (k := t - f)
  have hF : FAR = 1000000 := rfl
  unfold f_X1_plan_59 pln
  rw [gf_49_6, Option.bind_some, h]
  by_cases e : csl tt n t (t - f) < FAR
  · rw [if_neg (by rw [show (1000000 : Int32) = nI 1000000 from rfl, y_le (by omega) (by omega)]; omega), Option.bind_some, if_pos e]
  · rw [if_pos (by rw [show (1000000 : Int32) = nI 1000000 from rfl, y_le (by omega) (by omega)]; omega), if_neg e]
    rfl
theorem c_plan33 (H : Hs K D q tt) (hW : HWf tt) {n f t : Nat} (hn : n = 1 ∨ n = 2) (hf : f ≤ t) (ht : t < 24) : ∃ A' Z', f_X1_plan_33 (HH A Z B Q P F q D c) 49 q (nI n) (nI f) (nI t) = some (pln tt n f t, HH A' Z' B Q (upA P 1 (some q)) F q D c) ∧ Only [50, 51, 52] A A' ∧ Only [11, 12, 13, 14, 15, 16] Z Z' ∧ PF A' Z' tt n f t := by
  obtain ⟨A', Z', e1, o1, o2, h1⟩ := c_fillHours (A := A) (Z := upA (upA (upA Z 11 (nI n)) 12 (nI f)) 13 (nI t)) (B := B) (Q := Q) (P := upA P 1 (some q)) (F := F) (c := c) H hW hn hf ht rfl rfl rfl
  have oz : Only [11, 12, 13, 14, 15, 16] Z (upA (upA (upA Z 11 (nI n)) 12 (nI f)) 13 (nI t)) := ((Only.rf.up (by decide)).up (by decide)).up (by decide)
  refine ⟨A', Z', ?_, o1, oz.tr o2 (fun _ h => h) (by decide), h1⟩
  unfold f_X1_plan_33
  rw [pf_49_0, Option.bind_some, pf_49_1, Option.bind_some, pf_49_2, Option.bind_some, pf_49_3, Option.bind_some, gO_49, Option.bind_some, e1, Option.bind_some]
  exact c_plan59 h1.1.2.2.2.2.2
theorem c_plan (H : Hs K D q tt) (hW : HWf tt) {n f t : Nat} (hn : n = 1 ∨ n = 2) (hf : f ≤ t) (ht : t < 24) (hP : PlanOK K A Z P D) : ∃ A' Z', f_X1_plan (HH A Z B Q P F q D c) 49 q (nI n) (nI f) (nI t) = some (pln tt n f t, HH A' Z' B Q (upA P 1 (some q)) F q D c) ∧ Only [50, 51, 52] A A' ∧ Only [11, 12, 13, 14, 15, 16] Z Z' ∧ PF A' Z' tt n f t := by
  have h33 := c_plan33 (A := A) (Z := Z) (B := B) (Q := Q) (P := P) (F := F) (c := c) H hW hn hf ht
  unfold f_X1_plan
  rw [gf_49_0, Option.bind_some]
  rcases hP with hp | ⟨qp, tp, n2, f2, t2, hp, H2, hW2, ⟨x1, x2, x3, x4⟩, ⟨z1, z2, z3, z4, z5, z6⟩, y1, y2⟩
  · rw [hp]
    exact h33
  · rw [hp]
    dsimp only
    have el : lt2 (HH A Z B Q P F q D c) qp q = some () := if_pos ⟨by rw [hh_len]; exact HC_lt H2.2.1, by rw [hh_len]; exact HC_lt H.2.1⟩
    rw [el, Option.bind_some]
    by_cases e : qp = q
    · subst e
      rw [if_pos rfl, gf_49_1, Option.bind_some, z1]
      by_cases e1 : n2 = n
      · subst e1
        rw [if_pos rfl, gf_49_2, Option.bind_some, z2]
        by_cases e2 : f2 = f
        · subst e2
          rw [if_pos rfl, gf_49_3, Option.bind_some, z3]
          by_cases e3 : t2 = t
          · subst e3
            rw [if_pos rfl]
            obtain ⟨o1, o2, o3⟩ := car_one H H2 hW hW2
            have hro := hW.ro
            have es : sec tt n2 = sec tp n2 := by unfold sec; rw [o1]
            have ec : csl tt n2 t2 (t2 - f2) = csl tp n2 t2 (t2 - f2) := by
              unfold csl
              refine minf_cong (fun s hs => ?_)
              rw [o1, es, o3 _ _ _ _ _ (show s / 16 < 16 by omega) (show s % 16 < 16 by omega)]
            have hse := sec_le (tt := tt) (n := n2)
            refine ⟨A, Z, ?_, Only.rf, Only.rf, ⟨z1, z2, z3, by rw [o1]; exact z4, by rw [es]; exact z5, by rw [ec]; exact z6⟩, fun k hk => ?_, fun h a b h1 h2 ha hb => ?_⟩
            · rw [c_plan59 (tt := tt) (by rw [ec]; exact z6), ← hp, y_ua]
            · rw [y1 k hk, o2 _ _ (by omega) (by omega)]
            · rw [y2 h a b h1 h2 (by omega) (by omega), o3 _ _ _ _ _ (by omega) (by omega)]
          · rw [if_neg (by rw [y_eq (by omega) (by omega)]; exact e3)]
            exact h33
        · rw [if_neg (by rw [y_eq (by omega) (by omega)]; exact e2)]
          exact h33
      · rw [if_neg (by rw [y_eq (by omega) (by omega)]; exact e1)]
        exact h33
    · rw [if_neg e]
      exact h33
/-- what comes before a place is told: none, or a place -/
def bfv (b : Nat) : Int32 := if b < 256 then nI b else nM
theorem c_first15 (hW : HWf tt) {n f t h v b a : Nat} (hn : n = 1 ∨ n = 2) (hP : PF A Z tt n f t) (h1 : f ≤ h) (h2 : h ≤ t) (ht : t < 24) (hv : v ≤ 1000000) (hb : b < 256 → plc tt n b) (ha : a < tt 1) (hpre : ∀ s, plc tt n s → s / 16 < a → (if b < 256 then wlk tt n b s else 0) + cs tt n t (t - h) s ≠ v) (k3 : Nat → Int32 → Int32 → Int32 → Int32 → Option Int32) : (∃ s, s < 256 ∧ plc tt n s ∧ s = fpl tt n t (t - h) v b ∧ f_X1_firstPlaces_15 (HH A Z B Q P F q D c) k3 xFU 49 (nI h) (bfv b) (nI v) (nI a) (nI 0) = some (nI s)) ∨ (f_X1_firstPlaces_15 (HH A Z B Q P F q D c) k3 xFU 49 (nI h) (bfv b) (nI v) (nI a) (nI 0) = k3 49 (nI h) (bfv b) (nI v) (nI (a + 1)) ∧ ∀ s, plc tt n s → s / 16 < a + 1 → (if b < 256 then wlk tt n b s else 0) + cs tt n t (t - h) s ≠ v) := by
  have hro := hW.ro
  have hse := sec_le (tt := tt) (n := n)
  have hF : FAR = 1000000 := rfl
  obtain ⟨⟨z1, z2, z3, z4, z5, z6⟩, y1, y2⟩ := hP
  have key := loop_I (F := fun m j (s : Unit) => f_X1_firstPlaces_15 (HH A Z B Q P F q D c) k3 m 49 (nI h) (bfv b) (nI v) (nI a) (nI j)) (N := sec tt n) (ρ := Option Int32) id (fun j _ => ∀ s, plc tt n s → (s / 16 < a ∨ (s / 16 = a ∧ s % 16 < j)) → (if b < 256 then wlk tt n b s else 0) + cs tt n t (t - h) s ≠ v) (fun o => (∃ s, s < 256 ∧ plc tt n s ∧ s = fpl tt n t (t - h) v b ∧ o = some (nI s)) ∨ (o = k3 49 (nI h) (bfv b) (nI v) (nI (a + 1)) ∧ ∀ s, plc tt n s → s / 16 < a + 1 → (if b < 256 then wlk tt n b s else 0) + cs tt n t (t - h) s ≠ v)) (fun m j s hj hs => ?_) (fun m s hs => ?_) (by omega) (s := ()) (fun s hp hs => hpre s hp (by omega))
  · obtain ⟨o, e1, h3⟩ := key
    rcases h3 with ⟨s, x1, x2, x3, rfl⟩ | ⟨rfl, x1⟩
    · exact Or.inl ⟨s, x1, x2, x3, e1⟩
    · exact Or.inr ⟨e1, x1⟩
  · obtain ⟨q1, q2⟩ := dm16 (a := a) (b := j) (by omega)
    have hpl : plc tt n (16 * a + j) := ⟨by rw [q1]; exact ha, by rw [q2]; exact hj⟩
    have e5 := y2 h a j h1 h2 ha hj
    have ecs : csm tt n t (t - h) a j = cs tt n t (t - h) (16 * a + j) := by unfold cs; rw [q1, q2]
    rw [ecs] at e5
    have lc := cs_le (tt := tt) (n := n) (last := t) (k := t - h) (s := 16 * a + j)
    have e65 : ∀ w : Nat, w ≤ 2000000 → f_X1_firstPlaces_65 (HH A Z B Q P F q D c) k3 (f_X1_firstPlaces_15 (HH A Z B Q P F q D c) k3 m) 49 (nI h) (bfv b) (nI v) (nI a) (nI j) (nI w) = if w + cs tt n t (t - h) (16 * a + j) = v then some (nI (16 * a + j)) else f_X1_firstPlaces_15 (HH A Z B Q P F q D c) k3 m 49 (nI h) (bfv b) (nI v) (nI a) (nI (j + 1)) := fun w hw => by
      unfold f_X1_firstPlaces_65 f_X1_at
      rw [gf_49_8, Option.bind_some, Option.bind_some, show (16 : Int32) = nI 16 from rfl, pk_mul, nI_add, pk_mul, nI_add, ld_51 (by omega), Option.bind_some, e5, nI_add, pk_mul, nI_add, nI_1, show a * 16 + j = 16 * a + j by omega]
      by_cases x : w + cs tt n t (t - h) (16 * a + j) = v
      · rw [if_pos (by rw [x]), if_pos x]
      · rw [if_neg (by rw [y_eq (by omega) (by omega)]; exact x), if_neg x]
    have es : f_X1_firstPlaces_15 (HH A Z B Q P F q D c) k3 (m + 1) 49 (nI h) (bfv b) (nI v) (nI a) (nI j) = if (if b < 256 then wlk tt n b (16 * a + j) else 0) + cs tt n t (t - h) (16 * a + j) = v then some (nI (16 * a + j)) else f_X1_firstPlaces_15 (HH A Z B Q P F q D c) k3 m 49 (nI h) (bfv b) (nI v) (nI a) (nI (j + 1)) := by
      by_cases hb2 : b < 256
      · have hpb := hb hb2
        have w1 := way_le (tt := tt) (a := b / 16) (b := a)
        have w2 := way_le (tt := tt) (a := b % 16) (b := j)
        have u1 := y1 (b / 16 * 16 + a) (by omega)
        have u2 := y1 (b % 16 * 16 + j) (by omega)
        rw [show (b / 16 * 16 + a) / 16 = b / 16 by omega, show (b / 16 * 16 + a) % 16 = a by omega] at u1
        rw [show (b % 16 * 16 + j) / 16 = b % 16 by omega, show (b % 16 * 16 + j) % 16 = j by omega] at u2
        have ewl : wlk tt n b (16 * a + j) = way tt (b / 16) a + way tt (b % 16) j := by
          unfold wlk
          rw [q1, q2]
          rcases hn with e | e
          · rw [if_neg (by omega)]
            have h1 : sec tt n ≤ 1 := by
              unfold sec
              rw [if_neg (by omega)]
              omega
            have x1 := hpb.2
            have e1 : b % 16 = 0 := by omega
            have e2 : j = 0 := by omega
            rw [e1, e2, way_self hW (by omega)]
          · rw [if_pos e]
        rw [if_pos hb2, ewl, f_X1_firstPlaces_15, gf_49_5, Option.bind_some, z5, if_neg (by rw [y_le (by omega) (by omega)]; omega)]
        have eb : bfv b = nI b := if_pos hb2
        rw [if_neg (by rw [eb]; show ¬ nI b = nM; rw [y_eqM (by omega)]; exact fun h => h), gf_49_7, Option.bind_some, show (16 : Int32) = nI 16 from rfl]
        conv => lhs; rw [show dvI (bfv b) (nI 16) = some (nI (b / 16)) by rw [eb, y_dv (by omega) (by omega) (by omega)]]
        rw [Option.bind_some, pk_mul, nI_add, ld_50 (by omega), Option.bind_some, Option.bind_some, show rmI (bfv b) (nI 16) = some (nI (b % 16)) by rw [eb, y_rm (by omega) (by omega) (by omega)], Option.bind_some, pk_mul, nI_add, ld_50 (by omega), Option.bind_some, u1, u2, nI_add]
        exact e65 _ (by omega)
      · have eb : bfv b = nM := if_neg hb2
        rw [if_neg hb2, f_X1_firstPlaces_15, gf_49_5, Option.bind_some, z5, if_neg (by rw [y_le (by omega) (by omega)]; omega), if_pos (by rw [eb]; rfl)]
        exact e65 0 (by omega)
    by_cases x : (if b < 256 then wlk tt n b (16 * a + j) else 0) + cs tt n t (t - h) (16 * a + j) = v
    · right
      refine ⟨some (nI (16 * a + j)), ?_, Or.inl ⟨16 * a + j, by omega, hpl, ?_, rfl⟩⟩
      · show f_X1_firstPlaces_15 (HH A Z B Q P F q D c) k3 (m + 1) _ _ _ _ _ _ = _
        rw [es, if_pos x]
        rfl
      · refine (first_eq (p := fun s => plB tt n s && decide ((if b < 256 then wlk tt n b s else 0) + cs tt n t (t - h) s = v)) (by omega) ?_ (fun u hu => ?_)).symm
        · have e1 : plB tt n (16 * a + j) = true := decide_eq_true hpl
          rw [e1, decide_eq_true x]
          rfl
        · by_cases hp : u / 16 < tt 1 ∧ u % 16 < sec tt n
          · have := hs u hp (by omega)
            rw [decide_eq_false this, Bool.and_false]
          · have e1 : plB tt n u = false := decide_eq_false hp
            rw [e1]
            rfl
    · left
      refine ⟨(), ?_, fun u hp hu => ?_⟩
      · show f_X1_firstPlaces_15 (HH A Z B Q P F q D c) k3 (m + 1) _ _ _ _ _ _ = _
        rw [es, if_neg x]
      · by_cases e : u = 16 * a + j
        · subst e; exact x
        · exact hs u hp (by omega)
  · refine ⟨_, ?_, Or.inr ⟨rfl, fun s hp hs2 => hs s hp (by have := hp.2; omega)⟩⟩
    show f_X1_firstPlaces_15 (HH A Z B Q P F q D c) k3 (m + 1) _ _ _ _ _ _ = _
    rw [f_X1_firstPlaces_15, gf_49_5, Option.bind_some, z5, if_pos (by rw [y_le (by omega) (by omega)]; exact Nat.le_refl _), nI_1]
    rfl
theorem c_firstPlaces (hW : HWf tt) {n f t h v b : Nat} (hn : n = 1 ∨ n = 2) (hP : PF A Z tt n f t) (h1 : f ≤ h) (h2 : h ≤ t) (ht : t < 24) (hv : v ≤ 1000000) (hb : b < 256 → plc tt n b) (hx : fpl tt n t (t - h) v b < 256 ∧ plc tt n (fpl tt n t (t - h) v b) ∧ (if b < 256 then wlk tt n b (fpl tt n t (t - h) v b) else 0) + cs tt n t (t - h) (fpl tt n t (t - h) v b) = v) : f_X1_firstPlaces (HH A Z B Q P F q D c) 49 (nI h) (bfv b) (nI v) = some (nI (fpl tt n t (t - h) v b)) := by
  have hro := hW.ro
  unfold f_X1_firstPlaces
  have key := loop_I (F := fun m j (s : Unit) => f_X1_firstPlaces_3 (HH A Z B Q P F q D c) m 49 (nI h) (bfv b) (nI v) (nI j)) (N := tt 1) (ρ := Option Int32) id (fun j _ => ∀ s, plc tt n s → s / 16 < j → (if b < 256 then wlk tt n b s else 0) + cs tt n t (t - h) s ≠ v) (fun o => o = some (nI (fpl tt n t (t - h) v b))) (fun m a s ha hs => ?_) (fun m s hs => ?_) (by omega) (s := ()) (fun s _ hs => by omega)
  · obtain ⟨o, e1, rfl⟩ := key
    exact e1
  · have e0 : f_X1_firstPlaces_3 (HH A Z B Q P F q D c) (m + 1) 49 (nI h) (bfv b) (nI v) (nI a) = f_X1_firstPlaces_15 (HH A Z B Q P F q D c) (f_X1_firstPlaces_3 (HH A Z B Q P F q D c) m) xFU 49 (nI h) (bfv b) (nI v) (nI a) (nI 0) := by
      rw [f_X1_firstPlaces_3, gf_49_4, Option.bind_some, hP.1.2.2.2.1, if_neg (by rw [y_le (by omega) (by omega)]; omega)]
      rfl
    rcases c_first15 (A := A) (Z := Z) (B := B) (Q := Q) (P := P) (F := F) (q := q) (D := D) (c := c) hW hn hP h1 h2 ht hv hb ha hs (f_X1_firstPlaces_3 (HH A Z B Q P F q D c) m) with ⟨s2, x1, x2, x3, x4⟩ | ⟨x1, x2⟩
    · right
      refine ⟨some (nI s2), e0.trans x4, by rw [x3]⟩
    · left
      exact ⟨(), e0.trans x1, x2⟩
  · exact absurd hx.2.2 (hs _ hx.2.1 hx.2.1.1)
theorem c_placeOf (hW : HWf tt) {n f t l j : Nat} (hn : n = 1 ∨ n = 2) (hP : PF A Z tt n f t) (hf : f ≤ t) (ht : t < 24) (hv : csl tt n t (t - f) < FAR) (hj : f + j ≤ t) (hl : l < 2) : f_X1_placeOf (HH A Z B Q P F q D c) 49 (nI l) (nI (f + j)) = some (nI (if l = 0 then pls tt n t (t - f) j / 16 else pls tt n t (t - f) j % 16)) := by
  have hro := hW.ro
  have hF : FAR = 1000000 := rfl
  have hok := pls_ok hv
  obtain ⟨⟨z1, z2, z3, z4, z5, z6⟩, y1, y2⟩ := hP
  have hP : PF A Z tt n f t := ⟨⟨z1, z2, z3, z4, z5, z6⟩, y1, y2⟩
  have h63 : ∀ p, p < 256 → f_X1_placeOf_63 (HH A Z B Q P F q D c) (nI l) (nI p) = some (nI (if l = 0 then p / 16 else p % 16)) := fun p hp => by
    unfold f_X1_placeOf_63
    by_cases e : l = 0
    · subst e
      rw [if_pos (by decide), show (16 : Int32) = nI 16 from rfl, y_dv (by omega) (by omega) (by omega), Option.bind_some, if_pos rfl]
    · rw [if_neg (by rw [← nI_0, y_eq (by omega) (by omega)]; exact e), show (16 : Int32) = nI 16 from rfl, y_rm (by omega) (by omega) (by omega), Option.bind_some, if_neg e]
  have e0 := c_firstPlaces (A := A) (Z := Z) (B := B) (Q := Q) (P := P) (F := F) (q := q) (D := D) (c := c) hW (h := f) (v := csl tt n t (t - f)) (b := 256) hn hP (Nat.le_refl _) hf ht (by omega) (fun h => by omega) (by
    obtain ⟨a1, a2, a3⟩ := csl_min (tt := tt) (n := n) (last := t) (k := t - f)
    rcases a3 with e | ⟨s, hs, e⟩
    · omega
    · exact fpl_ok ⟨s, hs.1, hs.2, by rw [if_neg (Nat.lt_irrefl _), Nat.zero_add]; exact e.symm⟩)
  unfold f_X1_placeOf
  rw [gf_49_2, Option.bind_some, gf_49_6, Option.bind_some, gO_49, Option.bind_some, z2, z6, show (-1 : Int32) = bfv 256 from rfl, e0, Option.bind_some, Option.bind_some, nI_1]
  have key := loop_J (F := fun m i (s : Unit) => f_X1_placeOf_22 (HH A Z B Q P F q D c) m 49 (nI l) (nI (f + j)) (nI (pls tt n t (t - f) i)) (nI (f + 1 + i))) (N := j) (fun _ => some (nI (if l = 0 then pls tt n t (t - f) j / 16 else pls tt n t (t - f) j % 16))) (fun _ _ => True) (fun m i s hi _ => ?_) (fun m s _ => ?_) (by omega) (s := ()) trivial
  · obtain ⟨_, e1, _⟩ := key
    exact e1
  · obtain ⟨p1, p2, p3⟩ := hok i (by omega)
    obtain ⟨r1, r2, r3⟩ := hok (i + 1) (by omega)
    refine ⟨(), ?_, trivial⟩
    have u1 := y2 (f + i) (pls tt n t (t - f) i / 16) (pls tt n t (t - f) i % 16) (by omega) (by omega) p2.1 p2.2
    have ec : csm tt n t (t - (f + i)) (pls tt n t (t - f) i / 16) (pls tt n t (t - f) i % 16) = cs tt n t (t - f - i) (pls tt n t (t - f) i) := by
      rw [show t - (f + i) = t - f - i by omega]
      rfl
    rw [ec] at u1
    have e4 := c_firstPlaces (A := A) (Z := Z) (B := B) (Q := Q) (P := P) (F := F) (q := q) (D := D) (c := c) hW (h := f + 1 + i) (v := cs tt n t (t - f - i) (pls tt n t (t - f) i)) (b := pls tt n t (t - f) i) hn hP (by omega) (by omega) ht (by omega) (fun _ => p2) (by
      have e5 : t - (f + 1 + i) = t - f - (i + 1) := by omega
      rw [e5]
      have e6 : t - f - i = (t - f - (i + 1)) + 1 := by omega
      refine fpl_ok ?_
      rw [e6] at p3 ⊢
      generalize t - f - (i + 1) = k at *
      rw [cs_s] at p3 ⊢
      by_cases hlit : sdf (need tt (t - (k + 1))) (lgt tt n (pls tt n t (t - f) i / 16) (pls tt n t (t - f) i % 16)) = 0
      · rw [if_pos hlit] at p3 ⊢
        rcases minf_get (f := fun u => if u / 16 < tt 1 ∧ u % 16 < sec tt n then wlk tt n (pls tt n t (t - f) i) u + cs tt n t k u else FAR) (top := FAR) 256 with h | ⟨u, hu, h⟩
        · rw [h] at p3; exact absurd p3 (Nat.lt_irrefl _)
        · rw [h] at p3 ⊢
          by_cases hp : u / 16 < tt 1 ∧ u % 16 < sec tt n
          · rw [if_pos hp] at p3 ⊢
            exact ⟨u, hu, hp, by rw [if_pos p1]⟩
          · rw [if_neg hp] at p3; exact absurd p3 (Nat.lt_irrefl _)
      · rw [if_neg hlit] at p3; exact absurd p3 (Nat.lt_irrefl _))
    have e7 : fpl tt n t (t - (f + 1 + i)) (cs tt n t (t - f - i) (pls tt n t (t - f) i)) (pls tt n t (t - f) i) = pls tt n t (t - f) (i + 1) := by
      rw [pls, show t - (f + 1 + i) = t - f - (i + 1) by omega]
    rw [e7] at e4
    show f_X1_placeOf_22 (HH A Z B Q P F q D c) (m + 1) _ _ _ _ _ = f_X1_placeOf_22 (HH A Z B Q P F q D c) m _ _ _ _ _
    have eb : bfv (pls tt n t (t - f) i) = nI (pls tt n t (t - f) i) := if_pos p1
    rw [eb] at e4
    generalize pls tt n t (t - f) i = p at *
    rw [f_X1_placeOf_22, if_neg (by rw [y_lt (by omega) (by omega)]; omega), if_neg (by show ¬ nI p = nM; rw [y_eqM (by omega)]; exact fun h => h), gf_49_8, Option.bind_some]
    unfold f_X1_at
    rw [Option.bind_some, show (1 : Int32) = nI 1 from rfl, show (16 : Int32) = nI 16 from rfl, show (0 : Int32) = nI 0 from rfl, y_sub (by omega), pk_mul, nI_add, pk_mul, nI_add, nI_add, show ((f + 1 + i - 1) * 16 + 0) * 16 + 0 + p = ((f + i) * 16 + p / 16) * 16 + p % 16 by omega, ld_51 (by omega), Option.bind_some, gO_49, Option.bind_some, u1, e4, Option.bind_some, nI_add]
    rfl
  · show f_X1_placeOf_22 (HH A Z B Q P F q D c) (m + 1) _ _ _ _ _ = _
    rw [f_X1_placeOf_22, if_pos (by rw [y_lt (by omega) (by omega)]; omega)]
    exact h63 _ (hok j (by omega)).1
theorem Inv_plan {A' : Nat → Nat → Int32} {Z' : Nat → Int32} {B' : Nat → Nat → Int64} {n f t : Nat} (H : Inv K A Z B Q P F q D c tt lk lh R i) (hA : Only (50 :: 51 :: SA) A A') (hz : Zro A') (hZ : Only (11 :: 12 :: 13 :: 14 :: 15 :: 16 :: SZ) Z Z') (hB : Only [76] B B') (hn : n = 1 ∨ n = 2) (hf : f ≤ t) (ht : t < 24) (hP : PF A' Z' tt n f t) : Inv K A' Z' B' Q (upA P 1 (some q)) F q D c tt lk lh R (i + 1) := by
  obtain ⟨⟨a1, a2, a3, a4, a5⟩, ⟨b1, b2, b3, b4⟩, ⟨p1, p2, p3⟩, ⟨z1, z2, z3, z4⟩, r1, r2, r3, r4⟩ := H
  refine ⟨⟨a1, a2, a3, ?_, ?_⟩, ⟨?_, ?_, ?_, hz⟩, ⟨Or.inr ⟨q, tt, n, f, t, rfl, a1, a2, by omega, hP⟩, ?_, p3⟩, ⟨?_, ?_, z3, z4⟩, r1, r2, by omega, by omega⟩
  · rw [hA 58 (by decide)]; exact a4
  · rw [hA 13 (by decide), hA 14 (by decide)]; exact a5
  · unfold ImgOK
    rw [hA 61 (by decide), hA 59 (by decide)]
    exact b1
  · unfold TapeOK
    rw [hA 62 (by decide), hA 1 (by decide), hZ 0 (by decide), hZ 19 (by decide)]
    exact b2
  · unfold TrayOK
    rw [hA 19 (by decide), hA 20 (by decide), hA 73 (by decide), hA 74 (by decide), hB 18 (by decide), hB 75 (by decide)]
    exact b3
  · exact Sav_D (P := upA P 1 (some q)) (fun _ _ h => h) (hA 56 (by decide)) (hA 40 (by decide)) (hZ 7 (by decide)) (hZ 8 (by decide)) (hZ 30 (by decide)) p2
  · rw [hZ 1 (by decide), hZ 27 (by decide)]; exact z1
  · rw [hZ 2 (by decide), hZ 28 (by decide)]; exact z2
end CPla2
