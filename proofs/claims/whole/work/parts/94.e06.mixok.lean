/-! ===== mixed ===== -/
theorem mdg_pr {tt : Nat → Nat} {n w r : Nat} : ∀ {j i : Nat}, i + j = n → r < i → mdg tt n w r = mdg tt i (mpr tt j w) r
  | 0, i, h, _ => by
    have e : i = n := by omega
    rw [e]
    rfl
  | j + 1, i, h, hr => by
    rw [mdg_pr (j := j) (i := i + 1) (by omega) (by omega), mdg, if_neg (by omega)]
    rfl
theorem mdg_at {tt : Nat → Nat} {n w i j : Nat} (h : i + 1 + j = n) : mdg tt n w i = mpr tt j w % mb tt := by
  rw [mdg_pr (j := j) (i := i + 1) h (by omega), mdg, if_pos rfl]
theorem mcv_s {tt : Nat → Nat} (i p : Nat) : mcv tt (i + 1) p = mcv tt i (p / mb tt) + (if p % mb tt = 0 then 0 else 100 * tt (248 + 2 * (p % mb tt - 1) + 1) + 1) := by
  unfold mcv
  rw [moi, mla]
  unfold mol
  split <;> omega
theorem mcv_le {tt : Nat → Nat} (hW : HWf tt) {i : Nat} (hi : i ≤ 8) (p : Nat) : mcv tt i p ≤ 80000 := by
  have h1 := moi_le hW i p
  have h2 := mla_le (tt := tt) i p
  unfold mcv
  omega
def ev (tt : Nat → Nat) (o : Option Nat) : Int32 := match o with
  | none => nM
  | some w => nI (mcv tt (tt 1) w)
section MixM
variable {A : Nat → Nat → Int32} {Z : Nat → Int32} {B : Nat → Nat → Int64} {Q : Nat → Int64} {P : Nat → Option Nat} {F : Nat → Nat → Option Nat} {q : Nat} {D : List xC} {c : Nat × Nat} {K : Nat → Nat} {tt lk lh : Nat → Nat} {R i : Nat}
theorem m_layMixed (hT : Told (A 58) tt lk lh) (hW : HWf tt) (h8 : tt 1 ≤ 8) {w : Nat} (hw : w < 1000000) : ∃ f g, f_X12_layMixed (HH A Z B Q P F q D c) 57 (nI w) = some (nI (mcv tt (tt 1) w), HH (upA (upA A 65 f) 64 g) Z B Q P F q D c) ∧ (∀ r, r < tt 1 → f r = kv (mdg tt (tt 1) w r)) ∧ ∀ r, r < tt 1 → g r = nI (mbr tt (mdg tt (tt 1) w r)) := by
  have hki := hW.ki
  have hmb := mb_le hW
  have hmp := mb_pos (tt := tt)
  unfold f_X12_layMixed
  rw [gO_57, Option.bind_some, m_rooms hT, Option.bind_some]
  have key := loop_I (F := fun n j (s : xH × Nat) => f_X12_layMixed_12 n s.1 57 (nI (mpr tt j w)) (nI s.2) (kv (tt 1 - j))) (N := tt 1) some (fun j s => ∃ f g, s.1 = HH (upA (upA A 65 f) 64 g) Z B Q P F q D c ∧ s.2 + mcv tt (tt 1 - j) (mpr tt j w) = mcv tt (tt 1) w ∧ (∀ r, tt 1 - j ≤ r → r < tt 1 → f r = kv (mdg tt (tt 1) w r)) ∧ ∀ r, tt 1 - j ≤ r → r < tt 1 → g r = nI (mbr tt (mdg tt (tt 1) w r))) (fun o => ∃ f g, o = (nI (mcv tt (tt 1) w), HH (upA (upA A 65 f) 64 g) Z B Q P F q D c) ∧ (∀ r, r < tt 1 → f r = kv (mdg tt (tt 1) w r)) ∧ ∀ r, r < tt 1 → g r = nI (mbr tt (mdg tt (tt 1) w r))) (fun n j s hj hs => Or.inl ?_) (fun n s hs => ?_) (by omega) (s := (HH A Z B Q P F q D c, 0)) ⟨A 65, A 64, by rw [y_ua, y_ua], by rw [Nat.zero_add]; rfl, fun r h1 h2 => by omega, fun r h1 h2 => by omega⟩
  · obtain ⟨o, e1, f, g, rfl, h1, h2⟩ := key
    exact ⟨f, g, e1, h1, h2⟩
  · obtain ⟨sh, sm⟩ := s
    obtain ⟨f, g, e0, h1, h2, h3⟩ := hs
    dsimp only at e0 h1
    subst e0
    have hT2 : Told (upA (upA A 65 f) 64 g 58) tt lk lh := hT
    have hpw : mpr tt j w ≤ w := by rw [mpr_div]; exact Nat.div_le_self _ _
    have edg := mdg_at (tt := tt) (n := tt 1) (w := w) (i := tt 1 - 1 - j) (j := j) (by omega)
    have hdl := Nat.mod_lt (mpr tt j w) hmp
    have ecv := mcv_s (tt := tt) (tt 1 - 1 - j) (mpr tt j w)
    rw [show tt 1 - 1 - j + 1 = tt 1 - j by omega] at ecv
    have hcle := mcv_le hW h8 w
    rw [ecv] at h1
    have enx : mpr tt (j + 1) w = mpr tt j w / mb tt := rfl
    have ek : kv (tt 1 - j) = nI (tt 1 - 1 - j) := by
      rw [show tt 1 - j = (tt 1 - 1 - j) + 1 by omega]
      exact kv_s _
    have eA : ∀ x y, upA (upA (upA (upA A 65 f) 64 g) 65 x) 64 y = upA (upA A 65 x) 64 y := fun x y => by
      funext m
      unfold upA
      by_cases e1 : m = 64
      · subst e1; simp
      · by_cases e2 : m = 65
        · subst e2; simp
        · simp [e1, e2]
    have e65 : upA (upA A 65 f) 64 g 65 = f := by rw [y_un (by decide), y_us]
    have e64 : ∀ x, upA (upA (upA A 65 f) 64 g) 65 x 64 = g := fun x => by rw [y_un (by decide), y_us]
    have e58 : ∀ x y, (upA (upA (upA (upA A 65 f) 64 g) 65 x) 64 y) 58 = A 58 := fun x y => rfl
    have e58b : ∀ x, (upA (upA (upA A 65 f) 64 g) 65 x) 58 = A 58 := fun x => rfl
    have t3 : A 58 3 = nI (tt 3) := hT.1 3 (by decide)
    rw [enx] at *
    generalize hd : mpr tt j w % mb tt = d at *
    have emb : nI (tt 3) + 1 = nI (mb tt) := nI_1 _
    have estart : f_X12_layMixed_12 (n + 1) (HH (upA (upA A 65 f) 64 g) Z B Q P F q D c) 57 (nI (mpr tt j w)) (nI sm) (nI (tt 1 - 1 - j)) = (if kv d = (-1 : Int32) then (f_X12_layMixed_80 (f_X12_layMixed_12 n) (HH (upA (upA (upA A 65 f) 64 g) 65 (va_up f (tt 1 - 1 - j) (kv d))) Z B Q P F q D c) 57 (nI (mpr tt j w / mb tt)) (nI sm) (nI (tt 1 - 1 - j)) (kv d) (0 : Int32) (nI (tt 1 - 1 - j)) 64) else ((gR (HH (upA (upA (upA A 65 f) 64 g) 65 (va_up f (tt 1 - 1 - j) (kv d))) Z B Q P F q D c) 57 12 0).bind fun v12 => (ldI (HH (upA (upA (upA A 65 f) 64 g) 65 (va_up f (tt 1 - 1 - j) (kv d))) Z B Q P F q D c) .int v12 ((248 : Int32) + ((2 : Int32) * (kv d)))).bind fun v13 => f_X12_layMixed_80 (f_X12_layMixed_12 n) (HH (upA (upA (upA A 65 f) 64 g) 65 (va_up f (tt 1 - 1 - j) (kv d))) Z B Q P F q D c) 57 (nI (mpr tt j w / mb tt)) (nI sm) (nI (tt 1 - 1 - j)) (kv d) v13 (nI (tt 1 - 1 - j)) 64)) := by
      rw [f_X12_layMixed_12, if_neg (nI_pos (by omega)), gf_57_0, Option.bind_some, show (3 : Int32) = nI 3 from rfl, ld_58 (by omega), Option.bind_some, hT2.1 3 (by decide), emb, y_rm (by omega) hmp (by omega), hd, Option.bind_some, Option.bind_some, ld_58 (by omega), Option.bind_some, hT2.1 3 (by decide), emb, y_dv (by omega) hmp (by omega), Option.bind_some, gf_57_18, Option.bind_some, show nI d - 1 = kv d from rfl, st_65 (by omega), Option.bind_some, e65, gf_57_17, Option.bind_some]
    by_cases h0 : d = 0
    · subst h0
      rw [if_pos rfl, Nat.add_zero] at h1
      refine ⟨(HH (upA (upA A 65 (va_up f (tt 1 - 1 - j) (kv 0))) 64 (va_up g (tt 1 - 1 - j) (nI 0))) Z B Q P F q D c, sm), ?_, _, _, rfl, ?_, fun r r1 r2 => ?_, fun r r1 r2 => ?_⟩
      · show f_X12_layMixed_12 (n + 1) _ 57 (nI (mpr tt j w)) (nI sm) (kv (tt 1 - j)) = f_X12_layMixed_12 n _ 57 (nI (mpr tt j w / mb tt)) (nI sm) (kv (tt 1 - (j + 1)))
        rw [ek, estart, if_pos (show kv 0 = (-1 : Int32) from rfl)]
        unfold f_X12_layMixed_80 f_X12_layMixed_112
        rw [st_64 (by omega), Option.bind_some, if_pos (show kv 0 = (-1 : Int32) from rfl), e64, eA, kv_m, show tt 1 - (j + 1) = tt 1 - 1 - j by omega, show (0 : Int32) = nI 0 from rfl, nI_add, Nat.add_zero]
      · rw [show tt 1 - (j + 1) = tt 1 - 1 - j by omega]; exact h1
      · by_cases e : r = tt 1 - 1 - j
        · subst e; rw [y_vs, edg]
        · rw [y_vn e]; exact h2 r (by omega) r2
      · by_cases e : r = tt 1 - 1 - j
        · subst e; rw [y_vs, edg]; rfl
        · rw [y_vn e]; exact h3 r (by omega) r2
    · rw [if_neg h0] at h1
      have hd4 : d - 1 < tt 3 := by
        unfold mb at hdl
        omega
      have ekd : kv d = nI (d - 1) := by
        rw [show d = (d - 1) + 1 by omega]
        exact kv_s _
      have t1 := (hW.kind hd4).2.2
      have u1 : A 58 (248 + 2 * (d - 1)) = nI (tt (248 + 2 * (d - 1))) := hT.1 _ (by omega)
      have u2 : A 58 (248 + 2 * (d - 1) + 1) = nI (tt (248 + 2 * (d - 1) + 1)) := hT.1 _ (by omega)
      have ebr : mbr tt d = tt (248 + 2 * (d - 1)) := by unfold mbr; rw [if_neg h0]
      have hkn : ¬ nI (d - 1) = (-1 : Int32) := by show ¬ nI (d - 1) = nM; rw [y_eqM (by omega)]; exact fun h => h
      refine ⟨(HH (upA (upA A 65 (va_up f (tt 1 - 1 - j) (kv d))) 64 (va_up g (tt 1 - 1 - j) (nI (mbr tt d)))) Z B Q P F q D c, sm + (100 * tt (248 + 2 * (d - 1) + 1) + 1)), ?_, _, _, rfl, ?_, fun r r1 r2 => ?_, fun r r1 r2 => ?_⟩
      · show f_X12_layMixed_12 (n + 1) _ 57 (nI (mpr tt j w)) (nI sm) (kv (tt 1 - j)) = f_X12_layMixed_12 n _ 57 (nI (mpr tt j w / mb tt)) (nI (sm + (100 * tt (248 + 2 * (d - 1) + 1) + 1))) (kv (tt 1 - (j + 1)))
        rw [ek, estart, ekd, if_neg hkn, gf_57_0, Option.bind_some, show (248 : Int32) = nI 248 from rfl, show (2 : Int32) = nI 2 from rfl, pk_mul, nI_add, ld_58 (by omega), Option.bind_some, e58b, u1]
        unfold f_X12_layMixed_80 f_X12_layMixed_112
        rw [st_64 (by omega), Option.bind_some, if_neg hkn, gf_57_0, Option.bind_some, show (248 : Int32) = nI 248 from rfl, show (2 : Int32) = nI 2 from rfl, show (1 : Int32) = nI 1 from rfl, show (100 : Int32) = nI 100 from rfl, pk_mul, nI_add, nI_add, ld_58 (by omega), Option.bind_some, e58, u2, pk_mul, nI_add, nI_add, e64, eA, show ∀ l, nI l + -nI 1 = kv l from kv_m, show tt 1 - (j + 1) = tt 1 - 1 - j by omega, ebr]
      · rw [show tt 1 - (j + 1) = tt 1 - 1 - j by omega]
        show sm + (100 * tt (248 + 2 * (d - 1) + 1) + 1) + _ = _
        omega
      · by_cases e : r = tt 1 - 1 - j
        · subst e; rw [y_vs, edg]
        · rw [y_vn e]; exact h2 r (by omega) r2
      · by_cases e : r = tt 1 - 1 - j
        · subst e; rw [y_vs, edg]
        · rw [y_vn e]; exact h3 r (by omega) r2
  · obtain ⟨sh, sm⟩ := s
    obtain ⟨f, g, e0, h1, h2, h3⟩ := hs
    dsimp only at e0 h1
    subst e0
    rw [Nat.sub_self] at h1 h2 h3
    have h1' : sm = mcv tt (tt 1) w := h1
    subst h1'
    refine ⟨_, ?_, f, g, rfl, fun r hr => h2 r (by omega) hr, fun r hr => h3 r (by omega) hr⟩
    show f_X12_layMixed_12 (n + 1) _ 57 _ _ (kv (tt 1 - tt 1)) = _
    rw [f_X12_layMixed_12, Nat.sub_self, if_pos (by decide)]
theorem m_mi76 (hT : Told (A 58) tt lk lh) (hW : HWf tt) (h8 : tt 1 ≤ 8) {l1 l2 l3 l4 : Int32} (k34 : xH → Nat → Int32 → Int32 → Int32 → Int32 → Option (Int32 × xH)) : ∃ f, f_X12_mixedIn_76 k34 xFU (HH A Z B Q P F q D c) 57 l1 l2 l3 l4 (nI 0) = k34 (HH (upA A 66 f) Z B Q P F q D c) 57 l1 l2 l3 (l4 + 1) ∧ ∀ r, r < tt 1 → f r = A 65 r := by
  have key := loop_J (F := fun n j (s : xH) => f_X12_mixedIn_76 k34 n s 57 l1 l2 l3 l4 (nI j)) (N := tt 1) (fun s => k34 s 57 l1 l2 l3 (l4 + 1)) (fun j s => ∃ f, s = HH (upA A 66 f) Z B Q P F q D c ∧ ∀ r, r < j → f r = A 65 r) (fun n j s hj hs => ?_) (fun n s hs => ?_) (by omega) (s := HH A Z B Q P F q D c) ⟨A 66, by rw [y_ua], fun r hr => by omega⟩
  · obtain ⟨s, e1, f, e2, h1⟩ := key
    subst e2
    exact ⟨f, e1, h1⟩
  · obtain ⟨f, rfl, h1⟩ := hs
    have hT2 : Told (upA A 66 f 58) tt lk lh := hT
    refine ⟨HH (upA A 66 (va_up f j (A 65 j))) Z B Q P F q D c, ?_, _, rfl, fun r hr => ?_⟩
    · show f_X12_mixedIn_76 k34 (n + 1) _ 57 _ _ _ _ _ = _
      rw [f_X12_mixedIn_76, gO_57, Option.bind_some, m_rooms hT2, Option.bind_some, if_neg (by rw [y_le (by omega) (by omega)]; omega), gf_57_19, Option.bind_some, gf_57_18, Option.bind_some, ld_65 (by omega), Option.bind_some, st_66 (by omega), Option.bind_some, y_uu, y_us, y_un (by decide), nI_1]
    · by_cases e : r = j
      · subst e; rw [y_vs]
      · rw [y_vn e]; exact h1 r (by omega)
  · obtain ⟨f, rfl, h1⟩ := hs
    have hT2 : Told (upA A 66 f 58) tt lk lh := hT
    show f_X12_mixedIn_76 k34 (n + 1) _ 57 _ _ _ _ _ = _
    rw [f_X12_mixedIn_76, gO_57, Option.bind_some, m_rooms hT2, Option.bind_some, if_pos (by rw [y_le (by omega) (by omega)]; exact Nat.le_refl _)]
def Bk2 (tt : Nat → Nat) (o : Option Nat) (k : Nat → Int32) : Prop := match o with
  | none => True
  | some w => ∀ r, r < tt 1 → k r = kv (mdg tt (tt 1) w r)
theorem m_mi34 (hT : Told (A 58) tt lk lh) (hW : HWf tt) (h8 : tt 1 ≤ 8) {t : Nat} (ht : t < 24) : ∃ A', f_X12_mixedIn_34 xFU (HH A Z B Q P F q D c) 57 (nI t) (nI (mpw tt (tt 1))) nM (nI 0) = some (ev tt (mq tt t), HH A' Z B Q P F q D c) ∧ Only [64, 65, 66] A A' ∧ Bk2 tt (mq tt t) (A' 66) := by
  have hmw := mpw_top hW h8
  have hro := hW.ro
  have hpw := pw16 hro
  have key := loop_J (F := fun n w (s : xH × Int32) => f_X12_mixedIn_34 n s.1 57 (nI t) (nI (mpw tt (tt 1))) s.2 (nI w)) (N := mpw tt (tt 1)) (fun s => some (s.2, s.1)) (fun w s => s.2 = ev tt (bsv (mqV tt t) (mcv tt (tt 1)) w) ∧ ∃ A', s.1 = HH A' Z B Q P F q D c ∧ Only [64, 65, 66] A A' ∧ Bk2 tt (bsv (mqV tt t) (mcv tt (tt 1)) w) (A' 66)) (fun n w s hw hs => ?_) (fun n s hs => ?_) (by omega) (s := (HH A Z B Q P F q D c, nM)) ⟨rfl, A, rfl, Only.rf, trivial⟩
  · obtain ⟨⟨sh, sv⟩, e1, h1, A', h2, h3, h4⟩ := key
    dsimp only at h1 h2
    subst h1 h2
    exact ⟨A', e1, h3, h4⟩
  · obtain ⟨sh, sv⟩ := s
    obtain ⟨h1, A', h2, h3, h4⟩ := hs
    dsimp only at h1 h2
    subst h1 h2
    have hT2 : Told (A' 58) tt lk lh := by rw [h3 58 (by decide)]; exact hT
    obtain ⟨f, g, e1, hf, hg⟩ := m_layMixed (A := A') (Z := Z) (B := B) (Q := Q) (P := P) (F := F) (q := q) (D := D) (c := c) hT2 hW h8 (w := w) (by omega)
    have hT3 : Told (upA (upA A' 65 f) 64 g 58) tt lk lh := hT2
    have hcl := mcv_le hW h8 w
    have hdk := m_darkBy (A := upA (upA A' 65 f) 64 g) (Z := Z) (B := B) (Q := Q) (P := P) (F := F) (q := q) (D := D) (c := c) hT3 hW (sh := fun a => mbr tt (mdg tt (tt 1) w a)) (fun r hr => by rw [y_us]; exact hg r hr) (fun r _ => mbr_le hW mdg_lt) ht
    have hdl : drk tt (Lsum tt (fun a => mbr tt (mdg tt (tt 1) w a))) t < 2 ^ tt 1 := drk_lt hW t (Nat.le_refl _)
    obtain ⟨u, e2, hu⟩ := m_mi76 (A := upA (upA A' 65 f) 64 g) (Z := Z) (B := B) (Q := Q) (P := P) (F := F) (q := q) (D := D) (c := c) hT3 hW h8 (l1 := nI t) (l2 := nI (mpw tt (tt 1))) (l3 := nI (mcv tt (tt 1) w)) (l4 := nI w) (f_X12_mixedIn_34 n)
    have o2 : Only [64, 65, 66] A (upA (upA A' 65 f) 64 g) := (h3.up (by decide)).up (by decide)
    have e59 : ∀ l3, f_X12_mixedIn_59 (f_X12_mixedIn_34 n) (HH (upA (upA A' 65 f) 64 g) Z B Q P F q D c) 57 (nI t) (nI (mpw tt (tt 1))) l3 (nI w) (nI (mcv tt (tt 1) w)) = if mqV tt t w = true then f_X12_mixedIn_34 n (HH (upA (upA (upA A' 65 f) 64 g) 66 u) Z B Q P F q D c) 57 (nI t) (nI (mpw tt (tt 1))) (nI (mcv tt (tt 1) w)) (nI (w + 1)) else f_X12_mixedIn_34 n (HH (upA (upA A' 65 f) 64 g) Z B Q P F q D c) 57 (nI t) (nI (mpw tt (tt 1))) l3 (nI (w + 1)) := fun l3 => by
      unfold f_X12_mixedIn_59 mqV
      rw [gO_57, Option.bind_some, hdk, Option.bind_some]
      by_cases h : drk tt (Lsum tt (fun a => mbr tt (mdg tt (tt 1) w a))) t = 0
      · rw [if_pos (by rw [h]; rfl), if_pos (decide_eq_true h)]
        refine Eq.trans e2 ?_
        rw [nI_1]
      · rw [if_neg (by rw [← nI_0, y_eq (by omega) (by omega)]; exact h), if_neg (by rw [decide_eq_false h]; decide), nI_1]
    have hbk : Bk2 tt (some w) (upA (upA (upA A' 65 f) 64 g) 66 u 66) := fun r hr => by
      rw [y_us, hu r hr, y_un (by decide), y_us]
      exact hf r hr
    have es : ∀ l3, f_X12_mixedIn_34 (n + 1) (HH A' Z B Q P F q D c) 57 (nI t) (nI (mpw tt (tt 1))) l3 (nI w) = (if l3 = (-1 : Int32) then f_X12_mixedIn_59 (f_X12_mixedIn_34 n) (HH (upA (upA A' 65 f) 64 g) Z B Q P F q D c) 57 (nI t) (nI (mpw tt (tt 1))) l3 (nI w) (nI (mcv tt (tt 1) w)) else (if l3 ≤ nI (mcv tt (tt 1) w) then f_X12_mixedIn_34 n (HH (upA (upA A' 65 f) 64 g) Z B Q P F q D c) 57 (nI t) (nI (mpw tt (tt 1))) l3 (nI (w + 1)) else f_X12_mixedIn_59 (f_X12_mixedIn_34 n) (HH (upA (upA A' 65 f) 64 g) Z B Q P F q D c) 57 (nI t) (nI (mpw tt (tt 1))) l3 (nI w) (nI (mcv tt (tt 1) w)))) := fun l3 => by
      rw [f_X12_mixedIn_34, if_neg (by rw [y_le (by omega) (by omega)]; omega), gO_57, Option.bind_some, e1, Option.bind_some, nI_1]
    cases hb : bsv (mqV tt t) (mcv tt (tt 1)) w with
    | none =>
      rw [hb] at h4
      cases hv : mqV tt t w
      · refine ⟨(HH (upA (upA A' 65 f) 64 g) Z B Q P F q D c, nM), ?_, ?_, _, rfl, o2, ?_⟩
        · show f_X12_mixedIn_34 (n + 1) _ 57 _ _ (ev tt none) _ = _
          rw [es, if_pos (show ev tt none = (-1 : Int32) from rfl), e59, hv, if_neg (by decide)]
          rfl
        · rw [bsv, hb]; simp only [hv]; rfl
        · rw [bsv, hb]; simp only [hv]; exact trivial
      · refine ⟨(HH (upA (upA (upA A' 65 f) 64 g) 66 u) Z B Q P F q D c, nI (mcv tt (tt 1) w)), ?_, ?_, _, rfl, o2.up (by decide), ?_⟩
        · show f_X12_mixedIn_34 (n + 1) _ 57 _ _ (ev tt none) _ = _
          rw [es, if_pos (show ev tt none = (-1 : Int32) from rfl), e59, hv, if_pos rfl]
        · rw [bsv, hb]; simp only [hv]; rfl
        · rw [bsv, hb]; simp only [hv]; exact hbk
    | some b =>
      rw [hb] at h4
      have hbl := mcv_le hW h8 b
      have hne : ¬ ev tt (some b) = (-1 : Int32) := by show ¬ nI _ = nM; rw [y_eqM (by omega)]; exact fun h => h
      by_cases hlt : mcv tt (tt 1) w < mcv tt (tt 1) b
      · have hnle : ¬ ev tt (some b) ≤ nI (mcv tt (tt 1) w) := by show ¬ nI _ ≤ nI _; rw [y_le (by omega) (by omega)]; omega
        cases hv : mqV tt t w
        · refine ⟨(HH (upA (upA A' 65 f) 64 g) Z B Q P F q D c, ev tt (some b)), ?_, ?_, _, rfl, o2, ?_⟩
          · show f_X12_mixedIn_34 (n + 1) _ 57 _ _ (ev tt (some b)) _ = _
            rw [es, if_neg hne, if_neg hnle, e59, hv, if_neg (by decide)]
          · rw [bsv, hb]; simp only [hv, Bool.false_eq_true, and_false, if_false]
          · rw [bsv, hb]; simp only [hv, Bool.false_eq_true, and_false, if_false]; exact h4
        · refine ⟨(HH (upA (upA (upA A' 65 f) 64 g) 66 u) Z B Q P F q D c, nI (mcv tt (tt 1) w)), ?_, ?_, _, rfl, o2.up (by decide), ?_⟩
          · show f_X12_mixedIn_34 (n + 1) _ 57 _ _ (ev tt (some b)) _ = _
            rw [es, if_neg hne, if_neg hnle, e59, hv, if_pos rfl]
          · rw [bsv, hb]; simp only [hv, hlt, and_self, if_true]; rfl
          · rw [bsv, hb]; simp only [hv, hlt, and_self, if_true]; exact hbk
      · have hle : ev tt (some b) ≤ nI (mcv tt (tt 1) w) := by show nI _ ≤ nI _; rw [y_le (by omega) (by omega)]; omega
        refine ⟨(HH (upA (upA A' 65 f) 64 g) Z B Q P F q D c, ev tt (some b)), ?_, ?_, _, rfl, o2, ?_⟩
        · show f_X12_mixedIn_34 (n + 1) _ 57 _ _ (ev tt (some b)) _ = _
          rw [es, if_neg hne, if_pos hle]
        · rw [bsv, hb]; simp only [hlt, false_and, if_false]
        · rw [bsv, hb]; simp only [hlt, false_and, if_false]; exact h4
  · obtain ⟨sh, sv⟩ := s
    obtain ⟨h1, A', h2, h3, h4⟩ := hs
    dsimp only at h1 h2
    subst h1 h2
    show f_X12_mixedIn_34 (n + 1) _ 57 _ _ _ _ = _
    rw [f_X12_mixedIn_34, if_pos (by rw [y_le (by omega) (by omega)]; exact Nat.le_refl _)]
theorem m_mixedIn (hT : Told (A 58) tt lk lh) (hW : HWf tt) (h8 : tt 1 ≤ 8) {t : Nat} (ht : t < 24) : ∃ A', f_X12_mixedIn (HH A Z B Q P F q D c) 57 (nI t) = some (ev tt (mq tt t), HH A' Z B Q P F q D c) ∧ Only [64, 65, 66] A A' ∧ Bk2 tt (mq tt t) (A' 66) := by
  obtain ⟨A', e1, h1, h2⟩ := m_mi34 (A := A) (Z := Z) (B := B) (Q := Q) (P := P) (F := F) (q := q) (D := D) (c := c) hT hW h8 ht
  refine ⟨A', ?_, h1, h2⟩
  rw [← e1]
  unfold f_X12_mixedIn
  have hki := hW.ki
  refine loop0 (F := fun n j (s : Int32) => f_X12_mixedIn_4 n (HH A Z B Q P F q D c) 57 (nI t) s (nI j)) (N := tt 1) (st := fun j => nI (mpw tt j)) (fun n j hj => ?_) (fun n => ?_) (by omega)
  · show f_X12_mixedIn_4 (n + 1) _ 57 _ _ _ = _
    rw [f_X12_mixedIn_4, gO_57, Option.bind_some, m_rooms hT, Option.bind_some, if_neg (by rw [y_le (by omega) (by omega)]; omega), gf_57_0, Option.bind_some, show (3 : Int32) = nI 3 from rfl, ld_58 (by omega), Option.bind_some, hT.1 3 (by decide), nI_1, pk_mul, nI_1]
    rfl
  · show f_X12_mixedIn_4 (n + 1) _ 57 _ _ _ = _
    rw [f_X12_mixedIn_4, gO_57, Option.bind_some, m_rooms hT, Option.bind_some, if_pos (by rw [y_le (by omega) (by omega)]; exact Nat.le_refl _)]
    rfl
end MixM
/-- what mixed answers -/
def mixv (tt : Nat → Nat) (t : Nat) (x : Int32) : Int32 := match mq tt t with
  | none => nM
  | some w => if x = nM then nI (moi tt (tt 1) w) else if x = (-2 : Int32) then nI (mla tt (tt 1) w) else kv (mdg tt (tt 1) w x.toNatClampNeg)
theorem ok_mixed : ∀ x0 x1, ME (fun h => f_L_mixed h 0 x0 x1 76) (fun h => f_X12_mixed h 57 x0 x1) := by
  intro x0 x h i hJ hi
  obtain ⟨K, A, Z, B, Q, P, F, q, D, c, tt, lk, lh, R, rfl, hI⟩ := hJ
  have hz := hI.2.1.2.2.2
  obtain ⟨H, hW, hL, hT, hLm⟩ := hI.1
  have hro := hW.ro
  have e39 : ∀ A1 Z1 B1 c1, f_X12_mixed_39 (HH A1 Z1 B1 Q P F q D c1) 57 x0 x 57 = some (nI 0, HH A1 (upA Z1 18 (nI 1)) B1 Q P F q D c1) := fun A1 Z1 B1 c1 => by
    unfold f_X12_mixed_39 f_X12_mixed_40
    rw [pf_57_4, Option.bind_some, gf_57_4, Option.bind_some, y_us, if_neg (by decide)]
    rfl
  cases h1 : rk x0 24
  · refine ME_t hI (k := 1) (b := nI 0) (by decide) ?_ ?_ (oZ18 (nI 1)) rfl
    · unfold f_L_mixed f_X11_mixed
      rw [gO_0, Option.bind_some, c_checkHour, h1, if_neg (by decide), Option.bind_some]
      dsimp only
      rw [Option.bind_some]
      dsimp only
      rw [if_pos rfl]
      rfl
    · unfold f_X12_mixed
      rw [m_isHour, h1, if_neg (by decide), Option.bind_some, if_pos (by decide)]
      exact e39 _ _ _ _
  · obtain ⟨t, ht, rfl⟩ := rk_t (by decide) h1
    by_cases h8 : tt 1 ≤ 8
    · have ehi : nI (tt 1) - 1 = kv (tt 1) := rfl
      have wx : ∀ h : xH, f_X12_within h x.toInt64 (-2 : Int64) (kv (tt 1)).toInt64 = some (if (-2 : Int32) ≤ x ∧ x ≤ kv (tt 1) then 1 else 0) := fun h => within_spec h x (-2) _
      by_cases hx : (-2 : Int32) ≤ x ∧ x ≤ kv (tt 1)
      · have hx3 : x = (-2 : Int32) ∨ x = nM ∨ ∃ r, x = nI r ∧ r < tt 1 := by
          have g1 := hx.1
          have g2 := hx.2
          rw [fa_le] at g1 g2
          have a1 : (-2 : Int32).toInt = -2 := rfl
          have a2 : (kv (tt 1)).toInt = (tt 1 : Int) - 1 := by
            unfold kv
            have e1 : (nI (tt 1)).toInt = tt 1 := nI_toInt (by omega)
            have e2 : (1 : Int32).toInt = 1 := rfl
            rw [fb_subI]
            · rw [e1, e2]
            · rw [e1, e2]; omega
            · rw [e1, e2]; omega
          rw [a2] at g2
          by_cases e : x.toInt = -2
          · exact Or.inl (by rw [fa_eq, e]; rfl)
          · by_cases e1 : x.toInt = -1
            · exact Or.inr (Or.inl (by rw [fa_eq, e1]; rfl))
            · obtain ⟨w, hw, e2⟩ := nI_of (x := x) (by rw [fa_lt, show (0 : Int32).toInt = 0 from rfl]; omega)
              rw [e2, nI_toInt hw] at g2
              exact Or.inr (Or.inr ⟨w, e2, by omega⟩)
        have ecw : f_X11_checkWhat (HH A Z B Q P F q D c) x (-2 : Int32) (kv (tt 1)) = some (.inr ()) := by
          unfold f_X11_checkWhat
          rw [if_neg (fun h => by rw [fa_lt] at h; have := hx.1; rw [fa_le] at this; omega), if_pos hx.2]
        obtain ⟨A', Z', bo, bl, e1, o1, o2, ⟨z30, z7, z8⟩, hbk⟩ := c_find (A := A) (Z := Z) (B := B) (Q := Q) (P := P) (F := F) (c := c) H hW h8 ht hI.2.2.1.2.1.2
        generalize hv : mixv tt t x = v
        have hT2 : Told (A' 58) tt lk lh := by rw [o1 58 (by decide)]; exact hT
        obtain ⟨A2, e2, o3, hb2⟩ := m_mixedIn (A := A') (Z := upA Z' 18 (nI 0)) (B := oB B v.toInt64) (Q := Q) (P := upA P 3 (some q)) (F := F) (q := q) (D := D) (c := c) hT2 hW h8 ht
        have oA : Only [40, 42, 43, 44, 45, 46, 47, 48, 64, 65, 66] A A2 := o1.tr o3 (by decide) (by decide)
        have hz2 : Zro A2 := by
          obtain ⟨y1, y2, y3, y4, y5, y6⟩ := hz
          unfold Zro
          rw [oA 24 (by decide), oA 25 (by decide), oA 26 (by decide), oA 36 (by decide), oA 55 (by decide), oA 35 (by decide)]
          exact ⟨y1, y2, y3, y4, y5, y6⟩
        have hmx : ((upA Z' 18 (nI 0)) 30 = nI (wts tt t) ∧ (upA Z' 18 (nI 0)) 7 = nI bo ∧ (upA Z' 18 (nI 0)) 8 = nI bl) ∧ Bk tt (tt 1) (mq tt t) (A2 40) bo bl := by
          refine ⟨⟨?_, ?_, ?_⟩, ?_⟩
          · rw [y_un (by decide)]; exact z30
          · rw [y_un (by decide)]; exact z7
          · rw [y_un (by decide)]; exact z8
          · rw [o3 40 (by decide)]; exact hbk
        refine ⟨nI 0, HH A' Z' (oB B v.toInt64) Q (upA P 3 (some q)) F q D c, v, HH A2 (upA Z' 18 (nI 0)) (oB B v.toInt64) Q (upA P 3 (some q)) F q D c, ?_, ⟨_, _, _, _, _, _, _, _, _, rfl⟩, ?_, by rw [gf_57_4, y_us], fun _ => oB_ld _, ⟨K, _, _, _, _, _, _, _, _, _, tt, lk, lh, R, rfl, Inv_mix hI (oA.mono (by decide)) hz2 ((o2.mono (by decide)).up (by decide)) (oB_o _) h8 ht hmx⟩⟩
        · show f_L_mixed (HH A Z B Q P F q D c) 0 (nI t) x 76 = _
          have e11 : f_X11_mixed (HH A Z B Q P F q D c) 0 (nI t) x = some (.inr (v, HH A' Z' B Q (upA P 3 (some q)) F q D c)) := by
            unfold f_X11_mixed
            rw [c_checkHour, h1, if_pos rfl, Option.bind_some]
            dsimp only
            rw [gf_0_4, Option.bind_some, hs_1 H, Option.bind_some, if_pos (by rw [show (8 : Int32) = nI 8 from rfl, y_le (by omega) (by omega)]; exact h8), Option.bind_some, hs_1 H, Option.bind_some, ehi, ecw, Option.bind_some]
            dsimp only
            rw [gf_0_14, Option.bind_some, Option.bind_some, gO_39, Option.bind_some, e1, Option.bind_some]
            dsimp only
            unfold mixv at hv
            cases hm : mq tt t with
            | none =>
              rw [hm] at hv
              have hv2 : nM = v := hv
              rw [if_pos (by decide), ← hv2]
              rfl
            | some w =>
              rw [hm] at hv hbk
              obtain ⟨k1, k2, k3⟩ := hbk
              dsimp only at hv
              have a1 := moi_le hW (tt 1) w
              have esm : (nI (if (some w).isSome = true then 1 else 0) : Int32) = nI 1 := rfl
              rw [esm, if_neg (by decide)]
              rcases hx3 with rfl | rfl | ⟨r, rfl, hr⟩
              · rw [if_neg (by decide), if_pos rfl] at hv
                rw [if_pos rfl, gf_0_14, Option.bind_some, gf_39_1, Option.bind_some, z8, k2, hv]
              · rw [if_pos rfl] at hv
                rw [if_neg (by decide), if_pos (show nM = (-1 : Int32) from rfl), gf_0_14, Option.bind_some, gf_39_0, Option.bind_some, z7, k1, hv]
              · have n1 : ¬ nI r = nM := by rw [y_eqM (by omega)]; exact fun h => h
                have n2 : ¬ nI r = (-2 : Int32) := fun h => by
                  have := congrArg Int32.toInt h
                  rw [nI_toInt (by omega), show (-2 : Int32).toInt = -2 from rfl] at this
                  omega
                rw [if_neg n1, if_neg n2, nI_clamp (by omega)] at hv
                rw [if_neg n2, if_neg (show ¬ nI r = (-1 : Int32) from n1), gf_0_14, Option.bind_some, gf_39_2, Option.bind_some, ld_40 (by omega), Option.bind_some, k3 r (by omega), hv]
          unfold f_L_mixed
          rw [gO_0, Option.bind_some, e11, Option.bind_some]
          dsimp only
          rw [show (0 : Int32) = nI 0 from rfl, oB_st, Option.bind_some]
        · show f_X12_mixed (HH A' Z' (oB B v.toInt64) Q (upA P 3 (some q)) F q D c) 57 (nI t) x = _
          unfold f_X12_mixed
          rw [m_isHour, h1, if_pos rfl, Option.bind_some, if_neg (by decide), gO_57, Option.bind_some, m_rooms hT2, Option.bind_some, if_neg (by rw [show (8 : Int32) = nI 8 from rfl, y_lt (by omega) (by omega)]; omega), Option.bind_some, Option.bind_some, ehi, wx, if_pos hx, Option.bind_some, if_neg (by decide)]
          unfold f_X12_mixed_40
          rw [pf_57_4, Option.bind_some, gf_57_4, Option.bind_some, y_us, if_pos (by decide), gO_57, Option.bind_some]
          refine (congrArg (fun o => Option.bind o _) e2).trans ?_
          rw [Option.bind_some]
          dsimp only
          unfold mixv at hv
          cases hm : mq tt t with
          | none =>
            rw [hm] at hv
            have hv2 : nM = v := hv
            rw [if_pos (show ev tt none = (-1 : Int32) from rfl), ← hv2]
            rfl
          | some w =>
            rw [hm] at hv hb2
            dsimp only at hv
            have a1 := moi_le hW (tt 1) w
            have a2 := mla_le (tt := tt) (tt 1) w
            have ec : mcv tt (tt 1) w = 100 * moi tt (tt 1) w + mla tt (tt 1) w := rfl
            have eev : ev tt (some w) = nI (mcv tt (tt 1) w) := rfl
            rw [if_neg (by rw [eev]; show ¬ nI _ = nM; rw [y_eqM (by omega)]; exact fun h => h), eev, ec]
            rcases hx3 with rfl | rfl | ⟨r, rfl, hr⟩
            · rw [if_neg (by decide), if_pos rfl] at hv
              rw [if_neg (by decide), if_pos rfl, show (100 : Int32) = nI 100 from rfl, y_rm (by omega) (by omega) (by omega), Option.bind_some, show (100 * moi tt (tt 1) w + mla tt (tt 1) w) % 100 = mla tt (tt 1) w by omega, hv]
            · rw [if_pos rfl] at hv
              rw [if_pos (show nM = (-1 : Int32) from rfl), show (100 : Int32) = nI 100 from rfl, y_dv (by omega) (by omega) (by omega), Option.bind_some, show (100 * moi tt (tt 1) w + mla tt (tt 1) w) / 100 = moi tt (tt 1) w by omega, hv]
            · have n1 : ¬ nI r = nM := by rw [y_eqM (by omega)]; exact fun h => h
              have n2 : ¬ nI r = (-2 : Int32) := fun h => by
                have := congrArg Int32.toInt h
                rw [nI_toInt (by omega), show (-2 : Int32).toInt = -2 from rfl] at this
                omega
              rw [if_neg n1, if_neg n2, nI_clamp (by omega)] at hv
              rw [if_neg (show ¬ nI r = (-1 : Int32) from n1), if_neg n2, gf_57_19, Option.bind_some, ld_66 (by omega), Option.bind_some, hb2 r hr, hv]
      · refine ME_t hI (k := 1) (b := nI 0) (by decide) ?_ ?_ (oZ18 (nI 1)) rfl
        · have ecw : f_X11_checkWhat (HH A Z B Q P F q D c) x (-2 : Int32) (kv (tt 1)) = some (.inl ("java/lang/IllegalArgumentException", HH A Z B Q P F q D (c.1 + 1, c.2 + 6))) := by
            unfold f_X11_checkWhat f_X11_checkWhat_10
            by_cases g1 : x < (-2 : Int32)
            · rw [if_pos g1, thr_HH]
            · rw [if_neg g1, if_neg (fun g2 => hx ⟨fa_of_nlt g1, g2⟩), thr_HH]
          unfold f_L_mixed f_X11_mixed
          rw [gO_0, Option.bind_some, c_checkHour, h1, if_pos rfl, Option.bind_some]
          dsimp only
          rw [gf_0_4, Option.bind_some, hs_1 H, Option.bind_some, if_pos (by rw [show (8 : Int32) = nI 8 from rfl, y_le (by omega) (by omega)]; exact h8), Option.bind_some, hs_1 H, Option.bind_some, ehi, ecw, Option.bind_some]
          dsimp only
          rw [Option.bind_some]
          dsimp only
          rw [if_pos rfl]
          rfl
        · unfold f_X12_mixed
          rw [m_isHour, h1, if_pos rfl, Option.bind_some, if_neg (by decide), gO_57, Option.bind_some, m_rooms hT, Option.bind_some, if_neg (by rw [show (8 : Int32) = nI 8 from rfl, y_lt (by omega) (by omega)]; omega), Option.bind_some, Option.bind_some, ehi, wx, if_neg hx, Option.bind_some, if_pos (by decide)]
          exact e39 _ _ _ _
    · refine ME_t hI (k := 1) (b := nI 0) (by decide) ?_ ?_ (oZ18 (nI 1)) rfl
      · unfold f_L_mixed f_X11_mixed
        rw [gO_0, Option.bind_some, c_checkHour, h1, if_pos rfl, Option.bind_some]
        dsimp only
        rw [gf_0_4, Option.bind_some, hs_1 H, Option.bind_some, if_neg (by rw [show (8 : Int32) = nI 8 from rfl, y_le (by omega) (by omega)]; exact h8), Option.bind_some]
        dsimp only
        rw [if_pos rfl]
        rfl
      · unfold f_X12_mixed
        rw [m_isHour, h1, if_pos rfl, Option.bind_some, if_neg (by decide), gO_57, Option.bind_some, m_rooms hT, Option.bind_some, if_pos (by rw [show (8 : Int32) = nI 8 from rfl, y_lt (by omega) (by omega)]; omega)]
        exact e39 _ _ _ _
