/-! ===== the savings of all sets ===== -/
section Sav
variable {A : Nat → Nat → Int32} {Z : Nat → Int32} {B : Nat → Nat → Int64} {Q : Nat → Int64} {P : Nat → Option Nat} {F : Nat → Nat → Option Nat} {q : Nat} {D : List xC} {c : Nat × Nat} {K : Nat → Nat} {tt ts lk lh : Nat → Nat} {R i : Nat}
theorem sav_lt (hW : HWf tt) (s : Nat) : sav tt s ≤ 64000 := by
  have : tt 6 * pc s ≤ 999 * 64 := Nat.mul_le_mul hW.de (pc_le s)
  unfold sav
  omega
/-- one house at one place -/
theorem sav_one (H : Hs K D q tt) (H2 : Hs K D q ts) (hW : HWf tt) (hW2 : HWf ts) : tt 1 = ts 1 ∧ ∀ s, sav tt s = sav ts s := by
  have hb := hW.b
  have hb2 := hW2.b
  have hro := hW.ro
  have inj : ∀ {a b : Nat}, a < 100000 → b < 100000 → some (nI a) = some (nI b) → a = b := fun ha hb e => by
    have := Option.some.inj e
    rw [y_eq (by omega) (by omega)] at this
    exact this
  have e1 : tt 1 = ts 1 := inj (hb 1) (hb2 1) ((hs_1 (A := fun _ _ => 0) (Z := fun _ => 0) (B := fun _ _ => 0) (Q := fun _ => 0) (P := fun _ => none) (F := fun _ _ => none) (c := (0, 0)) (q' := q) H).symm.trans (hs_1 H2))
  have e6 : tt 6 = ts 6 := inj (hb 6) (hb2 6) ((hs_2 (A := fun _ _ => 0) (Z := fun _ => 0) (B := fun _ _ => 0) (Q := fun _ => 0) (P := fun _ => none) (F := fun _ _ => none) (c := (0, 0)) (q' := q) H).symm.trans (hs_2 H2))
  have eb : ∀ r, r < 16 → tt (416 + r) = ts (416 + r) := fun r hr => inj (hb _) (hb2 _) ((hs_bu (A := fun _ _ => 0) (Z := fun _ => 0) (B := fun _ _ => 0) (Q := fun _ => 0) (P := fun _ => none) (F := fun _ _ => none) (c := (0, 0)) (q' := q) H hr).symm.trans (hs_bu H2 hr))
  have en : ∀ r, r < 16 → nxt tt r = nxt ts r := fun r hr => inj (by have := nxt_lt16 hW r; omega) (by have := nxt_lt16 hW2 r; omega) ((hs_ne (A := fun _ _ => 0) (Z := fun _ => 0) (B := fun _ _ => 0) (Q := fun _ => 0) (P := fun _ => none) (F := fun _ _ => none) (c := (0, 0)) (q' := q) H hr).symm.trans (hs_ne H2 hr))
  have ec : ∀ s l, cva tt s l = cva ts s l := fun s l => by
    unfold cva
    rw [← e1]
    refine fb_sm_cong (fun r hr => ?_)
    rw [eb r (by omega), en r (by omega), e6]
  refine ⟨e1, fun s => ?_⟩
  unfold sav cst
  rw [e6, e1]
  congr 2
  funext l
  rw [ec]
theorem c_find11 (H : Hs K D q tt) (hW : HWf tt) (h10 : tt 1 ≤ 10) (hz : A 55 0 = 0) : ∃ A' Z', f_X9_findSavings_11 xFU (HH A Z B Q P F q D c) 53 q (nI 0) = some (HH A' Z' B Q (upA P 2 (some q)) F q D c) ∧ Only [54, 55, 56] A A' ∧ A' 55 0 = 0 ∧ Only [17] Z Z' ∧ ∀ s, s < 2 ^ tt 1 → A' 56 s = nI (sav tt s) := by
  have hpw : 2 ^ tt 1 ≤ 1024 := n_pwl (m := 10) h10
  have hpp := Nat.two_pow_pos (tt 1)
  have key := loop_I (F := fun n j (h : xH) => f_X9_findSavings_11 n h 53 q (nI j)) (N := 2 ^ tt 1) some (fun j h => ∃ A' Z', h = HH A' Z' B Q P F q D c ∧ Only [54, 55, 56] A A' ∧ A' 55 0 = 0 ∧ Only [17] Z Z' ∧ ∀ s, s < j → A' 56 s = nI (sav tt s)) (fun r => ∃ A' Z', r = HH A' Z' B Q (upA P 2 (some q)) F q D c ∧ Only [54, 55, 56] A A' ∧ A' 55 0 = 0 ∧ Only [17] Z Z' ∧ ∀ s, s < 2 ^ tt 1 → A' 56 s = nI (sav tt s)) (fun n j h hj hh => Or.inl ?_) (fun n h hh => ?_) (by omega) (s := HH A Z B Q P F q D c) ⟨A, Z, rfl, Only.rf, hz, Only.rf, fun s hs => by omega⟩
  · obtain ⟨r, e1, A', Z', rfl, h1⟩ := key
    exact ⟨A', Z', e1, h1⟩
  · obtain ⟨A', Z', rfl, h1, h2, h3, h4⟩ := hh
    obtain ⟨A2, e1, g1, g2⟩ := c_savingOf (A := A') (Z := Z') (B := B) (Q := Q) (P := P) (F := F) (c := c) H hW h2 hj
    refine ⟨_, ?_, upA A2 56 (va_up (A2 56) j (nI (sav tt j))), upA Z' 17 (nI (sav tt j)), rfl, ?_, ?_, h3.up (by decide), fun s hs => ?_⟩
    · rw [f_X9_findSavings_11, gf_53_3, Option.bind_some, al_56, Option.bind_some, if_neg (by rw [y_le (by omega) (by omega)]; omega), hs_gO H, Option.bind_some, c_allRooms H hW, Option.bind_some, if_neg (by rw [y_lt (by omega) (by omega)]; omega), Option.bind_some, gO_53, Option.bind_some, e1, Option.bind_some]
      dsimp only
      rw [st_56 (by omega), Option.bind_some, show (1 : Int32) = nI 1 from rfl, nI_add]
    · exact (h1.tr g1 (fun _ h => h) (by decide)).up (by decide)
    · rw [y_un (by decide)]; exact g2
    · rw [y_us]
      by_cases e : s = j
      · subst e; rw [y_vs]
      · rw [y_vn e, g1 56 (by decide)]; exact h4 s (by omega)
  · obtain ⟨A', Z', rfl, h1⟩ := hh
    refine ⟨_, ?_, A', Z', rfl, h1⟩
    have e46 : f_X9_findSavings_46 (HH A' Z' B Q P F q D c) 53 q = some (HH A' Z' B Q (upA P 2 (some q)) F q D c) := by
      unfold f_X9_findSavings_46
      rw [pf_53_4, Option.bind_some]
    rw [f_X9_findSavings_11, gf_53_3, Option.bind_some, al_56, Option.bind_some]
    by_cases e : 1024 ≤ 2 ^ tt 1
    · rw [if_pos (by rw [y_le (by omega) (by omega)]; exact e)]
      exact e46
    · rw [if_neg (by rw [y_le (by omega) (by omega)]; exact e), hs_gO H, Option.bind_some, c_allRooms H hW, Option.bind_some, if_pos (by rw [y_lt (by omega) (by omega)]; omega)]
      exact e46
theorem c_findSavings (H : Hs K D q tt) (hW : HWf tt) (h10 : tt 1 ≤ 10) (hz : A 55 0 = 0) (hS : SvOK K A P D) : ∃ A' Z', f_X9_findSavings (HH A Z B Q P F q D c) 53 q = some (HH A' Z' B Q (upA P 2 (some q)) F q D c) ∧ Only [54, 55, 56] A A' ∧ A' 55 0 = 0 ∧ Only [17] Z Z' ∧ ∀ s, s < 2 ^ tt 1 → A' 56 s = nI (sav tt s) := by
  have hpw : 2 ^ tt 1 ≤ 1024 := n_pwl (m := 10) h10
  unfold f_X9_findSavings
  rw [gf_53_4, Option.bind_some]
  rcases hS with hp | ⟨qs, ts, hp, H2, hW2, hs⟩
  · rw [hp]
    exact c_find11 H hW h10 hz
  · rw [hp]
    dsimp only
    have el : lt2 (HH A Z B Q P F q D c) qs q = some () := if_pos ⟨by rw [hh_len]; exact HC_lt H2.2.1, by rw [hh_len]; exact HC_lt H.2.1⟩
    rw [el, Option.bind_some]
    by_cases e : qs = q
    · subst e
      rw [if_pos rfl]
      obtain ⟨o1, o2⟩ := sav_one H H2 hW hW2
      refine ⟨A, Z, ?_, Only.rf, hz, Only.rf, fun s h => ?_⟩
      · rw [← hp, y_ua]
      · rw [o2]; exact hs s (by rw [← o1]; exact h) (by omega)
    · rw [if_neg e]
      exact c_find11 H hW h10 hz
theorem m_laySavings (hT : Told (A 58) tt lk lh) (hW : HWf tt) (h10 : tt 1 ≤ 10) : ∃ f g, f_X12_laySavings (HH A Z B Q P F q D c) 57 = some (HH (upA (upA A 63 f) 70 g) Z B Q P F q D c) ∧ ∀ s, s < 2 ^ tt 1 → g s = nI (sav tt s) := by
  have hpw : 2 ^ tt 1 ≤ 1024 := n_pwl (m := 10) h10
  have hpp := Nat.two_pow_pos (tt 1)
  obtain ⟨f, e1, hf⟩ := m_layNexts (A := A) (Z := Z) (B := B) (Q := Q) (P := P) (F := F) (q := q) (D := D) (c := c) hT hW
  refine ⟨f, ?_⟩
  unfold f_X12_laySavings
  rw [gO_57, Option.bind_some, e1, Option.bind_some]
  have key := loop_J (F := fun n j (h : xH) => f_X12_laySavings_6 n h 57 (nI j)) (N := 2 ^ tt 1) some (fun j h => ∃ g, h = HH (upA (upA A 63 f) 70 g) Z B Q P F q D c ∧ ∀ s, s < j → g s = nI (sav tt s)) (fun n j h hj hh => ?_) (fun n h hh => ?_) (by omega) (s := HH (upA A 63 f) Z B Q P F q D c) ⟨A 70, by rw [show A 70 = upA A 63 f 70 from (y_un (by decide)).symm, y_ua], fun s hs => by omega⟩
  · obtain ⟨r, e2, g, rfl, h1⟩ := key
    exact ⟨g, e2, h1⟩
  · obtain ⟨g, rfl, h1⟩ := hh
    have hT2 : Told (upA (upA A 63 f) 70 g 58) tt lk lh := hT
    have e3 := m_costOf (A := upA (upA A 63 f) 70 g) (Z := Z) (B := B) (Q := Q) (P := P) (F := F) (q := q) (D := D) (c := c) hT2 hW hf hj
    have hcs := cst_le (tt := tt) j
    refine ⟨_, ?_, va_up g j (nI (sav tt j)), rfl, fun s hs => ?_⟩
    · rw [f_X12_laySavings_6, gO_57, Option.bind_some, m_all hT2 hW, Option.bind_some, if_neg (by rw [y_lt (by omega) (by omega)]; omega), gf_57_23, Option.bind_some, gf_57_0, Option.bind_some, show (6 : Int32) = nI 6 from rfl, ld_58 (by omega), Option.bind_some, hT2.1 6 (by omega), ones_spec _ (by omega), Option.bind_some, Option.bind_some, e3, Option.bind_some, pk_mul, y_sub hcs, st_70 (by omega), Option.bind_some, y_us, y_uu, show (1 : Int32) = nI 1 from rfl, nI_add]
      rfl
    · by_cases e : s = j
      · subst e; rw [y_vs]
      · rw [y_vn e]; exact h1 s (by omega)
  · obtain ⟨g, rfl, h1⟩ := hh
    have hT2 : Told (upA (upA A 63 f) 70 g 58) tt lk lh := hT
    rw [f_X12_laySavings_6, gO_57, Option.bind_some, m_all hT2 hW, Option.bind_some, if_pos (by rw [y_lt (by omega) (by omega)]; omega)]
theorem Inv_sav {A' : Nat → Nat → Int32} {Z' : Nat → Int32} {B' : Nat → Nat → Int64} (H : Inv K A Z B Q P F q D c tt lk lh R i) (hA : Only (56 :: SA) A A') (hz : Zro A') (hZ : Only SZ Z Z') (hB : Only [76] B B') (hs : ∀ s, s < 2 ^ tt 1 → A' 56 s = nI (sav tt s)) : Inv K A' Z' B' Q (upA P 2 (some q)) F q D c tt lk lh R (i + 1) := by
  obtain ⟨⟨a1, a2, a3, a4, a5⟩, ⟨b1, b2, b3, b4⟩, ⟨p1, p2, p3⟩, ⟨z1, z2, z3, z4⟩, r1, r2, r3, r4⟩ := H
  refine ⟨⟨a1, a2, a3, ?_, ?_⟩, ⟨?_, ?_, ?_, hz⟩, ⟨?_, ⟨Or.inr ⟨q, tt, rfl, a1, a2, fun s h _ => hs s h⟩, Mix_D (P := upA P 2 (some q)) (fun _ _ h => h) (hA 40 (by decide)) (hZ 7 (by decide)) (hZ 8 (by decide)) (hZ 30 (by decide)) p2.2⟩, p3⟩, ⟨?_, ?_, z3, z4⟩, r1, r2, by omega, by omega⟩
  · rw [hA 58 (by decide)]; exact a4
  · rw [hA 13 (by decide), hA 14 (by decide)]; exact a5
  · unfold ImgOK
    rw [hA 61 (by decide), hA 59 (by decide)]
    exact b1
  · unfold TapeOK
    rw [hA 62 (by decide), hA 1 (by decide), hZ 0 (by decide), hZ 19 (by decide)]
    exact b2
  · unfold TrayOK
    rw [hA 19 (by decide), hA 20 (by decide), hA 73 (by decide), hA 74 (by decide), hB 18 (by decide), hB 75 (by decide)]
    exact b3
  · unfold PlanOK
    rw [hA 50 (by decide), hA 51 (by decide), hZ 11 (by decide), hZ 12 (by decide), hZ 13 (by decide), hZ 14 (by decide), hZ 15 (by decide), hZ 16 (by decide)]
    exact p1
  · rw [hZ 1 (by decide), hZ 27 (by decide)]; exact z1
  · rw [hZ 2 (by decide), hZ 28 (by decide)]; exact z2
end Sav
