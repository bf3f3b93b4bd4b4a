/-! ===== house: the reference's call ===== -/
section MCall
variable {A : Nat → Nat → Int32} {Z : Nat → Int32} {B : Nat → Nat → Int64} {Q : Nat → Int64} {P : Nat → Option Nat} {F : Nat → Nat → Option Nat} {q : Nat} {D : List xC} {c : Nat × Nat} {b : Nat → Nat}
theorem m_121 {g : Nat → Int32} {A1 : Nat → Nat → Int32} (h60 : A1 60 = g) : ∃ g', f_X12_house_121 xFU (HH A1 Z B Q P F q D c) 57 (nI 0) = some (g 0, HH (upA A1 58 g') Z B Q P F q D c) ∧ ∀ k, k < 480 → g' k = g k := by
  have key := loop_J (F := fun m j (h : xH) => f_X12_house_121 m h 57 (nI j)) (N := 480) (fun h => (ldI h .int 58 (nI 0)).bind fun v3 => some (v3, h)) (fun j h => ∃ g', h = HH (upA A1 58 g') Z B Q P F q D c ∧ ∀ k, k < j → g' k = g k) (fun m j h hj hh => ?_) (fun m h hh => ?_) (by decide) (s := HH A1 Z B Q P F q D c) ⟨A1 58, by rw [y_ua], fun k hk => by omega⟩
  · obtain ⟨h, e, g', rfl, hg⟩ := key
    refine ⟨g', ?_, hg⟩
    refine e.trans ?_
    rw [ld_58 (by decide), Option.bind_some, y_us, hg 0 (by decide)]
  · obtain ⟨g', rfl, hg⟩ := hh
    refine ⟨HH (upA A1 58 (va_up g' j (g j))) Z B Q P F q D c, ?_, _, rfl, fun k hk => ?_⟩
    · show f_X12_house_121 (m + 1) _ 57 (nI j) = f_X12_house_121 m _ 57 (nI (j + 1))
      have e60 : (upA A1 58 g') 60 = g := by rw [y_un (by decide)]; exact h60
      rw [f_X12_house_121, if_neg (by rw [show (480 : Int32) = nI 480 from rfl, y_le (by omega) (by omega)]; omega), gf_57_0, Option.bind_some, gf_57_2, Option.bind_some, ld_60 hj, Option.bind_some, e60, st_58 hj, Option.bind_some, y_uu, y_us, nI_1]
    · by_cases e : k = j
      · subst e; rw [y_vs]
      · rw [y_vn e]; exact hg k (by omega)
  · obtain ⟨g', rfl, hg⟩ := hh
    show f_X12_house_121 (m + 1) _ 57 (nI 480) = _
    rw [f_X12_house_121, if_pos (by decide), gf_57_0, Option.bind_some]
    rfl
/-- what the reference's house answers, and leaves -/
def MHR (A : Nat → Nat → Int32) (Z : Nat → Int32) (r : PR) (v : Int32) (A' : Nat → Nat → Int32) (Z' : Nat → Int32) : Prop := Only [18, 19, 20, 21, 22, 23, 24, 25, 26, 27, 28] Z Z' ∧ Z' 18 = nI 0 ∧ Z' 19 = nI 0 ∧ match r with
  | .inl f => v = (-10 : Int32) - nI f.1 ∧ Only [60] A A' ∧ Z' 27 = nI f.1 ∧ Z' 28 = nI f.2
  | .inr x => v = nI (x.2 0) ∧ Only [58, 60] A A' ∧ Told (A' 58) x.2 (fun _ => 0) (fun _ => 0) ∧ Z' 27 = nI 0 ∧ Z' 28 = nM
theorem m_house {n N : Nat} (hN : N ≤ 800) (hn : n ≤ N) (h19 : Z 19 = nI N) (hb : ∀ k, k < n → A 62 k = nI (b k) ∧ b k < 256) : ∃ v A' Z', f_X12_house (HH A Z B Q P F q D c) 57 (nI n) = some (v, HH A' Z' B Q P F q D c) ∧ MHR A Z (pIt b n 801) v A' Z' := by
  generalize hZ1 : upA (upA (upA (upA (upA Z 18 (nI 0)) 20 (nI n)) 19 (nI 0)) 21 (nI 0)) 25 (nI 0) = Z1
  have o1 : Only [18, 19, 20, 21, 25] Z Z1 := by rw [← hZ1]; exact ((((Only.rf.up (by decide)).up (by decide)).up (by decide)).up (by decide)).up (by decide)
  have z18 : Z1 18 = nI 0 := by rw [← hZ1]; rfl
  have z19 : Z1 19 = nI 0 := by rw [← hZ1]; rfl
  have z20 : Z1 20 = nI n := by rw [← hZ1]; rfl
  have z21 : Z1 21 = nI 0 := by rw [← hZ1]; rfl
  have z25 : Z1 25 = nI 0 := by rw [← hZ1]; rfl
  obtain ⟨g, eb, hg⟩ := beg_spec (hc := LL A Z1 B Q P F q ++ D) (hk := c) (a := 60) (LLg_60 A Z1 B Q P F q D)
  rw [LLs_60] at eb
  obtain ⟨Z2, er, o2, t2⟩ := m_reads (A := upA A 60 g) (Z := Z1) (B := B) (Q := Q) (P := P) (F := F) (q := q) (D := D) (c := c) (b := b) (n := n) (p := 0) (by omega) hb z20 z21 (Nat.zero_le _)
  have hMG : MG A Z1 B Q P F q D c b n (HH (upA A 60 g) Z2 B Q P F q D c) (tok b n 0) brow := by
    refine ⟨g, Z2, rfl, o2.mono (by decide), by rw [o2 25 (by decide)]; exact z25, t2, ⟨0, Nat.zero_le _, rfl⟩, fun k hk => ?_, fun r hr => ?_, fun r hr => ?_⟩
    · rw [hg k (by omega)]
      unfold beg brow
      by_cases c1 : k = 6
      · rw [if_pos c1, if_pos c1]; rfl
      · rw [if_neg c1, if_neg c1]
        by_cases c2 : 416 ≤ k ∧ k < 432
        · rw [if_pos c2, if_pos c2]; rfl
        · rw [if_neg c2, if_neg c2, if_neg (by omega)]; rfl
    · rw [hg _ (by omega)]
      unfold beg
      rw [if_neg (by omega), if_neg (by omega), if_pos (by omega)]
      rfl
    · rw [hg _ (by omega)]
      unfold beg
      rw [if_neg (by omega), if_neg (by omega), if_neg (by omega)]
      rfl
  have hstart : f_X12_house (HH A Z B Q P F q D c) 57 (nI n) = f_X12_house_56 xFU (HH (upA A 60 g) Z2 B Q P F q D c) 57 := by
    have e1 : (upA Z 18 (nI 0)) 19 = nI N := h19
    have hw : (if 0 ≤ n ∧ n ≤ N then nI 1 else nI 0) = nI 1 := if_pos ⟨Nat.zero_le _, hn⟩
    unfold f_X12_house
    rw [show (0 : Int32) = nI 0 from rfl, pf_57_4, Option.bind_some, gf_57_6, Option.bind_some, e1, show (0 : Int64) = (nI 0).toInt64 from rfl, m_within (by omega) (by decide) (by omega), Option.bind_some, hw, if_neg (by decide), pf_57_7, Option.bind_some, pf_57_6, Option.bind_some, pf_57_8, Option.bind_some, pf_57_12, Option.bind_some, hZ1, gf_57_2, Option.bind_some]
    show ((f_X12_begins (LL A Z1 B Q P F q ++ D, c) 60).bind fun r10 => _) = _
    rw [eb, Option.bind_some]
    show ((gO (HH (upA A 60 g) Z1 B Q P F q D c) 57 12).bind fun q11 => _) = _
    rw [gO_57, Option.bind_some, er, Option.bind_some]
  obtain ⟨h', el, hl⟩ := m_loop (A0 := A) (Z0 := Z1) (by omega) z20 hb hMG
  rw [hstart, el]
  rcases hl with ⟨x, hx, f, Z3, rfl, o3, z3, t3, hT3, hR3⟩ | ⟨f, hf, f2, Z3, rfl, o3, z3, z4, k1, k2⟩
  · rw [hx]
    obtain ⟨g', e121, hg'⟩ := m_121 (A1 := upA A 60 f) (Z := upA (upA Z3 27 (nI 0)) 28 nM) (B := B) (Q := Q) (P := P) (F := F) (q := q) (D := D) (c := c) (g := f) y_us
    refine ⟨nI (x.2 0), upA (upA A 60 f) 58 g', upA (upA Z3 27 (nI 0)) 28 nM, ?_, ?_, ?_, ?_, rfl, (Only.rf.up (by decide)).up (by decide), ?_, rfl, rfl⟩
    · unfold f_X12_house_77 f_X12_house_101
      have e5 : ∀ x, (upA Z3 27 x) 25 = nI 0 := fun x => z3
      have e6 : ∀ x y, (upA (upA Z3 27 x) 28 y) 25 = nI 0 := fun x y => z3
      rw [gf_57_12, Option.bind_some, z3, pf_57_14, Option.bind_some, gf_57_12, Option.bind_some, e5, if_pos n00, pf_57_15, Option.bind_some, gf_57_12, Option.bind_some, e6, if_pos n00]
      refine e121.trans ?_
      rw [hR3.1 0 (by decide)]
    · exact ((o1.tr o3 (U := [18, 19, 20, 21, 22, 23, 24, 25, 26, 27, 28]) (by decide) (by decide)).up (by decide)).up (by decide)
    · rw [y_un (by decide), y_un (by decide), o3 18 (by decide)]; exact z18
    · rw [y_un (by decide), y_un (by decide), o3 19 (by decide)]; exact z19
    · rw [y_us]
      exact ⟨fun k hk => by rw [hg' k (by omega)]; exact hR3.1 k hk, fun r hr => by rw [hg' _ (by omega)]; exact hR3.2.1 r hr, fun r hr => by rw [hg' _ (by omega)]; exact hR3.2.2 r hr⟩
  · rw [hf]
    have hne := MB.ne z3 k1 k2
    refine ⟨(-10 : Int32) - nI f.1, upA A 60 f2, upA (upA Z3 27 (nI f.1)) 28 (nI f.2), ?_, ?_, ?_, ?_, rfl, Only.rf.up (by decide), rfl, rfl⟩
    · unfold f_X12_house_77 f_X12_house_101
      have e5 : ∀ x, (upA Z3 27 x) 25 = Z3 25 := fun x => rfl
      have e6 : ∀ x, (upA Z3 27 x) 26 = nI f.2 := fun x => z4
      have e7 : ∀ x y, (upA (upA Z3 27 x) 28 y) 25 = Z3 25 := fun x y => rfl
      rw [gf_57_12, Option.bind_some, pf_57_14, Option.bind_some, gf_57_12, Option.bind_some, e5, if_neg hne, gf_57_13, Option.bind_some, e6, pf_57_15, Option.bind_some, gf_57_12, Option.bind_some, e7, if_neg hne, Option.bind_some, z3]
    · exact ((o1.tr o3 (U := [18, 19, 20, 21, 22, 23, 24, 25, 26, 27, 28]) (by decide) (by decide)).up (by decide)).up (by decide)
    · rw [y_un (by decide), y_un (by decide), o3 18 (by decide)]; exact z18
    · rw [y_un (by decide), y_un (by decide), o3 19 (by decide)]; exact z19
end MCall
