/-! ===== carry ===== -/
section CarOk
variable {A : Nat → Nat → Int32} {Z : Nat → Int32} {B : Nat → Nat → Int64} {Q : Nat → Int64} {P : Nat → Option Nat} {F : Nat → Nat → Option Nat} {q : Nat} {D : List xC} {c : Nat × Nat} {K : Nat → Nat} {tt lk lh : Nat → Nat} {R i : Nat}
theorem m_ca196 (hT : Told (A 58) tt lk lh) (hW : HWf tt) {n fi last k p : Nat} (hn : n = 1 ∨ n = 2) (h68 : ∀ a b, a < tt 1 → b < tt 1 → A 68 (16 * a + b) = nI (way tt a b)) (h69 : ∀ k s, k ≤ last - fi → s < 256 → A 69 (256 * k + s) = nI (cva2 tt n last (last - fi - k) s)) (hl : last < 24) (hk : k + 1 ≤ last - fi) (hp : plc tt n p) (hp2 : p < 256) {v : Nat} (hv : v ≤ 1000000) (hx : fpl tt n last (last - fi - (k + 1)) v p < 256 ∧ plc tt n (fpl tt n last (last - fi - (k + 1)) v p) ∧ (if p < 256 then wlk tt n p (fpl tt n last (last - fi - (k + 1)) v p) else 0) + cs tt n last (last - fi - (k + 1)) (fpl tt n last (last - fi - (k + 1)) v p) = v) (l4 : Int32) (k168 : xH → Nat → Int32 → Int32 → Int32 → Int32 → Option (Int32 × xH)) : f_X12_carry_196 k168 xFU (HH A Z B Q P F q D c) 57 (nI n) l4 (nI p) (nI k) (nI v) (nI 0) = k168 (HH A Z B Q P F q D c) 57 (nI n) l4 (nI (fpl tt n last (last - fi - (k + 1)) v p)) (nI (k + 1)) := by
  have hro := hW.ro
  have hF : FAR = 1000000 := rfl
  have key := loop_I (F := fun m j (s : Unit) => f_X12_carry_196 k168 m (HH A Z B Q P F q D c) 57 (nI n) l4 (nI p) (nI k) (nI v) (nI j)) (N := 256) (ρ := Option (Int32 × xH)) id (fun j _ => ∀ u, u < j → plc tt n u → wlk tt n p u + cs tt n last (last - fi - (k + 1)) u ≠ v) (fun o => o = k168 (HH A Z B Q P F q D c) 57 (nI n) l4 (nI (fpl tt n last (last - fi - (k + 1)) v p)) (nI (k + 1))) (fun m j s hj hs => ?_) (fun m s hs => ?_) (by omega) (s := ()) (fun u hu => by omega)
  · obtain ⟨o, e1, rfl⟩ := key
    exact e1
  · have e3 := h69 (k + 1) j hk hj
    unfold cva2 at e3
    by_cases hpl : j / 16 < tt 1 ∧ j % 16 < sec tt n
    · rw [if_pos hpl] at e3
      have e4 := m_walked (A := A) (Z := Z) (B := B) (Q := Q) (P := P) (F := F) (q := q) (D := D) (c := c) hn h68 hro hp hpl hp2 hj
      have w2 := cs_le (tt := tt) (n := n) (last := last) (k := last - fi - (k + 1)) (s := j)
      have wl1 := way_le (tt := tt) (a := p / 16) (b := j / 16)
      have wl2 := way_le (tt := tt) (a := p % 16) (b := j % 16)
      have w1 : wlk tt n p j ≤ 2000000 := by
        unfold wlk
        split <;> omega
      have es : f_X12_carry_196 k168 (m + 1) (HH A Z B Q P F q D c) 57 (nI n) l4 (nI p) (nI k) (nI v) (nI j) = if wlk tt n p j + cs tt n last (last - fi - (k + 1)) j = v then k168 (HH A Z B Q P F q D c) 57 (nI n) l4 (nI j) (nI (k + 1)) else f_X12_carry_196 k168 m (HH A Z B Q P F q D c) 57 (nI n) l4 (nI p) (nI k) (nI v) (nI (j + 1)) := by
        rw [f_X12_carry_196, gO_57, Option.bind_some, m_isPlace hT hW hn hj, if_pos hpl, Option.bind_some, if_neg (by decide), Option.bind_some, e4, Option.bind_some, gf_57_22, Option.bind_some, nI_1, show (256 : Int32) = nI 256 from rfl, pk_mul, nI_add, ld_69 (by omega), Option.bind_some, e3, nI_add, nI_1]
        by_cases x : wlk tt n p j + cs tt n last (last - fi - (k + 1)) j = v
        · rw [if_pos (by rw [x]), if_pos x]
        · rw [if_neg (by rw [y_eq (by omega) (by omega)]; exact x), if_neg x]
      by_cases x : wlk tt n p j + cs tt n last (last - fi - (k + 1)) j = v
      · right
        refine ⟨_, es.trans (if_pos x), ?_⟩
        have ej : fpl tt n last (last - fi - (k + 1)) v p = j := by
          refine first_eq (p := fun s => plB tt n s && decide ((if p < 256 then wlk tt n p s else 0) + cs tt n last (last - fi - (k + 1)) s = v)) hj ?_ (fun u hu => ?_)
          · have e1 : plB tt n j = true := decide_eq_true hpl
            rw [e1, if_pos hp2, decide_eq_true x]
            rfl
          · by_cases hq : u / 16 < tt 1 ∧ u % 16 < sec tt n
            · have := hs u hu hq
              rw [if_pos hp2, decide_eq_false this, Bool.and_false]
            · have e1 : plB tt n u = false := decide_eq_false hq
              rw [e1]
              rfl
        rw [ej]
      · left
        refine ⟨(), es.trans (if_neg x), fun u hu hq => ?_⟩
        by_cases e : u = j
        · subst e; exact x
        · exact hs u (by omega) hq
    · left
      refine ⟨(), ?_, fun u hu hq => ?_⟩
      · show f_X12_carry_196 k168 (m + 1) (HH A Z B Q P F q D c) 57 (nI n) l4 (nI p) (nI k) (nI v) (nI j) = _
        rw [f_X12_carry_196, gO_57, Option.bind_some, m_isPlace hT hW hn hj, if_neg hpl, Option.bind_some, if_pos (by decide), nI_1]
      · by_cases e : u = j
        · subst e; exact absurd hq hpl
        · exact hs u (by omega) hq
  · have := hx.2.2
    rw [if_pos hp2] at this
    exact absurd this (hs _ hx.1 hx.2.1)
theorem m_ca168 (hT : Told (A 58) tt lk lh) (hW : HWf tt) {n fi last w : Nat} (hn : n = 1 ∨ n = 2) (h68 : ∀ a b, a < tt 1 → b < tt 1 → A 68 (16 * a + b) = nI (way tt a b)) (h69 : ∀ k s, k ≤ last - fi → s < 256 → A 69 (256 * k + s) = nI (cva2 tt n last (last - fi - k) s)) (hl : last < 24) (hv : csl tt n last (last - fi) < FAR) (hw : w / n ≤ last - fi) (hw2 : w < 1000) : f_X12_carry_168 xFU (HH A Z B Q P F q D c) 57 (nI n) (nI w) (nI (pls tt n last (last - fi) 0)) (nI 0) = some (nI (if w % n = 0 then pls tt n last (last - fi) (w / n) / 16 else pls tt n last (last - fi) (w / n) % 16), HH A Z B Q P F q D c) := by
  have hro := hW.ro
  have hF : FAR = 1000000 := rfl
  have hok := pls_ok hv
  have hn0 : 0 < n := by omega
  have key := loop_J (F := fun m j (s : Unit) => f_X12_carry_168 m (HH A Z B Q P F q D c) 57 (nI n) (nI w) (nI (pls tt n last (last - fi) j)) (nI j)) (N := w / n) (fun _ => some (nI (if w % n = 0 then pls tt n last (last - fi) (w / n) / 16 else pls tt n last (last - fi) (w / n) % 16), HH A Z B Q P F q D c)) (fun _ _ => True) (fun m j s hj _ => ?_) (fun m s _ => ?_) (by omega) (s := ()) trivial
  · obtain ⟨_, e1, _⟩ := key
    exact e1
  · obtain ⟨p1, p2, p3⟩ := hok j (by omega)
    refine ⟨(), ?_, trivial⟩
    have e3 := h69 j (pls tt n last (last - fi) j) (by omega) p1
    unfold cva2 at e3
    rw [if_pos (c := pls tt n last (last - fi) j / 16 < tt 1 ∧ pls tt n last (last - fi) j % 16 < sec tt n) p2] at e3
    have e4 := m_ca196 (A := A) (Z := Z) (B := B) (Q := Q) (P := P) (F := F) (q := q) (D := D) (c := c) hT hW (n := n) (fi := fi) (last := last) (k := j) (p := pls tt n last (last - fi) j) (v := cs tt n last (last - fi - j) (pls tt n last (last - fi) j)) hn h68 h69 hl (by omega) p2 p1 (by omega) (by
      refine fpl_ok ?_
      have e6 : last - fi - j = (last - fi - (j + 1)) + 1 := by omega
      rw [e6] at p3 ⊢
      generalize last - fi - (j + 1) = k at *
      rw [cs_s] at p3 ⊢
      by_cases hlit : sdf (need tt (last - (k + 1))) (lgt tt n (pls tt n last (last - fi) j / 16) (pls tt n last (last - fi) j % 16)) = 0
      · rw [if_pos hlit] at p3 ⊢
        rcases minf_get (f := fun u => if u / 16 < tt 1 ∧ u % 16 < sec tt n then wlk tt n (pls tt n last (last - fi) j) u + cs tt n last k u else FAR) (top := FAR) 256 with h | ⟨u, hu, h⟩
        · rw [h] at p3; exact absurd p3 (Nat.lt_irrefl _)
        · rw [h] at p3 ⊢
          by_cases hp : u / 16 < tt 1 ∧ u % 16 < sec tt n
          · rw [if_pos hp] at p3 ⊢
            exact ⟨u, hu, hp, by rw [if_pos p1]⟩
          · rw [if_neg hp] at p3; exact absurd p3 (Nat.lt_irrefl _)
      · rw [if_neg hlit] at p3; exact absurd p3 (Nat.lt_irrefl _)) (nI w) (f_X12_carry_168 m)
    refine Eq.trans ?_ e4
    show f_X12_carry_168 (m + 1) _ _ _ _ _ _ = _
    rw [f_X12_carry_168, y_dv (by omega) hn0 (by omega), Option.bind_some, if_neg (by rw [y_le (by omega) (by omega)]; omega), gf_57_22, Option.bind_some, show (256 : Int32) = nI 256 from rfl, pk_mul, nI_add, ld_69 (by omega), Option.bind_some, e3]
    rfl
  · obtain ⟨p1, p2, p3⟩ := hok (w / n) hw
    have hm := Nat.mod_lt w hn0
    show f_X12_carry_168 (m + 1) _ _ _ _ _ _ = _
    generalize pls tt n last (last - fi) (w / n) = p at *
    rw [f_X12_carry_168, y_dv (by omega) hn0 (by omega), Option.bind_some, if_pos (by rw [y_le (by omega) (by omega)]; exact Nat.le_refl _), y_rm (by omega) hn0 (by omega), Option.bind_some]
    by_cases e : w % n = 0
    · rw [if_pos (by rw [e]; rfl), show (16 : Int32) = nI 16 from rfl, y_dv (by omega) (by omega) (by omega), Option.bind_some, if_pos e]
    · rw [if_neg (by rw [← nI_0, y_eq (by omega) (by omega)]; exact e), show (16 : Int32) = nI 16 from rfl, y_rm (by omega) (by omega) (by omega), Option.bind_some, if_neg e]
/-- what carry answers -/
def carv (tt : Nat → Nat) (n f t : Nat) (x : Int32) : Int32 := if csl tt n t (t - f) < FAR then (if x = nM then nI (csl tt n t (t - f)) else nI (if x.toNatClampNeg % n = 0 then pls tt n t (t - f) (x.toNatClampNeg / n) / 16 else pls tt n t (t - f) (x.toNatClampNeg / n) % 16)) else nM
theorem m_ca85 (hT : Told (A 58) tt lk lh) (hW : HWf tt) {n fi last : Nat} (hn : n = 1 ∨ n = 2) (h68 : ∀ a b, a < tt 1 → b < tt 1 → A 68 (16 * a + b) = nI (way tt a b)) (h69 : ∀ k s, k ≤ last - fi → s < 256 → A 69 (256 * k + s) = nI (cva2 tt n last (last - fi - k) s)) (hl : last < 24) (x : Int32) (hx : x = nM ∨ ∃ w, x = nI w ∧ w / n ≤ last - fi ∧ w < 1000) : f_X12_carry_85 xFU (HH A Z B Q P F q D c) 57 (nI n) x (nI 0) (nI 1) = some (carv tt n fi last x, HH A Z B Q P F q D c) := by
  have hro := hW.ro
  have hF : FAR = 1000000 := rfl
  have h0 : ∀ s, s < 256 → A 69 s = nI (cva2 tt n last (last - fi) s) := fun s hs => by
    have := h69 0 s (by omega) hs
    rw [Nat.mul_zero, Nat.zero_add, Nat.sub_zero] at this
    exact this
  have key := loop_I (F := fun m j (s : Nat) => f_X12_carry_85 m (HH A Z B Q P F q D c) 57 (nI n) x (nI s) (nI (j + 1))) (N := 255) (ρ := Option (Int32 × xH)) id (fun j s => s < 256 ∧ s < j + 1 ∧ (∀ u, u < j + 1 → cva2 tt n last (last - fi) s ≤ cva2 tt n last (last - fi) u) ∧ ∀ u, u < s → cva2 tt n last (last - fi) s < cva2 tt n last (last - fi) u) (fun o => o = some (carv tt n fi last x, HH A Z B Q P F q D c)) (fun m j s hj hs => Or.inl ?_) (fun m s hs => ?_) (by omega) (s := 0) ⟨by omega, by omega, fun u hu => by rw [show u = 0 by omega]; exact Nat.le_refl _, fun u hu => by omega⟩
  · obtain ⟨o, e1, rfl⟩ := key
    exact e1
  · obtain ⟨s1, s2, s3, s4⟩ := hs
    have c1 := cva2_le (tt := tt) (n := n) (last := last) (k := last - fi) (s := s)
    have c2 := cva2_le (tt := tt) (n := n) (last := last) (k := last - fi) (s := j + 1)
    have es : f_X12_carry_85 (m + 1) (HH A Z B Q P F q D c) 57 (nI n) x (nI s) (nI (j + 1)) = if cva2 tt n last (last - fi) s ≤ cva2 tt n last (last - fi) (j + 1) then f_X12_carry_85 m (HH A Z B Q P F q D c) 57 (nI n) x (nI s) (nI (j + 1 + 1)) else f_X12_carry_85 m (HH A Z B Q P F q D c) 57 (nI n) x (nI (j + 1)) (nI (j + 1 + 1)) := by
      rw [f_X12_carry_85, if_neg (by rw [show (256 : Int32) = nI 256 from rfl, y_le (by omega) (by omega)]; omega), gf_57_22, Option.bind_some, ld_69 (by omega), Option.bind_some, Option.bind_some, ld_69 (by omega), Option.bind_some, h0 s s1, h0 (j + 1) (by omega), nI_1]
      by_cases e : cva2 tt n last (last - fi) s ≤ cva2 tt n last (last - fi) (j + 1)
      · rw [if_pos (by rw [y_le (by omega) (by omega)]; exact e), if_pos e]
      · rw [if_neg (by rw [y_le (by omega) (by omega)]; exact e), if_neg e]
    by_cases e : cva2 tt n last (last - fi) s ≤ cva2 tt n last (last - fi) (j + 1)
    · refine ⟨s, es.trans (if_pos e), s1, by omega, fun u hu => ?_, s4⟩
      by_cases e2 : u = j + 1
      · subst e2; exact e
      · exact s3 u (by omega)
    · refine ⟨j + 1, es.trans (if_neg e), by omega, by omega, fun u hu => ?_, fun u hu => ?_⟩
      · by_cases e2 : u = j + 1
        · subst e2; exact Nat.le_refl _
        · have := s3 u (by omega)
          omega
      · have := s3 u (by omega)
        omega
  · obtain ⟨s1, s2, s3, s4⟩ := hs
    have c1 := cva2_le (tt := tt) (n := n) (last := last) (k := last - fi) (s := s)
    have hmin : csl tt n last (last - fi) = cva2 tt n last (last - fi) s := by
      refine IsMin_one csl_min ⟨c1, fun u hu => ?_, ?_⟩
      · have := s3 u (by have := hu.1; omega)
        unfold cva2 at this ⊢
        rw [if_pos (c := u / 16 < tt 1 ∧ u % 16 < sec tt n) hu.2] at this
        exact this
      · by_cases hp : s / 16 < tt 1 ∧ s % 16 < sec tt n
        · exact Or.inr ⟨s, ⟨s1, hp⟩, by unfold cva2; rw [if_pos hp]⟩
        · exact Or.inl (by unfold cva2; rw [if_neg hp])
    refine ⟨_, ?_, rfl⟩
    show f_X12_carry_85 (m + 1) (HH A Z B Q P F q D c) 57 (nI n) x (nI s) (nI (255 + 1)) = _
    rw [f_X12_carry_85, if_pos (by decide), gO_57, Option.bind_some, m_rooms hT, Option.bind_some]
    unfold carv
    by_cases hr0 : tt 1 = 0
    · have hno : ¬ csl tt n last (last - fi) < FAR := by
        have e : cva2 tt n last (last - fi) s = FAR := by
          unfold cva2
          rw [if_neg (fun h => by have := h.1; omega)]
        rw [hmin, e]
        exact Nat.lt_irrefl _
      rw [if_pos (by rw [hr0]; rfl), if_neg hno]
      rfl
    · rw [if_neg (by rw [← nI_0, y_eq (by omega) (by omega)]; exact hr0), gf_57_22, Option.bind_some, ld_69 (by omega), Option.bind_some, h0 s s1, hmin]
      by_cases hv : cva2 tt n last (last - fi) s < FAR
      · rw [if_pos (by rw [show (1000000 : Int32) = nI 1000000 from rfl, y_lt (by omega) (by omega)]; omega), if_pos hv]
        by_cases hxm : x = nM
        · rw [if_pos (show x = (-1 : Int32) from hxm), Option.bind_some, ld_69 (by omega), Option.bind_some, h0 s s1, if_pos hxm]
          rfl
        · rw [if_neg (show ¬ x = (-1 : Int32) from hxm), if_neg hxm]
          rcases hx with hx | ⟨w, hx, hw1, hw2⟩
          · exact absurd hx hxm
          · have hps : pls tt n last (last - fi) 0 = s := by
              rw [pls]
              have hpl : s / 16 < tt 1 ∧ s % 16 < sec tt n := by
                apply Classical.byContradiction
                intro hp
                unfold cva2 at hv
                rw [if_neg hp] at hv
                exact absurd hv (Nat.lt_irrefl _)
              have hcs : cva2 tt n last (last - fi) s = cs tt n last (last - fi) s := by unfold cva2; rw [if_pos hpl]
              refine first_eq (p := fun u => plB tt n u && decide ((if 256 < 256 then wlk tt n 256 u else 0) + cs tt n last (last - fi) u = csl tt n last (last - fi))) s1 ?_ (fun u hu => ?_)
              · have e1 : plB tt n s = true := decide_eq_true hpl
                rw [e1, decide_eq_true (by rw [if_neg (Nat.lt_irrefl _), Nat.zero_add, hmin, hcs])]
                rfl
              · by_cases hq : u / 16 < tt 1 ∧ u % 16 < sec tt n
                · have h5 := s4 u hu
                  have hcu : cva2 tt n last (last - fi) u = cs tt n last (last - fi) u := by unfold cva2; rw [if_pos hq]
                  rw [decide_eq_false (by rw [if_neg (Nat.lt_irrefl _), Nat.zero_add, hmin]; omega), Bool.and_false]
                · have e1 : plB tt n u = false := decide_eq_false hq
                  rw [e1]
                  rfl
            subst hx
            have e5 := m_ca168 (A := A) (Z := Z) (B := B) (Q := Q) (P := P) (F := F) (q := q) (D := D) (c := c) hT hW (w := w) hn h68 h69 hl (by rw [hmin]; exact hv) hw1 hw2
            rw [hps] at e5
            rw [nI_clamp (by omega)]
            exact e5
      · rw [if_neg (by rw [show (1000000 : Int32) = nI 1000000 from rfl, y_lt (by omega) (by omega)]; omega), if_neg hv]
        rfl
end CarOk
theorem ok_carry : ∀ x0 x1 x2 x3, ME (fun h => f_L_carry h 0 x0 x1 x2 x3 76) (fun h => f_X12_carry h 57 x0 x1 x2 x3) := by
  intro x0 x1 x2 x3 h i hJ hi
  obtain ⟨K, A, Z, B, Q, P, F, q, D, c, tt, lk, lh, R, rfl, hI⟩ := hJ
  have hz := hI.2.1.2.2.2
  obtain ⟨H, hW, hL, hT, hLm⟩ := hI.1
  have hro := hW.ro
  have hF : FAR = 1000000 := rfl
  have e60 : ∀ A1 Z1 B1 P1 c1, f_X12_carry_59 (HH A1 Z1 B1 Q P1 F q D c1) 57 x0 x1 x2 x3 57 = some (nI 0, HH A1 (upA Z1 18 (nI 1)) B1 Q P1 F q D c1) := fun A1 Z1 B1 P1 c1 => by
    unfold f_X12_carry_59 f_X12_carry_60
    rw [pf_57_4, Option.bind_some, gf_57_4, Option.bind_some, y_us, if_neg (by decide)]
    rfl
  have w12 : ∀ h : xH, f_X12_within h x0.toInt64 (1 : Int64) (2 : Int64) = some (if (1 : Int32) ≤ x0 ∧ x0 ≤ 2 then 1 else 0) := fun h => within_spec h x0 1 2
  by_cases hn : (1 : Int32) ≤ x0 ∧ x0 ≤ 2
  · obtain ⟨n, hn2, rfl⟩ : ∃ n, (n = 1 ∨ n = 2) ∧ x0 = nI n := by
      have h1 := hn.1
      have h2 := hn.2
      rw [fa_le] at h1 h2
      have a1 : (1 : Int32).toInt = 1 := rfl
      have a2 : (2 : Int32).toInt = 2 := rfl
      by_cases e : x0.toInt = 1
      · exact ⟨1, Or.inl rfl, by rw [fa_eq, e]; rfl⟩
      · exact ⟨2, Or.inr rfl, by rw [fa_eq, show (nI 2).toInt = 2 from rfl]; omega⟩
    have hc1 : ¬ nI n < (1 : Int32) := fun h => by rw [fa_lt] at h; have := hn.1; rw [fa_le] at this; omega
    cases h1 : rk x1 24
    · refine ME_t hI (k := 1) (b := nI 0) (by decide) ?_ ?_ (oZ18 (nI 1)) rfl
      · unfold f_L_carry f_X11_carry
        rw [gO_0, Option.bind_some, if_neg hc1, if_pos hn.2, c_checkHour, h1, if_neg (by decide), Option.bind_some]
        simp only [Option.bind_some, if_true]
        rfl
      · unfold f_X12_carry
        rw [w12, if_pos hn, Option.bind_some, if_neg (by decide), m_isHour, h1, if_neg (by decide), Option.bind_some, if_pos (by decide)]
        exact e60 _ _ _ _ _
    · obtain ⟨f, hf, rfl⟩ := rk_t (by decide) h1
      have w23 : ∀ h : xH, f_X12_within h x2.toInt64 (nI f).toInt64 (23 : Int64) = some (if nI f ≤ x2 ∧ x2 ≤ 23 then 1 else 0) := fun h => within_spec h x2 (nI f) 23
      by_cases h2 : nI f ≤ x2 ∧ x2 ≤ 23
      · obtain ⟨t, ht, hft, rfl⟩ : ∃ t, t < 24 ∧ f ≤ t ∧ x2 = nI t := by
          have g1 := h2.1
          have g2 := h2.2
          rw [fa_le] at g1 g2
          rw [nI_toInt (by omega)] at g1
          have a2 : (23 : Int32).toInt = 23 := rfl
          obtain ⟨t, ht, e⟩ := nI_of (x := x2) (by rw [fa_lt, show (0 : Int32).toInt = 0 from rfl]; omega)
          rw [e, nI_toInt ht] at g1 g2
          exact ⟨t, by omega, by omega, e⟩
        have hr2 : rk (nI t) 24 = true := rk_k ht (by decide)
        have hnt : n * (t - f + 1) ≤ 48 := by
          have : n * (t - f + 1) ≤ 2 * 24 := Nat.mul_le_mul (by omega) (by omega)
          omega
        have hnt0 : 0 < n * (t - f + 1) := Nat.mul_pos (by omega) (by omega)
        have ehi : nI n * (nI t - nI f + 1) - 1 = nI (n * (t - f + 1) - 1) := by
          rw [y_sub hft, nI_1, pk_mul, show (1 : Int32) = nI 1 from rfl, y_sub (by omega)]
        have ehi2 : (nI t - nI f + 1) * nI n - 1 = nI (n * (t - f + 1) - 1) := by
          rw [y_sub hft, nI_1, pk_mul, show (1 : Int32) = nI 1 from rfl, Nat.mul_comm, y_sub (by omega)]
        have wx : ∀ h : xH, f_X12_within h x3.toInt64 (-1 : Int64) (nI (n * (t - f + 1) - 1)).toInt64 = some (if (-1 : Int32) ≤ x3 ∧ x3 ≤ nI (n * (t - f + 1) - 1) then 1 else 0) := fun h => within_spec h x3 (-1) _
        by_cases hx : (-1 : Int32) ≤ x3 ∧ x3 ≤ nI (n * (t - f + 1) - 1)
        · have hx3 : x3 = nM ∨ ∃ w, x3 = nI w ∧ w / n ≤ t - f ∧ w < 1000 := by
            have g1 := hx.1
            have g2 := hx.2
            rw [fa_le] at g1 g2
            rw [nI_toInt (by omega)] at g2
            have a1 : (-1 : Int32).toInt = -1 := rfl
            by_cases e : x3.toInt = -1
            · exact Or.inl (by rw [fa_eq, e]; rfl)
            · obtain ⟨w, hw, e2⟩ := nI_of (x := x3) (by rw [fa_lt, show (0 : Int32).toInt = 0 from rfl]; omega)
              rw [e2, nI_toInt hw] at g2
              refine Or.inr ⟨w, e2, ?_, by omega⟩
              have h5 : w < n * (t - f + 1) := by omega
              have h6 := Nat.div_lt_of_lt_mul h5
              omega
          have ecw : f_X11_checkWhat (HH A Z B Q P F q D c) x3 (-1 : Int32) (nI (n * (t - f + 1) - 1)) = some (.inr ()) := by
            unfold f_X11_checkWhat
            rw [if_neg (fun h => by rw [fa_lt] at h; have := hx.1; rw [fa_le] at this; omega), if_pos hx.2]
          obtain ⟨A', Z', e1, o1, o2, hP⟩ := c_plan (A := A) (Z := Z) (B := B) (Q := Q) (P := P) (F := F) (c := c) H hW (n := n) (f := f) (t := t) hn2 hft ht hI.2.2.1.1
          generalize hv : carv tt n f t x3 = v
          have hT2 : Told (A' 58) tt lk lh := by rw [o1 58 (by decide)]; exact hT
          obtain ⟨A2, e2, o3, h68, h69⟩ := m_layCarried (A := A') (Z := upA Z' 18 (nI 0)) (B := oB B v.toInt64) (Q := Q) (P := upA P 1 (some q)) (F := F) (q := q) (D := D) (c := c) hT2 hW hn2 hft ht
          have hT3 : Told (A2 58) tt lk lh := by rw [o3 58 (by decide)]; exact hT2
          have e3 := m_ca85 (A := A2) (Z := upA Z' 18 (nI 0)) (B := oB B v.toInt64) (Q := Q) (P := upA P 1 (some q)) (F := F) (q := q) (D := D) (c := c) hT3 hW hn2 h68 h69 ht x3 hx3
          rw [hv] at e3
          have oA : Only [50, 51, 52, 63, 68, 69] A A2 := o1.tr o3 (by decide) (by decide)
          have hz2 : Zro A2 := by
            obtain ⟨y1, y2, y3, y4, y5, y6⟩ := hz
            unfold Zro
            rw [oA 24 (by decide), oA 25 (by decide), oA 26 (by decide), oA 36 (by decide), oA 55 (by decide), oA 35 (by decide)]
            exact ⟨y1, y2, y3, y4, y5, y6⟩
          have hPF2 : PF A2 (upA Z' 18 (nI 0)) tt n f t := by
            obtain ⟨⟨q1, q2, q3, q4, q5, q6⟩, q7, q8⟩ := hP
            refine ⟨⟨?_, ?_, ?_, ?_, ?_, ?_⟩, fun k hk => ?_, fun h a b g1 g2 g3 g4 => ?_⟩
            · rw [y_un (by decide)]; exact q1
            · rw [y_un (by decide)]; exact q2
            · rw [y_un (by decide)]; exact q3
            · rw [y_un (by decide)]; exact q4
            · rw [y_un (by decide)]; exact q5
            · rw [y_un (by decide)]; exact q6
            · rw [o3 50 (by decide)]; exact q7 k hk
            · rw [o3 51 (by decide)]; exact q8 h a b g1 g2 g3 g4
          refine ⟨nI 0, HH A' Z' (oB B v.toInt64) Q (upA P 1 (some q)) F q D c, v, HH A2 (upA Z' 18 (nI 0)) (oB B v.toInt64) Q (upA P 1 (some q)) F q D c, ?_, ⟨_, _, _, _, _, _, _, _, _, rfl⟩, ?_, by rw [gf_57_4, y_us], fun _ => oB_ld _, ⟨K, _, _, _, _, _, _, _, _, _, tt, lk, lh, R, rfl, Inv_plan hI (oA.mono (by decide)) hz2 ((o2.mono (by decide)).up (by decide)) (oB_o _) hn2 hft ht hPF2⟩⟩
          · show f_L_carry (HH A Z B Q P F q D c) 0 (nI n) (nI f) (nI t) x3 76 = _
            have e11 : f_X11_carry (HH A Z B Q P F q D c) 0 (nI n) (nI f) (nI t) x3 = some (.inr (v, HH A' Z' B Q (upA P 1 (some q)) F q D c)) := by
              unfold f_X11_carry
              rw [if_neg hc1, if_pos hn.2, c_checkHour, h1, if_pos rfl, Option.bind_some]
              dsimp only
              rw [c_checkHour, hr2, if_pos rfl, Option.bind_some]
              dsimp only
              rw [if_pos h2.1, ehi, ecw, Option.bind_some]
              dsimp only
              rw [gf_0_15, Option.bind_some, gf_0_4, Option.bind_some, gO_49, Option.bind_some, e1, Option.bind_some]
              dsimp only
              unfold pln
              unfold carv at hv
              by_cases hc : csl tt n t (t - f) < FAR
              · rw [if_pos hc, if_neg (by show ¬ nI _ = nM; rw [y_eqM (by omega)]; exact fun h => h)]
                rw [if_pos hc] at hv
                by_cases hm : x3 = nM
                · rw [if_pos (show x3 = (-1 : Int32) from hm)]
                  rw [if_pos hm] at hv
                  rw [hv]
                · rw [if_neg (show ¬ x3 = (-1 : Int32) from hm), gf_0_15, Option.bind_some]
                  rw [if_neg hm] at hv
                  rcases hx3 with hx3 | ⟨w, rfl, hw1, hw2⟩
                  · exact absurd hx3 hm
                  · rw [nI_clamp (by omega)] at hv
                    have hmn := Nat.mod_lt w (show 0 < n by omega)
                    have e4 := c_placeOf (A := A') (Z := Z') (B := B) (Q := Q) (P := upA P 1 (some q)) (F := F) (q := q) (D := D) (c := c) hW hn2 hP hft ht hc (l := w % n) (j := w / n) (by omega) (by omega)
                    rw [y_rm (by omega) (by omega) (by omega), Option.bind_some, y_dv (by omega) (by omega) (by omega), Option.bind_some, gO_49, Option.bind_some, nI_add, e4, Option.bind_some, hv]
              · rw [if_neg hc, if_pos (show nM = (-1 : Int32) from rfl)]
                rw [if_neg hc] at hv
                rw [hv]
            unfold f_L_carry
            rw [gO_0, Option.bind_some, e11, Option.bind_some]
            dsimp only
            rw [show (0 : Int32) = nI 0 from rfl, oB_st, Option.bind_some]
          · show f_X12_carry (HH A' Z' (oB B v.toInt64) Q (upA P 1 (some q)) F q D c) 57 (nI n) (nI f) (nI t) x3 = _
            unfold f_X12_carry
            rw [w12, if_pos hn, Option.bind_some, if_neg (by decide), m_isHour, h1, if_pos rfl, Option.bind_some, if_neg (by decide), w23, if_pos h2, Option.bind_some, if_neg (by decide), ehi2, wx, if_pos hx, Option.bind_some, if_neg (by decide)]
            unfold f_X12_carry_60
            rw [pf_57_4, Option.bind_some, gf_57_4, Option.bind_some, y_us, if_pos (by decide), gO_57, Option.bind_some]
            refine (congrArg (fun o => Option.bind o _) e2).trans ?_
            rw [Option.bind_some]
            exact e3
        · refine ME_t hI (k := 1) (b := nI 0) (by decide) ?_ ?_ (oZ18 (nI 1)) rfl
          · have ecw : f_X11_checkWhat (HH A Z B Q P F q D c) x3 (-1 : Int32) (nI (n * (t - f + 1) - 1)) = some (.inl ("java/lang/IllegalArgumentException", HH A Z B Q P F q D (c.1 + 1, c.2 + 6))) := by
              unfold f_X11_checkWhat f_X11_checkWhat_10
              by_cases g1 : x3 < (-1 : Int32)
              · rw [if_pos g1, thr_HH]
              · rw [if_neg g1, if_neg (fun g2 => hx ⟨fa_of_nlt g1, g2⟩), thr_HH]
            unfold f_L_carry f_X11_carry
            rw [gO_0, Option.bind_some, if_neg hc1, if_pos hn.2, c_checkHour, h1, if_pos rfl, Option.bind_some]
            dsimp only
            rw [c_checkHour, hr2, if_pos rfl, Option.bind_some]
            dsimp only
            rw [if_pos h2.1, ehi, ecw, Option.bind_some]
            dsimp only
            rw [Option.bind_some]
            dsimp only
            rw [if_pos rfl]
            rfl
          · unfold f_X12_carry
            rw [w12, if_pos hn, Option.bind_some, if_neg (by decide), m_isHour, h1, if_pos rfl, Option.bind_some, if_neg (by decide), w23, if_pos h2, Option.bind_some, if_neg (by decide), ehi2, wx, if_neg hx, Option.bind_some, if_pos (by decide)]
            exact e60 _ _ _ _ _
      · refine ME_t hI (k := 1) (b := nI 0) (by decide) ?_ ?_ (oZ18 (nI 1)) rfl
        · unfold f_L_carry f_X11_carry
          rw [gO_0, Option.bind_some, if_neg hc1, if_pos hn.2, c_checkHour, h1, if_pos rfl, Option.bind_some]
          dsimp only
          rw [c_checkHour]
          cases hr2 : rk x2 24
          · rw [if_neg (by decide), Option.bind_some]
            dsimp only
            rw [Option.bind_some]
            dsimp only
            rw [if_pos rfl]
            rfl
          · obtain ⟨t, ht, rfl⟩ := rk_t (by decide) hr2
            have hft : ¬ nI f ≤ nI t := fun h => h2 ⟨h, by rw [show (23 : Int32) = nI 23 from rfl, y_le (by omega) (by omega)]; omega⟩
            rw [if_pos rfl, Option.bind_some]
            dsimp only
            rw [if_neg hft, Option.bind_some]
            dsimp only
            rw [if_pos rfl]
            rfl
        · unfold f_X12_carry
          rw [w12, if_pos hn, Option.bind_some, if_neg (by decide), m_isHour, h1, if_pos rfl, Option.bind_some, if_neg (by decide), w23, if_neg h2, Option.bind_some, if_pos (by decide)]
          exact e60 _ _ _ _ _
  · refine ME_t hI (k := 1) (b := nI 0) (by decide) ?_ ?_ (oZ18 (nI 1)) rfl
    · unfold f_L_carry f_X11_carry f_X11_carry_10
      rw [gO_0, Option.bind_some]
      by_cases g1 : x0 < (1 : Int32)
      · rw [if_pos g1, Option.bind_some]
        dsimp only
        rw [if_pos rfl]
        rfl
      · rw [if_neg g1, if_neg (fun g2 => hn ⟨fa_of_nlt g1, g2⟩), Option.bind_some]
        dsimp only
        rw [if_pos rfl]
        rfl
    · unfold f_X12_carry
      rw [w12, if_neg hn, Option.bind_some, if_pos (by decide)]
      exact e60 _ _ _ _ _
