/-! ===== house: next rooms and walks by the class ===== -/
/-- the step at which r is first come to from s, below n; else n -/
def fsr (tt : Nat → Nat) (s r n : Nat) : Nat := fa_first (fun m => (rch tt s m).testBit r) n
theorem fsr_lt {tt : Nat → Nat} {s r n : Nat} : fsr tt s r n < n ↔ ∃ m, m < n ∧ (rch tt s m).testBit r = true := by
  constructor
  · intro h
    exact ⟨_, h, fa_first_yes (fun m => (rch tt s m).testBit r) n h⟩
  · rintro ⟨m, hm, hp⟩
    apply Classical.byContradiction
    intro hc
    have : (rch tt s m).testBit r = false := fa_first_no (fun m => (rch tt s m).testBit r) n m (by unfold fsr at hc; omega)
    rw [hp] at this
    cases this
theorem fsr_n {tt : Nat → Nat} {s r n : Nat} : fsr tt s r (n + 1) < n + 1 ↔ (rch tt s n).testBit r = true := by
  rw [fsr_lt]
  constructor
  · rintro ⟨m, hm, hp⟩
    have := rch_mono tt s (n - m) m hp
    rw [show m + (n - m) = n by omega] at this
    exact this
  · exact fun h => ⟨n, by omega, h⟩
def Fp (tt : Nat → Nat) (s n x : Nat) : Prop := ∀ r, x.testBit r = true ↔ ((rch tt s n).testBit r = true ∧ ¬ fsr tt s r n < n)
theorem Fp_0 {tt : Nat → Nat} {s : Nat} : Fp tt s 0 (2 ^ s) := fun r => ⟨fun h => ⟨h, by omega⟩, fun h => h.1⟩
def onf (tt : Nat → Nat) (x n : Nat) : Nat := orf (fun r => if x.testBit r = true then nxt tt r ||| ltt tt r else 0) n
theorem Fp_s {tt : Nat → Nat} {s n x : Nat} (hF : Fp tt s n x) : rch tt s n ||| sdf (onf tt x (tt 1)) (rch tt s n) = rch tt s (n + 1) ∧ Fp tt s (n + 1) (sdf (onf tt x (tt 1)) (rch tt s n)) := by
  have hd : ∀ k b, (rch tt s (k + 1)).testBit b = true ↔ (rch tt s k).testBit b = true ∨ ∃ r, r < tt 1 ∧ (rch tt s k).testBit r = true ∧ (nxt tt r ||| ltt tt r).testBit b = true := by
    intro k b
    rw [rch, Nat.testBit_or, Bool.or_eq_true, orf_bit]
    constructor
    · rintro (h | ⟨r, hr, h⟩)
      · exact Or.inl h
      · by_cases c1 : (rch tt s k).testBit r = true
        · rw [if_pos c1] at h
          exact Or.inr ⟨r, hr, c1, h⟩
        · rw [if_neg c1, Nat.zero_testBit] at h
          cases h
    · rintro (h | ⟨r, hr, c1, h⟩)
      · exact Or.inl h
      · exact Or.inr ⟨r, hr, by rw [if_pos c1]; exact h⟩
  have key : ∀ b, (rch tt s (n + 1)).testBit b = true ↔ (rch tt s n).testBit b = true ∨ (onf tt x (tt 1)).testBit b = true := by
    intro b
    unfold onf
    rw [hd, orf_bit]
    constructor
    · rintro (h | ⟨r, hr, c1, h⟩)
      · exact Or.inl h
      · by_cases c2 : fsr tt s r n < n
        · obtain ⟨m, hm, hp⟩ := fsr_lt.mp c2
          have := rch_mono tt s (n - (m + 1)) (m + 1) ((hd m b).mpr (Or.inr ⟨r, hr, hp, h⟩))
          rw [show m + 1 + (n - (m + 1)) = n by omega] at this
          exact Or.inl this
        · exact Or.inr ⟨r, hr, by rw [if_pos ((hF r).mpr ⟨c1, c2⟩)]; exact h⟩
    · rintro (h | ⟨r, hr, h⟩)
      · exact Or.inl h
      · by_cases c1 : x.testBit r = true
        · rw [if_pos c1] at h
          exact Or.inr ⟨r, hr, ((hF r).mp c1).1, h⟩
        · rw [if_neg c1, Nat.zero_testBit] at h
          cases h
  constructor
  · refine n_ext (fun b => Bool.eq_iff_iff.mpr ?_)
    rw [key b, Nat.testBit_or, sdf_bit]
    cases (rch tt s n).testBit b <;> simp
  · intro r
    rw [fsr_n, key r, sdf_bit]
    cases (rch tt s n).testBit r <;> simp
theorem Fp_end {tt : Nat → Nat} {s n : Nat} (hF : Fp tt s n 0) : ∃ j, j < n ∧ rch tt s (j + 1) = rch tt s j := by
  cases n with
  | zero =>
    have := (hF s).mpr ⟨Nat.testBit_two_pow_self, by omega⟩
    rw [Nat.zero_testBit] at this
    cases this
  | succ n =>
    refine ⟨n, by omega, n_ext (fun b => Bool.eq_iff_iff.mpr ⟨fun h => ?_, fun h => rch_mono tt s 1 n h⟩)⟩
    apply Classical.byContradiction
    intro hc
    have := (hF b).mpr ⟨h, fun h2 => hc (fsr_n.mp h2)⟩
    rw [Nat.zero_testBit] at this
    cases this
theorem stop_R {tt : Nat → Nat} (hW : HWf tt) {s : Nat} (hs : s < tt 1) : ∃ j, j < tt 1 ∧ rch tt s (j + 1) = rch tt s j := by
  have hro := hW.ro
  rcases rch_grow hW hs (tt 1) with h | h
  · exact h
  · have := pc_le_n (by omega) (rch_lt hW hs (tt 1))
    omega
theorem wn_end {tt : Nat → Nat} {s r n : Nat} (hn : n ≤ 16) (h : ∃ j, j < n ∧ rch tt s (j + 1) = rch tt s j) : (if fsr tt s r n < n then nI (fsr tt s r n) else nM) = if dst tt s r < 16 then nI (dst tt s r) else nM := by
  obtain ⟨j, hj, hst⟩ := h
  have no : ∀ L, L < dst tt s r → (rch tt s L).testBit r = false := fa_first_no (fun n => (rch tt s n).testBit r) 16
  have yes : dst tt s r < 16 → (rch tt s (dst tt s r)).testBit r = true := fa_first_yes (fun n => (rch tt s n).testBit r) 16
  have le : dst tt s r ≤ 16 := fa_first_le (fun n => (rch tt s n).testBit r) 16
  have no2 : ∀ L, L < fsr tt s r n → (rch tt s L).testBit r = false := fa_first_no (fun n => (rch tt s n).testBit r) n
  have yes2 : fsr tt s r n < n → (rch tt s (fsr tt s r n)).testBit r = true := fa_first_yes (fun n => (rch tt s n).testBit r) n
  have fl := fsr_lt (tt := tt) (s := s) (r := r) (n := n)
  generalize dst tt s r = d at *
  generalize fsr tt s r n = e at *
  by_cases c1 : e < n
  · have y2 := yes2 c1
    have h1 : d ≤ e := by
      apply Classical.byContradiction
      intro hc
      have := no e (by omega)
      rw [y2] at this
      cases this
    have h2 : e ≤ d := by
      apply Classical.byContradiction
      intro hc
      have := no2 d (by omega)
      rw [yes (by omega)] at this
      cases this
    have h3 : d = e := by omega
    rw [if_pos c1, if_pos (by omega), h3]
  · rw [if_neg c1, if_neg]
    intro hd
    have y := yes hd
    by_cases c2 : d < n
    · exact c1 (fl.mpr ⟨d, c2, y⟩)
    · have := rch_stop tt s hst (d - j)
      rw [show j + (d - j) = d by omega] at this
      rw [this] at y
      exact c1 (fl.mpr ⟨j, hj, y⟩)
def CHn (D : List xC) (q : Nat) (tt : Nat → Nat) (u l : Nat → Nat) (w : Nat → Int32) : Prop :=
  HC D q = some (.inr (3, [.int (nI (tt 0)), .int (nI (tt 1)), .int (nI (tt 6)), .int (nI (tt 2)), .int (nI (tt 3)), .int (nI (tt 4)), .int (nI (tt 5)), .ref (q + 1), .ref (q + 2), .ref (q + 3), .ref (q + 4), .ref (q + 5), .ref (q + 6), .ref (q + 7), .ref (q + 8), .ref (q + 9)])) ∧
  Ar D (q + 1) 240 (fun k => nI (tt (8 + k))) ∧ Ar D (q + 2) 8 (fun k => nI (tt (248 + k))) ∧ Ar D (q + 3) 120 (fun k => nI (tt (256 + k))) ∧ Ar D (q + 4) 40 (fun k => nI (tt (376 + k))) ∧ Ar D (q + 5) 16 (fun k => nI (tt (416 + k))) ∧ Ar D (q + 6) 16 (fun k => nI (tt (432 + k))) ∧ Ar D (q + 7) 16 (fun k => nI (u k)) ∧ Ar D (q + 8) 16 (fun k => nI (l k)) ∧ Ar D (q + 9) 256 w
def WS (A : Nat → Nat → Int32) (Z : Nat → Int32) (B : Nat → Nat → Int64) (Q : Nat → Int64) (P : Nat → Option Nat) (F : Nat → Nat → Option Nat) (q : Nat) (D0 : List xC) (c : Nat × Nat) (row : Nat → Nat) (f : Nat → Int32) (u l : Nat → Nat) (w : Nat → Int32) (h : xH) : Prop := ∃ D, h = HH A Z B Q P F q D c ∧ Pre D0 D ∧ RO D (77 + D0.length) f ∧ CHn D (77 + D0.length + 1) row u l w
section CWalk
variable {A : Nat → Nat → Int32} {Z : Nat → Int32} {B : Nat → Nat → Int64} {Q : Nat → Int64} {P : Nat → Option Nat} {F : Nat → Nat → Option Nat} {q : Nat} {D0 : List xC} {c : Nat × Nat} {row : Nat → Nat} {f : Nat → Int32} {h : xH} {u l : Nat → Nat} {w : Nat → Int32}
theorem WS_e {u' l' : Nat → Nat} {w' : Nat → Int32} (h1 : ∀ k, k < 16 → u k = u' k) (h2 : ∀ k, k < 16 → l k = l' k) (h3 : ∀ k, k < 256 → w k = w' k) (H : WS A Z B Q P F q D0 c row f u l w h) : WS A Z B Q P F q D0 c row f u' l' w' h := by
  obtain ⟨D, e, hp, hr, h0, a1, a2, a3, a4, a5, a6, ⟨g7, b7, e7⟩, ⟨g8, b8, e8⟩, ⟨g9, b9, e9⟩⟩ := H
  exact ⟨D, e, hp, hr, h0, a1, a2, a3, a4, a5, a6, ⟨g7, b7, fun k hk => by rw [e7 k hk]; show nI (u k) = nI (u' k); rw [h1 k hk]⟩, ⟨g8, b8, fun k hk => by rw [e8 k hk]; show nI (l k) = nI (l' k); rw [h2 k hk]⟩, ⟨g9, b9, fun k hk => by rw [e9 k hk]; exact h3 k hk⟩⟩
theorem WS.o (H : WS A Z B Q P F q D0 c row f u l w h) : ∃ x, gO h (77 + D0.length + 1) 3 = some x := by
  obtain ⟨D, rfl, hp, hr, h0, _⟩ := H
  exact ⟨_, gO_of (h := HH A Z B Q P F q D c) (HC_get h0)⟩
theorem WS.g (H : WS A Z B Q P F q D0 c row f u l w h) : gI h (77 + D0.length + 1) 3 1 = some (nI (row 1)) ∧ gI h (77 + D0.length + 1) 3 3 = some (nI (row 2)) := by
  obtain ⟨D, rfl, hp, hr, h0, _⟩ := H
  exact ⟨gI_of (h := HH A Z B Q P F q D c) (HC_get h0) rfl, gI_of (h := HH A Z B Q P F q D c) (HC_get h0) rfl⟩
theorem WS.r (H : WS A Z B Q P F q D0 c row f u l w h) : gR h (77 + D0.length + 1) 3 7 = some (77 + D0.length + 1 + 1) ∧ gR h (77 + D0.length + 1) 3 13 = some (77 + D0.length + 1 + 7) ∧ gR h (77 + D0.length + 1) 3 14 = some (77 + D0.length + 1 + 8) ∧ gR h (77 + D0.length + 1) 3 15 = some (77 + D0.length + 1 + 9) := by
  obtain ⟨D, rfl, hp, hr, h0, _⟩ := H
  exact ⟨gR_of (h := HH A Z B Q P F q D c) (HC_get h0) rfl, gR_of (h := HH A Z B Q P F q D c) (HC_get h0) rfl, gR_of (h := HH A Z B Q P F q D c) (HC_get h0) rfl, gR_of (h := HH A Z B Q P F q D c) (HC_get h0) rfl⟩
theorem WS.l1 (H : WS A Z B Q P F q D0 c row f u l w h) {k : Nat} (hk : k < 240) : ldI h .int (77 + D0.length + 1 + 1) (nI k) = some (nI (row (8 + k))) := by
  obtain ⟨D, rfl, hp, hr, h0, a1, _⟩ := H
  exact Ar_ld a1 hk (by decide)
theorem WS.l7 (H : WS A Z B Q P F q D0 c row f u l w h) {k : Nat} (hk : k < 16) : ldI h .int (77 + D0.length + 1 + 7) (nI k) = some (nI (u k)) := by
  obtain ⟨D, rfl, hp, hr, h0, a1, a2, a3, a4, a5, a6, a7, a8, a9⟩ := H
  exact Ar_ld a7 hk (by decide)
theorem WS.l8 (H : WS A Z B Q P F q D0 c row f u l w h) {k : Nat} (hk : k < 16) : ldI h .int (77 + D0.length + 1 + 8) (nI k) = some (nI (l k)) := by
  obtain ⟨D, rfl, hp, hr, h0, a1, a2, a3, a4, a5, a6, a7, a8, a9⟩ := H
  exact Ar_ld a8 hk (by decide)
theorem WS.p0 (H : WS A Z B Q P F q D0 c row f u l w h) {j : Nat} (hj : j < 60) : ldI h .int (77 + D0.length + 1 + 1) (nI (j * 4)) = some (nI (pF0 row j)) := by
  rw [H.l1 (by omega)]
  exact congrArg (fun k => some (nI (row k))) (by omega)
theorem WS.p1 (H : WS A Z B Q P F q D0 c row f u l w h) {j : Nat} (hj : j < 60) : ldI h .int (77 + D0.length + 1 + 1) (nI (j * 4 + 1)) = some (nI (pT0 row j)) := by
  rw [H.l1 (by omega)]
  exact congrArg (fun k => some (nI (row k))) (by omega)
theorem WS.p3 (H : WS A Z B Q P F q D0 c row f u l w h) {j : Nat} (hj : j < 60) : ldI h .int (77 + D0.length + 1 + 1) (nI (j * 4 + 3)) = some (nI (pB0 row j)) := by
  rw [H.l1 (by omega)]
  exact congrArg (fun k => some (nI (row k))) (by omega)
theorem WS.s7 (H : WS A Z B Q P F q D0 c row f u l w h) {k v : Nat} (hk : k < 16) : ∃ h', stI h .int (77 + D0.length + 1 + 7) (nI k) (nI v) = some h' ∧ WS A Z B Q P F q D0 c row f (va_up u k v) l w h' := by
  obtain ⟨D, rfl, hp, hr, h0, a1, a2, a3, a4, a5, a6, ⟨g, g1, g2⟩, a8, a9⟩ := H
  have d1 : DO (77 + D0.length + 1 + 7) D (D.set (77 + D0.length + 1 + 7 - 77) (.inl (.int, 16, .inl (va_up g k (nI v))))) := ⟨List.length_set, fun j hj => HC_ne (by omega) hj⟩
  refine ⟨_, by rw [stI_nI (h := HH A Z B Q P F q D c) (HC_get g1) (by decide) hk, LL_set (by omega)], _, rfl, hp.dO (by omega) d1, ⟨hr.1, by rw [d1.2 _ (by omega)]; exact hr.2⟩, by rw [d1.2 _ (by omega)]; exact h0, Ar_dO d1 (by omega) a1, Ar_dO d1 (by omega) a2, Ar_dO d1 (by omega) a3, Ar_dO d1 (by omega) a4, Ar_dO d1 (by omega) a5, Ar_dO d1 (by omega) a6, ⟨_, HC_se (by omega) g1, fun j hj => ?_⟩, Ar_dO d1 (by omega) a8, Ar_dO d1 (by omega) a9⟩
  show _ = nI (va_up u k v j)
  by_cases e : j = k
  · rw [e, y_vs, y_vs]
  · rw [y_vn e, y_vn e]; exact g2 j hj
theorem WS.s8 (H : WS A Z B Q P F q D0 c row f u l w h) {k v : Nat} (hk : k < 16) : ∃ h', stI h .int (77 + D0.length + 1 + 8) (nI k) (nI v) = some h' ∧ WS A Z B Q P F q D0 c row f u (va_up l k v) w h' := by
  obtain ⟨D, rfl, hp, hr, h0, a1, a2, a3, a4, a5, a6, a7, ⟨g, g1, g2⟩, a9⟩ := H
  have d1 : DO (77 + D0.length + 1 + 8) D (D.set (77 + D0.length + 1 + 8 - 77) (.inl (.int, 16, .inl (va_up g k (nI v))))) := ⟨List.length_set, fun j hj => HC_ne (by omega) hj⟩
  refine ⟨_, by rw [stI_nI (h := HH A Z B Q P F q D c) (HC_get g1) (by decide) hk, LL_set (by omega)], _, rfl, hp.dO (by omega) d1, ⟨hr.1, by rw [d1.2 _ (by omega)]; exact hr.2⟩, by rw [d1.2 _ (by omega)]; exact h0, Ar_dO d1 (by omega) a1, Ar_dO d1 (by omega) a2, Ar_dO d1 (by omega) a3, Ar_dO d1 (by omega) a4, Ar_dO d1 (by omega) a5, Ar_dO d1 (by omega) a6, Ar_dO d1 (by omega) a7, ⟨_, HC_se (by omega) g1, fun j hj => ?_⟩, Ar_dO d1 (by omega) a9⟩
  show _ = nI (va_up l k v j)
  by_cases e : j = k
  · rw [e, y_vs, y_vs]
  · rw [y_vn e, y_vn e]; exact g2 j hj
theorem WS.s9 (H : WS A Z B Q P F q D0 c row f u l w h) {k : Nat} {v : Int32} (hk : k < 256) : ∃ h', stI h .int (77 + D0.length + 1 + 9) (nI k) v = some h' ∧ WS A Z B Q P F q D0 c row f u l (va_up w k v) h' := by
  obtain ⟨D, rfl, hp, hr, h0, a1, a2, a3, a4, a5, a6, a7, a8, ⟨g, g1, g2⟩⟩ := H
  have d1 : DO (77 + D0.length + 1 + 9) D (D.set (77 + D0.length + 1 + 9 - 77) (.inl (.int, 256, .inl (va_up g k v)))) := ⟨List.length_set, fun j hj => HC_ne (by omega) hj⟩
  refine ⟨_, by rw [stI_nI (h := HH A Z B Q P F q D c) (HC_get g1) (by decide) hk, LL_set (by omega)], _, rfl, hp.dO (by omega) d1, ⟨hr.1, by rw [d1.2 _ (by omega)]; exact hr.2⟩, by rw [d1.2 _ (by omega)]; exact h0, Ar_dO d1 (by omega) a1, Ar_dO d1 (by omega) a2, Ar_dO d1 (by omega) a3, Ar_dO d1 (by omega) a4, Ar_dO d1 (by omega) a5, Ar_dO d1 (by omega) a6, Ar_dO d1 (by omega) a7, Ar_dO d1 (by omega) a8, ⟨_, HC_se (by omega) g1, fun j hj => ?_⟩⟩
  by_cases e : j = k
  · rw [e, y_vs, y_vs]
  · rw [y_vn e, y_vn e]; exact g2 j hj
theorem WS.join (H : WS A Z B Q P F q D0 c row f u l w h) {x y : Nat} (hx : x < 16) (hy : y < 16) : ∃ h', f_X3_join h (77 + D0.length + 1) (nI x) (nI y) = some h' ∧ WS A Z B Q P F q D0 c row f (va_up u y (u y ||| 2 ^ x)) (va_up l x (l x ||| 2 ^ y)) w h' := by
  obtain ⟨h1, e1, H1⟩ := H.s8 (k := x) (v := l x ||| 2 ^ y) hx
  obtain ⟨h2, e2, H2⟩ := H1.s7 (k := y) (v := u y ||| 2 ^ x) hy
  refine ⟨h2, ?_, H2⟩
  unfold f_X3_join
  rw [H.r.2.2.1, Option.bind_some, H.l8 hx, Option.bind_some, n_shl (by omega), fa_or, e1, Option.bind_some, H1.r.2.1, Option.bind_some, H1.l7 hy, Option.bind_some, n_shl (by omega), fa_or, e2, Option.bind_some]
theorem c_findNext (hW : HWf row) (H : WS A Z B Q P F q D0 c row f (fun _ => 0) (fun _ => 0) w h) : ∃ h', f_X3_findNext h (77 + D0.length + 1) = some h' ∧ WS A Z B Q P F q D0 c row f (nxt row) (ltt row) w h' := by
  have hro := hW.ro
  have hpa := hW.pa
  have key := loop_J (F := fun m j (h : xH) => f_X3_findNext_2 m h (77 + D0.length + 1) (nI j)) (N := row 2) some (fun j h => WS A Z B Q P F q D0 c row f (fun r => orf (nx1 row r) j) (fun r => orf (lt1 row r) j) w h) (fun m j h hj hh => ?_) (fun m h hh => ?_) (by omega) (s := h) H
  · obtain ⟨h', e, hp⟩ := key
    exact ⟨h', e, hp⟩
  · obtain ⟨p1, p2, p3, p4, p5, p6⟩ := hW.pane hj
    have hj6 : j < 60 := by omega
    obtain ⟨h1, e1, H1⟩ := hh.join (x := pF0 row j) (y := pT0 row j) (by omega) (by omega)
    obtain ⟨h2, e2, H2⟩ := H1.join (x := pT0 row j) (y := pF0 row j) (by omega) (by omega)
    obtain ⟨_, ho⟩ := hh.o
    obtain ⟨_, ho1⟩ := H1.o
    have es : f_X3_findNext_2 (m + 1) h (77 + D0.length + 1) (nI j) = if nI (pB0 row j) = (1 : Int32) then f_X3_findNext_2 m h2 (77 + D0.length + 1) (nI (j + 1)) else f_X3_findNext_2 m h1 (77 + D0.length + 1) (nI (j + 1)) := by
      rw [f_X3_findNext_2, hh.g.2, Option.bind_some, if_neg (by rw [y_le (by omega) (by omega)]; omega), hh.r.1, Option.bind_some, show nI j * (4 : Int32) = nI (j * 4) from pk_mul .., show nI (j * 4) + (1 : Int32) = nI (j * 4 + 1) from nI_1 .., show nI (j * 4) + (3 : Int32) = nI (j * 4 + 3) from nI_add .., show nI j + (1 : Int32) = nI (j + 1) from nI_1 .., hh.p0 hj6, Option.bind_some, Option.bind_some, hh.p1 hj6, Option.bind_some, ho, Option.bind_some, e1, Option.bind_some, H1.r.1, Option.bind_some, H1.p3 hj6, Option.bind_some, Option.bind_some, H1.p1 hj6, Option.bind_some, Option.bind_some, H1.p0 hj6, Option.bind_some, ho1, Option.bind_some, e2, Option.bind_some]
    have n1 : ∀ r, orf (nx1 row r) (j + 1) = orf (nx1 row r) j ||| ((if pT0 row j = r then 2 ^ pF0 row j else 0) ||| (if pB0 row j = 1 ∧ pF0 row j = r then 2 ^ pT0 row j else 0)) := fun r => rfl
    have n2 : ∀ r, orf (lt1 row r) (j + 1) = orf (lt1 row r) j ||| ((if pF0 row j = r then 2 ^ pT0 row j else 0) ||| (if pB0 row j = 1 ∧ pT0 row j = r then 2 ^ pF0 row j else 0)) := fun r => rfl
    generalize pF0 row j = x at *
    generalize pT0 row j = y at *
    generalize pB0 row j = z at *
    by_cases c1 : z = 1
    · refine ⟨h2, es.trans (if_pos (by rw [c1]; rfl)), WS_e (fun r hr => ?_) (fun r hr => ?_) (fun k hk => rfl) H2⟩
      · rw [n1 r]
        by_cases r1 : r = x
        · subst r1
          rw [y_vs, y_vn p3, if_neg (fun e => p3 e.symm), if_pos ⟨c1, rfl⟩, Nat.zero_or]
        · rw [y_vn r1, if_neg (c := z = 1 ∧ x = r) (fun e => r1 e.2.symm), Nat.or_zero]
          by_cases r2 : r = y
          · subst r2
            rw [y_vs, if_pos rfl]
          · rw [y_vn r2, if_neg (fun e => r2 e.symm), Nat.or_zero]
      · rw [n2 r]
        by_cases r1 : r = y
        · subst r1
          rw [y_vs, y_vn (fun e => p3 e.symm), if_neg p3, if_pos ⟨c1, rfl⟩, Nat.zero_or]
        · rw [y_vn r1, if_neg (c := z = 1 ∧ y = r) (fun e => r1 e.2.symm), Nat.or_zero]
          by_cases r2 : r = x
          · subst r2
            rw [y_vs, if_pos rfl]
          · rw [y_vn r2, if_neg (fun e => r2 e.symm), Nat.or_zero]
    · refine ⟨h1, es.trans (if_neg (by rw [show (1 : Int32) = nI 1 from rfl, y_eq (by omega) (by omega)]; exact c1)), WS_e (fun r hr => ?_) (fun r hr => ?_) (fun k hk => rfl) H1⟩
      · rw [n1 r, if_neg (c := z = 1 ∧ x = r) (fun e => c1 e.1), Nat.or_zero]
        by_cases r2 : r = y
        · subst r2
          rw [y_vs, if_pos rfl]
        · rw [y_vn r2, if_neg (fun e => r2 e.symm), Nat.or_zero]
      · rw [n2 r, if_neg (c := z = 1 ∧ y = r) (fun e => c1 e.1), Nat.or_zero]
        by_cases r2 : r = x
        · subst r2
          rw [y_vs, if_pos rfl]
        · rw [y_vn r2, if_neg (fun e => r2 e.symm), Nat.or_zero]
  · show f_X3_findNext_2 (m + 1) h (77 + D0.length + 1) (nI (row 2)) = _
    rw [f_X3_findNext_2, hh.g.2, Option.bind_some, if_pos (Int32.le_refl _)]
theorem onf_lt (hW : HWf row) (x n : Nat) : onf row x n < 65536 := Nat.lt_of_lt_of_le (orf_lt (fun r _ => by
  split
  · exact n_or_lt (nxt_lt hW r) (ltt_lt hW r)
  · exact Nat.two_pow_pos _)) (pw16 hW.ro)
theorem c_w38 (hW : HWf row) {s n x e : Nat} (hs : s < row 1) (hx : x < 65536) (hn : n < 16) (he : e < 65536) (k2 : xH → Nat → Int32 → Option xH) (k19 : xH → Nat → Int32 → Int32 → Int32 → Int32 → Option xH) (H : WS A Z B Q P F q D0 c row f (nxt row) (ltt row) w h) : ∃ h', f_X3_findWalks_38 k2 k19 xFU h (77 + D0.length + 1) (nI s) (nI e) (nI x) (nI n) (nI 0) (nI 0) = k19 h' (77 + D0.length + 1) (nI s) (nI (e ||| sdf (onf row x (row 1)) e)) (nI (sdf (onf row x (row 1)) e)) (nI (n + 1)) ∧ WS A Z B Q P F q D0 c row f (nxt row) (ltt row) (fun k => if (s * 16 ≤ k ∧ k < s * 16 + row 1) ∧ x.testBit (k - s * 16) = true then nI n else w k) h' := by
  have hro := hW.ro
  have key := loop_J (F := fun m j (h : xH) => f_X3_findWalks_38 k2 k19 m h (77 + D0.length + 1) (nI s) (nI e) (nI x) (nI n) (nI (onf row x j)) (nI j)) (N := row 1) (fun h' => k19 h' (77 + D0.length + 1) (nI s) (nI (e ||| sdf (onf row x (row 1)) e)) (nI (sdf (onf row x (row 1)) e)) (nI (n + 1))) (fun j h => WS A Z B Q P F q D0 c row f (nxt row) (ltt row) (fun k => if (s * 16 ≤ k ∧ k < s * 16 + j) ∧ x.testBit (k - s * 16) = true then nI n else w k) h) (fun m j h hj hh => ?_) (fun m h hh => ?_) (by omega) (s := h) (WS_e (fun k _ => rfl) (fun k _ => rfl) (fun k _ => by rw [if_neg (by omega)]) H)
  · obtain ⟨h', e, hp⟩ := key
    exact ⟨h', e, hp⟩
  · have hb : ((nI x >>> (nI j &&& 31)) &&& (1 : Int32) = 0) ↔ x.testBit j = false := n_bit0 (by omega) (by omega)
    have hon : onf row x (j + 1) = onf row x j ||| (if x.testBit j = true then nxt row j ||| ltt row j else 0) := rfl
    have hlt : ¬ nI (row 1) ≤ nI j := by rw [y_le (by omega) (by omega)]; omega
    by_cases c1 : x.testBit j = true
    · obtain ⟨h1, e1, H1⟩ := hh.s9 (k := s * 16 + j) (v := nI n) (by omega)
      refine ⟨h1, ?_, WS_e (fun k _ => rfl) (fun k _ => rfl) (fun k hk => ?_) H1⟩
      · show f_X3_findWalks_38 k2 k19 (m + 1) h (77 + D0.length + 1) (nI s) (nI e) (nI x) (nI n) (nI (onf row x j)) (nI j) = f_X3_findWalks_38 k2 k19 m h1 (77 + D0.length + 1) (nI s) (nI e) (nI x) (nI n) (nI (onf row x (j + 1))) (nI (j + 1))
        rw [f_X3_findWalks_38, hh.g.1, Option.bind_some, if_neg hlt, if_neg (fun h => by rw [hb.mp h] at c1; cases c1), hh.r.2.2.2, Option.bind_some, show nI s * (16 : Int32) = nI (s * 16) from pk_mul .., nI_add, e1, Option.bind_some, H1.r.2.1, Option.bind_some, H1.l7 (by omega), Option.bind_some, H1.r.2.2.1, Option.bind_some, H1.l8 (by omega), Option.bind_some, fa_or, fa_or, show nI j + (1 : Int32) = nI (j + 1) from nI_1 .., hon, if_pos c1]
      · by_cases ek : k = s * 16 + j
        · rw [ek, y_vs, if_pos ⟨by omega, by rw [Nat.add_sub_cancel_left]; exact c1⟩]
        · rw [y_vn ek]
          by_cases e2 : (s * 16 ≤ k ∧ k < s * 16 + j) ∧ x.testBit (k - s * 16) = true
          · rw [if_pos e2, if_pos ⟨by omega, e2.2⟩]
          · rw [if_neg e2, if_neg (fun h3 => e2 ⟨by omega, h3.2⟩)]
    · refine ⟨h, ?_, WS_e (fun k _ => rfl) (fun k _ => rfl) (fun k hk => ?_) hh⟩
      · show f_X3_findWalks_38 k2 k19 (m + 1) h (77 + D0.length + 1) (nI s) (nI e) (nI x) (nI n) (nI (onf row x j)) (nI j) = f_X3_findWalks_38 k2 k19 m h (77 + D0.length + 1) (nI s) (nI e) (nI x) (nI n) (nI (onf row x (j + 1))) (nI (j + 1))
        rw [f_X3_findWalks_38, hh.g.1, Option.bind_some, if_neg hlt, if_pos (hb.mpr (by cases h : x.testBit j; rfl; exact absurd h c1)), show nI j + (1 : Int32) = nI (j + 1) from nI_1 .., hon, if_neg c1, Nat.or_zero]
      · by_cases e2 : (s * 16 ≤ k ∧ k < s * 16 + j) ∧ x.testBit (k - s * 16) = true
        · rw [if_pos e2, if_pos ⟨by omega, e2.2⟩]
        · rw [if_neg e2, if_neg (fun h3 => by
            by_cases ek : k = s * 16 + j
            · rw [ek, Nat.add_sub_cancel_left] at h3
              exact c1 h3.2
            · exact e2 ⟨by omega, h3.2⟩)]
  · show f_X3_findWalks_38 k2 k19 (m + 1) h (77 + D0.length + 1) (nI s) (nI e) (nI x) (nI n) (nI (onf row x (row 1))) (nI (row 1)) = _
    have := onf_lt hW x (row 1)
    rw [f_X3_findWalks_38, hh.g.1, Option.bind_some, if_pos (Int32.le_refl _), show nI (onf row x (row 1)) &&& (nI e ^^^ (-1 : Int32)) = nI (sdf (onf row x (row 1)) e) from y_sdf (by omega), fa_or, show nI n + (1 : Int32) = nI (n + 1) from nI_1 ..]
def wI (row : Nat → Nat) (s i : Nat) : Nat → Int32 := fun k => if k / 16 < s then wv row k else if k / 16 = s then (if fsr row s (k % 16) i < i then nI (fsr row s (k % 16) i) else nM) else nM
def wO (row : Nat → Nat) (s : Nat) : Nat → Int32 := fun k => if k / 16 < s then wv row k else nM
theorem wI_end (hW : HWf row) {s n k : Nat} (hs : s < row 1) (hn : n ≤ 16) (h : ∃ j, j < n ∧ rch row s (j + 1) = rch row s j) : wI row s n k = wO row (s + 1) k := by
  unfold wI wO
  by_cases c1 : k / 16 < s
  · rw [if_pos c1, if_pos (by omega)]
  · rw [if_neg c1]
    by_cases c2 : k / 16 = s
    · rw [if_pos c2, if_pos (c := k / 16 < s + 1) (by omega), wn_end hn h]
      unfold wv
      rw [c2]
      by_cases c3 : dst row s (k % 16) < 16
      · rw [if_pos c3, if_pos ⟨hs, c3⟩]
      · rw [if_neg c3, if_neg (fun h => c3 h.2)]
    · rw [if_neg c2, if_neg (by omega)]
theorem wI_s (hW : HWf row) {s i x k : Nat} (hs : s < row 1) (hF : Fp row s i x) : (if (s * 16 ≤ k ∧ k < s * 16 + row 1) ∧ x.testBit (k - s * 16) = true then nI i else wI row s i k) = wI row s (i + 1) k := by
  have hro := hW.ro
  unfold wI
  by_cases c1 : k / 16 < s
  · rw [if_neg (by omega), if_pos c1, if_pos c1]
  · rw [if_neg c1, if_neg c1]
    by_cases c2 : k / 16 = s
    · rw [if_pos c2, if_pos c2, show k - s * 16 = k % 16 by omega]
      have hx := hF (k % 16)
      have hlt : (rch row s i).testBit (k % 16) = true → k % 16 < row 1 := fun h => by
        apply Classical.byContradiction
        intro hc
        rw [n_lt_bits (rch_lt hW hs i) (by omega)] at h
        cases h
      have hf : fsr row s (k % 16) (i + 1) = if fsr row s (k % 16) i < i then fsr row s (k % 16) i else if (rch row s i).testBit (k % 16) = true then i else i + 1 := rfl
      have hn := fsr_n (tt := row) (s := s) (r := k % 16) (n := i)
      have hkr : k = s * 16 + k % 16 := by omega
      generalize k % 16 = r at *
      by_cases c3 : fsr row s r i < i
      · rw [if_pos c3] at hf
        rw [if_neg (fun h => (hx.mp h.2).2 c3), if_pos c3, hf, if_pos (by omega)]
      · rw [if_neg c3] at hf
        by_cases c4 : (rch row s i).testBit r = true
        · have := hlt c4
          rw [if_pos c4] at hf
          rw [if_pos ⟨by omega, hx.mpr ⟨c4, c3⟩⟩, hf, if_pos (by omega)]
        · rw [if_neg c4] at hf
          rw [if_neg (fun h => c4 (hx.mp h.2).1), if_neg c3, hf, if_neg (by omega)]
    · rw [if_neg c2, if_neg c2, if_neg (by omega)]
theorem c_w19 (hW : HWf row) {s : Nat} (hs : s < row 1) (k2 : xH → Nat → Int32 → Option xH) (H : WS A Z B Q P F q D0 c row f (nxt row) (ltt row) (wO row s) h) : ∃ h', f_X3_findWalks_19 k2 xFU h (77 + D0.length + 1) (nI s) (nI (2 ^ s)) (nI (2 ^ s)) (nI 0) = k2 h' (77 + D0.length + 1) (nI (s + 1)) ∧ WS A Z B Q P F q D0 c row f (nxt row) (ltt row) (wO row (s + 1)) h' := by
  have hro := hW.ro
  have hps := n_pwl (m := 15) (k := s) (by omega)
  have key := loop_I (F := fun m j (t : xH × Nat × Nat) => f_X3_findWalks_19 k2 m t.1 (77 + D0.length + 1) (nI s) (nI t.2.1) (nI t.2.2) (nI j)) (N := row 1) (fun h' => k2 h' (77 + D0.length + 1) (nI (s + 1))) (fun j t => WS A Z B Q P F q D0 c row f (nxt row) (ltt row) (wI row s j) t.1 ∧ t.2.1 = rch row s j ∧ Fp row s j t.2.2 ∧ t.2.2 < 65536) (fun h' => WS A Z B Q P F q D0 c row f (nxt row) (ltt row) (wO row (s + 1)) h') (fun m j t hj hh => ?_) (fun m t hh => ?_) (by omega) (s := (h, 2 ^ s, 2 ^ s)) ⟨WS_e (fun k _ => rfl) (fun k _ => rfl) (fun k _ => ?_) H, rfl, Fp_0, (show 2 ^ s < 65536 by omega)⟩
  · obtain ⟨h', e, hp⟩ := key
    exact ⟨h', e, hp⟩
  · obtain ⟨h, e, x⟩ := t
    obtain ⟨hh, he, hF, hx⟩ := hh
    dsimp only at hh he hF hx ⊢
    have hlt : ¬ nI (row 1) ≤ nI j := by rw [y_le (by omega) (by omega)]; omega
    by_cases c1 : x = 0
    · right
      refine ⟨h, ?_, WS_e (fun k _ => rfl) (fun k _ => rfl) (fun k _ => wI_end hW hs (by omega) (Fp_end (c1 ▸ hF))) hh⟩
      rw [f_X3_findWalks_19, hh.g.1, Option.bind_some, if_neg hlt, if_pos (by rw [c1]; rfl), show nI s + (1 : Int32) = nI (s + 1) from nI_1 ..]
    · left
      have hle := Nat.lt_of_lt_of_le (rch_lt hW hs j) (pw16 hro)
      obtain ⟨h1, e1, H1⟩ := c_w38 hW (n := j) (e := e) hs hx (by omega) (by omega) k2 (f_X3_findWalks_19 k2 m) hh
      obtain ⟨f1, f2⟩ := Fp_s hF
      have hon := onf_lt hW x (row 1)
      rw [he, f1] at e1
      refine ⟨(h1, _, _), ?_, WS_e (fun k _ => rfl) (fun k _ => rfl) (fun k _ => wI_s hW hs hF) H1, rfl, f2, ?_⟩
      · rw [f_X3_findWalks_19, hh.g.1, Option.bind_some, if_neg hlt, if_neg (by rw [show (0 : Int32) = nI 0 from rfl, y_eq (by omega) (by omega)]; exact c1), he]
        exact e1
      · exact Nat.lt_of_lt_of_le (sdf_lt (k := 16) (by omega)) (Nat.le_refl _)
  · obtain ⟨h, e, x⟩ := t
    obtain ⟨hh, he, hF, hx⟩ := hh
    dsimp only at hh he hF hx ⊢
    refine ⟨h, ?_, WS_e (fun k _ => rfl) (fun k _ => rfl) (fun k _ => wI_end hW hs (by omega) (stop_R hW hs)) hh⟩
    rw [f_X3_findWalks_19, hh.g.1, Option.bind_some, if_pos (Int32.le_refl _), show nI s + (1 : Int32) = nI (s + 1) from nI_1 ..]
  · unfold wI wO
    by_cases c1 : k / 16 < s
    · rw [if_pos c1, if_pos c1]
    · rw [if_neg c1, if_neg c1, if_neg (c := fsr row s (k % 16) 0 < 0) (by omega), ite_self]
theorem c_findWalks (hW : HWf row) (H : WS A Z B Q P F q D0 c row f (nxt row) (ltt row) (fun _ => nM) h) : ∃ h', f_X3_findWalks h (77 + D0.length + 1) = some h' ∧ WS A Z B Q P F q D0 c row f (nxt row) (ltt row) (wv row) h' := by
  have hro := hW.ro
  have key := loop_J (F := fun m j (h : xH) => f_X3_findWalks_2 m h (77 + D0.length + 1) (nI j)) (N := row 1) some (fun j h => WS A Z B Q P F q D0 c row f (nxt row) (ltt row) (wO row j) h) (fun m j h hj hh => ?_) (fun m h hh => ?_) (by omega) (s := h) (WS_e (fun k _ => rfl) (fun k _ => rfl) (fun k _ => by unfold wO; rw [if_neg (by omega)]) H)
  · obtain ⟨h', e, hp⟩ := key
    refine ⟨h', e, WS_e (fun k _ => rfl) (fun k _ => rfl) (fun k _ => ?_) hp⟩
    unfold wO
    by_cases c1 : k / 16 < row 1
    · rw [if_pos c1]
    · rw [if_neg c1]
      unfold wv
      rw [if_neg (fun h => c1 h.1)]
  · obtain ⟨h1, e1, H1⟩ := c_w19 hW hj (f_X3_findWalks_2 m) hh
    refine ⟨h1, ?_, H1⟩
    show f_X3_findWalks_2 (m + 1) h (77 + D0.length + 1) (nI j) = _
    rw [f_X3_findWalks_2, hh.g.1, Option.bind_some, if_neg (by rw [y_le (by omega) (by omega)]; omega), n_shl (by omega)]
    exact e1
  · show f_X3_findWalks_2 (m + 1) h (77 + D0.length + 1) (nI (row 1)) = _
    rw [f_X3_findWalks_2, hh.g.1, Option.bind_some, if_pos (Int32.le_refl _)]
end CWalk
