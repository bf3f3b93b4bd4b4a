/-! ===== round: the class's search ===== -/
theorem pig : ∀ (M m : Nat) (f : Nat → Nat), (∀ i, i < m → f i < M) → (∀ i j, i < j → j < m → f i ≠ f j) → m ≤ M := by
  intro M
  induction M with
  | zero =>
    intro m f h1 _
    rcases Nat.eq_zero_or_pos m with e | e
    · omega
    · exact absurd (h1 0 e) (Nat.not_lt_zero _)
  | succ M ih =>
    intro m f h1 h2
    by_cases hx : ∃ i, i < m ∧ f i = M
    · obtain ⟨i0, hi0, hf⟩ := hx
      have := ih (m - 1) (fun i => if i < i0 then f i else f (i + 1)) (fun i hi => by
        try dsimp only
        split
        · rename_i h
          have a := h1 i (by omega)
          have b := h2 i i0 h hi0
          omega
        · rename_i h
          have a := h1 (i + 1) (by omega)
          have b := h2 i0 (i + 1) (by omega) (by omega)
          omega) (fun i j hij hj => by
        try dsimp only
        split
        · split
          · exact h2 i j hij (by omega)
          · exact h2 i (j + 1) (by omega) (by omega)
        · rw [if_neg (by omega)]
          exact h2 (i + 1) (j + 1) (by omega) (by omega))
      omega
    · have := ih m f (fun i hi => by
        have a := h1 i hi
        have b : f i ≠ M := fun e => hx ⟨i, hi, e⟩
        omega) h2
      omega
/-- the queue while I is being done, rooms below t -/
def QT (tt : Nat → Nat) (s : Nat) (qL qr par : Nat → Nat) (m I t : Nat) : Prop :=
  (0 < m ∧ qL 0 = ltt tt s ∧ qr 0 = s) ∧ (∀ i, i < m → qL i < 2 ^ tt 1 ∧ qr i < tt 1) ∧ (∀ i, 0 < i → par i < i) ∧ (∀ i, 0 < i → i < m → par i ≤ I ∧ (par i = I → qr i < t) ∧ adj tt (qr (par i)) (qr i) = true ∧ qL i = qL (par i) ||| ltt tt (qr i)) ∧ (∀ i j, 0 < i → i < j → j < m → par i ≤ par j ∧ (par i = par j → qr i < qr j)) ∧ (∀ i j, i < j → j < m → ¬ (qL i = qL j ∧ qr i = qr j)) ∧ ∀ a o, (a < I ∨ (a = I ∧ o < t)) → adj tt (qr a) o = true → ∃ i, i < m ∧ qL i = qL a ||| ltt tt o ∧ qr i = o ∧ (0 < i → par i ≤ a)
section RBfs
variable {tt : Nat → Nat} {s m I t : Nat} {qL qr par : Nat → Nat}
theorem QT_QI (H : QT tt s qL qr par m I 0) : QI tt s qL qr par m I := by
  obtain ⟨h1, h2, h3, h4, h5, h6, h7⟩ := H
  refine ⟨h1, h2, h3, fun i hi hm => ?_, h5, h6, fun a o ha => h7 a o (Or.inl ha)⟩
  obtain ⟨a1, a2, a3, a4⟩ := h4 i hi hm
  refine ⟨?_, a3, a4⟩
  rcases Nat.lt_or_eq_of_le a1 with e | e
  · exact e
  · exact absurd (a2 e) (Nat.not_lt_zero _)
theorem QT_next (hW : HWf tt) (H : QT tt s qL qr par m I (tt 1)) : QT tt s qL qr par m (I + 1) 0 := by
  obtain ⟨h1, h2, h3, h4, h5, h6, h7⟩ := H
  refine ⟨h1, h2, h3, fun i hi hm => ?_, h5, h6, fun a o ha hadj => ?_⟩
  · obtain ⟨a1, a2, a3, a4⟩ := h4 i hi hm
    exact ⟨by omega, fun e => by omega, a3, a4⟩
  · refine h7 a o ?_ hadj
    have := adj_lt hW hadj
    omega
theorem QT_old (H : QT tt s qL qr par m I t) (hx : adj tt (qr I) t = true → ∃ i, i < m ∧ qL i = qL I ||| ltt tt t ∧ qr i = t) : QT tt s qL qr par m I (t + 1) := by
  obtain ⟨h1, h2, h3, h4, h5, h6, h7⟩ := H
  refine ⟨h1, h2, h3, fun i hi hm => ?_, h5, h6, fun a o ha hadj => ?_⟩
  · obtain ⟨a1, a2, a3, a4⟩ := h4 i hi hm
    exact ⟨a1, fun e => by have := a2 e; omega, a3, a4⟩
  · by_cases e : a = I ∧ o = t
    · obtain ⟨e1, e2⟩ := e
      subst e1 e2
      obtain ⟨i, b1, b2, b3⟩ := hx hadj
      exact ⟨i, b1, b2, b3, fun hi => (h4 i hi b1).1⟩
    · exact h7 a o (by omega) hadj
theorem QT_new (hW : HWf tt) (H : QT tt s qL qr par m I t) (hI : I < m) (ht : t < tt 1) (hadj : adj tt (qr I) t = true) (hn : ∀ i, i < m → ¬ (qL i = qL I ||| ltt tt t ∧ qr i = t)) : QT tt s (va_up qL m (qL I ||| ltt tt t)) (va_up qr m t) (va_up par m I) (m + 1) I (t + 1) := by
  obtain ⟨h1, h2, h3, h4, h5, h6, h7⟩ := H
  have eL : ∀ i, i < m → va_up qL m (qL I ||| ltt tt t) i = qL i := fun i hi => y_vn (by omega)
  have er : ∀ i, i < m → va_up qr m t i = qr i := fun i hi => y_vn (by omega)
  have ep : ∀ i, i < m → va_up par m I i = par i := fun i hi => y_vn (by omega)
  have eLm : va_up qL m (qL I ||| ltt tt t) m = qL I ||| ltt tt t := y_vs
  have erm : va_up qr m t m = t := y_vs
  have epm : va_up par m I m = I := y_vs
  refine ⟨⟨by omega, by rw [eL 0 h1.1]; exact h1.2.1, by rw [er 0 h1.1]; exact h1.2.2⟩, fun i hi => ?_, fun i hi => ?_, fun i hi hm => ?_, fun i j hi hij hj => ?_, fun i j hij hj => ?_, fun a o ha hao => ?_⟩
  · by_cases e : i = m
    · subst e; rw [eLm, erm]; exact ⟨n_or_lt (h2 I hI).1 (ltt_lt hW t), ht⟩
    · rw [eL i (by omega), er i (by omega)]; exact h2 i (by omega)
  · by_cases e : i = m
    · subst e; rw [epm]; exact hI
    · rw [show va_up par m I i = par i from y_vn e]; exact h3 i hi
  · by_cases e : i = m
    · subst e
      rw [epm, erm, eLm, er I hI, eL I hI]
      exact ⟨Nat.le_refl _, fun _ => by omega, hadj, rfl⟩
    · have hp := h3 i hi
      rw [ep i (by omega), er i (by omega), eL i (by omega), er (par i) (by omega), eL (par i) (by omega)]
      obtain ⟨a1, a2, a3, a4⟩ := h4 i hi (by omega)
      exact ⟨a1, fun e => by have := a2 e; omega, a3, a4⟩
  · rw [ep i (by omega), er i (by omega)]
    by_cases e : j = m
    · subst e
      rw [epm, erm]
      obtain ⟨a1, a2, _⟩ := h4 i hi (by omega)
      exact ⟨a1, fun e => a2 e⟩
    · rw [ep j (by omega), er j (by omega)]
      exact h5 i j hi hij (by omega)
  · rw [eL i (by omega), er i (by omega)]
    by_cases e : j = m
    · subst e
      rw [eLm, erm]
      exact hn i (by omega)
    · rw [eL j (by omega), er j (by omega)]
      exact h6 i j hij (by omega)
  · have haI : a < m := by omega
    rw [er a haI] at hao
    rw [eL a haI]
    by_cases e : a = I ∧ o = t
    · obtain ⟨e1, e2⟩ := e
      subst e1 e2
      exact ⟨m, by omega, eLm, erm, fun _ => by rw [epm]; exact Nat.le_refl _⟩
    · obtain ⟨i, b1, b2, b3, b4⟩ := h7 a o (by omega) hao
      exact ⟨i, by omega, by rw [eL i b1]; exact b2, by rw [er i b1]; exact b3, fun hi => by rw [ep i b1]; exact b4 hi⟩
/-- the rows of the search, by the queue -/
def AQ (R : Nat) (qL qr par : Nat → Nat) (m : Nat) (af qf : Nat → Int32) : Prop := par 0 = 0 ∧ (∀ i, i < m → qf i = nI (qL i * R + qr i) ∧ af (qL i * R + qr i) = nI (par i + 1)) ∧ ∀ x, x < R * 2 ^ R → (∀ i, i < m → x ≠ qL i * R + qr i) → af x = nI 0
theorem cd_lt {R n L r : Nat} (hn : n ≤ R) (hL : L < 2 ^ n) (hr : r < n) : L * R + r < R * 2 ^ R := by
  have h1 : 2 ^ n ≤ 2 ^ R := Nat.pow_le_pow_right (by decide) hn
  have h2 : (L + 1) * R ≤ 2 ^ R * R := Nat.mul_le_mul_right _ (by omega)
  rw [Nat.mul_comm R (2 ^ R)]
  rw [Nat.add_mul, Nat.one_mul] at h2
  omega
theorem cd_inj {R n L r L2 r2 : Nat} (hn : n ≤ R) (hr : r < n) (hr2 : r2 < n) : L * R + r = L2 * R + r2 ↔ L = L2 ∧ r = r2 := by
  have hR : 0 < R := by omega
  constructor
  · intro h
    have h1 := congrArg (fun x => x / R) h
    have h2 := congrArg (fun x => x % R) h
    try dsimp only at h1 h2
    rw [Nat.mul_comm L R, Nat.mul_comm L2 R, Nat.mul_add_div hR, Nat.mul_add_div hR, Nat.div_eq_of_lt (by omega), Nat.div_eq_of_lt (by omega)] at h1
    rw [Nat.mul_comm L R, Nat.mul_comm L2 R, Nat.mul_add_mod, Nat.mul_add_mod, Nat.mod_eq_of_lt (by omega), Nat.mod_eq_of_lt (by omega)] at h2
    exact ⟨by omega, h2⟩
  · rintro ⟨rfl, rfl⟩; rfl
theorem cd_dm {R n L r : Nat} (hn : n ≤ R) (hr : r < n) : (L * R + r) / R = L ∧ (L * R + r) % R = r := by
  have hR : 0 < R := by omega
  rw [Nat.mul_comm L R, Nat.mul_add_div hR, Nat.mul_add_mod, Nat.div_eq_of_lt (by omega), Nat.mod_eq_of_lt (by omega)]
  exact ⟨by omega, rfl⟩
theorem QT_room {R : Nat} (hn : tt 1 ≤ R) (H : QT tt s qL qr par m I t) : m ≤ R * 2 ^ R := by
  obtain ⟨h1, h2, h3, h4, h5, h6, h7⟩ := H
  refine pig (R * 2 ^ R) m (fun i => qL i * R + qr i) (fun i hi => cd_lt hn (h2 i hi).1 (h2 i hi).2) (fun i j hij hj h => ?_)
  have := (cd_inj hn (h2 i (by omega)).2 (h2 j hj).2).mp h
  exact h6 i j hij hj this
variable {A : Nat → Nat → Int32} {Z : Nat → Int32} {B : Nat → Nat → Int64} {Q : Nat → Int64} {P : Nat → Option Nat} {F : Nat → Nat → Option Nat} {q q' : Nat} {D : List xC} {c : Nat × Nat} {K : Nat → Nat} {R a : Nat} {pf : Nat → Int32} {wl : List Value}
/-- the search at hand -/
def QS (wl : List Value) (tt : Nat → Nat) (s R a : Nat) (D0 D : List xC) (pf : Nat → Int32) (m I t : Nat) (qL qr par : Nat → Nat) : Prop := ∃ af qf, DR a D0 D ∧ RD wl D a R pf af qf m ∧ QT tt s qL qr par m I t ∧ AQ R qL qr par m af qf
theorem c_sf120 (hW : HWf tt) (hn : tt 1 ≤ R) (hR : R ≤ 12) (hK : ∀ j, j < 4 → K (a + j) = 5) (H : Hs K D q tt) {D1 : List xC} (hI : I < m) (hQ : QS wl tt s R a D D1 pf m I 0 qL qr par) (goal : Int32) (k44 : xH → Nat → Nat → Int32 → Int32 → Option (Int32 × xH)) : ∃ D2 m2 qL2 qr2 par2, f_X8_search_120 k44 xFU (HH A Z B Q P F q' D1 c) a q goal (nI I) (nI (qL I)) (nI (nxt tt (qr I) ||| ltt tt (qr I))) (nI 0) = k44 (HH A Z B Q P F q' D2 c) a q goal (nI (I + 1)) ∧ QS wl tt s R a D D2 pf m2 (I + 1) 0 qL2 qr2 par2 := by
  have hro := hW.ro
  have hmm := rm_le hR
  have key := loop_J (F := fun n j (h : xH) => f_X8_search_120 k44 n h a q goal (nI I) (nI (qL I)) (nI (nxt tt (qr I) ||| ltt tt (qr I))) (nI j)) (N := tt 1) (fun h => k44 h a q goal (nI (I + 1))) (fun j h => ∃ D2 m2 qL2 qr2 par2, h = HH A Z B Q P F q' D2 c ∧ QS wl tt s R a D D2 pf m2 I j qL2 qr2 par2 ∧ I < m2 ∧ qL2 I = qL I ∧ qr2 I = qr I) (fun n j h hj hh => ?_) (fun n h hh => ?_) (by omega) (s := HH A Z B Q P F q' D1 c) ⟨D1, m, qL, qr, par, rfl, hQ, hI, rfl, rfl⟩
  · obtain ⟨h, e1, D2, m2, qL2, qr2, par2, rfl, ⟨af, qf, d1, r1, t1, a1⟩, _⟩ := key
    exact ⟨D2, m2, qL2, qr2, par2, e1, af, qf, d1, r1, QT_next hW t1, a1⟩
  · obtain ⟨D2, m2, qL2, qr2, par2, rfl, ⟨af, qf, d1, r1, t1, a1⟩, hI2, eL, er⟩ := hh
    have H2 := Hs_DR hK d1 H
    have hbL := t1.2.1 I hI2
    rw [eL, er] at hbL
    have hpw : 2 ^ tt 1 ≤ 2 ^ 12 := n_pwl (by omega)
    have hbs : nxt tt (qr I) ||| ltt tt (qr I) < 65536 := n_or_lt (k := 16) (nxt_lt16 hW _) (ltt_lt16 hW _)
    have hls : qL I ||| ltt tt j < 2 ^ tt 1 := n_or_lt hbL.1 (ltt_lt hW j)
    have hcd := cd_lt (R := R) hn hls hj
    have es : f_X8_search_120 k44 (n + 1) (HH A Z B Q P F q' D2 c) a q goal (nI I) (nI (qL I)) (nI (nxt tt (qr I) ||| ltt tt (qr I))) (nI j) = (if adj tt (qr I) j = false then f_X8_search_120 k44 n (HH A Z B Q P F q' D2 c) a q goal (nI I) (nI (qL I)) (nI (nxt tt (qr I) ||| ltt tt (qr I))) (nI (j + 1)) else (f_X8_enter (HH A Z B Q P F q' D2 c) a (nI ((qL I ||| ltt tt j) * R + j)) (nI I)).bind fun r9 => f_X8_search_120 k44 n r9 a q goal (nI I) (nI (qL I)) (nI (nxt tt (qr I) ||| ltt tt (qr I))) (nI (j + 1))) := by
      rw [f_X8_search_120, hs_1 H2, Option.bind_some, if_neg (by rw [y_le (by omega) (by omega)]; omega), n_shr (by omega) (by omega), show (1 : Int32) = nI 1 from rfl, fa_and, show (0 : Int32) = nI 0 from rfl]
      simp only [y_b0]
      unfold adj
      by_cases hb : (nxt tt (qr I) ||| ltt tt (qr I)).testBit j = false
      · rw [if_pos hb, if_pos hb, nI_add]
      · rw [if_neg hb, if_neg hb, hs_14 H2, Option.bind_some, hs_li H2 (by omega), Option.bind_some, rd_O r1, Option.bind_some]
        unfold f_X8_stateOf
        rw [rd_R r1, Option.bind_some, Option.bind_some, Option.bind_some, fa_or, pk_mul, nI_add, nI_add]
    by_cases hadj : adj tt (qr I) j = false
    · refine ⟨HH A Z B Q P F q' D2 c, es.trans (if_pos hadj), D2, m2, qL2, qr2, par2, rfl, ⟨af, qf, d1, r1, QT_old t1 (fun h => by rw [er, hadj] at h; cases h), a1⟩, hI2, eL, er⟩
    · have hadj2 : adj tt (qr I) j = true := by
        cases hx : adj tt (qr I) j
        · exact absurd hx hadj
        · rfl
      rw [if_neg hadj] at es
      by_cases hin : ∃ i, i < m2 ∧ qL2 i = qL I ||| ltt tt j ∧ qr2 i = j
      · obtain ⟨i, i1, i2, i3⟩ := hin
        have hq := (a1.2.1 i i1).2
        rw [i2, i3] at hq
        have hmr := QT_room hn t1
        have hpi : par2 i + 1 < 2147483648 := by
          rcases Nat.eq_zero_or_pos i with e | e
          · rw [e, a1.1]; omega
          · have := t1.2.2.1 i e; omega
        have hne : af ((qL I ||| ltt tt j) * R + j) ≠ nI 0 := by
          rw [hq]
          intro h
          rw [y_eq hpi (by decide)] at h
          omega
        refine ⟨HH A Z B Q P F q' D2 c, ?_, D2, m2, qL2, qr2, par2, rfl, ⟨af, qf, d1, r1, QT_old t1 (fun _ => ⟨i, i1, by rw [eL]; exact i2, i3⟩), a1⟩, hI2, eL, er⟩
        refine es.trans ?_
        rw [rd_enter0 r1 hcd hne, Option.bind_some]
      · have hnew : ∀ i, i < m2 → ¬ (qL2 i = qL2 I ||| ltt tt j ∧ qr2 i = j) := fun i hi h => hin ⟨i, hi, by rw [← eL]; exact h.1, h.2⟩
        have t2 := QT_new hW t1 hI2 hj (by rw [er]; exact hadj2) hnew
        have hmr := QT_room hn t2
        have haf : af ((qL I ||| ltt tt j) * R + j) = nI 0 := a1.2.2 _ hcd (fun i hi h => by
          have := (cd_inj hn hj (t1.2.1 i hi).2).mp h
          exact hin ⟨i, hi, this.1.symm, this.2.symm⟩)
        obtain ⟨D3, e3, d3, r3⟩ := rd_enter (A := A) (Z := Z) (B := B) (Q := Q) (P := P) (F := F) (q := q') (c := c) r1 (I := I) hcd (by omega) haf
        refine ⟨HH A Z B Q P F q' D3 c, ?_, D3, m2 + 1, va_up qL2 m2 (qL2 I ||| ltt tt j), va_up qr2 m2 j, va_up par2 m2 I, rfl, ⟨_, _, d1.tr d3, r3, t2, ?_, fun i hi => ?_, fun x hx hxi => ?_⟩, by omega, by rw [y_vn (by omega)]; exact eL, by rw [y_vn (by omega)]; exact er⟩
        · exact es.trans (by rw [e3, Option.bind_some])
        · rw [y_vn (by have := t1.1.1; omega)]; exact a1.1
        · by_cases e : i = m2
          · subst e
            rw [y_vs, y_vs, y_vs, y_vs, eL]
            exact ⟨rfl, y_vs⟩
          · have hb2 := t1.2.1 i (by omega)
            rw [show va_up qL2 m2 (qL2 I ||| ltt tt j) i = qL2 i from y_vn e, show va_up qr2 m2 j i = qr2 i from y_vn e, show va_up par2 m2 I i = par2 i from y_vn e, show va_up qf m2 (nI ((qL I ||| ltt tt j) * R + j)) i = qf i from y_vn e]
            obtain ⟨b1, b2⟩ := a1.2.1 i (by omega)
            refine ⟨b1, ?_⟩
            rw [y_vn (fun h => by
              have := (cd_inj hn hb2.2 hj).mp h
              exact hin ⟨i, by omega, this.1, this.2⟩)]
            exact b2
        · have hxn : x ≠ (qL I ||| ltt tt j) * R + j := by
            have := hxi m2 (by omega)
            rw [y_vs, y_vs, eL] at this
            exact this
          rw [y_vn hxn]
          refine a1.2.2 x hx (fun i hi => ?_)
          have := hxi i (by omega)
          rw [y_vn (by omega), y_vn (by omega)] at this
          exact this
  · obtain ⟨D2, m2, qL2, qr2, par2, rfl, ⟨af, qf, d1, r1, t1, a1⟩, hI2, eL, er⟩ := hh
    have H2 := Hs_DR hK d1 H
    show f_X8_search_120 k44 (n + 1) _ _ _ _ _ _ _ _ = _
    rw [f_X8_search_120, hs_1 H2, Option.bind_some, if_pos (by rw [y_le (by omega) (by omega)]; exact Nat.le_refl _), nI_1]
/-- the search to its end: the goal is in the queue, or all is done -/
theorem c_sf44 (hW : HWf tt) (hn : tt 1 ≤ R) (hR : R ≤ 12) (hs : s < tt 1) (hK : ∀ j, j < 4 → K (a + j) = 5) (H : Hs K D q tt) {D1 : List xC} {m0 : Nat} (hQ : QS wl tt s R a D D1 pf m0 0 0 qL qr par) : ∃ D2 m2 I2 qL2 qr2 par2, f_X8_search_44 xFU (HH A Z B Q P F q' D1 c) a q (nI ((2 ^ tt 1 - 1) * R + s)) (nI 0) = f_X8_search_173 (HH A Z B Q P F q' D2 c) a (nI ((2 ^ tt 1 - 1) * R + s)) ∧ QS wl tt s R a D D2 pf m2 I2 0 qL2 qr2 par2 ∧ ((∃ g, g < m2 ∧ qL2 g = 2 ^ tt 1 - 1 ∧ qr2 g = s) ∨ (m2 ≤ I2 ∧ ∀ i, i < m2 → ¬ (qL2 i = 2 ^ tt 1 - 1 ∧ qr2 i = s))) := by
  have hro := hW.ro
  have hmm := rm_le hR
  have hpp := Nat.two_pow_pos (tt 1)
  have hcg : (2 ^ tt 1 - 1) * R + s < R * 2 ^ R := cd_lt hn (by omega) hs
  have hpw : 2 ^ tt 1 ≤ 2 ^ 12 := n_pwl (by omega)
  -- is the goal there?
  have hgoal : ∀ {D2 m2 I2 qL2 qr2 par2 af qf}, RD wl D2 a R pf af qf m2 → QT tt s qL2 qr2 par2 m2 I2 0 → AQ R qL2 qr2 par2 m2 af qf → (af ((2 ^ tt 1 - 1) * R + s) = 0 ∧ ∀ i, i < m2 → ¬ (qL2 i = 2 ^ tt 1 - 1 ∧ qr2 i = s)) ∨ (af ((2 ^ tt 1 - 1) * R + s) ≠ 0 ∧ ∃ g, g < m2 ∧ qL2 g = 2 ^ tt 1 - 1 ∧ qr2 g = s) := by
    intro D2 m2 I2 qL2 qr2 par2 af qf r1 t1 a1
    by_cases hin : ∃ g, g < m2 ∧ qL2 g = 2 ^ tt 1 - 1 ∧ qr2 g = s
    · right
      obtain ⟨g, g1, g2, g3⟩ := hin
      have hq := (a1.2.1 g g1).2
      rw [g2, g3] at hq
      have hmr := QT_room hn t1
      have hpi : par2 g + 1 < 2147483648 := by
        rcases Nat.eq_zero_or_pos g with e | e
        · rw [e, a1.1]; omega
        · have := t1.2.2.1 g e; omega
      refine ⟨?_, g, g1, g2, g3⟩
      rw [hq, ← nI_0]
      intro h
      rw [y_eq hpi (by decide)] at h
      omega
    · left
      refine ⟨a1.2.2 _ hcg (fun i hi h => ?_), fun i hi h => hin ⟨i, hi, h⟩⟩
      have := (cd_inj hn hs (t1.2.1 i hi).2).mp h
      exact hin ⟨i, hi, this.1.symm, this.2.symm⟩
  have key := loop_I (F := fun n I (h : xH) => f_X8_search_44 n h a q (nI ((2 ^ tt 1 - 1) * R + s)) (nI I)) (N := R * 2 ^ R) (ρ := Option (Int32 × xH)) id (fun I h => ∃ D2 m2 qL2 qr2 par2, h = HH A Z B Q P F q' D2 c ∧ QS wl tt s R a D D2 pf m2 I 0 qL2 qr2 par2) (fun o => ∃ D2 m2 I2 qL2 qr2 par2, o = f_X8_search_173 (HH A Z B Q P F q' D2 c) a (nI ((2 ^ tt 1 - 1) * R + s)) ∧ QS wl tt s R a D D2 pf m2 I2 0 qL2 qr2 par2 ∧ ((∃ g, g < m2 ∧ qL2 g = 2 ^ tt 1 - 1 ∧ qr2 g = s) ∨ (m2 ≤ I2 ∧ ∀ i, i < m2 → ¬ (qL2 i = 2 ^ tt 1 - 1 ∧ qr2 i = s)))) (fun n I h hI hh => ?_) (fun n h hh => ?_) (by omega) (s := HH A Z B Q P F q' D1 c) ⟨D1, m0, qL, qr, par, rfl, hQ⟩
  · obtain ⟨o, e1, D2, m2, I2, qL2, qr2, par2, rfl, h1, h2⟩ := key
    exact ⟨D2, m2, I2, qL2, qr2, par2, e1, h1, h2⟩
  · obtain ⟨D2, m2, qL2, qr2, par2, rfl, af, qf, d1, r1, t1, a1⟩ := hh
    have H2 := Hs_DR hK d1 H
    have hmr := QT_room hn t1
    by_cases hIm : m2 ≤ I
    · right
      refine ⟨f_X8_search_173 (HH A Z B Q P F q' D2 c) a (nI ((2 ^ tt 1 - 1) * R + s)), ?_, D2, m2, I, qL2, qr2, par2, rfl, ⟨af, qf, d1, r1, t1, a1⟩, ?_⟩
      · show f_X8_search_44 (n + 1) _ _ _ _ _ = _
        rw [f_X8_search_44, rd_q r1, Option.bind_some, rd_nq r1, Option.bind_some, if_neg (by rw [y_le (by omega) (by omega)]; omega), rd_d r1, Option.bind_some, if_pos (by rw [y_le (by omega) (by omega)]; exact hIm)]
        rfl
      · rcases hgoal r1 t1 a1 with ⟨_, h⟩ | ⟨_, h⟩
        · exact Or.inr ⟨hIm, h⟩
        · exact Or.inl h
    · rcases hgoal r1 t1 a1 with ⟨hg1, hg2⟩ | ⟨hg1, hg2⟩
      · left
        obtain ⟨b1, b2⟩ := a1.2.1 I (by omega)
        obtain ⟨b3, b4⟩ := t1.2.1 I (by omega)
        obtain ⟨dm1, dm2⟩ := cd_dm (L := qL2 I) hn b4
        have hcI := cd_lt (R := R) hn b3 b4
        obtain ⟨D3, m3, qL3, qr3, par3, e3, h3⟩ := c_sf120 (A := A) (Z := Z) (B := B) (Q := Q) (P := P) (F := F) (q' := q') (c := c) hW hn hR hK H (show I < m2 by omega) ⟨af, qf, d1, r1, t1, a1⟩ (nI ((2 ^ tt 1 - 1) * R + s)) (f_X8_search_44 n)
        refine ⟨HH A Z B Q P F q' D3 c, Eq.trans ?_ e3, D3, m3, qL3, qr3, par3, rfl, h3⟩
        show f_X8_search_44 (n + 1) _ _ _ _ _ = _
        rw [f_X8_search_44, rd_q r1, Option.bind_some, rd_nq r1, Option.bind_some, if_neg (by rw [y_le (by omega) (by omega)]; omega), rd_d r1, Option.bind_some, if_neg (by rw [y_le (by omega) (by omega)]; exact hIm), rd_a r1, Option.bind_some, rd_la r1 hcg, Option.bind_some, if_pos hg1, Option.bind_some, rd_lq r1 hI, Option.bind_some, rd_R r1, Option.bind_some, b1, y_dv (by omega) (by omega) (by omega), dm1, Option.bind_some, Option.bind_some, rd_lq r1 hI, Option.bind_some, Option.bind_some, b1, y_rm (by omega) (by omega) (by omega), dm2, Option.bind_some, hs_13 H2, Option.bind_some, hs_ne H2 (by omega), Option.bind_some, hs_14 H2, Option.bind_some, hs_li H2 (by omega), Option.bind_some, fa_or]
        rfl
      · right
        refine ⟨f_X8_search_173 (HH A Z B Q P F q' D2 c) a (nI ((2 ^ tt 1 - 1) * R + s)), ?_, D2, m2, I, qL2, qr2, par2, rfl, ⟨af, qf, d1, r1, t1, a1⟩, Or.inl hg2⟩
        show f_X8_search_44 (n + 1) _ _ _ _ _ = _
        rw [f_X8_search_44, rd_q r1, Option.bind_some, rd_nq r1, Option.bind_some, if_neg (by rw [y_le (by omega) (by omega)]; omega), rd_d r1, Option.bind_some, if_neg (by rw [y_le (by omega) (by omega)]; exact hIm), rd_a r1, Option.bind_some, rd_la r1 hcg, Option.bind_some, if_neg hg1]
        rfl
  · obtain ⟨D2, m2, qL2, qr2, par2, rfl, af, qf, d1, r1, t1, a1⟩ := hh
    have hmr := QT_room hn t1
    refine ⟨f_X8_search_173 (HH A Z B Q P F q' D2 c) a (nI ((2 ^ tt 1 - 1) * R + s)), ?_, D2, m2, R * 2 ^ R, qL2, qr2, par2, rfl, ⟨af, qf, d1, r1, t1, a1⟩, ?_⟩
    · show f_X8_search_44 (n + 1) _ _ _ _ _ = _
      rw [f_X8_search_44, rd_q r1, Option.bind_some, rd_nq r1, Option.bind_some, if_pos (by rw [y_le (by omega) (by omega)]; exact Nat.le_refl _)]
      rfl
    · rcases hgoal r1 t1 a1 with ⟨_, h⟩ | ⟨_, h⟩
      · exact Or.inr ⟨hmr, h⟩
      · exact Or.inl h
end RBfs
