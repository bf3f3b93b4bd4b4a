/-! ===== round: the way back, and all is forgotten ===== -/
section RTrace
variable {tt : Nat → Nat} {s m I : Nat} {qL qr par : Nat → Nat}
variable {A : Nat → Nat → Int32} {Z : Nat → Int32} {B : Nat → Nat → Int64} {Q : Nat → Int64} {P : Nat → Option Nat} {F : Nat → Nat → Option Nat} {q q' : Nat} {D : List xC} {c : Nat × Nat} {K : Nat → Nat} {R a : Nat} {pf af qf : Nat → Int32} {wl : List Value}
theorem c_before (hn : tt 1 ≤ R) (hr : RD wl D a R pf af qf m) (ht : QT tt s qL qr par m I 0) (ha : AQ R qL qr par m af qf) {i : Nat} (hi : i < m) : par i < m ∧ f_X8_before (HH A Z B Q P F q' D c) a (nI (qL i * R + qr i)) = some (nI (qL (par i) * R + qr (par i))) := by
  have hmm := rm_le hr.2.1.2
  have hmr := QT_room hn ht
  obtain ⟨b1, b2⟩ := ha.2.1 i hi
  obtain ⟨b3, b4⟩ := ht.2.1 i hi
  have hci := cd_lt (R := R) hn b3 b4
  have hpm : par i < m := by
    rcases Nat.eq_zero_or_pos i with e | e
    · rw [e, ha.1]; exact ht.1.1
    · have := ht.2.2.1 i e; omega
  refine ⟨hpm, ?_⟩
  unfold f_X8_before
  rw [rd_a hr, Option.bind_some, rd_la hr hci, Option.bind_some, b2, show (1 : Int32) = nI 1 from rfl, y_sub (by omega), Nat.add_sub_cancel, if_neg (nI_pos (by omega)), rd_q hr, Option.bind_some, rd_lq hr (by omega), Option.bind_some, (ha.2.1 _ hpm).1]
theorem c_trace (hW : HWf tt) (hn : tt 1 ≤ R) (hr : RD wl D a R pf af qf m) (ht : QT tt s qL qr par m I 0) (ha : AQ R qL qr par m af qf) {g : Nat} (hg : g < m) (hd : dp par g ≤ 22) : ∃ D' pf', f_X8_tracePath (HH A Z B Q P F q' D c) a (nI (qL g * R + qr g)) = some (nI (dp par g), HH A Z B Q P F q' D' c) ∧ DR a D D' ∧ RD wl D' a R pf' af qf m ∧ ∀ k, k ≤ dp par g → pf' k = nI (qr (chn par g (dp par g - k))) := by
  have hmm := rm_le hr.2.1.2
  have hmr := QT_room hn ht
  have hQ := QT_QI ht
  have hcd := chn_dp hQ hg
  have hp := ht.2.2.1
  have hcl : ∀ i, i < m → qL i * R + qr i < R * 2 ^ R := fun i hi => cd_lt (R := R) hn (ht.2.1 i hi).1 (ht.2.1 i hi).2
  -- the way down
  have h42 : ∃ D' pf', f_X8_tracePath_42 xFU (HH A Z B Q P F q' D c) a (nI (dp par g)) (nI (qL g * R + qr g)) (nI (dp par g)) = some (nI (dp par g), HH A Z B Q P F q' D' c) ∧ DR a D D' ∧ RD wl D' a R pf' af qf m ∧ ∀ k, k ≤ dp par g → pf' k = nI (qr (chn par g (dp par g - k))) := by
    have key := loop_I (F := fun n j (h : xH) => f_X8_tracePath_42 n h a (nI (dp par g)) (nI (qL (chn par g j) * R + qr (chn par g j))) (kv (dp par g + 1 - j))) (N := dp par g + 1) some (fun j h => ∃ D' pf', h = HH A Z B Q P F q' D' c ∧ DR a D D' ∧ RD wl D' a R pf' af qf m ∧ ∀ k, dp par g + 1 - j ≤ k → k ≤ dp par g → pf' k = nI (qr (chn par g (dp par g - k)))) (fun o => ∃ D' pf', o = (nI (dp par g), HH A Z B Q P F q' D' c) ∧ DR a D D' ∧ RD wl D' a R pf' af qf m ∧ ∀ k, k ≤ dp par g → pf' k = nI (qr (chn par g (dp par g - k)))) (fun n j h hj hh => Or.inl ?_) (fun n h hh => ?_) (by omega) (s := HH A Z B Q P F q' D c) ⟨D, pf, rfl, DR.rf, hr, fun k h1 h2 => by omega⟩
    · obtain ⟨o, e1, D', pf', rfl, h⟩ := key
      have ek : kv (dp par g + 1 - 0) = nI (dp par g) := kv_s _
      rw [ek] at e1
      exact ⟨D', pf', e1, h⟩
    · obtain ⟨D', pf', rfl, d1, r1, h1⟩ := hh
      obtain ⟨c1, c2⟩ := hcd j (by omega)
      obtain ⟨b3, b4⟩ := ht.2.1 _ c1
      obtain ⟨dm1, dm2⟩ := cd_dm (L := qL (chn par g j)) hn b4
      have hc := hcl _ c1
      have ek : kv (dp par g + 1 - j) = nI (dp par g - j) := by
        rw [show dp par g + 1 - j = (dp par g - j) + 1 by omega]
        exact kv_s _
      obtain ⟨D2, e2, d2, r2⟩ := rd_sp (A := A) (Z := Z) (B := B) (Q := Q) (P := P) (F := F) (q := q') (c := c) r1 (k := dp par g - j) (x := nI (qr (chn par g j))) (by omega)
      obtain ⟨p1, p2⟩ := c_before (A := A) (Z := Z) (B := B) (Q := Q) (P := P) (F := F) (q' := q') (c := c) hn r2 ht ha c1
      refine ⟨HH A Z B Q P F q' D2 c, ?_, D2, _, rfl, d1.tr d2, r2, fun k k1 k2 => ?_⟩
      · show f_X8_tracePath_42 (n + 1) _ a _ _ (kv (dp par g + 1 - j)) = f_X8_tracePath_42 n _ a _ (nI (qL (par (chn par g j)) * R + qr (par (chn par g j)))) (kv (dp par g + 1 - (j + 1)))
        have hR0 : 0 < R := by have := hr.2.1.1; omega
        rw [ek, show dp par g + 1 - (j + 1) = dp par g - j by omega, f_X8_tracePath_42, if_neg (nI_pos (by omega)), rd_p r1, Option.bind_some, rd_R r1, Option.bind_some, y_rm (by omega) hR0 (by have := hr.2.1.2; omega), dm2, Option.bind_some, e2, Option.bind_some, rd_O r2, Option.bind_some, p2, Option.bind_some, kv_m]
      · by_cases e : k = dp par g - j
        · subst e
          rw [y_vs, show dp par g - (dp par g - j) = j by omega]
        · rw [y_vn e]; exact h1 k (by omega) k2
    · obtain ⟨D', pf', rfl, d1, r1, h1⟩ := hh
      refine ⟨(nI (dp par g), HH A Z B Q P F q' D' c), ?_, D', pf', rfl, d1, r1, fun k hk => h1 k (by omega) hk⟩
      show f_X8_tracePath_42 (n + 1) _ a _ _ (kv (dp par g + 1 - (dp par g + 1))) = _
      rw [f_X8_tracePath_42, Nat.sub_self, if_pos (by decide)]
  obtain ⟨D', pf', e42, h42⟩ := h42
  refine ⟨D', pf', ?_, h42⟩
  rw [← e42]
  unfold f_X8_tracePath
  have hc0 : chn par g (dp par g) = 0 := by
    obtain ⟨a1, a2⟩ := hcd (dp par g) (Nat.le_refl _)
    rw [Nat.sub_self] at a2
    exact (dp_pos hp).mp a2
  have e0 := (ha.2.1 0 ht.1.1).1
  have key := loop_J (F := fun n j (h : Unit) => f_X8_tracePath_4 n (HH A Z B Q P F q' D c) a (nI (qL g * R + qr g)) (nI j) (nI (qL (chn par g j) * R + qr (chn par g j)))) (N := dp par g) (fun _ => f_X8_tracePath_42 xFU (HH A Z B Q P F q' D c) a (nI (dp par g)) (nI (qL g * R + qr g)) (nI (dp par g))) (fun _ _ => True) (fun n j h hj _ => ?_) (fun n h _ => ?_) (by omega) (s := ()) trivial
  · obtain ⟨_, e1, _⟩ := key
    exact e1
  · obtain ⟨c1, c2⟩ := hcd j (by omega)
    have hc := hcl _ c1
    have hc00 := hcl 0 ht.1.1
    have hne : chn par g j ≠ 0 := fun e => by rw [e, dp_0] at c2; omega
    obtain ⟨p1, p2⟩ := c_before (A := A) (Z := Z) (B := B) (Q := Q) (P := P) (F := F) (q' := q') (c := c) hn hr ht ha c1
    refine ⟨(), ?_, trivial⟩
    show f_X8_tracePath_4 (n + 1) _ a _ _ _ = f_X8_tracePath_4 n _ a _ _ (nI (qL (par (chn par g j)) * R + qr (par (chn par g j))))
    have hdiff : ¬ qL (chn par g j) * R + qr (chn par g j) = qL 0 * R + qr 0 := fun h => by
      have h1 := (cd_inj hn (ht.2.1 _ c1).2 (ht.2.1 0 ht.1.1).2).mp h
      exact ht.2.2.2.2.2.1 0 _ (by omega) c1 ⟨h1.1.symm, h1.2.symm⟩
    rw [f_X8_tracePath_4, rd_p hr, Option.bind_some, rd_np hr, Option.bind_some, show (1 : Int32) = nI 1 from rfl, y_sub (by omega), if_neg (by rw [y_le (by omega) (by omega)]; omega), rd_q hr, Option.bind_some, show (0 : Int32) = nI 0 from rfl, rd_lq hr (by have := ht.1.1; omega), Option.bind_some, e0, if_neg (by rw [y_eq (by omega) (by omega)]; exact hdiff), rd_O hr, Option.bind_some, p2, Option.bind_some, nI_add]
  · show f_X8_tracePath_4 (n + 1) _ a _ _ _ = _
    rw [f_X8_tracePath_4, rd_p hr, Option.bind_some, rd_np hr, Option.bind_some, show (1 : Int32) = nI 1 from rfl, y_sub (by omega), if_neg (by rw [y_le (by omega) (by omega)]; omega), rd_q hr, Option.bind_some, show (0 : Int32) = nI 0 from rfl, rd_lq hr (by have := ht.1.1; omega), Option.bind_some, e0, hc0, if_pos rfl]
    rfl
theorem c_forget (hn : tt 1 ≤ R) (hr : RD wl D a R pf af qf m) (ht : QT tt s qL qr par m I 0) (ha : AQ R qL qr par m af qf) : ∃ D' af', f_X8_forget (HH A Z B Q P F q' D c) a = some (HH A Z B Q P F q' D' c) ∧ DR a D D' ∧ RD wl D' a R pf af' qf m ∧ ∀ x, x < R * 2 ^ R → af' x = nI 0 := by
  have hmm := rm_le hr.2.1.2
  have hmr := QT_room hn ht
  have hcl : ∀ i, i < m → qL i * R + qr i < R * 2 ^ R := fun i hi => cd_lt (R := R) hn (ht.2.1 i hi).1 (ht.2.1 i hi).2
  unfold f_X8_forget
  have key := loop_J (F := fun n j (h : xH) => f_X8_forget_2 n h a (nI j)) (N := m) some (fun j h => ∃ D' af', h = HH A Z B Q P F q' D' c ∧ DR a D D' ∧ RD wl D' a R pf af' qf m ∧ ∀ x, x < R * 2 ^ R → (∀ i, j ≤ i → i < m → x ≠ qL i * R + qr i) → af' x = nI 0) (fun n j h hj hh => ?_) (fun n h hh => ?_) (by omega) (s := HH A Z B Q P F q' D c) ⟨D, af, rfl, DR.rf, hr, fun x hx hi => ha.2.2 x hx (fun i h => hi i (Nat.zero_le _) h)⟩
  · obtain ⟨h, e1, D', af', rfl, d1, r1, h1⟩ := key
    exact ⟨D', af', e1, d1, r1, fun x hx => h1 x hx (fun i h1 h2 => by omega)⟩
  · obtain ⟨D', af', rfl, d1, r1, h1⟩ := hh
    have b1 := (ha.2.1 j hj).1
    obtain ⟨D2, e2, d2, r2⟩ := rd_sa (A := A) (Z := Z) (B := B) (Q := Q) (P := P) (F := F) (q := q') (c := c) r1 (x := nI 0) (hcl j hj)
    refine ⟨HH A Z B Q P F q' D2 c, ?_, D2, _, rfl, d1.tr d2, r2, fun x hx hi => ?_⟩
    · show f_X8_forget_2 (n + 1) _ a _ = _
      rw [f_X8_forget_2, rd_d r1, Option.bind_some, if_neg (by rw [y_le (by omega) (by omega)]; omega), rd_a r1, Option.bind_some, rd_q r1, Option.bind_some, rd_lq r1 (by omega), Option.bind_some, b1, show (0 : Int32) = nI 0 from rfl, e2, Option.bind_some, nI_1]
    · by_cases e : x = qL j * R + qr j
      · rw [e, y_vs]
      · rw [y_vn e]
        refine h1 x hx (fun i i1 i2 => ?_)
        by_cases e2 : i = j
        · rw [e2]; exact e
        · exact hi i (by omega) i2
  · obtain ⟨D', af', rfl, d1, r1, h1⟩ := hh
    show f_X8_forget_2 (n + 1) _ a _ = _
    rw [f_X8_forget_2, rd_d r1, Option.bind_some, if_pos (by rw [y_le (by omega) (by omega)]; exact Nat.le_refl _)]
theorem c_litBy2 (H : Hs K D q tt) (hW : HWf tt) {S : Nat} (hS : S < 65536) : f_X3_litBy (HH A Z B Q P F q' D c) q (nI S) = some (nI (lts tt S)) := c_litBy H hW hS
theorem c_canBe (H : Hs K D q tt) (hW : HWf tt) {s : Nat} (hs : s < tt 1) : f_X8_canBe (HH A Z B Q P F q' D c) q (nI s) = some (if lts tt (mk (fun r => decide (way tt s r < FAR)) (tt 1)) = 2 ^ tt 1 - 1 then nI 1 else nI 0) := by
  have hro := hW.ro
  have hpw := pw16 hro
  have hpp := Nat.two_pow_pos (tt 1)
  refine loop0 (F := fun n j (x : Int32) => f_X8_canBe_4 (HH A Z B Q P F q' D c) n q (nI s) x (nI j)) (N := tt 1) (st := fun j => nI (mk (fun r => decide (way tt s r < FAR)) j)) (fun n j hj => ?_) (fun n => ?_) (by omega)
  · rw [mk_step]
    have hw := wv_way (tt := tt) (a := s) (b := j) (by omega)
    have hF : FAR = 1000000 := rfl
    have ld := hs_wa (A := A) (Z := Z) (B := B) (Q := Q) (P := P) (F := F) (q' := q') (c := c) H (i := s * 16 + j) (by omega)
    rw [hw] at ld
    show f_X8_canBe_4 (HH A Z B Q P F q' D c) (n + 1) _ _ _ _ = _
    rw [f_X8_canBe_4, hs_1 H, Option.bind_some, if_neg (by rw [y_le (by omega) (by omega)]; omega), hs_15 H, Option.bind_some, show (16 : Int32) = nI 16 from rfl, pk_mul, nI_add, ld, Option.bind_some]
    by_cases h : way tt s j < 1000000
    · rw [if_pos h, if_neg (by show ¬ nI _ = nM; rw [y_eqM (by omega)]; exact fun h => h), nI_1, show (1 : Int32) <<< (nI j &&& 31) = nI (2 ^ j) from n_shl (by omega), fa_or, show decide (way tt s j < FAR) = true from decide_eq_true h]
      rfl
    · rw [if_neg h, if_pos (show nM = (-1 : Int32) from rfl), nI_1, show decide (way tt s j < FAR) = false from decide_eq_false h]
      show _ = f_X8_canBe_4 _ n q (nI s) (nI (mk _ j ||| 0)) _
      rw [Nat.or_zero]
  · have hmk := mk_lt (fun r => decide (way tt s r < FAR)) (tt 1)
    have hll := lts_lt hW (mk (fun r => decide (way tt s r < FAR)) (tt 1))
    show f_X8_canBe_4 (HH A Z B Q P F q' D c) (n + 1) _ _ _ _ = _
    rw [f_X8_canBe_4, hs_1 H, Option.bind_some, if_pos (by rw [y_le (by omega) (by omega)]; exact Nat.le_refl _), hs_gO H, Option.bind_some, c_litBy2 H hW (by omega), Option.bind_some, Option.bind_some, c_allRooms H hW, Option.bind_some]
    by_cases h : lts tt (mk (fun r => decide (way tt s r < FAR)) (tt 1)) = 2 ^ tt 1 - 1
    · rw [if_pos (by rw [h]), if_pos h]; rfl
    · rw [if_neg (by rw [y_eq (by omega) (by omega)]; exact h), if_neg h]; rfl
/-- the way, as the class answers it -/
theorem c_rsearch (hW : HWf tt) (hn : tt 1 ≤ R) (hR : R ≤ 12) (hs : s < tt 1) (hK : ∀ j, j < 4 → K (a + j) = 5) (H : Hs K D q tt) {qd : Nat} (hr : RD wl D a R pf af qf qd) (hz : ∀ x, x < R * 2 ^ R → af x = nI 0) : ∃ D' pf' af' qf' qd' v, f_X8_search (HH A Z B Q P F q' D c) a q (nI s) = some (v, HH A Z B Q P F q' D' c) ∧ DR a D D' ∧ RD wl D' a R pf' af' qf' qd' ∧ (∀ x, x < R * 2 ^ R → af' x = nI 0) ∧ ((∃ d rm Lm, RP tt s d rm Lm ∧ d ≤ 22 ∧ v = nI d ∧ ∀ k, k ≤ d → pf' k = nI (rm k)) ∨ (v = nM ∧ ∀ k, ¬ Wn tt s k (ltt tt s) s)) := by
  have hro := hW.ro
  have hmm := rm_le hR
  have hpp := Nat.two_pow_pos (tt 1)
  have hpw : 2 ^ tt 1 ≤ 2 ^ 12 := n_pwl (by omega)
  have hll := ltt_lt hW s
  have hc0 : ltt tt s * R + s < R * 2 ^ R := cd_lt hn hll hs
  by_cases hcan : lts tt (mk (fun r => decide (way tt s r < FAR)) (tt 1)) = 2 ^ tt 1 - 1
  · obtain ⟨D1, e1, d1, r1⟩ := rd_sd (A := A) (Z := Z) (B := B) (Q := Q) (P := P) (F := F) (q := q') (c := c) hr 0
    obtain ⟨D2, e2, d2, r2⟩ := rd_enter (A := A) (Z := Z) (B := B) (Q := Q) (P := P) (F := F) (q := q') (c := c) r1 (x := ltt tt s * R + s) (I := 0) hc0 (by omega) (hz _ hc0)
    have H1 := Hs_DR hK d1 H
    have hQ : QS wl tt s R a D D2 pf 1 0 0 (fun _ => ltt tt s) (fun _ => s) (fun _ => 0) := by
      refine ⟨_, _, d1.tr d2, r2, ⟨⟨by decide, rfl, rfl⟩, fun i hi => ⟨hll, hs⟩, fun i hi => hi, fun i hi hm => by omega, fun i j hi hij hj => by omega, fun i j hij hj => by omega, fun a o ha => by omega⟩, rfl, fun i hi => ?_, fun x hx hxi => ?_⟩
      · have e : i = 0 := by omega
        subst e
        exact ⟨y_vs, y_vs⟩
      · rw [y_vn (hxi 0 (by decide))]; exact hz x hx
    obtain ⟨D3, m3, I3, qL3, qr3, par3, e3, ⟨af3, qf3, d3, r3, t3, a3⟩, h3⟩ := c_sf44 (A := A) (Z := Z) (B := B) (Q := Q) (P := P) (F := F) (q' := q') (c := c) hW hn hR hs hK H hQ
    have estart : f_X8_search (HH A Z B Q P F q' D c) a q (nI s) = f_X8_search_173 (HH A Z B Q P F q' D3 c) a (nI ((2 ^ tt 1 - 1) * R + s)) := by
      rw [← e3]
      unfold f_X8_search
      rw [c_canBe H hW hs, if_pos hcan, Option.bind_some, if_neg (by decide), hs_gO H, Option.bind_some, c_allRooms H hW, Option.bind_some, rd_O hr, Option.bind_some]
      unfold f_X8_stateOf
      rw [rd_R hr, Option.bind_some, Option.bind_some, pk_mul, nI_add, show (0 : Int32) = nI 0 from rfl, e1, Option.bind_some, hs_14 H1, Option.bind_some, hs_li H1 (by omega), Option.bind_some, rd_O r1, Option.bind_some, rd_R r1, Option.bind_some, Option.bind_some, pk_mul, nI_add, Option.bind_some, e2, Option.bind_some]
    obtain ⟨k0, hk0, hW0⟩ := W_some hW hs hcan
    have hQI := QT_QI t3
    rcases h3 with ⟨g, hg, hg1, hg2⟩ | ⟨hI3, hno⟩
    · have hdp : dp par3 g ≤ 22 := by
        apply Classical.byContradiction
        intro hc
        refine Q_min hQI hg ⟨hg1, hg2⟩ k0 0 t3.1.1 ?_ (by rw [t3.1.2.1, t3.1.2.2]; exact hW0)
        rw [dp_0]
        omega
      obtain ⟨D4, pf4, e4, d4, r4, h4⟩ := c_trace (A := A) (Z := Z) (B := B) (Q := Q) (P := P) (F := F) (q' := q') (c := c) hW hn r3 t3 a3 hg hdp
      obtain ⟨D5, af5, e5, d5, r5, h5⟩ := c_forget (A := A) (Z := Z) (B := B) (Q := Q) (P := P) (F := F) (q' := q') (c := c) hn r4 t3 a3
      refine ⟨D5, pf4, af5, qf3, m3, nI (dp par3 g), ?_, (d3.tr d4).tr d5, r5, h5, Or.inl ⟨dp par3 g, _, _, Q_RP hQI hg ⟨hg1, hg2⟩, hdp, rfl, h4⟩⟩
      have hcg : (2 ^ tt 1 - 1) * R + s < R * 2 ^ R := cd_lt hn (by omega) hs
      have hag := (a3.2.1 g hg).2
      rw [hg1, hg2] at hag e4
      have hmr := QT_room hn t3
      have hpi : par3 g + 1 < 2147483648 := by
        rcases Nat.eq_zero_or_pos g with e | e
        · rw [e, a3.1]; omega
        · have := t3.2.2.1 g e; omega
      rw [estart]
      unfold f_X8_search_173 f_X8_search_191
      rw [rd_a r3, Option.bind_some, rd_la r3 hcg, Option.bind_some, hag, if_neg (by rw [← nI_0, y_eq hpi (by decide)]; omega), rd_O r3, Option.bind_some, e4, Option.bind_some, rd_O r4, Option.bind_some, e5, Option.bind_some]
    · exfalso
      refine Q_none hQI hI3 hno k0 0 t3.1.1 ?_
      rw [t3.1.2.1, t3.1.2.2]
      exact hW0
  · refine ⟨D, pf, af, qf, qd, nM, ?_, DR.rf, hr, hz, Or.inr ⟨rfl, W_none hW hs hcan⟩⟩
    unfold f_X8_search
    rw [c_canBe H hW hs, if_neg hcan, Option.bind_some, if_pos (by decide)]
    rfl
/-- one house at one place: one round -/
theorem WA_one {tw : Nat → Nat} {v : Int32} {f : Nat → Int32} (H : Hs K D q tt) (H2 : Hs K D q tw) (hW : HWf tt) (hW2 : HWf tw) (hs : s < tt 1) (h : WA tw s v f) : WA tt s v f := by
  have hb := hW.b
  have hb2 := hW2.b
  have hro := hW.ro
  have inj : ∀ {a b : Nat}, a < 100000 → b < 100000 → some (nI a) = some (nI b) → a = b := fun ha hb e => by
    have := Option.some.inj e
    rw [y_eq (by omega) (by omega)] at this
    exact this
  have e1 : tt 1 = tw 1 := inj (hb 1) (hb2 1) ((hs_1 (A := fun _ _ => 0) (Z := fun _ => 0) (B := fun _ _ => 0) (Q := fun _ => 0) (P := fun _ => none) (F := fun _ _ => none) (c := (0, 0)) (q' := q) H).symm.trans (hs_1 H2))
  have en : ∀ r, r < 16 → nxt tt r = nxt tw r := fun r hr => inj (by have := nxt_lt16 hW r; omega) (by have := nxt_lt16 hW2 r; omega) ((hs_ne (A := fun _ _ => 0) (Z := fun _ => 0) (B := fun _ _ => 0) (Q := fun _ => 0) (P := fun _ => none) (F := fun _ _ => none) (c := (0, 0)) (q' := q) H hr).symm.trans (hs_ne H2 hr))
  have el : ∀ r, r < 16 → ltt tt r = ltt tw r := fun r hr => inj (by have := ltt_lt16 hW r; omega) (by have := ltt_lt16 hW2 r; omega) ((hs_li (A := fun _ _ => 0) (Z := fun _ => 0) (B := fun _ _ => 0) (Q := fun _ => 0) (P := fun _ => none) (F := fun _ _ => none) (c := (0, 0)) (q' := q) H hr).symm.trans (hs_li H2 hr))
  have ha : ∀ r o, r < 16 → adj tt r o = adj tw r o := fun r o hr => by
    unfold adj
    rw [en r hr, el r hr]
  have ho : ∀ r o, adj tt r o = true → o < 16 := fun r o h1 => by
    have := adj_lt hW h1
    omega
  have hwn : ∀ k L r, r < 16 → (Wn tt s k L r ↔ Wn tw s k L r) := by
    intro k
    induction k with
    | zero =>
      intro L r _
      rw [Wn, Wn, e1]
    | succ k ih =>
      intro L r hr
      rw [Wn, Wn]
      constructor
      · rintro ⟨o, a1, a2⟩
        have ho1 := ho r o a1
        exact ⟨o, by rw [← ha r o hr]; exact a1, by rw [← el o ho1]; exact (ih _ _ ho1).mp a2⟩
      · rintro ⟨o, a1, a2⟩
        have a3 : adj tt r o = true := by rw [ha r o hr]; exact a1
        have ho1 := ho r o a3
        exact ⟨o, a3, by rw [el o ho1]; exact (ih _ _ ho1).mpr a2⟩
  have hld : ∀ L r k, r < 16 → (Ld tt s L r k ↔ Ld tw s L r k) := fun L r k hr =>
    ⟨fun h => ⟨(hwn _ _ _ hr).mp h.1, fun j hj hh => h.2 j hj ((hwn _ _ _ hr).mpr hh)⟩, fun h => ⟨(hwn _ _ _ hr).mpr h.1, fun j hj hh => h.2 j hj ((hwn _ _ _ hr).mp hh)⟩⟩
  rcases h with ⟨d, rm, Lm, ⟨h0, h1, h2, h3⟩, hd, hv, hf⟩ | ⟨hv, hno⟩
  · have hrm : ∀ k, k ≤ d → rm k < 16 := fun k hk => by have := (h2 k hk).1; omega
    refine Or.inl ⟨d, rm, Lm, ⟨h0, by rw [el s (by omega)]; exact h1, fun k hk => ⟨by rw [e1]; exact (h2 k hk).1, (hld _ _ _ (hrm k hk)).mpr (h2 k hk).2⟩, fun k hk => ?_⟩, hd, hv, hf⟩
    have k0 := hrm k (by omega)
    have k1 := hrm (k + 1) (by omega)
    obtain ⟨b1, b2, b3⟩ := h3 k hk
    refine ⟨by rw [ha _ _ k0]; exact b1, by rw [el _ k1]; exact b2, fun o ho1 a hl => b3 o ho1 (by rw [← ha _ _ k0]; exact a) ?_⟩
    have h4 := (hld _ o _ (by omega)).mp hl
    rw [el o (by omega)] at h4
    exact h4
  · exact Or.inr ⟨hv, fun k hk => hno k (by rw [← el s (by omega)]; exact (hwn _ _ _ (by omega)).mp hk)⟩
theorem c_steps16 (hW : HWf tt) (hn : tt 1 ≤ R) (hR : R ≤ 12) (hs : s < tt 1) (hK : ∀ j, j < 4 → K (a + j) = 5) (H : Hs K D q tt) {qd : Nat} {x5 x6 x7 : Value} (hr : RD [x5, x6, x7] D a R pf af qf qd) (hz : ∀ x, x < R * 2 ^ R → af x = nI 0) : ∃ D' pf' af' qf' qd' v, f_X8_stepsFrom_16 (HH A Z B Q P F q' D c) a q (nI s) = some (v, HH A Z B Q P F q' D' c) ∧ DR a D D' ∧ RD [va_rf (some q), .int (nI s), .int v] D' a R pf' af' qf' qd' ∧ (∀ x, x < R * 2 ^ R → af' x = nI 0) ∧ WA tt s v pf' := by
  obtain ⟨D1, e1, d1, r1⟩ := rd_sw (A := A) (Z := Z) (B := B) (Q := Q) (P := P) (F := F) (q := q') (c := c) hr (k := 0) (by show 0 < 3; decide) (.ref q)
  have e1 : pF (HH A Z B Q P F q' D c) a 8 5 (.ref q) = some (HH A Z B Q P F q' D1 c) := e1
  have r1 : RD [.ref q, x6, x7] D1 a R pf af qf qd := r1
  obtain ⟨D2, e2, d2, r2⟩ := rd_sw (A := A) (Z := Z) (B := B) (Q := Q) (P := P) (F := F) (q := q') (c := c) r1 (k := 1) (by show 1 < 3; decide) (.int (nI s))
  have e2 : pF (HH A Z B Q P F q' D1 c) a 8 6 (.int (nI s)) = some (HH A Z B Q P F q' D2 c) := e2
  have r2 : RD [.ref q, .int (nI s), x7] D2 a R pf af qf qd := r2
  have H2 := Hs_DR hK (d1.tr d2) H
  obtain ⟨D3, pf', af', qf', qd', v, e3, d3, r3, z3, h3⟩ := c_rsearch (A := A) (Z := Z) (B := B) (Q := Q) (P := P) (F := F) (q' := q') (c := c) hW hn hR hs hK H2 r2 hz
  obtain ⟨D4, e4, d4, r4⟩ := rd_sw (A := A) (Z := Z) (B := B) (Q := Q) (P := P) (F := F) (q := q') (c := c) r3 (k := 2) (by show 2 < 3; decide) (.int v)
  have e4 : pF (HH A Z B Q P F q' D3 c) a 8 7 (.int v) = some (HH A Z B Q P F q' D4 c) := e4
  have r4 : RD [va_rf (some q), .int (nI s), .int v] D4 a R pf' af' qf' qd' := r4
  refine ⟨D4, pf', af', qf', qd', v, ?_, ((d1.tr d2).tr d3).tr d4, r4, z3, h3⟩
  unfold f_X8_stepsFrom_16
  rw [e1, Option.bind_some, e2, Option.bind_some, rd_O r2, Option.bind_some, e3, Option.bind_some]
  dsimp only
  rw [e4, Option.bind_some]
  unfold f_X8_stepsFrom_36
  rw [rd_s r4, Option.bind_some]
theorem c_stepsFrom (hW : HWf tt) (hn : tt 1 ≤ R) (hR : R ≤ 12) (hs : s < tt 1) (hK : ∀ j, j < 4 → K (a + j) = 5) (H : Hs K D q tt) {qd : Nat} {wk : Option Nat} {wf ws : Int32} (hr : RD [va_rf wk, .int wf, .int ws] D a R pf af qf qd) (hz : ∀ x, x < R * 2 ^ R → af x = nI 0) (hk : WkOK K D R wk wf ws pf) : ∃ D' pf' af' qf' qd' v, f_X8_stepsFrom (HH A Z B Q P F q' D c) a q (nI s) = some (v, HH A Z B Q P F q' D' c) ∧ DR a D D' ∧ RD [va_rf (some q), .int (nI s), .int v] D' a R pf' af' qf' qd' ∧ (∀ x, x < R * 2 ^ R → af' x = nI 0) ∧ WA tt s v pf' := by
  have h16 := c_steps16 (A := A) (Z := Z) (B := B) (Q := Q) (P := P) (F := F) (q' := q') (c := c) hW hn hR hs hK H hr hz
  unfold f_X8_stepsFrom
  rw [rd_w hr, Option.bind_some]
  rcases hk with rfl | ⟨qw, tw, s2, rfl, H2, hW2, ⟨x1, x2⟩, rfl, hwa⟩
  · exact h16
  · dsimp only
    have el : lt2 (HH A Z B Q P F q' D c) qw q = some () := if_pos ⟨by rw [hh_len]; exact HC_lt H2.2.1, by rw [hh_len]; exact HC_lt H.2.1⟩
    rw [el, Option.bind_some]
    by_cases e : qw = q
    · subst e
      rw [if_pos rfl, rd_f hr, Option.bind_some]
      by_cases e1 : s2 = s
      · subst e1
        rw [if_pos rfl]
        unfold f_X8_stepsFrom_36
        rw [rd_s hr, Option.bind_some]
        exact ⟨D, pf, af, qf, qd, ws, rfl, DR.rf, hr, hz, WA_one H H2 hW hW2 hs hwa⟩
      · rw [if_neg (by rw [y_eq (by omega) (by omega)]; exact e1)]
        exact h16
    · rw [if_neg e]
      exact h16
end RTrace
