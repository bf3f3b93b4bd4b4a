/-! ===== carried: hours, plan ===== -/
theorem IsMin_add {E E' : Nat → Prop} {f : Nat → Nat} {v s0 : Nat} (h : IsMin E f v) (hE : ∀ s, E' s ↔ E s ∨ s = s0) : IsMin E' f (min v (f s0)) := by
  obtain ⟨a1, a2, a3⟩ := h
  refine ⟨Nat.le_trans (Nat.min_le_left _ _) a1, fun s hs => ?_, ?_⟩
  · rcases (hE s).mp hs with h | h
    · exact Nat.le_trans (Nat.min_le_left _ _) (a2 s h)
    · subst h; exact Nat.min_le_right _ _
  · by_cases hc : v ≤ f s0
    · rw [Nat.min_eq_left hc]
      rcases a3 with h | ⟨s, hs, h⟩
      · exact Or.inl h
      · exact Or.inr ⟨s, (hE s).mpr (Or.inl hs), h⟩
    · rw [Nat.min_eq_right (by omega)]
      exact Or.inr ⟨s0, (hE s0).mpr (Or.inr rfl), rfl⟩
theorem IsMin_cong {E E' : Nat → Prop} {f : Nat → Nat} {v : Nat} (h : IsMin E f v) (hE : ∀ s, E' s ↔ E s) : IsMin E' f v := by
  obtain ⟨a1, a2, a3⟩ := h
  refine ⟨a1, fun s hs => a2 s ((hE s).mp hs), ?_⟩
  rcases a3 with h | ⟨s, hs, h⟩
  · exact Or.inl h
  · exact Or.inr ⟨s, (hE s).mpr hs, h⟩
theorem minf_cong {f g : Nat → Nat} {top : Nat} : ∀ {n}, (∀ i, i < n → f i = g i) → minf f top n = minf g top n
  | 0, _ => rfl
  | n + 1, h => by rw [minf, minf, minf_cong (fun i hi => h i (by omega)), h n (by omega)]
section CPlan
variable {A : Nat → Nat → Int32} {Z : Nat → Int32} {B : Nat → Nat → Int64} {Q : Nat → Int64} {P : Nat → Option Nat} {F : Nat → Nat → Option Nat} {q : Nat} {D : List xC} {c : Nat × Nat} {K : Nat → Nat} {tt tp lk lh : Nat → Nat} {R i : Nat}
theorem c_fw37 (H : Hs K D q tt) {q' : Nat} : ∃ f, f_X1_fillHours_37 xFU (HH A Z B Q P F q' D c) 49 q (nI 0) = f_X1_fillHours_86 xFU (HH (upA A 50 f) Z B Q P F q' D c) 49 q (nI 0) (Z 13) ∧ ∀ a u, a < 16 → u < 16 → f (a * 16 + u) = nI (way tt a u) := by
  have key := loop_J (F := fun m j (s : xH) => f_X1_fillHours_37 m s 49 q (nI j)) (N := 256) (fun s => f_X1_fillHours_86 xFU s 49 q (nI 0) (Z 13)) (fun m s => ∃ f, s = HH (upA A 50 f) Z B Q P F q' D c ∧ ∀ a u, a < 16 → u < 16 → a * 16 + u < m → f (a * 16 + u) = nI (way tt a u)) (fun m j s hj hs => ?_) (fun m s hs => ?_) (by omega) (s := HH A Z B Q P F q' D c) ⟨A 50, by rw [y_ua], fun a u _ _ h => by omega⟩
  · obtain ⟨s, e1, f, e2, h1⟩ := key
    subst e2
    exact ⟨f, e1, fun a u ha hu => h1 a u ha hu (by omega)⟩
  · obtain ⟨f, rfl, h1⟩ := hs
    have hw := wv_way (tt := tt) (a := j / 16) (b := j % 16) (by omega)
    have hj2 : j / 16 * 16 + j % 16 = j := by omega
    rw [hj2] at hw
    have hle := way_le (tt := tt) (a := j / 16) (b := j % 16)
    have hF : FAR = 1000000 := rfl
    refine ⟨HH (upA A 50 (va_up f j (nI (way tt (j / 16) (j % 16))))) Z B Q P F q' D c, ?_, _, rfl, fun a u ha hu hau => ?_⟩
    · show f_X1_fillHours_37 (m + 1) _ _ _ _ = f_X1_fillHours_37 m _ _ _ _
      rw [f_X1_fillHours_37, gf_49_7, Option.bind_some, al_50, Option.bind_some, if_neg (by rw [y_le (by omega) (by omega)]; omega), Option.bind_some, hs_15 H, Option.bind_some, hs_wa H hj, Option.bind_some, hw]
      unfold f_X1_fillHours_72
      by_cases h : way tt (j / 16) (j % 16) < 1000000
      · rw [if_pos h, if_neg (by show ¬ nI _ = nM; rw [y_eqM (by omega)]; exact fun h => h), Option.bind_some, hs_wa H hj, Option.bind_some, hw, if_pos h, st_50 hj, Option.bind_some, y_uu, y_us, nI_1]
      · rw [if_neg h, if_pos (show nM = (-1 : Int32) from rfl), st_50 hj, Option.bind_some, y_uu, y_us, nI_1, show way tt (j / 16) (j % 16) = 1000000 by omega]
        rfl
    · by_cases e : a * 16 + u = j
      · subst e
        rw [y_vs, show (a * 16 + u) / 16 = a by omega, show (a * 16 + u) % 16 = u by omega]
      · rw [y_vn e]; exact h1 a u ha hu (by omega)
  · obtain ⟨f, rfl, h1⟩ := hs
    show f_X1_fillHours_37 (m + 1) _ _ _ _ = _
    rw [f_X1_fillHours_37, gf_49_7, Option.bind_some, al_50, Option.bind_some, if_pos (by rw [y_le (by omega) (by omega)]; exact Nat.le_refl _), gf_49_3, Option.bind_some]
    rfl
theorem c_least16 (hW : HWf tt) {n last h k a v : Nat} (hC : CR A Z tt n last) (h5 : H51 (A 51) tt n last h k) (hh : h < 24) (ha : a < tt 1) (hv : IsMin (fun s => s < 256 ∧ plc tt n s ∧ s / 16 < a) (cs tt n last k) v) (k5 : Nat → Int32 → Int32 → Int32 → Option Int32) : ∃ w, f_X1_least_16 (HH A Z B Q P F q D c) k5 xFU 49 (nI h) (nI v) (nI a) (nI 0) = k5 49 (nI h) (nI w) (nI (a + 1)) ∧ IsMin (fun s => s < 256 ∧ plc tt n s ∧ s / 16 < a + 1) (cs tt n last k) w := by
  have hro := hW.ro
  have hse := sec_le (tt := tt) (n := n)
  have hF : FAR = 1000000 := rfl
  have key := loop_J (F := fun m j (s : Nat) => f_X1_least_16 (HH A Z B Q P F q D c) k5 m 49 (nI h) (nI s) (nI a) (nI j)) (N := sec tt n) (fun s => k5 49 (nI h) (nI s) (nI (a + 1))) (fun m s => IsMin (fun s => s < 256 ∧ plc tt n s ∧ (s / 16 < a ∨ (s / 16 = a ∧ s % 16 < m))) (cs tt n last k) s) (fun m b s hb hs => ?_) (fun m s hs => ?_) (by omega) (s := v) (IsMin_cong hv (fun s => by
    constructor
    · rintro ⟨h1, h2, h3⟩; exact ⟨h1, h2, by omega⟩
    · rintro ⟨h1, h2, h3⟩; exact ⟨h1, h2, by omega⟩))
  · obtain ⟨w, e1, h1⟩ := key
    refine ⟨w, e1, IsMin_cong h1 (fun s => ?_)⟩
    constructor
    · rintro ⟨h1, h2, h3⟩; exact ⟨h1, h2, by have := h2.2; omega⟩
    · rintro ⟨h1, h2, h3⟩; exact ⟨h1, h2, by omega⟩
  · have hs1 := hs.1
    have w2 := cs_le (tt := tt) (n := n) (last := last) (k := k) (s := 16 * a + b)
    have e2 := h5 a b ha hb
    obtain ⟨q1, q2⟩ := dm16 (a := a) (b := b) (by omega)
    refine ⟨min s (cs tt n last k (16 * a + b)), ?_, IsMin_add hs (fun u => ?_)⟩
    · rw [← y_min]
      simp (disch := omega) only [f_X1_least_16, f_X1_at, if_true, if_false, Bool.false_eq_true, Bool.true_eq_false, y_lit, y_m1, nI_add, pk_mul, fa_and, fa_or, y_bs, if_pos, if_neg, y_shl, y_shr, y_le, y_lt, y_eq, y_sub, y_dv, y_rm, y_b0, y_b1, y_sdf, y_ltM, y_Mlt, y_leM, y_Mle, y_eqM, y_Meq, s_e1, s_e2, s_e3, s_e4, s_e5, s_e6, gf_49_5, gf_49_8, hC.2.2.2.1, ld_51, e2]
    · constructor
      · rintro ⟨h1, h2, h3⟩
        by_cases e : u = 16 * a + b
        · exact Or.inr e
        · exact Or.inl ⟨h1, h2, by omega⟩
      · rintro (⟨h1, h2, h3⟩ | e)
        · exact ⟨h1, h2, by omega⟩
        · subst e
          exact ⟨by omega, ⟨by rw [q1]; exact ha, by rw [q2]; exact hb⟩, by omega⟩
  · simp (disch := omega) only [f_X1_least_16, if_true, if_false, Bool.false_eq_true, Bool.true_eq_false, y_lit, y_m1, nI_add, pk_mul, fa_and, fa_or, y_bs, if_pos, if_neg, y_shl, y_shr, y_le, y_lt, y_eq, y_sub, y_dv, y_rm, y_b0, y_b1, y_sdf, y_ltM, y_Mlt, y_leM, y_Mle, y_eqM, y_Meq, s_e1, s_e2, s_e3, s_e4, s_e5, s_e6, gf_49_5, hC.2.2.2.1]
theorem c_least (hW : HWf tt) {n last h k : Nat} (hC : CR A Z tt n last) (h5 : H51 (A 51) tt n last h k) (hh : h < 24) : f_X1_least (HH A Z B Q P F q D c) 49 (nI h) = some (nI (csl tt n last k)) := by
  have hro := hW.ro
  unfold f_X1_least
  have key := loop_J (F := fun m j (s : Nat) => f_X1_least_5 (HH A Z B Q P F q D c) m 49 (nI h) (nI s) (nI j)) (N := tt 1) (fun s => some (nI s)) (fun m s => IsMin (fun s => s < 256 ∧ plc tt n s ∧ s / 16 < m) (cs tt n last k) s) (fun m a s ha hs => ?_) (fun m s hs => ?_) (by omega) (s := FAR) ⟨Nat.le_refl _, fun s hs => by have := hs.2.2; omega, Or.inl rfl⟩
  · obtain ⟨w, e1, h1⟩ := key
    have hw : w = csl tt n last k := IsMin_one (IsMin_cong h1 (fun s => by
      constructor
      · rintro ⟨h1, h2⟩; exact ⟨h1, h2, h2.1⟩
      · rintro ⟨h1, h2, h3⟩; exact ⟨h1, h2⟩)) csl_min
    rw [← hw]
    exact e1
  · obtain ⟨w, e1, h1⟩ := c_least16 (A := A) (Z := Z) (B := B) (Q := Q) (P := P) (F := F) (q := q) (D := D) (c := c) hW hC h5 hh ha hs (f_X1_least_5 (HH A Z B Q P F q D c) m)
    refine ⟨w, Eq.trans ?_ e1, h1⟩
    show f_X1_least_5 (HH A Z B Q P F q D c) (m + 1) _ _ _ _ = _
    rw [f_X1_least_5, gf_49_4, Option.bind_some, hC.2.2.1, if_neg (by rw [y_le (by omega) (by omega)]; omega)]
    rfl
  · show f_X1_least_5 (HH A Z B Q P F q D c) (m + 1) _ _ _ _ = _
    rw [f_X1_least_5, gf_49_4, Option.bind_some, hC.2.2.1, if_pos (by rw [y_le (by omega) (by omega)]; exact Nat.le_refl _)]
theorem cpy51 {sp dp : Nat} (h1 : sp + 256 ≤ 6144) (h2 : dp + 256 ≤ 6144) : cpI (HH A Z B Q P F q D c) 51 (nI sp) 51 (nI dp) (nI 256) = some (HH (upA A 51 (va_cpy (A 51) (A 51) sp dp 256)) Z B Q P F q D c) := by
  have e := cpI_of (h := HH A Z B Q P F q D c) (LLg_51 A Z B Q P F q D) (LLg_51 A Z B Q P F q D) (sp := sp) (dp := dp) (n := 256) h1 h2 (by omega) (by omega) (by omega)
  rw [e, LLs_51]
theorem c_fh86 (H : Hs K D q tt) (hW : HWf tt) {q' n fi last : Nat} (hn : n = 1 ∨ n = 2) (hC : CR A Z tt n last) (hf : fi ≤ last) (hl : last < 24) (h12 : Z 12 = nI fi) : ∃ f g, f_X1_fillHours_86 xFU (HH A Z B Q P F q' D c) 49 q (nI 0) (nI last) = some (HH (upA (upA A 52 g) 51 f) (upA Z 16 (nI (csl tt n last (last - fi)))) B Q P F q' D c) ∧ ∀ k, k ≤ last - fi → H51 f tt n last (last - k) k := by
  have hro := hW.ro
  have hse := sec_le (tt := tt) (n := n)
  have hpw := pw16 hro
  have eA : ∀ g0 f0 g f, upA (upA (upA (upA A 52 g0) 51 f0) 52 g) 51 f = upA (upA A 52 g) 51 f := fun g0 f0 g f => by
    funext k
    unfold upA
    by_cases e1 : k = 51
    · subst e1; simp
    · by_cases e2 : k = 52
      · subst e2; simp
      · simp [e1, e2]
  have key := loop_I (F := fun m j (s : xH × Int32) => f_X1_fillHours_86 m s.1 49 q s.2 (kv (last + 1 - j))) (N := last - fi + 1) some (fun j s => ∃ f g, s.1 = HH (upA (upA A 52 g) 51 f) Z B Q P F q' D c ∧ (∀ k, k < j → H51 f tt n last (last - k) k) ∧ (0 < j → s.2 = nI (need tt (last - (j - 1))))) (fun o => ∃ f g, o = HH (upA (upA A 52 g) 51 f) (upA Z 16 (nI (csl tt n last (last - fi)))) B Q P F q' D c ∧ ∀ k, k ≤ last - fi → H51 f tt n last (last - k) k) (fun m j s hj hs => Or.inl ?_) (fun m s hs => ?_) (by omega) (s := (HH A Z B Q P F q' D c, nI 0)) ⟨A 51, A 52, by rw [y_ua, y_ua], fun k hk => by omega, fun h => by omega⟩
  · obtain ⟨o, e1, f, g, rfl, h1⟩ := key
    have e2 : kv (last + 1 - 0) = nI last := kv_s last
    dsimp only at e1
    rw [e2] at e1
    exact ⟨f, g, e1, h1⟩
  · obtain ⟨sh, sn⟩ := s
    obtain ⟨f, g, e0, h1, h2⟩ := hs
    dsimp only at e0 h2
    subst e0
    have ek : kv (last + 1 - j) = nI (last - j) := by
      rw [show last + 1 - j = (last - j) + 1 by omega]
      exact kv_s _
    have ek2 : kv (last + 1 - (j + 1)) = nI (last - j) + -1 := by
      rw [show last + 1 - (j + 1) = last - j by omega, kv_m]
    have hC2 : CR (upA (upA A 52 g) 51 f) Z tt n last := hC
    have hnd := need_lt hW (last - j)
    have en := c_needy (A := upA (upA A 52 g) 51 f) (Z := Z) (B := B) (Q := Q) (P := P) (F := F) (c := c) H hW (q' := q') (t := last - j) (by omega)
    have hfill : ∃ f' g', f_X1_fillHours_146 (f_X1_fillHours_86 m) (HH (upA (upA A 52 g) 51 f) Z B Q P F q' D c) 49 q (nI (last - j)) (nI (need tt (last - j))) = f_X1_fillHours_86 m (HH (upA (upA A 52 g') 51 f') Z B Q P F q' D c) 49 q (nI (need tt (last - j))) (kv (last + 1 - (j + 1))) ∧ ∀ k, k < j + 1 → H51 f' tt n last (last - k) k := by
      obtain ⟨f', g', e3, h3, h4⟩ := c_fillHour (A := upA (upA A 52 g) 51 f) (Z := Z) (B := B) (Q := Q) (P := P) (F := F) (c := c) H hW (q' := q') (k := j) hn hC2 (by omega) hl (fun hj0 => by
        have := h1 (j - 1) (by omega)
        rw [show last - (j - 1) = last - j + 1 by omega] at this
        exact this)
      rw [eA] at e3
      refine ⟨f', g', ?_, fun k hk => ?_⟩
      · unfold f_X1_fillHours_146
        rw [gO_49, Option.bind_some, e3, Option.bind_some, ek2]
      · by_cases e : k = j
        · subst e; exact h3
        · intro u b hu hb
          rw [h4 _ (by omega), y_us]
          exact h1 k (by omega) u b hu hb
    have estart : f_X1_fillHours_86 (m + 1) (HH (upA (upA A 52 g) 51 f) Z B Q P F q' D c) 49 q sn (nI (last - j)) = (if nI last ≤ nI (last - j) then f_X1_fillHours_146 (f_X1_fillHours_86 m) (HH (upA (upA A 52 g) 51 f) Z B Q P F q' D c) 49 q (nI (last - j)) (nI (need tt (last - j))) else if nI (need tt (last - j)) = sn then f_X1_fillHours_86 m (HH (upA (upA A 52 g) 51 (va_cpy f f ((last - j + 1) * 256) ((last - j) * 256) 256)) Z B Q P F q' D c) 49 q (nI (need tt (last - j))) (nI (last - j) + -1) else f_X1_fillHours_146 (f_X1_fillHours_86 m) (HH (upA (upA A 52 g) 51 f) Z B Q P F q' D c) 49 q (nI (last - j)) (nI (need tt (last - j)))) := by
      rw [f_X1_fillHours_86, gf_49_2, Option.bind_some, h12, if_neg (by rw [y_lt (by omega) (by omega)]; omega), hs_gO H, Option.bind_some, en, Option.bind_some, gf_49_3, Option.bind_some, hC.2.1]
      by_cases e : nI last ≤ nI (last - j)
      · rw [if_pos e, if_pos e]
      · rw [if_neg e, if_neg e]
        by_cases e2 : nI (need tt (last - j)) = sn
        · have hj0 : 0 < j := by
            rw [y_le (by omega) (by omega)] at e
            omega
          rw [if_pos e2, if_pos e2, gf_49_8, Option.bind_some]
          unfold f_X1_at
          rw [Option.bind_some, Option.bind_some, Option.bind_some, show (16 : Int32) = nI 16 from rfl, show (0 : Int32) = nI 0 from rfl, show (256 : Int32) = nI 256 from rfl, nI_1, pk_mul, nI_add, pk_mul, nI_add, pk_mul, nI_add, pk_mul, nI_add, show ((last - j + 1) * 16 + 0) * 16 + 0 = (last - j + 1) * 256 by omega, show ((last - j) * 16 + 0) * 16 + 0 = (last - j) * 256 by omega, cpy51 (by omega) (by omega), Option.bind_some, y_uu, y_us]
        · rw [if_neg e2, if_neg e2]
    obtain ⟨f', g', e5, h5⟩ := hfill
    by_cases e : nI last ≤ nI (last - j)
    · refine ⟨(HH (upA (upA A 52 g') 51 f') Z B Q P F q' D c, nI (need tt (last - j))), ?_, f', g', rfl, h5, fun _ => by rw [Nat.add_sub_cancel]⟩
      show f_X1_fillHours_86 (m + 1) _ 49 q sn (kv (last + 1 - j)) = _
      rw [ek, estart, if_pos e]
      exact e5
    · by_cases e2 : nI (need tt (last - j)) = sn
      · have hj0 : 0 < j := by
          rw [y_le (by omega) (by omega)] at e
          omega
        have hne : need tt (last - ((j - 1) + 1)) = need tt (last - (j - 1)) := by
          have h3 := h2 hj0
          have h4 := need_lt hW (last - (j - 1))
          rw [h3, y_eq (by omega) (by omega)] at e2
          rw [show j - 1 + 1 = j by omega]
          exact e2
        refine ⟨(HH (upA (upA A 52 g) 51 (va_cpy f f ((last - j + 1) * 256) ((last - j) * 256) 256)) Z B Q P F q' D c, nI (need tt (last - j))), ?_, _, _, rfl, fun k hk u b hu hb => ?_, fun _ => by rw [Nat.add_sub_cancel]⟩
        · show f_X1_fillHours_86 (m + 1) _ 49 q sn (kv (last + 1 - j)) = f_X1_fillHours_86 m _ 49 q _ (kv (last + 1 - (j + 1)))
          rw [ek, ek2, estart, if_neg e, if_pos e2]
        · unfold va_cpy
          by_cases ekj : k = j
          · subst ekj
            obtain ⟨q1, q2⟩ := dm16 (a := u) (b := b) (by omega)
            rw [if_pos (by omega), show (last - k + 1) * 256 + (((last - k) * 16 + u) * 16 + b - (last - k) * 256) = ((last - (k - 1)) * 16 + u) * 16 + b by omega, h1 (k - 1) (by omega) u b hu hb]
            have := cs_same hW (n := n) (last := last) (k := k - 1) (s := 16 * u + b) ⟨by rw [q1]; exact hu, by rw [q2]; exact hb⟩ (by omega) hne
            rw [show k - 1 + 1 = k by omega] at this
            rw [this]
          · rw [if_neg (by omega)]
            exact h1 k (by omega) u b hu hb
      · refine ⟨(HH (upA (upA A 52 g') 51 f') Z B Q P F q' D c, nI (need tt (last - j))), ?_, f', g', rfl, h5, fun _ => by rw [Nat.add_sub_cancel]⟩
        show f_X1_fillHours_86 (m + 1) _ 49 q sn (kv (last + 1 - j)) = _
        rw [ek, estart, if_neg e, if_neg e2]
        exact e5
  · obtain ⟨sh, sn⟩ := s
    obtain ⟨f, g, e0, h1, h2⟩ := hs
    dsimp only at e0 h2
    subst e0
    have hC2 : CR (upA (upA A 52 g) 51 f) Z tt n last := hC
    have e3 := c_least (A := upA (upA A 52 g) 51 f) (Z := Z) (B := B) (Q := Q) (P := P) (F := F) (q := q') (D := D) (c := c) hW (h := fi) (k := last - fi) hC2 (by
      have := h1 (last - fi) (by omega)
      rw [show last - (last - fi) = fi by omega] at this
      exact this) (by omega)
    refine ⟨HH (upA (upA A 52 g) 51 f) (upA Z 16 (nI (csl tt n last (last - fi)))) B Q P F q' D c, ?_, f, g, rfl, fun k hk => h1 k (by omega)⟩
    show f_X1_fillHours_86 (m + 1) (HH (upA (upA A 52 g) 51 f) Z B Q P F q' D c) 49 q sn (kv (last + 1 - (last - fi + 1))) = _
    have hlt : kv (last + 1 - (last - fi + 1)) < nI fi := by
      rw [show last + 1 - (last - fi + 1) = fi by omega]
      cases fi with
      | zero => decide
      | succ fi => rw [kv_s, y_lt (by omega) (by omega)]; omega
    rw [f_X1_fillHours_86, gf_49_2, Option.bind_some, h12, if_pos hlt, Option.bind_some, gO_49, Option.bind_some, e3, Option.bind_some, pf_49_6, Option.bind_some]
end CPlan
