/-! ===== sooner: what is checked first ===== -/
theorem tls_cong {b b' : Nat → Int64} (s : Nat) : ∀ {n : Nat}, (∀ k, k < n → b k = b' k) → tls b s n = tls b' s n := by
  intro n
  induction n with
  | zero => intro _; rfl
  | succ n ih => intro h; rw [tls, tls, ih (fun k hk => h k (by omega)), h n (by omega)]
theorem fwr_cong {tt : Nat → Nat} {b b' : Nat → Int64} (h : ∀ k, k < tt 1 → b k = b' k) : fwr tt b = fwr tt b' := by
  have e : wrg tt b = wrg tt b' := by
    funext s
    unfold wrg
    rw [tls_cong s h]
  unfold fwr
  rw [e]
def win (v : Int64) : Bool := decide (¬ lg_cmp v (-9999 : Int64) < 0 ∧ ¬ 0 < lg_cmp v (9999 : Int64))
def sgd (g : Nat → Int64) (tt : Nat → Nat) (t : Nat) : Prop := ∀ r, r < tt 1 → win (g (40 * t + r)) = true
theorem win_m (h : xH) (v : Int64) : f_X12_within h v (-9999 : Int64) (9999 : Int64) = some (if win v = true then nI 1 else nI 0) := by
  unfold f_X12_within
  cases hw : win v
  · have h0 := of_decide_eq_false hw
    by_cases a : lg_cmp v (-9999 : Int64) < 0
    · rw [if_pos a]; rfl
    · rw [if_neg a]
      by_cases b : 0 < lg_cmp v (9999 : Int64)
      · rw [if_pos b]; rfl
      · exact absurd ⟨a, b⟩ h0
  · obtain ⟨a, b⟩ := of_decide_eq_true hw
    rw [if_neg a, if_neg b, if_pos rfl]
    rfl
theorem sgd_cong {f g : Nat → Int64} {tt : Nat → Nat} {t : Nat} (ht : t < 4) (hn : tt 1 ≤ 40) (h : ∀ k, k < 160 → f k = g k) : sgd f tt t ↔ sgd g tt t := by
  constructor
  · intro h1 r hr
    rw [← h _ (by omega)]
    exact h1 r hr
  · intro h1 r hr
    rw [h _ (by omega)]
    exact h1 r hr
section Soon2
variable {A : Nat → Nat → Int32} {Z : Nat → Int32} {B : Nat → Nat → Int64} {Q : Nat → Int64} {P : Nat → Option Nat} {F : Nat → Nat → Option Nat} {q : Nat} {D : List xC} {c : Nat × Nat} {K : Nat → Nat} {tt lk lh : Nat → Nat} {R i : Nat}
theorem c_so60 {t : Nat} (ht : t < 4) (H : Hs K D q tt) (hW : HWf tt) : (sgd (B 18) tt t ∧ f_X11_sooner_60 xFU (HH A Z B Q P F q D c) 0 (nI t) (nI 0) = (f_X9_firstWronged (HH A Z B Q P F q D c) 53 q 17 (nI t)).bind fun r => some (.inr (r.1, r.2))) ∨ (¬ sgd (B 18) tt t ∧ f_X11_sooner_60 xFU (HH A Z B Q P F q D c) 0 (nI t) (nI 0) = some (.inl ("java/lang/IllegalArgumentException", HH A Z B Q P F q D (c.1 + 1, c.2 + 6)))) := by
  have hro := hW.ro
  generalize hG : ((f_X9_firstWronged (HH A Z B Q P F q D c) 53 q 17 (nI t)).bind fun r => some (.inr (r.1, r.2)) : Option ((String × xH) ⊕ (Int32 × xH))) = G
  have key := loop_I (F := fun m i (s : Unit) => f_X11_sooner_60 m (HH A Z B Q P F q D c) 0 (nI t) (nI i)) (N := tt 1) (ρ := Option ((String × xH) ⊕ (Int32 × xH))) id (fun i _ => ∀ r, r < i → win (B 18 (40 * t + r)) = true) (fun o => (sgd (B 18) tt t ∧ o = G) ∨ (¬ sgd (B 18) tt t ∧ o = some (.inl ("java/lang/IllegalArgumentException", HH A Z B Q P F q D (c.1 + 1, c.2 + 6))))) (fun m i s hi hs => ?_) (fun m s hs => ?_) (by omega) (s := ()) (fun r hr => by omega)
  · obtain ⟨o, e1, h⟩ := key
    rcases h with ⟨h, rfl⟩ | ⟨h, rfl⟩
    · exact Or.inl ⟨h, e1⟩
    · exact Or.inr ⟨h, e1⟩
  · have e0 : f_X11_sooner_60 (m + 1) (HH A Z B Q P F q D c) 0 (nI t) (nI i) = if lg_cmp (B 18 (40 * t + i)) (-9999 : Int64) < 0 then f_X11_sooner_97 (HH A Z B Q P F q D c) else if lg_cmp (B 18 (40 * t + i)) (9999 : Int64) ≤ 0 then f_X11_sooner_60 m (HH A Z B Q P F q D c) 0 (nI t) (nI (i + 1)) else f_X11_sooner_97 (HH A Z B Q P F q D c) := by
      rw [f_X11_sooner_60, gf_0_4, Option.bind_some, hs_1 H, Option.bind_some, if_neg (by rw [y_le (by omega) (by omega)]; omega), gf_0_10, Option.bind_some, gO_17, Option.bind_some, c_numberAt ht (by omega), Option.bind_some, show (1 : Int32) = nI 1 from rfl, nI_add]
    cases hw : win (B 18 (40 * t + i))
    · right
      refine ⟨some (.inl ("java/lang/IllegalArgumentException", HH A Z B Q P F q D (c.1 + 1, c.2 + 6))), ?_, Or.inr ⟨fun h => ?_, rfl⟩⟩
      · show f_X11_sooner_60 (m + 1) _ _ _ _ = _
        rw [e0]
        have h0 := of_decide_eq_false hw
        by_cases a : lg_cmp (B 18 (40 * t + i)) (-9999 : Int64) < 0
        · rw [if_pos a]; rfl
        · rw [if_neg a, if_neg (fun b => h0 ⟨a, fun d => by rw [fa_le] at b; rw [fa_lt] at d; omega⟩)]; rfl
      · rw [h i hi] at hw
        cases hw
    · left
      refine ⟨(), ?_, fun r hr => ?_⟩
      · show f_X11_sooner_60 (m + 1) _ _ _ _ = f_X11_sooner_60 m _ _ _ _
        obtain ⟨a, b⟩ := of_decide_eq_true hw
        rw [e0, if_neg a, if_pos (by rw [fa_lt] at b; rw [fa_le]; omega)]
      · by_cases e : r = i
        · subst e; exact hw
        · exact hs r (by omega)
  · refine ⟨G, ?_, Or.inl ⟨hs, rfl⟩⟩
    show f_X11_sooner_60 (m + 1) _ _ _ _ = G
    rw [f_X11_sooner_60, gf_0_4, Option.bind_some, hs_1 H, Option.bind_some, if_pos (by rw [y_le (by omega) (by omega)]; exact Nat.le_refl _), gf_0_16, Option.bind_some, Option.bind_some, gf_0_10, Option.bind_some, gO_53, Option.bind_some]
    exact hG
theorem m_so70 {t : Nat} (ht : t < 4) (hT : Told (A 58) tt lk lh) (hW : HWf tt) (good : Bool) : (good = true ∧ sgd (B 75) tt t ∧ f_X12_sooner_70 xFU (HH A Z B Q P F q D c) 57 (nI t) (nI (if good then 1 else 0)) (nI 0) = (f_X12_laySavings (HH A Z B Q P F q D c) 57).bind fun r => f_X12_sooner_133 xFU r 57 (nI t) (nI 1)) ∨ (¬ (good = true ∧ sgd (B 75) tt t) ∧ f_X12_sooner_70 xFU (HH A Z B Q P F q D c) 57 (nI t) (nI (if good then 1 else 0)) (nI 0) = some (nI 0, HH A (upA Z 18 (nI 4)) B Q P F q D c)) := by
  have hro := hW.ro
  generalize hG : ((f_X12_laySavings (HH A Z B Q P F q D c) 57).bind fun r => f_X12_sooner_133 xFU r 57 (nI t) (nI 1)) = G
  have key := loop_I (F := fun m i (s : Bool) => f_X12_sooner_70 m (HH A Z B Q P F q D c) 57 (nI t) (nI (if s then 1 else 0)) (nI i)) (N := tt 1) (ρ := Option (Int32 × xH)) id (fun i s => s = true ↔ (good = true ∧ ∀ r, r < i → win (B 75 (40 * t + r)) = true)) (fun o => (good = true ∧ sgd (B 75) tt t ∧ o = G) ∨ (¬ (good = true ∧ sgd (B 75) tt t) ∧ o = some (nI 0, HH A (upA Z 18 (nI 4)) B Q P F q D c))) (fun m i s hi hs => ?_) (fun m s hs => ?_) (by omega) (s := good) ⟨fun h => ⟨h, fun r hr => by omega⟩, fun h => h.1⟩
  · obtain ⟨o, e1, h⟩ := key
    rcases h with ⟨h0, h, rfl⟩ | ⟨h, rfl⟩
    · exact Or.inl ⟨h0, h, e1⟩
    · exact Or.inr ⟨h, e1⟩
  · left
    cases s with
    | false =>
      refine ⟨false, ?_, ?_⟩
      · show f_X12_sooner_70 (m + 1) _ _ _ _ _ = f_X12_sooner_70 m _ _ _ _ _
        rw [f_X12_sooner_70, gO_57, Option.bind_some, m_rooms hT, Option.bind_some, if_neg (by rw [y_le (by omega) (by omega)]; omega), if_pos (by decide), show (1 : Int32) = nI 1 from rfl, nI_add]
        rfl
      · constructor
        · intro h; cases h
        · intro h
          exact hs.mpr ⟨h.1, fun r hr => h.2 r (by omega)⟩
    | true =>
      have hgi := hs.mp rfl
      have e0 : f_X12_sooner_70 (m + 1) (HH A Z B Q P F q D c) 57 (nI t) (nI (if true then 1 else 0)) (nI i) = if win (B 75 (40 * t + i)) = true then f_X12_sooner_70 m (HH A Z B Q P F q D c) 57 (nI t) (nI 1) (nI (i + 1)) else f_X12_sooner_70 m (HH A Z B Q P F q D c) 57 (nI t) (nI 0) (nI (i + 1)) := by
        rw [f_X12_sooner_70, gO_57, Option.bind_some, m_rooms hT, Option.bind_some, if_neg (by rw [y_le (by omega) (by omega)]; omega), if_neg (by decide), gf_57_31, Option.bind_some, show (40 : Int32) = nI 40 from rfl, pk_mul, nI_add, ld_75 (by omega), Option.bind_some, win_m, Option.bind_some, show (1 : Int32) = nI 1 from rfl, nI_add]
        cases hw : win (B 75 (40 * t + i))
        · rw [if_pos (by decide), if_neg (by decide)]; rfl
        · rw [if_pos rfl, if_neg (by decide), if_pos rfl]
      cases hw : win (B 75 (40 * t + i))
      · refine ⟨false, ?_, ?_⟩
        · show f_X12_sooner_70 (m + 1) _ _ _ _ _ = f_X12_sooner_70 m _ _ _ _ _
          rw [e0, hw, if_neg (by decide)]
          rfl
        · constructor
          · intro h; cases h
          · intro h
            rw [h.2 i (by omega)] at hw
            cases hw
      · refine ⟨true, ?_, ?_⟩
        · show f_X12_sooner_70 (m + 1) _ _ _ _ _ = f_X12_sooner_70 m _ _ _ _ _
          rw [e0, hw, if_pos rfl]
          rfl
        · refine ⟨fun _ => ⟨hgi.1, fun r hr => ?_⟩, fun _ => rfl⟩
          by_cases e : r = i
          · subst e; exact hw
          · exact hgi.2 r (by omega)
  · cases s with
    | false =>
      refine ⟨some (nI 0, HH A (upA Z 18 (nI 4)) B Q P F q D c), ?_, Or.inr ⟨fun h => ?_, rfl⟩⟩
      · show f_X12_sooner_70 (m + 1) _ _ _ _ _ = some _
        rw [f_X12_sooner_70, gO_57, Option.bind_some, m_rooms hT, Option.bind_some, if_pos (by rw [y_le (by omega) (by omega)]; exact Nat.le_refl _), if_pos (by decide), Option.bind_some, m_fails, Option.bind_some]
        rfl
      · have := hs.mpr h
        cases this
    | true =>
      have h := hs.mp rfl
      refine ⟨G, ?_, Or.inl ⟨h.1, h.2, rfl⟩⟩
      show f_X12_sooner_70 (m + 1) _ _ _ _ _ = G
      rw [f_X12_sooner_70, gO_57, Option.bind_some, m_rooms hT, Option.bind_some, if_pos (by rw [y_le (by omega) (by omega)]; exact Nat.le_refl _), if_neg (by decide), Option.bind_some]
      exact hG
theorem Zro_55 {A' : Nat → Nat → Int32} (H : Zro A) (hA : Only [54, 55, 56, 63, 70] A A') (h5 : A' 55 0 = 0) : Zro A' := by
  obtain ⟨h1, h2, h3, h4, _, h6⟩ := H
  unfold Zro
  rw [hA 24 (by decide), hA 25 (by decide), hA 26 (by decide), hA 36 (by decide), hA 35 (by decide)]
  exact ⟨h1, h2, h3, h4, h5, h6⟩
end Soon2
theorem ok_sooner : ∀ x0, ME (fun h => f_L_sooner h 0 x0 76) (fun h => f_X12_sooner h 57 x0) := by
  intro x h i hJ hi
  obtain ⟨K, A, Z, B, Q, P, F, q, D, c, tt, lk, lh, R, rfl, hI⟩ := hJ
  have hz := hI.2.1.2.2.2
  obtain ⟨H, hW, hL, hT, hLm⟩ := hI.1
  obtain ⟨hY, hN⟩ := hI.2.1.2.2.1
  have hS := hI.2.2.1.2.1.1
  have hro := hW.ro
  cases hx : rk x 4
  · refine ME_t hI (k := 1) (b := nI 0) (by decide) ?_ ?_ (oZ182 (nI 0) (nI 1)) rfl
    · unfold f_L_sooner f_X11_sooner
      generalize xFU = N
      simp (disch := omega) only [if_true, if_false, Bool.false_eq_true, Bool.true_eq_false, y_lit, y_m1, nI_add, pk_mul, fa_and, fa_or, y_bs, if_pos, if_neg, y_shl, y_shr, y_le, y_lt, y_eq, y_sub, y_dv, y_rm, y_b0, y_b1, y_sdf, y_ltM, y_Mlt, y_leM, y_Mle, y_eqM, y_Meq, s_e1, s_e2, s_e3, s_e4, s_e5, s_e6, gO_0, c_trayThere0 hx]
    · unfold f_X12_sooner
      generalize f_X12_sooner_67 = N
      simp (disch := omega) only [if_true, if_false, Bool.false_eq_true, Bool.true_eq_false, y_lit, y_m1, nI_add, pk_mul, fa_and, fa_or, y_bs, if_pos, if_neg, y_shl, y_shr, y_le, y_lt, y_eq, y_sub, y_dv, y_rm, y_b0, y_b1, y_sdf, y_ltM, y_Mlt, y_leM, y_Mle, y_eqM, y_Meq, s_e1, s_e2, s_e3, s_e4, s_e5, s_e6, pf_57_4, gO_57, m_isTray, hx, m_fails]
  · obtain ⟨t, ht, rfl⟩ := rk_t (by decide) hx
    rcases hY t ht with ⟨a1, a2⟩ | ⟨s, m, hs, hm, a3, a4, a5, a6⟩
    · refine ME_t hI (k := 2) (b := nI 0) (by decide) ?_ ?_ (oZ182 (nI 0) (nI 2)) rfl
      · unfold f_L_sooner f_X11_sooner
        generalize xFU = N
        simp (disch := omega) only [if_true, if_false, Bool.false_eq_true, Bool.true_eq_false, y_lit, y_m1, nI_add, pk_mul, fa_and, fa_or, y_bs, if_pos, if_neg, y_shl, y_shr, y_le, y_lt, y_eq, y_sub, y_dv, y_rm, y_b0, y_b1, y_sdf, y_ltM, y_Mlt, y_leM, y_Mle, y_eqM, y_Meq, s_e1, s_e2, s_e3, s_e4, s_e5, s_e6, gO_0, c_trayThere1 ht a1]
      · unfold f_X12_sooner
        generalize f_X12_sooner_67 = N
        simp (disch := omega) only [if_true, if_false, Bool.false_eq_true, Bool.true_eq_false, y_lit, y_m1, nI_add, pk_mul, fa_and, fa_or, y_bs, if_pos, if_neg, y_shl, y_shr, y_le, y_lt, y_eq, y_sub, y_dv, y_rm, y_b0, y_b1, y_sdf, y_ltM, y_Mlt, y_leM, y_Mle, y_eqM, y_Meq, s_e1, s_e2, s_e3, s_e4, s_e5, s_e6, pf_57_4, gO_57, m_isTray, hx, gf_57_29, ld_73, a2, m_fails]
    · by_cases hle : tt 1 ≤ m
      · have em : ∀ A1 Z1 B1 P1 c1, Told (A1 58) tt lk lh → A1 73 t = nI s → A1 74 t = nI m → f_X12_sooner (HH A1 Z1 B1 Q P1 F q D c1) 57 (nI t) = f_X12_sooner_70 xFU (HH A1 (upA Z1 18 (nI 0)) B1 Q P1 F q D c1) 57 (nI t) (nI (if decide (tt 1 ≤ 10) then 1 else 0)) (nI 0) := by
          intro A1 Z1 B1 P1 c1 hT1 u5 u6
          unfold f_X12_sooner f_X12_sooner_67
          generalize xFU = N
          by_cases h10 : tt 1 ≤ 10
          · simp (disch := omega) only [if_true, if_false, Bool.false_eq_true, Bool.true_eq_false, y_lit, y_m1, nI_add, pk_mul, fa_and, fa_or, y_bs, if_pos, if_neg, y_shl, y_shr, y_le, y_lt, y_eq, y_sub, y_dv, y_rm, y_b0, y_b1, y_sdf, y_ltM, y_Mlt, y_leM, y_Mle, y_eqM, y_Meq, s_e1, s_e2, s_e3, s_e4, s_e5, s_e6, pf_57_4, gO_57, m_isTray, hx, gf_57_29, gf_57_30, ld_73, ld_74, u5, u6, m_rooms hT1, h10, decide_true]
          · simp (disch := omega) only [if_true, if_false, Bool.false_eq_true, Bool.true_eq_false, y_lit, y_m1, nI_add, pk_mul, fa_and, fa_or, y_bs, if_pos, if_neg, y_shl, y_shr, y_le, y_lt, y_eq, y_sub, y_dv, y_rm, y_b0, y_b1, y_sdf, y_ltM, y_Mlt, y_leM, y_Mle, y_eqM, y_Meq, s_e1, s_e2, s_e3, s_e4, s_e5, s_e6, pf_57_4, gO_57, m_isTray, hx, gf_57_29, gf_57_30, ld_73, ld_74, u5, u6, m_rooms hT1, h10, decide_false]
        by_cases h10 : tt 1 ≤ 10
        · rcases c_so60 (A := A) (Z := Z) (B := B) (Q := Q) (P := P) (F := F) (c := c) ht H hW with ⟨hg, e1⟩ | ⟨hg, e1⟩
          · obtain ⟨A', Z', e2, o1, o2, o3, o4⟩ := c_findSavings (A := A) (Z := Z) (B := B) (Q := Q) (P := P) (F := F) (c := c) H hW h10 hz.2.2.2.2.1 hS
            have e3 := c_wr8 (A := A') (Z := Z') (B := B) (Q := Q) (P := upA P 2 (some q)) (F := F) (c := c) H hW h10 ht o4
            generalize hv : fwr tt (fun k => B 18 (40 * t + k)) = v at e3
            have hT2 : Told (A' 58) tt lk lh := by rw [o1 58 (by decide)]; exact hT
            obtain ⟨f, g, e5, hg5⟩ := m_laySavings (A := A') (Z := upA Z' 18 (nI 0)) (B := oB B v.toInt64) (Q := Q) (P := upA P 2 (some q)) (F := F) (q := q) (D := D) (c := c) hT2 hW h10
            have e6 := m_so133 (A := upA (upA A' 63 f) 70 g) (Z := upA Z' 18 (nI 0)) (B := oB B v.toInt64) (Q := Q) (P := upA P 2 (some q)) (F := F) (q := q) (D := D) (c := c) (tt := tt) (lk := lk) (lh := lh) hT2 hW h10 ht hg5
            have hv2 : fwr tt (fun k => oB B v.toInt64 75 (40 * t + k)) = v := by
              rw [← hv]
              exact fwr_cong (fun k hk => (hN (40 * t + k) (by omega)).symm)
            rw [hv2] at e6
            have hA2 : Only [54, 55, 56, 63, 70] A (upA (upA A' 63 f) 70 g) := ((o1.mono (by decide)).up (by decide)).up (by decide)
            refine ⟨nI 0, HH A' Z' (oB B v.toInt64) Q (upA P 2 (some q)) F q D c, v, HH (upA (upA A' 63 f) 70 g) (upA Z' 18 (nI 0)) (oB B v.toInt64) Q (upA P 2 (some q)) F q D c, ?_, ⟨_, _, _, _, _, _, _, _, _, rfl⟩, ?_, by rw [gf_57_4, y_us], fun _ => oB_ld _, ⟨K, _, _, _, _, _, _, _, _, _, tt, lk, lh, R, rfl, Inv_sav hI (hA2.mono (by decide)) (Zro_55 hz hA2 (by rw [y_un (by decide), y_un (by decide)]; exact o2)) ((o3.mono (by decide)).up (by decide)) (oB_o _) (fun s hs => by rw [y_un (by decide), y_un (by decide)]; exact o4 s hs)⟩⟩
            · show f_L_sooner (HH A Z B Q P F q D c) 0 (nI t) 76 = _
              have e7 : f_X9_firstWronged (HH A Z B Q P F q D c) 53 q 17 (nI t) = some (v, HH A' Z' B Q (upA P 2 (some q)) F q D c) := by
                unfold f_X9_firstWronged
                rw [gO_53, Option.bind_some, e2, Option.bind_some]
                exact e3
              rw [e7, Option.bind_some] at e1
              unfold f_L_sooner f_X11_sooner
              generalize xFU = N at e1 ⊢
              simp (disch := omega) only [if_true, if_false, Bool.false_eq_true, Bool.true_eq_false, y_lit, y_m1, nI_add, pk_mul, fa_and, fa_or, y_bs, if_pos, if_neg, y_shl, y_shr, y_le, y_lt, y_eq, y_sub, y_dv, y_rm, y_b0, y_b1, y_sdf, y_ltM, y_Mlt, y_leM, y_Mle, y_eqM, y_Meq, s_e1, s_e2, s_e3, s_e4, s_e5, s_e6, gO_0, c_trayThere2 ht hm a3, gf_0_10, gf_0_4, gf_17_1, ld_19, a3, hs_1 H, e1, oB_st]
            · show f_X12_sooner (HH A' Z' (oB B v.toInt64) Q (upA P 2 (some q)) F q D c) 57 (nI t) = _
              rw [em A' Z' _ _ _ hT2 (by rw [o1 73 (by decide)]; exact a5) (by rw [o1 74 (by decide)]; exact a6)]
              rcases m_so70 (A := A') (Z := upA Z' 18 (nI 0)) (B := oB B v.toInt64) (Q := Q) (P := upA P 2 (some q)) (F := F) (q := q) (D := D) (c := c) ht hT2 hW (decide (tt 1 ≤ 10)) with ⟨_, _, e4⟩ | ⟨h9, _⟩
              · rw [e4, e5, Option.bind_some]
                exact e6
              · exact absurd ⟨decide_eq_true h10, (sgd_cong ht (by omega) hN).mp hg⟩ h9
          · have hg2 : ¬ sgd (B 75) tt t := fun h => hg ((sgd_cong ht (by omega) hN).mpr h)
            refine ME_t hI (k := 4) (b := nI 0) (by decide) ?_ ?_ (oZ182 (nI 0) (nI 4)) rfl
            · show f_L_sooner (HH A Z B Q P F q D c) 0 (nI t) 76 = _
              unfold f_L_sooner f_X11_sooner
              generalize xFU = N at e1 ⊢
              simp (disch := omega) only [if_true, if_false, Bool.false_eq_true, Bool.true_eq_false, y_lit, y_m1, nI_add, pk_mul, fa_and, fa_or, y_bs, if_pos, if_neg, y_shl, y_shr, y_le, y_lt, y_eq, y_sub, y_dv, y_rm, y_b0, y_b1, y_sdf, y_ltM, y_Mlt, y_leM, y_Mle, y_eqM, y_Meq, s_e1, s_e2, s_e3, s_e4, s_e5, s_e6, gO_0, c_trayThere2 ht hm a3, gf_0_10, gf_0_4, gf_17_1, ld_19, a3, hs_1 H, e1]
            · show f_X12_sooner (HH A Z B Q P F q D (c.1 + 1, c.2 + 6)) 57 (nI t) = _
              rw [em _ _ _ _ _ hT a5 a6]
              rcases m_so70 (A := A) (Z := upA Z 18 (nI 0)) (B := B) (Q := Q) (P := P) (F := F) (q := q) (D := D) (c := (c.1 + 1, c.2 + 6)) ht hT hW (decide (tt 1 ≤ 10)) with ⟨_, h9, _⟩ | ⟨_, e3⟩
              · exact absurd h9 hg2
              · exact e3
        · refine ME_t hI (k := 4) (b := nI 0) (by decide) ?_ ?_ (oZ182 (nI 0) (nI 4)) rfl
          · unfold f_L_sooner f_X11_sooner
            generalize xFU = N
            simp (disch := omega) only [if_true, if_false, Bool.false_eq_true, Bool.true_eq_false, y_lit, y_m1, nI_add, pk_mul, fa_and, fa_or, y_bs, if_pos, if_neg, y_shl, y_shr, y_le, y_lt, y_eq, y_sub, y_dv, y_rm, y_b0, y_b1, y_sdf, y_ltM, y_Mlt, y_leM, y_Mle, y_eqM, y_Meq, s_e1, s_e2, s_e3, s_e4, s_e5, s_e6, gO_0, c_trayThere2 ht hm a3, gf_0_10, gf_0_4, gf_17_1, ld_19, a3, hs_1 H, thr_HH]
          · show f_X12_sooner (HH A Z B Q P F q D (c.1 + 1, c.2 + 6)) 57 (nI t) = _
            rw [em _ _ _ _ _ hT a5 a6]
            rcases m_so70 (A := A) (Z := upA Z 18 (nI 0)) (B := B) (Q := Q) (P := P) (F := F) (q := q) (D := D) (c := (c.1 + 1, c.2 + 6)) ht hT hW (decide (tt 1 ≤ 10)) with ⟨h9, _⟩ | ⟨_, e3⟩
            · exact absurd (of_decide_eq_true h9) h10
            · exact e3
      · refine ME_t hI (k := 3) (b := nI 0) (by decide) ?_ ?_ (oZ182 (nI 0) (nI 3)) rfl
        · unfold f_L_sooner f_X11_sooner
          generalize xFU = N
          simp (disch := omega) only [if_true, if_false, Bool.false_eq_true, Bool.true_eq_false, y_lit, y_m1, nI_add, pk_mul, fa_and, fa_or, y_bs, if_pos, if_neg, y_shl, y_shr, y_le, y_lt, y_eq, y_sub, y_dv, y_rm, y_b0, y_b1, y_sdf, y_ltM, y_Mlt, y_leM, y_Mle, y_eqM, y_Meq, s_e1, s_e2, s_e3, s_e4, s_e5, s_e6, gO_0, c_trayThere2 ht hm a3, gf_0_10, gf_0_4, gf_17_1, ld_19, a3, hs_1 H, thr_HH]
        · unfold f_X12_sooner
          generalize f_X12_sooner_67 = N
          simp (disch := omega) only [if_true, if_false, Bool.false_eq_true, Bool.true_eq_false, y_lit, y_m1, nI_add, pk_mul, fa_and, fa_or, y_bs, if_pos, if_neg, y_shl, y_shr, y_le, y_lt, y_eq, y_sub, y_dv, y_rm, y_b0, y_b1, y_sdf, y_ltM, y_Mlt, y_leM, y_Mle, y_eqM, y_Meq, s_e1, s_e2, s_e3, s_e4, s_e5, s_e6, pf_57_4, gO_57, m_isTray, hx, gf_57_29, gf_57_30, ld_73, ld_74, a5, a6, m_rooms hT, m_fails]
