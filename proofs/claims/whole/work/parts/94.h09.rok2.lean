/-! ===== round: the call ===== -/
theorem nI_all (x : Int32) : ∃ k, x = nI k := ⟨x.toBitVec.toNat, by
  apply Int32.toBitVec_inj.mp
  apply BitVec.eq_of_toNat_eq
  unfold nI
  simp⟩
section ROk
variable {A : Nat → Nat → Int32} {Z : Nat → Int32} {B : Nat → Nat → Int64} {Q : Nat → Int64} {P : Nat → Option Nat} {F : Nat → Nat → Option Nat} {q : Nat} {D : List xC} {c : Nat × Nat} {K : Nat → Nat} {tt lk lh : Nat → Nat} {R i s : Nat}
theorem RD_of {a : Nat} {x : Int32} {wk : Option Nat} {wf ws : Int32} {f : Nat → Int32} (h0 : 77 ≤ a) (hR : 1 ≤ R ∧ R ≤ 12) (h6 : HC D a = some (.inr (8, [.int (nI R), .ref (a + 1), .ref (a + 2), .ref (a + 3), .int x, va_rf wk, .int wf, .int ws]))) (h7 : HC D (a + 1) = some (.inl (.int, 24, .inl f))) (h8 : Ar D (a + 2) (R * 2 ^ R) (fun _ => 0)) (h9 : ∃ g, HC D (a + 3) = some (.inl (.int, R * 2 ^ R, .inl g))) : ∃ af qf qd, RD [va_rf wk, .int wf, .int ws] D a R f af qf qd ∧ ∀ x, x < R * 2 ^ R → af x = nI 0 := by
  obtain ⟨af, h8, hz⟩ := h8
  obtain ⟨g, h9⟩ := h9
  obtain ⟨qd, rfl⟩ := nI_all x
  exact ⟨af, g, qd, ⟨h0, hR, h6, h7, h8, h9⟩, fun x hx => hz x hx⟩
theorem c_rready (H : Hs K D q tt) (hW : HWf tt) (hn : tt 1 ≤ 12) (hRo : RndOK K P D R) (hlen : 77 + D.length < 700000000) (hs : s < tt 1) {x : Int32} (hx : nM ≤ x) : ∃ K' D' P' c' R' a pf af qf qd wk wf ws, f_X11_round (HH A Z B Q P F q D c) 0 (nI s) x = f_X11_round_86 (HH A Z B Q P' F q D' c') 0 (nI s) x ∧ P' 0 = some a ∧ (∀ k, k ≠ 0 → P' k = P k) ∧ Dok K K' D D' ∧ DokL K K' D D' ∧ (∀ j, j < 4 → K' (a + j) = 5) ∧ (tt 1 ≤ R' ∧ R' ≤ 12) ∧ RD [va_rf wk, .int wf, .int ws] D' a R' pf af qf qd ∧ (∀ x, x < R' * 2 ^ R' → af x = nI 0) ∧ WkOK K' D' R' wk wf ws pf ∧ c'.1 + D.length = c.1 + D'.length ∧ c'.1 ≤ c.1 + 4 ∧ c'.2 + 100000 * R ≤ c.2 + 100000 * R' := by
  have hro := hW.ro
  have hrk : rk (nI s) (tt 1) = true := rk_k hs (by omega)
  -- made new
  have new : R < tt 1 → f_X11_round (HH A Z B Q P F q D c) 0 (nI s) x = f_X11_round_68 (HH A Z B Q P F q D c) 0 (nI s) x → ∃ K' D' P' c' R' a pf af qf qd wk wf ws, f_X11_round (HH A Z B Q P F q D c) 0 (nI s) x = f_X11_round_86 (HH A Z B Q P' F q D' c') 0 (nI s) x ∧ P' 0 = some a ∧ (∀ k, k ≠ 0 → P' k = P k) ∧ Dok K K' D D' ∧ DokL K K' D D' ∧ (∀ j, j < 4 → K' (a + j) = 5) ∧ (tt 1 ≤ R' ∧ R' ≤ 12) ∧ RD [va_rf wk, .int wf, .int ws] D' a R' pf af qf qd ∧ (∀ x, x < R' * 2 ^ R' → af x = nI 0) ∧ WkOK K' D' R' wk wf ws pf ∧ c'.1 + D.length = c.1 + D'.length ∧ c'.1 ≤ c.1 + 4 ∧ c'.2 + 100000 * R ≤ c.2 + 100000 * R' := by
    intro hRt e68
    have hm := rm_le hn
    have hK : ∀ k, k < 77 + D.length → (fun k => if 77 + D.length ≤ k then 5 else K k) k = K k := fun k hk => if_neg (by omega)
    have H1 : Hs K (D ++ [.inr (8, [.int 0, .null, .null, .null, .int 0, .null, .int 0, .int 0])]) q tt := Hs_app H
    refine ⟨fun k => if 77 + D.length ≤ k then 5 else K k, D ++ RC (77 + D.length) (tt 1), upA P 0 (some (77 + D.length)), (c.1 + 1 + 1 + 1 + 1, c.2 + 8 + 24 + tt 1 * 2 ^ tt 1 + tt 1 * 2 ^ tt 1), tt 1, 77 + D.length, fun _ => 0, fun _ => 0, fun _ => 0, 0, none, -1, -1, ?_, y_us, fun k hk => y_un hk, fun q tt h => Hs_app (Hs_K hK h), fun l i _ _ _ h => Lm_app (Lm_K hK h), fun j hj => if_pos (by omega), ⟨Nat.le_refl _, hn⟩, ⟨by omega, ⟨by omega, hn⟩, HC_new (j := 0), HC_new (j := 1), HC_new (j := 2), HC_new (j := 3)⟩, fun x hx => rfl, Or.inl rfl, ?_, by show c.1 + 1 + 1 + 1 + 1 ≤ _; omega, by show c.2 + 8 + 24 + tt 1 * 2 ^ tt 1 + tt 1 * 2 ^ tt 1 + _ ≤ _; omega⟩
    · rw [e68]
      unfold f_X11_round_68
      rw [mkO_D (by omega), Option.bind_some, gf_0_4, Option.bind_some, hs_1 H1, Option.bind_some, HH_len, c_initR (by omega) (by omega) hn, Option.bind_some, pf_0_17, Option.bind_some]
    · rw [List.length_append, show (RC (77 + D.length) (tt 1)).length = 4 from rfl]
      show c.1 + 1 + 1 + 1 + 1 + _ = _
      omega
  have est : f_X11_round (HH A Z B Q P F q D c) 0 (nI s) x = (match P 0 with | none => f_X11_round_68 (HH A Z B Q P F q D c) 0 (nI s) x | some v12 => (gI (HH A Z B Q P F q D c) v12 8 0).bind fun v13 => if nI (tt 1) ≤ v13 then f_X11_round_86 (HH A Z B Q P F q D c) 0 (nI s) x else f_X11_round_68 (HH A Z B Q P F q D c) 0 (nI s) x) := by
    unfold f_X11_round
    rw [gO_0, Option.bind_some, c_checkRoom H, Option.bind_some, hrk, if_pos rfl]
    dsimp only
    rw [gf_0_4, Option.bind_some, hs_1 H, Option.bind_some, if_pos (by rw [show (12 : Int32) = nI 12 from rfl, y_le (by omega) (by omega)]; exact hn), if_pos (show (-1 : Int32) ≤ x from hx), gf_0_17, Option.bind_some]
    cases hp : P 0
    · rfl
    · dsimp only
      simp only [Option.bind_some, hs_1 H]
  rcases hRo with ⟨hp, hr0⟩ | ⟨a, qd, wk, wf, ws, hp, h0, hK5, hr1, hr2, h6, ⟨pf, h7, hwk⟩, h8, h9⟩
  · rw [hp] at est
    exact new (by omega) est
  · rw [hp] at est
    dsimp only at est
    obtain ⟨af, qf, qd2, hRD, hz⟩ := RD_of h0 ⟨hr1, hr2⟩ h6 h7 h8 h9
    rw [rd_R hRD, Option.bind_some] at est
    by_cases hle : tt 1 ≤ R
    · rw [if_pos (by rw [y_le (by omega) (by omega)]; exact hle)] at est
      exact ⟨K, D, P, c, R, a, pf, af, qf, qd2, wk, wf, ws, est, hp, fun _ _ => rfl, fun _ _ h => h, fun _ _ _ _ _ h => h, hK5, ⟨hle, hr2⟩, hRD, hz, hwk, rfl, by omega, by omega⟩
    · rw [if_neg (by rw [y_le (by omega) (by omega)]; exact hle)] at est
      exact new (by omega) est
theorem RndOK_of {a qd : Nat} {pf af qf : Nat → Int32} {wk : Option Nat} {wf ws : Int32} (hP : P 0 = some a) (hK : ∀ j, j < 4 → K (a + j) = 5) (hr : RD [va_rf wk, .int wf, .int ws] D a R pf af qf qd) (hz : ∀ x, x < R * 2 ^ R → af x = nI 0) (hw : WkOK K D R wk wf ws pf) : RndOK K P D R := by
  obtain ⟨h0, ⟨h1, h2⟩, h3, h4, h5, h6⟩ := hr
  exact Or.inr ⟨a, nI qd, wk, wf, ws, hP, h0, hK, h1, h2, h3, ⟨pf, h4, hw⟩, ⟨af, h5, fun x hx => hz x hx⟩, qf, h6⟩
end ROk
theorem ok_round : ∀ x0 x1, ME (fun h => f_L_round h 0 x0 x1 76) (fun h => f_X12_round h 57 x0 x1) := by
  intro x y h i hJ hi
  obtain ⟨K, A, Z, B, Q, P, F, q, D, c, tt, lk, lh, R, rfl, hI⟩ := hJ
  have hz := hI.2.1.2.2.2
  obtain ⟨H, hW, hL, hT, hLm⟩ := hI.1
  have hcl := hI.2.2.2.2
  have hro := hW.ro
  have hRo := hI.2.2.1.2.2
  cases hr : rk x (tt 1)
  · refine ME_t hI (k := 1) (b := nI 0) (by decide) ?_ ?_ (oZ18 (nI 1)) rfl
    · show f_L_round (HH A Z B Q P F q D c) 0 x y 76 = _
      unfold f_L_round f_X11_round
      rw [gO_0, Option.bind_some, Option.bind_some, c_checkRoom H, Option.bind_some, hr]
      rfl
    · show f_X12_round (HH A Z B Q P F q D (c.1 + 1, c.2 + 6)) 57 x y = _
      unfold f_X12_round f_X12_round_32
      rw [gO_57, Option.bind_some, m_isRoom hT hW, Option.bind_some, hr]
      rfl
  · obtain ⟨s, hs, rfl⟩ := rk_t (by omega) hr
    have e1 : ∀ A' Z' B' P' D' c', Told (A' 58) tt lk lh → f_X12_round (HH A' Z' B' Q P' F q D' c') 57 (nI s) y = if (12 : Int32) < nI (tt 1) then f_X12_round_31 (HH A' Z' B' Q P' F q D' c') 57 (nI s) y 57 else if y < (-1 : Int32) then f_X12_round_31 (HH A' Z' B' Q P' F q D' c') 57 (nI s) y 57 else f_X12_round_32 (HH A' Z' B' Q P' F q D' c') 57 (nI s) y (0 : Int32) 57 := fun A' Z' B' P' D' c' hT' => by
      unfold f_X12_round
      rw [gO_57, Option.bind_some, m_isRoom hT' hW, Option.bind_some, hr, if_pos rfl, if_neg (by decide), Option.bind_some, m_rooms hT', Option.bind_some]
    have t2 : ((12 : Int32) < nI (tt 1) ∨ y < (-1 : Int32)) → MER (fun h => f_L_round h 0 (nI s) y 76) (fun h => f_X12_round h 57 (nI s) y) (HH A Z B Q P F q D c) i := by
      intro hc
      refine ME_t hI (k := 2) (b := nI 0) (by decide) ?_ ?_ (oZ18 (nI 2)) rfl
      · show f_L_round (HH A Z B Q P F q D c) 0 (nI s) y 76 = _
        have ec : f_X11_round (HH A Z B Q P F q D c) 0 (nI s) y = some (.inl ("java/lang/IllegalArgumentException", HH A Z B Q P F q D (c.1 + 1, c.2 + 6))) := by
          unfold f_X11_round
          rw [gO_0, Option.bind_some, c_checkRoom H, Option.bind_some, hr, if_pos rfl]
          dsimp only
          rw [gf_0_4, Option.bind_some, hs_1 H, Option.bind_some, thr_HH]
          by_cases h1 : nI (tt 1) ≤ (12 : Int32)
          · have h2 : y < (-1 : Int32) := by
              rcases hc with h | h
              · exact absurd h1 (Int32.not_le.mpr h)
              · exact h
            rw [if_pos h1, if_neg (Int32.not_le.mpr h2)]
          · rw [if_neg h1]
        unfold f_L_round
        rw [gO_0, Option.bind_some, ec, Option.bind_some]
        rfl
      · show f_X12_round (HH A Z B Q P F q D (c.1 + 1, c.2 + 6)) 57 (nI s) y = _
        rw [e1 _ _ _ _ _ _ hT]
        have e31 : f_X12_round_31 (HH A Z B Q P F q D (c.1 + 1, c.2 + 6)) 57 (nI s) y 57 = some (nI 0, HH A (upA Z 18 (nI 2)) B Q P F q D (c.1 + 1, c.2 + 6)) := by
          unfold f_X12_round_31 f_X12_round_32
          rw [pf_57_4, Option.bind_some, gf_57_4, Option.bind_some]
          rfl
        by_cases h1 : (12 : Int32) < nI (tt 1)
        · rw [if_pos h1, e31]
        · have h2 : y < (-1 : Int32) := by
            rcases hc with h | h
            · exact absurd h h1
            · exact h
          rw [if_neg h1, if_pos h2, e31]
    by_cases h12 : (12 : Int32) < nI (tt 1)
    · exact t2 (Or.inl h12)
    · by_cases hy : y < (-1 : Int32)
      · exact t2 (Or.inr hy)
      · have hn : tt 1 ≤ 12 := by
          rw [show (12 : Int32) = nI 12 from rfl, y_lt (by omega) (by omega)] at h12
          omega
        have hy2 : nM ≤ y := Int32.not_lt.mp hy
        have hyc : y = nM ∨ ∃ w, w < 2147483648 ∧ y = nI w := by
          cases hk : rk y 0
          · rcases rk_f (by decide) hk with h | ⟨w, _, w2, w3⟩
            · left
              rw [fa_lt] at h
              rw [fa_le] at hy2
              rw [fa_eq]
              have e0 : (nI 0).toInt = 0 := rfl
              have em : nM.toInt = -1 := rfl
              omega
            · exact Or.inr ⟨w, w2, w3⟩
          · obtain ⟨k, hk2, _⟩ := rk_t (by decide) hk
            omega
        obtain ⟨K', D', P', c', R', a, pf, af, qf, qd, wk, wf, ws, ec, hP0, hPk, dk, dl, hK5, hR', hRD, hz0, hwk, l1, l2, l3⟩ := c_rready (A := A) (Z := Z) (B := B) (Q := Q) (F := F) (c := c) H hW hn hRo (by omega) hs hy2
        have H' := dk q tt H
        obtain ⟨D2, pf2, af2, qf2, qd2, v, v0, e86, d86, r86, z86, wa86, h86⟩ := c_round86 (A := A) (Z := Z) (B := B) (Q := Q) (F := F) (c := c') hW hR'.1 hR'.2 hs hK5 H' hP0 hRD hz0 hwk hyc
        obtain ⟨A2, e32, o32⟩ := m_round32 (A := A) (Z := Z) (B := oB B v.toInt64) (Q := Q) (P := P') (F := F) (q := q) (D := D2) (c := c') hT hW hn hs hyc h86
        have hA : Only SA A A2 := o32.mono (by decide)
        have dk2 : Dok K K' D D2 := fun q tt h => Hs_DR hK5 d86 (dk q tt h)
        have dl2 : DokL K K' D D2 := fun l j lk lh hj h => Lm_DR hj hK5 d86 (dl l j lk lh hj h)
        refine ⟨nI 0, HH A Z (oB B v.toInt64) Q P' F q D2 c', v, _, ?_, ⟨_, _, _, _, _, _, _, _, _, rfl⟩, (e1 _ _ _ _ _ _ hT).trans ((if_neg h12).trans ((if_neg hy).trans e32)), by rw [gf_57_4, y_us], fun _ => oB_ld _, ?_⟩
        · show f_L_round (HH A Z B Q P F q D c) 0 (nI s) y 76 = _
          unfold f_L_round
          rw [gO_0, Option.bind_some, ec, e86, Option.bind_some]
          dsimp only
          rw [show (0 : Int32) = nI 0 from rfl, oB_st, Option.bind_some]
        · obtain ⟨⟨a1, a2, a3, a4, a5⟩, ⟨b1, b2, b3, b4⟩, ⟨p1, p2, p3⟩, ⟨z1, z2, z3, z4⟩, r1, r2, r3, r4⟩ := hI
          have hZ : Only SZ Z (upA Z 18 (nI 0)) := oZ18 (nI 0)
          have hB : Only [76] B (oB B v.toInt64) := oB_o _
          have p1' : PlanOK K A Z P' D := by
            unfold PlanOK
            rw [hPk 1 (by decide)]
            exact p1
          have p2' : SavOK K A Z P' D := by
            unfold SavOK SvOK MixOK
            rw [hPk 2 (by decide), hPk 3 (by decide)]
            exact p2
          refine ⟨K', A2, upA Z 18 (nI 0), oB B v.toInt64, Q, P', F, q, D2, c', tt, lk, lh, R', rfl, ⟨dk2 q tt H, hW, hL, ?_, ?_⟩, ⟨Img_D dk2 dl2 (hA 61 (by decide)) (hA 59 (by decide)) b1, ?_, ?_, ?_⟩, ⟨Plan_D dk2 (hA 50 (by decide)) (hA 51 (by decide)) ?_ p1', Sav_D dk2 (hA 56 (by decide)) (hA 40 (by decide)) (hZ 7 (by decide)) (hZ 8 (by decide)) (hZ 30 (by decide)) p2', RndOK_of hP0 hK5 r86 z86 (Or.inr ⟨q, tt, s, rfl, dk2 q tt H, hW, ⟨hR'.1, hs⟩, rfl, wa86⟩)⟩, ⟨?_, ?_, z3, z4⟩, hR'.2, ?_, by omega, by omega⟩
          · rw [hA 58 (by decide)]; exact a4
          · rw [hA 13 (by decide), hA 14 (by decide)]; exact a5
          · unfold TapeOK
            rw [hA 62 (by decide), hA 1 (by decide), hZ 0 (by decide), hZ 19 (by decide)]
            exact b2
          · unfold TrayOK
            rw [hA 19 (by decide), hA 20 (by decide), hA 73 (by decide), hA 74 (by decide), hB 18 (by decide), hB 75 (by decide)]
            exact b3
          · unfold Zro
            rw [o32 24 (by decide), o32 25 (by decide), o32 26 (by decide), o32 36 (by decide), o32 55 (by decide), o32 35 (by decide)]
            exact b4
          · intro k k1 k2
            apply hZ
            unfold SZ
            simp only [List.mem_cons, List.not_mem_nil, or_false]
            omega
          · rw [hZ 1 (by decide), hZ 27 (by decide)]; exact z1
          · rw [hZ 2 (by decide), hZ 28 (by decide)]; exact z2
          · rw [d86.1]; omega
