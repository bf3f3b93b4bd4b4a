/-! ===== house: the class's call, and both ===== -/
section CTell
variable {A : Nat → Nat → Int32} {Z : Nat → Int32} {B : Nat → Nat → Int64} {Q : Nat → Int64} {P : Nat → Option Nat} {F : Nat → Nat → Option Nat} {q : Nat} {D : List xC} {c : Nat × Nat} {b : Nat → Nat} {n : Nat}
/-- what the class's reading leaves -/
def CRd (D D' : List xC) (f : Nat → Int32) (r : PR) : Prop := Pre D D' ∧ RO D' (77 + D.length) f ∧ match r with
  | .inl w => f 0 = nI w.1 ∧ f 1 = nI w.2 ∧ 0 < w.1 ∧ w.1 < 10
  | .inr x => f 0 = nI 0 ∧ f 1 = nM ∧ HWf x.2 ∧ ∀ K : Nat → Nat, (∀ j, j < 10 → K (77 + D.length + 1 + j) = 0) → Hs K D' (77 + D.length + 1) x.2
theorem c_read (hn : n ≤ 800) (hb : ∀ k, k < n → A 1 k = sb (b k) ∧ b k < 256) : ∃ D' f, f_X7_readHouse (HH A Z B Q P F q (D ++ RCs (77 + D.length) n) c) (77 + D.length) = some (77 + D.length + 1, HH A Z B Q P F q D' c) ∧ CRd D D' f (pIt b n 801) := by
  have hc : HC (D ++ RCs (77 + D.length) n) (77 + D.length) = (RCs (77 + D.length) n)[0]? := HC_new (j := 0)
  obtain ⟨h1, e1, H1⟩ := c_ready (A := A) (Z := Z) (B := B) (Q := Q) (P := P) (F := F) (q := q) (D := D) (c := c) hn hb
  obtain ⟨h2, e2, H2⟩ := c_loop hn hb H1
  unfold f_X7_readHouse
  rw [gO_of (h := HH A Z B Q P F q (D ++ RCs (77 + D.length) n) c) (HC_get hc), Option.bind_some, e1, Option.bind_some, show (0 : Int32) = nI 0 from rfl, e2]
  rcases H2 with ⟨x, hx, tl, tf, D2, f2, rfl, hp, hr, f0, f1, f3, ft, f10, hT, hH, hL⟩ | ⟨w, hw, D2, f2, rfl, hp, hr, f0, f1, w0, w1⟩
  · have hW := (pIt_inv hn 801 x hx).2.1
    have W0 : WS A Z B Q P F q D c x.2 f2 (fun _ => 0) (fun _ => 0) (fun _ => nM) (HH A Z B Q P F q D2 c) := ⟨D2, rfl, hp, hr, hH⟩
    obtain ⟨h3, e3, W3⟩ := c_findNext hW W0
    obtain ⟨h4, e4, W4⟩ := c_findWalks hW W3
    obtain ⟨_, o0⟩ := W0.o
    obtain ⟨_, o3⟩ := W3.o
    obtain ⟨D3, rfl, hp3, hr3, b0⟩ := W3
    obtain ⟨D4, rfl, hp4, hr4, h0, a1, a2, a3, a4, a5, a6, a7, a8, a9⟩ := W4
    refine ⟨D4, f2, ?_, hp4, hr4, ?_⟩
    · unfold f_X7_readHouse_65 f_X7_readHouse_86
      rw [ro_g hr (by decide), Option.bind_some, f0, if_pos n00, ro_8 hr, Option.bind_some, o0, Option.bind_some, e3, Option.bind_some, ro_8 hr3, Option.bind_some, o3, Option.bind_some, e4, Option.bind_some, ro_8 hr4, Option.bind_some]
    · rw [hx]
      exact ⟨f0, f1, hW, fun K hK => ⟨hK, h0, a1, a2, a3, a4, a5, a6, a7, a8, a9⟩⟩
  · refine ⟨D2, f2, ?_, hp, hr, ?_⟩
    · unfold f_X7_readHouse_65 f_X7_readHouse_86
      rw [ro_g hr (by decide), Option.bind_some, f0, if_neg (by rw [show (0 : Int32) = nI 0 from rfl, y_eq (by omega) (by omega)]; omega), ro_8 hr, Option.bind_some]
    · rw [hw]
      exact ⟨f0, f1, w0, w1⟩
theorem c_takeDown : ∃ g1 g2, f_X5_takeDown (HH A Z B Q P F q D c) 12 = some (HH (upA (upA A 13 g1) 14 g2) Z B Q P F q D c) ∧ Lam g1 g2 (fun _ => 0) (fun _ => 0) := by
  have e1 := fill_spec (hc := LL A Z B Q P F q ++ D) (hk := c) (a := 13) (v := (-1 : Int32)) (LLg_13 A Z B Q P F q D) (by decide)
  rw [LLs_13] at e1
  have e2 := fill_spec (hc := LL (upA A 13 (fun j => if j < 16 then (-1 : Int32) else A 13 j)) Z B Q P F q ++ D) (hk := c) (a := 14) (v := (0 : Int32)) (LLg_14 (upA A 13 (fun j => if j < 16 then (-1 : Int32) else A 13 j)) Z B Q P F q D) (by decide)
  rw [LLs_14] at e2
  refine ⟨(fun j => if j < 16 then (-1 : Int32) else A 13 j), (fun j => if j < 16 then (0 : Int32) else upA A 13 (fun j => if j < 16 then (-1 : Int32) else A 13 j) 14 j), ?_, fun r hr => ⟨if_pos hr, if_pos hr⟩⟩
  unfold f_X5_takeDown
  rw [gf_12_0, Option.bind_some]
  show ((f_J7_fill_53178 (LL A Z B Q P F q ++ D, c) 13 (-1 : Int32)).bind fun r2 => _) = _
  rw [e1, Option.bind_some]
  show ((gR (HH (upA A 13 (fun j => if j < 16 then (-1 : Int32) else A 13 j)) Z B Q P F q D c) 12 5 1).bind fun v3 => _) = _
  rw [gf_12_1, Option.bind_some]
  show ((f_J7_fill_53178 (LL (upA A 13 (fun j => if j < 16 then (-1 : Int32) else A 13 j)) Z B Q P F q ++ D, c) 14 (0 : Int32)).bind fun r2 => _) = _
  rw [e2, Option.bind_some]
end CTell
theorem Pre.hc {D D' : List xC} {k : Nat} {x : xC} (h : Pre D D') (H : HC D k = some x) : HC D' k = some x := by
  rw [h.2 k (HC_lt H)]
  exact H
theorem Ar_pre {D D' : List xC} {a n : Nat} {g : Nat → Int32} (h : Pre D D') (H : Ar D a n g) : Ar D' a n g := by
  obtain ⟨f, h1, h2⟩ := H
  exact ⟨f, h.hc h1, h2⟩
/-- whose a cell is, once a house was told -/
def Kh (K : Nat → Nat) (m : Nat) : Nat → Nat := fun k => if k < m then K k else if m + 1 ≤ k ∧ k ≤ m + 10 then 0 else 9
theorem Dok_pre {K : Nat → Nat} {D D' : List xC} (h : Pre D D') : Dok K (Kh K (77 + D.length)) D D' := fun q tt H => by
  have H := Hs_K (K' := Kh K (77 + D.length)) (fun k hk => if_pos hk) H
  obtain ⟨h0, h1, a1, a2, a3, a4, a5, a6, a7, a8, a9⟩ := H
  exact ⟨h0, h.hc h1, Ar_pre h a1, Ar_pre h a2, Ar_pre h a3, Ar_pre h a4, Ar_pre h a5, Ar_pre h a6, Ar_pre h a7, Ar_pre h a8, Ar_pre h a9⟩
theorem DokL_pre {K : Nat → Nat} {D D' : List xC} (h : Pre D D') : DokL K (Kh K (77 + D.length)) D D' := fun l i lk lh _ H => by
  have H := Lm_K (K' := Kh K (77 + D.length)) (fun k hk => if_pos hk) H
  obtain ⟨h0, h1, h2, h3, h4⟩ := H
  exact ⟨h0, h1, h.hc h2, Ar_pre h h3, Ar_pre h h4⟩
theorem DokR_pre {K : Nat → Nat} {D D' : List xC} (h : Pre D D') : DokR K (Kh K (77 + D.length)) D D' := fun P R H => by
  rcases H with H | ⟨a, qd, wk, wf, ws, h1, h2, h3, h4, h5, h6, ⟨f, h7, hw⟩, h8, g, h9⟩
  · exact Or.inl H
  · have hl := HC_lt h9
    exact Or.inr ⟨a, qd, wk, wf, ws, h1, h2, fun j hj => by rw [show Kh K (77 + D.length) (a + j) = K (a + j) from if_pos (by omega)]; exact h3 j hj, h4, h5, h.hc h6, ⟨f, h.hc h7, Wk_D (Dok_pre h) hw⟩, Ar_pre h h8, g, h.hc h9⟩
section HInv
variable {K : Nat → Nat} {A A' : Nat → Nat → Int32} {Z Z' : Nat → Int32} {B B' : Nat → Nat → Int64} {Q : Nat → Int64} {P : Nat → Option Nat} {F : Nat → Nat → Option Nat} {q q' : Nat} {D D' : List xC} {c c' : Nat × Nat} {tt tt' lk lk' lh lh' : Nat → Nat} {R i : Nat}
theorem Inv_h (H : Inv K A Z B Q P F q D c tt lk lh R i) (hp : Pre D D') (hh : Hs (Kh K (77 + D.length)) D' q' tt' ∧ HWf tt' ∧ LWf tt' lk' lh' ∧ Told (A' 58) tt' lk' lh' ∧ Lam (A' 13) (A' 14) lk' lh') (hA : Only [13, 14, 58, 60] A A') (hZ : Only [0, 1, 2, 18, 19, 20, 21, 22, 23, 24, 25, 26, 27, 28] Z Z') (z0 : Z' 0 = nI 0) (z19 : Z' 19 = nI 0) (z1 : Z' 1 = Z' 27) (z2 : Z' 2 = Z' 28) (hB : Only [76] B B') (h1 : c'.1 = c.1 + 12) (h2 : c'.2 ≤ c.2 + 3000) : Inv (Kh K (77 + D.length)) A' Z' B' Q P F q' D' c' tt' lk' lh' R (i + 1) := by
  obtain ⟨⟨a1, a2, a3, a4, a5⟩, ⟨b1, b2, b3, b4⟩, ⟨p1, p2, p3⟩, ⟨_, _, z3, z4⟩, r1, r2, r3, r4⟩ := H
  have hl := hp.1
  refine ⟨hh, ⟨Img_D (Dok_pre hp) (DokL_pre hp) (hA 61 (by decide)) (hA 59 (by decide)) b1, ⟨0, by decide, z0, z19, fun k hk => by omega⟩, ?_, ?_⟩, ⟨Plan_D (Dok_pre hp) (hA 50 (by decide)) (hA 51 (by decide)) (fun k k1 k2 => hZ k ?_) p1, Sav_D (Dok_pre hp) (hA 56 (by decide)) (hA 40 (by decide)) (hZ 7 (by decide)) (hZ 8 (by decide)) (hZ 30 (by decide)) p2, DokR_pre hp P R p3⟩, ⟨z1, z2, z3, z4⟩, r1, by omega, by omega, by omega⟩
  · unfold TrayOK
    rw [hA 19 (by decide), hA 20 (by decide), hA 73 (by decide), hA 74 (by decide), hB 18 (by decide), hB 75 (by decide)]
    exact b3
  · unfold Zro
    rw [hA 24 (by decide), hA 25 (by decide), hA 26 (by decide), hA 36 (by decide), hA 55 (by decide), hA 35 (by decide)]
    exact b4
  · simp only [List.mem_cons, List.not_mem_nil, or_false]
    omega
end HInv
set_option maxRecDepth 20000 in
theorem ok_house : ∀ x0, ME (fun h => f_L_house h 0 x0 76) (fun h => f_X12_house h 57 x0) := by
  intro x h i hJ hi
  obtain ⟨K, A, Z, B, Q, P, F, q, D, c, tt, lk, lh, R, rfl, hI⟩ := hJ
  obtain ⟨N, hN, t1, t2, t3⟩ := hI.2.1.2.1
  by_cases hx : ¬ x < 0 ∧ x ≤ nI N
  · obtain ⟨hx0, hx1⟩ := hx
    obtain ⟨n, hn3, rfl⟩ := nI_of hx0
    have hxl := hx1
    rw [y_le (by omega) (by omega)] at hxl
    have hlen : 77 + D.length < 700000000 := by
      obtain ⟨r1, r2, r3, r4⟩ := hI.2.2.2.2
      omega
    obtain ⟨b, hb⟩ : ∃ b : Nat → Nat, ∀ k, k < N → b k < 256 ∧ A 62 k = nI (b k) ∧ A 1 k = sb (b k) := ⟨fun k => if h : k < N then Classical.choose (t3 k h) else 0, fun k hk => by
      dsimp only
      rw [dif_pos hk]
      exact Classical.choose_spec (t3 k hk)⟩
    have hb1 : ∀ k, k < n → A 1 k = sb (b k) ∧ b k < 256 := fun k hk => ⟨(hb k (by omega)).2.2, (hb k (by omega)).1⟩
    have hb2 : ∀ k, k < n → A 62 k = nI (b k) ∧ b k < 256 := fun k hk => ⟨(hb k (by omega)).2.1, (hb k (by omega)).1⟩
    obtain ⟨D', f, er, hp, hr, hres⟩ := c_read (A := A) (Z := Z) (B := B) (Q := Q) (P := P) (F := F) (q := q) (D := D) (c := (c.1 + 1 + 11, c.2 + 11 + 749)) (b := b) (n := n) (by omega) hb1
    have em := mkO_D (A := A) (Z := Z) (B := B) (Q := Q) (P := P) (F := F) (q := q) (D := D) (c := c) (ci := 7) (n := 11) (fs := [.int 0, .int 0, .null, .int 0, .int 0, .int 0, .int 0, .int 0, .null, .null, .int 0]) (by omega)
    have ei := c_init7 (A := A) (Z := Z) (B := B) (Q := Q) (P := P) (F := F) (q := q) (D := D) (c := (c.1 + 1, c.2 + 11)) (n := n) hlen (by omega)
    have hc : HC (D ++ RCs (77 + D.length) n) (77 + D.length) = (RCs (77 + D.length) n)[0]? := HC_new (j := 0)
    have ho := gO_of (h := HH A Z B Q P F q (D ++ RCs (77 + D.length) n) (c.1 + 1 + 11, c.2 + 11 + 749)) (HC_get hc)
    have ecl : f_X11_house (HH A Z B Q P F q D c) 0 (nI n) = (if f 0 = 0 then ((pF (HH A (upA (upA (upA Z 0 0) 1 (f 0)) 2 (f 1)) B Q P F q D' (c.1 + 1 + 11, c.2 + 11 + 749)) 0 11 4 (.ref (77 + D.length + 1))).bind fun h16 => (gR h16 0 11 5).bind fun v17 => (gO h16 v17 5).bind fun q18 => (f_X5_takeDown h16 v17).bind fun r19 => (gI r19 (77 + D.length + 1) 3 0).bind fun v20 => some (.inr (v20, r19))) else (some (.inr (((-10 : Int32) - f 0), HH A (upA (upA (upA Z 0 0) 1 (f 0)) 2 (f 1)) B Q P F q D' (c.1 + 1 + 11, c.2 + 11 + 749))))) := by
      unfold f_X11_house
      rw [if_neg hx0, gf_0_1, Option.bind_some, t1, if_pos hx1, em, Option.bind_some, gf_0_0, Option.bind_some, HH_len, ei, Option.bind_some, ho, Option.bind_some, er, Option.bind_some, pf_0_1, Option.bind_some, ro_g hr (by decide), Option.bind_some, pf_0_2, Option.bind_some, ro_g hr (by decide), Option.bind_some, pf_0_3, Option.bind_some, gf_0_2, Option.bind_some]
      rfl
    cases hpi : pIt b n 801 with
    | inl w =>
      rw [hpi] at hres
      obtain ⟨f0, f1, w0, w1⟩ := hres
      have ne : ¬ nI w.1 = 0 := by rw [show (0 : Int32) = nI 0 from rfl, y_eq (by omega) (by omega)]; omega
      rw [f0, f1, if_neg ne] at ecl
      obtain ⟨v, A', Z', e2, hM⟩ := m_house (A := A) (Z := upA (upA (upA Z 0 0) 1 (nI w.1)) 2 (nI w.2)) (B := oB B ((-10 : Int32) - nI w.1).toInt64) (Q := Q) (P := P) (F := F) (q := q) (D := D') (c := (c.1 + 1 + 11, c.2 + 11 + 749)) hN hxl t2 hb2
      rw [hpi] at hM
      obtain ⟨oZ, z18, z19, hv, oA, z27, z28⟩ := hM
      refine ⟨nI 0, HH A (upA (upA (upA Z 0 0) 1 (nI w.1)) 2 (nI w.2)) (oB B ((-10 : Int32) - nI w.1).toInt64) Q P F q D' (c.1 + 1 + 11, c.2 + 11 + 749), v, _, ?_, ⟨_, _, _, _, _, _, _, _, _, rfl⟩, e2, by rw [gf_57_4, z18], fun _ => by rw [hv]; exact oB_ld _, Kh K (77 + D.length), A', Z', _, Q, P, F, q, D', _, tt, lk, lh, R, rfl, Inv_h hI hp ?_ (oA.mono (by decide)) ?_ ?_ z19 ?_ ?_ (oB_o _) rfl (by show c.2 + 11 + 749 ≤ _; omega)⟩
      · show f_L_house (HH A Z B Q P F q D c) 0 (nI n) 76 = _
        unfold f_L_house
        rw [gO_0, Option.bind_some, ecl, Option.bind_some]
        dsimp only
        rw [show (0 : Int32) = nI 0 from rfl, oB_st, Option.bind_some]
      · obtain ⟨a1, a2, a3, a4, a5⟩ := hI.1
        rw [oA 58 (by decide), oA 13 (by decide), oA 14 (by decide)]
        exact ⟨Dok_pre hp _ _ a1, a2, a3, a4, a5⟩
      · exact (((Only.rf.up (by decide)).up (by decide)).up (by decide) : Only [0, 1, 2] Z (upA (upA (upA Z 0 0) 1 (nI w.1)) 2 (nI w.2))).tr oZ (by decide) (by decide)
      · rw [oZ 0 (by decide)]; rfl
      · rw [oZ 1 (by decide), z27]; rfl
      · rw [oZ 2 (by decide), z28]; rfl
    | inr y =>
      rw [hpi] at hres
      obtain ⟨f0, f1, hW, hHs⟩ := hres
      have hH := hHs (Kh K (77 + D.length)) (fun j hj => by
        unfold Kh
        rw [if_neg (by omega), if_pos (by omega)])
      obtain ⟨g1, g2, et, hLam⟩ := c_takeDown (A := A) (Z := upA (upA (upA Z 0 0) 1 (nI 0)) 2 nM) (B := B) (Q := Q) (P := P) (F := F) (q := 77 + D.length + 1) (D := D') (c := (c.1 + 1 + 11, c.2 + 11 + 749))
      rw [f0, f1, if_pos n00, pf_0_4, Option.bind_some, gf_0_5, Option.bind_some, gO_12, Option.bind_some, et, Option.bind_some, hs_0 hH, Option.bind_some] at ecl
      obtain ⟨v, A', Z', e2, hM⟩ := m_house (A := upA (upA A 13 g1) 14 g2) (Z := upA (upA (upA Z 0 0) 1 (nI 0)) 2 nM) (B := oB B (nI (y.2 0)).toInt64) (Q := Q) (P := P) (F := F) (q := 77 + D.length + 1) (D := D') (c := (c.1 + 1 + 11, c.2 + 11 + 749)) hN hxl t2 hb2
      rw [hpi] at hM
      obtain ⟨oZ, z18, z19, hv, oA, hT, z27, z28⟩ := hM
      refine ⟨nI 0, HH (upA (upA A 13 g1) 14 g2) (upA (upA (upA Z 0 0) 1 (nI 0)) 2 nM) (oB B (nI (y.2 0)).toInt64) Q P F (77 + D.length + 1) D' (c.1 + 1 + 11, c.2 + 11 + 749), v, _, ?_, ⟨_, _, _, _, _, _, _, _, _, rfl⟩, e2, by rw [gf_57_4, z18], fun _ => by rw [hv]; exact oB_ld _, Kh K (77 + D.length), A', Z', _, Q, P, F, 77 + D.length + 1, D', _, y.2, (fun _ => 0), (fun _ => 0), R, rfl, Inv_h hI hp ⟨hH, hW, fun r => ⟨Nat.zero_le _, Nat.two_pow_pos _, fun _ => rfl, fun _ => rfl⟩, hT, ?_⟩ ?_ ?_ ?_ z19 ?_ ?_ (oB_o _) rfl (by show c.2 + 11 + 749 ≤ _; omega)⟩
      · show f_L_house (HH A Z B Q P F q D c) 0 (nI n) 76 = _
        unfold f_L_house
        rw [gO_0, Option.bind_some, ecl, Option.bind_some]
        dsimp only
        rw [show (0 : Int32) = nI 0 from rfl, oB_st, Option.bind_some]
      · rw [oA 13 (by decide), oA 14 (by decide)]
        exact hLam
      · exact ((Only.rf.up (by decide)).up (by decide) : Only [13, 14] A (upA (upA A 13 g1) 14 g2)).tr oA (by decide) (by decide)
      · exact (((Only.rf.up (by decide)).up (by decide)).up (by decide) : Only [0, 1, 2] Z (upA (upA (upA Z 0 0) 1 (nI 0)) 2 nM)).tr oZ (by decide) (by decide)
      · rw [oZ 0 (by decide)]; rfl
      · rw [oZ 1 (by decide), z27]; rfl
      · rw [oZ 2 (by decide), z28]; rfl
  · refine ME_t hI (k := 1) (b := nI 0) (by decide) ?_ ?_ (oZ182 (nI 0) (nI 1)) rfl
    · show f_L_house (HH A Z B Q P F q D c) 0 x 76 = _
      have ecl : f_X11_house (HH A Z B Q P F q D c) 0 x = some (.inl ("java/lang/IllegalArgumentException", HH A Z B Q P F q D (c.1 + 1, c.2 + 6))) := by
        unfold f_X11_house f_X11_house_12
        rw [thr_HH, gf_0_1, Option.bind_some, t1]
        by_cases h1 : x < 0
        · rw [if_pos h1]
        · rw [if_neg h1, if_neg (fun h2 => hx ⟨h1, h2⟩)]
      unfold f_L_house
      rw [gO_0, Option.bind_some, ecl, Option.bind_some]
      dsimp only
      rw [if_pos rfl]
      rfl
    · show f_X12_house (HH A Z B Q P F q D (c.1 + 1, c.2 + 6)) 57 x = _
      have e1 : (upA Z 18 (nI 0)) 19 = nI N := t2
      have hw : (if (0 : Int32) ≤ x ∧ x ≤ nI N then (1 : Int32) else 0) = 0 := if_neg (fun h => hx ⟨fun h2 => by
        have h3 := h.1
        rw [fa_le] at h3
        rw [fa_lt] at h2
        omega, h.2⟩)
      unfold f_X12_house
      rw [show (0 : Int64) = (0 : Int32).toInt64 from rfl, pf_57_4, Option.bind_some, gf_57_6, Option.bind_some, show (upA Z 18 (0 : Int32)) 19 = nI N from t2, within_spec, Option.bind_some, hw, if_pos rfl, gO_57, Option.bind_some, m_fails, Option.bind_some]
      rfl
