/-! ===== round: the answer ===== -/
section RAns
variable {tt : Nat → Nat} {s d w : Nat} {rm Lv : Nat → Nat}
variable {A : Nat → Nat → Int32} {Z : Nat → Int32} {B : Nat → Nat → Int64} {Q : Nat → Int64} {P : Nat → Option Nat} {F : Nat → Nat → Option Nat} {q : Nat} {D : List xC} {c : Nat × Nat} {K : Nat → Nat} {lk lh : Nat → Nat} {R a qd i : Nat} {pf af qf : Nat → Int32}
/-- rooms that have been come to -/
def vis (rm : Nat → Nat) : Nat → Nat
  | 0 => 2 ^ rm 0
  | k + 1 => vis rm k ||| 2 ^ rm (k + 1)
theorem vis_ok (hW : HWf tt) (H : RP tt s d rm Lv) : ∀ k, k ≤ d → vis rm k < 2 ^ tt 1 ∧ (vis rm k).testBit (rm k) = true ∧ lts tt (vis rm k) = Lv k
  | 0, h => by
    obtain ⟨h0, h1, h2, h3⟩ := H
    have := (h2 0 (Nat.zero_le _)).1
    refine ⟨n_pw this, by rw [vis, n_two]; simp, ?_⟩
    rw [vis, lts_two this, h0, h1]
  | k + 1, h => by
    obtain ⟨a1, a2, a3⟩ := vis_ok hW H k (by omega)
    obtain ⟨h0, h1, h2, h3⟩ := H
    have hr := (h2 (k + 1) h).1
    obtain ⟨b1, b2, b3⟩ := h3 k (by omega)
    refine ⟨n_or_lt a1 (n_pw hr), by rw [vis, Nat.testBit_or, n_two]; simp, ?_⟩
    rw [vis, lts_or hr, a3, b2]
theorem m_path (hW : HWf tt) (hn : tt 1 ≤ 12) (hP : RP tt s d rm Lv) (hd : d ≤ 22) (hw : w ≤ d) (h68 : ∀ a b, a < tt 1 → b < tt 1 → A 68 (16 * a + b) = nI (way tt a b)) (hL : LL2 tt s (A 71)) : f_X12_round_103 xFU (HH A Z B Q P F q D c) 57 (nI w) (nI s) (nI (2 ^ s)) (nI d) (nI 0) = some (nI (rm w), HH A Z B Q P F q D c) := by
  have hpw : 2 ^ tt 1 ≤ 2 ^ 12 := n_pwl hn
  have hv := vis_ok hW hP
  obtain ⟨h0, h1, h2, h3⟩ := hP
  have key := loop_J (F := fun n k (_ : Unit) => f_X12_round_103 n (HH A Z B Q P F q D c) 57 (nI w) (nI (rm k)) (nI (vis rm k)) (nI d) (nI k)) (N := w) (fun _ => some (nI (rm w), HH A Z B Q P F q D c)) (fun _ _ => True) (fun n k u hk _ => ⟨(), ?_, trivial⟩) (fun n u _ => ?_) (by omega) (s := ()) trivial
  · obtain ⟨_, e1, _⟩ := key
    have e2 : vis rm 0 = 2 ^ s := by rw [vis, h0]
    rw [h0, e2] at e1
    exact e1
  · show f_X12_round_103 (n + 1) _ 57 _ _ _ _ _ = f_X12_round_103 n _ 57 _ _ _ _ _
    have hkd : k < d := by omega
    obtain ⟨v1, v2, v3⟩ := hv k (by omega)
    have hr := (h2 k (by omega)).1
    obtain ⟨hr1, hld⟩ := h2 (k + 1) (by omega)
    obtain ⟨g1, g2, g3⟩ := h3 k hkd
    rw [f_X12_round_103, if_neg (by rw [y_le (by omega) (by omega)]; omega)]
    have row : ∀ n2 j, j < tt 1 → f_X12_round_112 (f_X12_round_103 n) (n2 + 1) (HH A Z B Q P F q D c) 57 (nI w) (nI (rm k)) (nI (vis rm k)) (nI d) (nI k) (nI j) = if adj tt (rm k) j = true ∧ A 71 (4096 * j + (vis rm k ||| 2 ^ j)) = nI (d - (k + 1)) then f_X12_round_103 n (HH A Z B Q P F q D c) 57 (nI w) (nI j) (nI (vis rm k ||| 2 ^ j)) (nI d) (nI (k + 1)) else f_X12_round_112 (f_X12_round_103 n) n2 (HH A Z B Q P F q D c) 57 (nI w) (nI (rm k)) (nI (vis rm k)) (nI d) (nI k) (nI (j + 1)) := by
      intro n2 j hj
      have hwl := way_le (tt := tt) (a := rm k) (b := j)
      have hF : FAR = 1000000 := rfl
      have hwa := way_1 hW (a := rm k) (b := j) hr
      have hvv : vis rm k ||| 2 ^ j < 2 ^ tt 1 := n_or_lt v1 (n_pw hj)
      have hs1 : nI d - nI k - (1 : Int32) = nI (d - (k + 1)) := by
        rw [y_sub (by omega), show (1 : Int32) = nI 1 from rfl, y_sub (by omega), show d - k - 1 = d - (k + 1) by omega]
      rw [f_X12_round_112, gf_57_21, Option.bind_some, show (16 : Int32) = nI 16 from rfl, pk_mul, nI_add, ld_68 (by omega), Option.bind_some, h68 (rm k) j hr hj]
      by_cases ha : adj tt (rm k) j = true
      · rw [hwa.mpr ha, if_pos (show nI 1 = (1 : Int32) from rfl), gf_57_26, Option.bind_some, show (1 : Int32) <<< (nI j &&& 31) = nI (2 ^ j) from n_shl (by omega), fa_or, show (4096 : Int32) = nI 4096 from rfl, pk_mul, nI_add, ld_71 (by omega), Option.bind_some, hs1, nI_1, nI_1]
        by_cases hv : A 71 (4096 * j + (vis rm k ||| 2 ^ j)) = nI (d - (k + 1))
        · rw [if_pos hv, if_pos ⟨ha, hv⟩]
        · rw [if_neg hv, if_neg (fun h => hv h.2)]
      · rw [if_neg (by rw [show (1 : Int32) = nI 1 from rfl, y_eq (by omega) (by omega)]; exact fun h => ha (hwa.mp h)), if_neg (fun h => ha h.1), nI_1]
    have hst : ∀ j, j < tt 1 → adj tt (rm k) j = true → (A 71 (4096 * j + (vis rm k ||| 2 ^ j)) = nI (d - (k + 1)) ↔ Ld tt s (Lv k ||| ltt tt j) j (d - (k + 1))) := by
      intro j hj ha
      have hvv : vis rm k ||| 2 ^ j < 2 ^ tt 1 := n_or_lt v1 (n_pw hj)
      have hl := hL j (vis rm k ||| 2 ^ j) hj hvv (by rw [Nat.testBit_or, n_two]; simp)
      rw [lts_or hj, v3] at hl
      rcases hl with ⟨k2, b1, b2, b3⟩ | ⟨b1, b2⟩
      · rw [b2, y_eq (by omega) (by omega)]
        constructor
        · intro h; rw [← h]; exact b3
        · intro h; exact Ld_one b3 h
      · rw [b1]
        constructor
        · intro h; rw [y_Meq (by omega)] at h; exact h.elim
        · intro h; exact absurd h.1 (b2 _)
    have key2 := loop_J (F := fun n2 j (_ : Unit) => f_X12_round_112 (f_X12_round_103 n) n2 (HH A Z B Q P F q D c) 57 (nI w) (nI (rm k)) (nI (vis rm k)) (nI d) (nI k) (nI j)) (N := rm (k + 1)) (fun _ => f_X12_round_103 n (HH A Z B Q P F q D c) 57 (nI w) (nI (rm (k + 1))) (nI (vis rm (k + 1))) (nI d) (nI (k + 1))) (fun _ _ => True) (fun n2 j u hj _ => ⟨(), ?_, trivial⟩) (fun n2 u _ => ?_) (by have := hW.ro; omega) (s := ()) trivial
    · obtain ⟨_, e1, _⟩ := key2
      exact e1
    · refine (row n2 j (by omega)).trans (if_neg (fun h => ?_))
      exact g3 j hj h.1 ((hst j (by omega) h.1).mp h.2)
    · refine (row n2 (rm (k + 1)) hr1).trans (if_pos ⟨g1, (hst _ hr1 g1).mpr ?_⟩)
      rw [← g2]
      exact hld
  · show f_X12_round_103 (n + 1) _ 57 _ _ _ _ _ = _
    rw [f_X12_round_103, if_pos (Int32.le_refl _)]
/-- what both answer -/
def ansR (d : Nat) (rm : Nat → Nat) (x : Int32) : Int32 := if x = nM then nI d else if nI d < x then nM else nI (rm x.toNatClampNeg)
theorem m_round32 (hT : Told (A 58) tt lk lh) (hW : HWf tt) (hn : tt 1 ≤ 12) (hs : s < tt 1) {x : Int32} (hx : x = nM ∨ ∃ w, w < 2147483648 ∧ x = nI w) {v : Int32} (hv : (∃ d rm Lv, RP tt s d rm Lv ∧ d ≤ 22 ∧ v = ansR d rm x) ∨ (v = nM ∧ ∀ k, ¬ Wn tt s k (ltt tt s) s)) : ∃ A', f_X12_round_32 (HH A Z B Q P F q D c) 57 (nI s) x (0 : Int32) 57 = some (v, HH A' (upA Z 18 (nI 0)) B Q P F q D c) ∧ Only [63, 68, 71, 72] A A' := by
  have hpw : 2 ^ tt 1 ≤ 2 ^ 12 := n_pwl hn
  obtain ⟨A', e1, o1, h68, hL⟩ := m_layLeft (A := A) (Z := upA Z 18 (nI 0)) (B := B) (Q := Q) (P := P) (F := F) (q := q) (D := D) (c := c) hT hW hn hs
  refine ⟨A', ?_, o1⟩
  have hp2 : 2 ^ s < 2 ^ tt 1 := n_pw hs
  have hl := hL s (2 ^ s) hs hp2 (by rw [n_two]; simp)
  rw [lts_two hs] at hl
  have eZ : (upA Z 18 (nI 0)) 18 = nI 0 := y_us
  have est : f_X12_round_32 (HH A Z B Q P F q D c) 57 (nI s) x (0 : Int32) 57 = if x = (-1 : Int32) then f_X12_round_88 (HH A' (upA Z 18 (nI 0)) B Q P F q D c) x (A' 71 (4096 * s + 2 ^ s)) else if A' 71 (4096 * s + 2 ^ s) = (-1 : Int32) then f_X12_round_88 (HH A' (upA Z 18 (nI 0)) B Q P F q D c) x (A' 71 (4096 * s + 2 ^ s)) else if x ≤ A' 71 (4096 * s + 2 ^ s) then f_X12_round_103 xFU (HH A' (upA Z 18 (nI 0)) B Q P F q D c) 57 x (nI s) (nI (2 ^ s)) (A' 71 (4096 * s + 2 ^ s)) (nI 0) else f_X12_round_88 (HH A' (upA Z 18 (nI 0)) B Q P F q D c) x (A' 71 (4096 * s + 2 ^ s)) := by
    unfold f_X12_round_32
    rw [show (0 : Int32) = nI 0 from rfl, pf_57_4, Option.bind_some, gf_57_4, Option.bind_some, eZ, if_pos (Int32.le_refl _), gO_57, Option.bind_some, e1, Option.bind_some, gf_57_26, Option.bind_some, show (1 : Int32) <<< (nI s &&& 31) = nI (2 ^ s) from n_shl (by omega), show (4096 : Int32) = nI 4096 from rfl, pk_mul, nI_add, ld_71 (by omega), Option.bind_some]
  rw [est]
  unfold f_X12_round_88
  rcases hv with ⟨d, rm, Lv, hP, hd, rfl⟩ | ⟨rfl, hno⟩
  · have hld := (hP.2.2.1 0 (Nat.zero_le _)).2
    rw [hP.1, hP.2.1, Nat.sub_zero] at hld
    have h7 : A' 71 (4096 * s + 2 ^ s) = nI d := by
      rcases hl with ⟨k2, b1, b2, b3⟩ | ⟨b1, b2⟩
      · rw [b2, Ld_one b3 hld]
      · exact absurd hld.1 (b2 d)
    rw [h7]
    rcases hx with rfl | ⟨w, hw, rfl⟩
    · rw [if_pos (show nM = (-1 : Int32) from rfl), if_pos (show nM = (-1 : Int32) from rfl)]
      unfold ansR
      rw [if_pos rfl]
    · have n1 : ∀ k, k < 2147483648 → ¬ nI k = (-1 : Int32) := fun k hk => by show ¬ nI k = nM; rw [y_eqM hk]; exact fun h => h
      have n2 : ¬ nI w = nM := n1 w hw
      rw [if_neg (n1 w hw), if_neg (n1 d (by omega)), if_neg (n1 w hw)]
      unfold ansR
      rw [if_neg n2, nI_clamp hw]
      by_cases hwd : w ≤ d
      · rw [if_pos (by rw [y_le hw (by omega)]; exact hwd), if_neg (by rw [y_lt (by omega) hw]; omega)]
        exact m_path hW hn hP hd hwd h68 hL
      · rw [if_neg (by rw [y_le hw (by omega)]; exact hwd), if_pos (by rw [y_lt (by omega) hw]; omega)]
        rfl
  · have h7 : A' 71 (4096 * s + 2 ^ s) = nM := by
      rcases hl with ⟨k2, b1, b2, b3⟩ | ⟨b1, b2⟩
      · exact absurd b3.1 (hno _)
      · exact b1
    rw [h7]
    rcases hx with rfl | ⟨w, hw, rfl⟩
    · rw [if_pos (show nM = (-1 : Int32) from rfl), if_pos (show nM = (-1 : Int32) from rfl)]
    · have n1 : ∀ k, k < 2147483648 → ¬ nI k = (-1 : Int32) := fun k hk => by show ¬ nI k = nM; rw [y_eqM hk]; exact fun h => h
      rw [if_neg (n1 w hw), if_pos (show nM = (-1 : Int32) from rfl), if_neg (n1 w hw)]
      rfl
theorem c_round86 (hW : HWf tt) (hn : tt 1 ≤ R) (hR : R ≤ 12) (hs : s < tt 1) (hK : ∀ j, j < 4 → K (a + j) = 5) (H : Hs K D q tt) (hP : P 0 = some a) {wk : Option Nat} {wf ws : Int32} (hr : RD [va_rf wk, .int wf, .int ws] D a R pf af qf qd) (hz : ∀ x, x < R * 2 ^ R → af x = nI 0) (hk : WkOK K D R wk wf ws pf) {x : Int32} (hx : x = nM ∨ ∃ w, w < 2147483648 ∧ x = nI w) : ∃ D' pf' af' qf' qd' v v0, f_X11_round_86 (HH A Z B Q P F q D c) 0 (nI s) x = some (.inr (v, HH A Z B Q P F q D' c)) ∧ DR a D D' ∧ RD [va_rf (some q), .int (nI s), .int v0] D' a R pf' af' qf' qd' ∧ (∀ x, x < R * 2 ^ R → af' x = nI 0) ∧ WA tt s v0 pf' ∧ ((∃ d rm Lv, RP tt s d rm Lv ∧ d ≤ 22 ∧ v = ansR d rm x) ∨ (v = nM ∧ ∀ k, ¬ Wn tt s k (ltt tt s) s)) := by
  obtain ⟨D', pf', af', qf', qd', v, e1, d1, r1, z1, h1⟩ := c_stepsFrom (A := A) (Z := Z) (B := B) (Q := Q) (P := P) (F := F) (q' := q) (c := c) hW hn hR hs hK H hr hz hk
  have hwa := h1
  have est : f_X11_round_86 (HH A Z B Q P F q D c) 0 (nI s) x = if x = (-1 : Int32) then some (.inr (v, HH A Z B Q P F q D' c)) else if v < x then some (.inr ((-1 : Int32), HH A Z B Q P F q D' c)) else (ldI (HH A Z B Q P F q D' c) .int (a + 1) x).bind fun v12 => some (.inr (v12, HH A Z B Q P F q D' c)) := by
    unfold f_X11_round_86
    rw [gf_0_17, Option.bind_some, hP]
    dsimp only
    rw [gf_0_4, Option.bind_some, rd_O hr, Option.bind_some, e1, Option.bind_some]
    dsimp only
    rw [gf_0_17, Option.bind_some, hP]
    dsimp only
    rw [rd_p r1, Option.bind_some]
  rcases h1 with ⟨d, rm, Lv, hP1, hd, rfl, hpf⟩ | ⟨rfl, hno⟩
  · refine ⟨D', pf', af', qf', qd', ansR d rm x, nI d, ?_, d1, r1, z1, hwa, Or.inl ⟨d, rm, Lv, hP1, hd, rfl⟩⟩
    rw [est]
    unfold ansR
    rcases hx with rfl | ⟨w, hw, rfl⟩
    · rw [if_pos (show nM = (-1 : Int32) from rfl), if_pos rfl]
    · have n2 : ¬ nI w = nM := by rw [y_eqM hw]; exact fun h => h
      rw [if_neg (show ¬ nI w = (-1 : Int32) from n2), if_neg n2, nI_clamp hw]
      by_cases hwd : d < w
      · rw [if_pos (by rw [y_lt (by omega) hw]; exact hwd), if_pos (by rw [y_lt (by omega) hw]; exact hwd)]
        rfl
      · rw [if_neg (by rw [y_lt (by omega) hw]; exact hwd), if_neg (by rw [y_lt (by omega) hw]; exact hwd), rd_lp r1 (by omega), Option.bind_some, hpf w (by omega)]
  · refine ⟨D', pf', af', qf', qd', nM, nM, ?_, d1, r1, z1, hwa, Or.inr ⟨rfl, hno⟩⟩
    rw [est]
    rcases hx with rfl | ⟨w, hw, rfl⟩
    · rw [if_pos (show nM = (-1 : Int32) from rfl)]
    · have n2 : ¬ nI w = nM := by rw [y_eqM hw]; exact fun h => h
      rw [if_neg (show ¬ nI w = (-1 : Int32) from n2), if_pos (by rw [y_Mlt hw]; trivial)]
      rfl
end RAns
