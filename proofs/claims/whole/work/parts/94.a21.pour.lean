/-! ===== pour ===== -/
def kin (v : Int64) (n : Nat) : Bool := decide (¬ v < -1 ∧ v < (nI n).toInt64)
def hin (v : Int64) : Bool := decide (¬ v < 0 ∧ ¬ (16777215 : Int64) < v)
theorem nI_m1i {n : Nat} (hn : n < 1000) : (nI n - 1).toInt64.toInt = (n : Int) - 1 := by
  have e1 : (nI n).toInt = n := nI_toInt (by omega)
  rw [Int32.toInt_toInt64, fb_subI]
  · rw [e1]; rfl
  · rw [e1]; show -2147483648 ≤ (n : Int) - 1; omega
  · rw [e1]; show (n : Int) - 1 < 2147483648; omega
theorem kin_m (h : xH) (v : Int64) {n : Nat} (hn : n < 1000) : f_X12_within h v (-1 : Int64) (nI n - 1).toInt64 = some (if kin v n = true then nI 1 else nI 0) := by
  unfold f_X12_within kin
  simp only [lg_cmp_lt, lg_cmp_gt]
  have e0 : (-1 : Int64).toInt = -1 := by decide
  have e2 : ((nI n - 1).toInt64 < v) ↔ ¬ v < (nI n).toInt64 := by
    rw [fa_lt64, fa_lt64, nI_m1i hn, Int32.toInt_toInt64, nI_toInt (by omega)]
    omega
  by_cases h1 : v < -1
  · simp [h1]; rfl
  · by_cases h2 : v < (nI n).toInt64
    · have h3 : ¬ (nI n - 1).toInt64 < v := fun h => e2.mp h h2
      simp only [h1, h2, h3, if_false, not_false_eq_true, and_self, decide_true, if_true]
      rfl
    · have h3 : (nI n - 1).toInt64 < v := e2.mpr h2
      simp only [h1, h2, h3, if_false, if_true, and_false, decide_false, Bool.false_eq_true]
      rfl
theorem kin_t {v : Int64} {n : Nat} (h : kin v n = true) : (lg_cmp v (-1 : Int64) < nI 0) = False ∧ (nI 0 ≤ lg_cmp v (nI n).toInt64) = False := by
  rw [nI_0]
  obtain ⟨h1, h2⟩ := of_decide_eq_true h
  have e2 : lg_cmp v (nI n).toInt64 < 0 := lg_cmp_lt .. |>.mpr h2
  exact ⟨eq_false (fun e => h1 ((lg_cmp_lt ..).mp e)), eq_false (fun e => by
    rw [fa_lt] at e2
    rw [fa_le] at e
    omega)⟩
theorem kin_f {v : Int64} {n : Nat} (h : kin v n = false) : (lg_cmp v (-1 : Int64) < nI 0) = True ∨ ((lg_cmp v (-1 : Int64) < nI 0) = False ∧ (nI 0 ≤ lg_cmp v (nI n).toInt64) = True) := by
  rw [nI_0]
  have h0 := of_decide_eq_false h
  by_cases h1 : v < -1
  · exact Or.inl (eq_true ((lg_cmp_lt ..).mpr h1))
  · right
    refine ⟨eq_false (fun e => h1 ((lg_cmp_lt ..).mp e)), eq_true ?_⟩
    have h2 : ¬ lg_cmp v (nI n).toInt64 < 0 := fun e => h0 ⟨h1, (lg_cmp_lt ..).mp e⟩
    exact fa_of_nlt h2
theorem i64_i32 {v : Int64} {z : Int} (h : v.toInt = z) (h1 : -2147483648 ≤ z) (h2 : z < 2147483648) : v.toInt32.toInt = z := by
  rw [Int64.toInt_toInt32, h]
  exact fb_bmod h1 h2
theorem kin_v {v : Int64} {n : Nat} (hn : n < 1000) (h : kin v n = true) : v.toInt32 = nM ∨ rk v.toInt32 n = true := by
  obtain ⟨h1, h2⟩ := of_decide_eq_true h
  rw [fa_lt64, Int32.toInt_toInt64, nI_toInt (by omega)] at h2
  rw [fa_lt64, show (-1 : Int64).toInt = -1 by decide] at h1
  have e := i64_i32 (v := v) rfl (by omega) (by omega)
  by_cases h3 : v.toInt = -1
  · left
    rw [fa_eq, e, h3]
    rfl
  · right
    refine decide_eq_true ⟨?_, ?_⟩
    · rw [fa_lt, e, show (0 : Int32).toInt = 0 by decide]
      omega
    · rw [fa_lt, e, nI_toInt (by omega)]
      omega
theorem hin_c (h : xH) (v : Int64) : f_X11_areHours h v = some (if hin v = true then nI 1 else nI 0) := by
  unfold f_X11_areHours hin
  simp only [lg_cmp_lt, lg_cmp_gt]
  by_cases h1 : v < 0
  · simp [h1]; rfl
  · by_cases h2 : (16777215 : Int64) < v
    · simp [h1, h2]; rfl
    · simp [h1, h2]; rfl
theorem hin_m (h : xH) (v : Int64) : f_X12_within h v (0 : Int64) (16777215 : Int64) = some (if hin v = true then nI 1 else nI 0) := by
  unfold f_X12_within hin
  simp only [lg_cmp_lt, lg_cmp_gt]
  by_cases h1 : v < 0
  · simp [h1]; rfl
  · by_cases h2 : (16777215 : Int64) < v
    · simp [h1, h2]; rfl
    · simp [h1, h2]; rfl
theorem hin_v {v : Int64} (h : hin v = true) : ∃ w, w < 2 ^ 24 ∧ v.toInt32 = nI w := by
  obtain ⟨h1, h2⟩ := of_decide_eq_true h
  rw [fa_lt64, show (0 : Int64).toInt = 0 by decide] at h1
  rw [fa_lt64, show (16777215 : Int64).toInt = 16777215 by decide] at h2
  have e := i64_i32 (v := v) rfl (by omega) (by omega)
  obtain ⟨w, hw, e2⟩ := nI_of (x := v.toInt32) (by rw [fa_lt, e, show (0 : Int32).toInt = 0 by decide]; omega)
  refine ⟨w, ?_, e2⟩
  rw [e2, nI_toInt hw] at e
  omega
section Pour
variable {A : Nat → Nat → Int32} {Z : Nat → Int32} {B : Nat → Nat → Int64} {Q : Nat → Int64} {P : Nat → Option Nat} {F : Nat → Nat → Option Nat} {q : Nat} {D : List xC} {c : Nat × Nat} {K : Nat → Nat} {tt lk lh : Nat → Nat} {R i : Nat}
theorem c_numberAt {t k : Nat} (ht : t < 4) (hk : k < 40) : f_X10_numberAt (HH A Z B Q P F q D c) 17 (nI t) (nI k) = some (B 18 (40 * t + k)) := by
  unfold f_X10_numberAt
  simp (disch := omega) only [if_true, if_false, Bool.false_eq_true, Bool.true_eq_false, y_lit, y_m1, nI_add, pk_mul, fa_and, fa_or, y_bs, if_pos, if_neg, y_shl, y_shr, y_le, y_lt, y_eq, y_sub, y_dv, y_rm, y_b0, y_b1, y_sdf, y_ltM, y_Mlt, y_leM, y_Mle, y_eqM, y_Meq, s_e1, s_e2, s_e3, s_e4, s_e5, s_e6, gf_17_0, ld_18]
  rw [show t * 40 + k = 40 * t + k by omega]
/-- the numbers of a tray that may be hung -/
def pgd (g : Nat → Int64) (tt : Nat → Nat) (t n : Nat) : Prop := ∀ r, r < n → kin (g (40 * t + 2 * r)) (tt 3) = true ∧ hin (g (40 * t + (2 * r + 1))) = true
def plk (g : Nat → Int64) (t : Nat) (lk : Nat → Nat) (n : Nat) : Nat → Nat := fun r => if r < n then kof (g (40 * t + 2 * r)).toInt32 else lk r
def plh (g : Nat → Int64) (t : Nat) (lh : Nat → Nat) (n : Nat) : Nat → Nat := fun r => if r < n then (if kof (g (40 * t + 2 * r)).toInt32 = 0 then 0 else (g (40 * t + (2 * r + 1))).toInt32.toNatClampNeg) else lh r
theorem plk_s (g : Nat → Int64) (t : Nat) (lk : Nat → Nat) (n : Nat) : va_up (plk g t lk n) n (kof (g (40 * t + 2 * n)).toInt32) = plk g t lk (n + 1) := by
  funext k
  unfold va_up plk
  by_cases e : k = n
  · subst e; simp
  · by_cases h : k < n
    · rw [if_neg e, if_pos h, if_pos (by omega)]
    · rw [if_neg e, if_neg h, if_neg (by omega)]
theorem plh_s (g : Nat → Int64) (t : Nat) (lh : Nat → Nat) (n : Nat) : va_up (plh g t lh n) n (if kof (g (40 * t + 2 * n)).toInt32 = 0 then 0 else (g (40 * t + (2 * n + 1))).toInt32.toNatClampNeg) = plh g t lh (n + 1) := by
  funext k
  unfold va_up plh
  by_cases e : k = n
  · subst e; simp
  · by_cases h : k < n
    · have h2 : k < n + 1 := by omega
      simp [e, h, h2]
    · have h2 : ¬ k < n + 1 := by omega
      simp [e, h, h2]
/-- what a pair of good numbers is as kind and hours -/
theorem pgd_v {g : Nat → Int64} {t n r : Nat} (hW : HWf tt) (h : pgd g tt t n) (hr : r < n) : kv (kof (g (40 * t + 2 * r)).toInt32) = (g (40 * t + 2 * r)).toInt32 ∧ kof (g (40 * t + 2 * r)).toInt32 ≤ tt 3 ∧ (if (g (40 * t + 2 * r)).toInt32 = nM then 0 else (g (40 * t + (2 * r + 1))).toInt32) = nI (if kof (g (40 * t + 2 * r)).toInt32 = 0 then 0 else (g (40 * t + (2 * r + 1))).toInt32.toNatClampNeg) ∧ (if kof (g (40 * t + 2 * r)).toInt32 = 0 then 0 else (g (40 * t + (2 * r + 1))).toInt32.toNatClampNeg) < 2 ^ 24 := by
  have hki := hW.ki
  obtain ⟨h1, h2⟩ := h r hr
  obtain ⟨k1, k2, k3⟩ := kof_v (n := tt 3) (by omega) (kin_v (by omega) h1)
  obtain ⟨w, hw, e⟩ := hin_v h2
  refine ⟨k1, k2, ?_, ?_⟩
  · by_cases e2 : (g (40 * t + 2 * r)).toInt32 = nM
    · rw [if_pos e2, if_pos (k3.mpr e2)]; rfl
    · rw [if_neg e2, if_neg (fun h => e2 (k3.mp h)), e, nI_clamp (by omega)]
  · rw [e, nI_clamp (by omega)]
    split <;> omega
theorem pLWf {g : Nat → Int64} {t n : Nat} (hW : HWf tt) (hL : LWf tt lk lh) (h : pgd g tt t n) (hn : n ≤ tt 1) : LWf tt (plk g t lk n) (plh g t lh n) := fun r => by
  unfold plk plh
  by_cases hr : r < n
  · obtain ⟨h1, h2, h3, h4⟩ := pgd_v hW h hr
    rw [if_pos hr, if_pos hr]
    exact ⟨h2, h4, fun e => if_pos e, fun e => by omega⟩
  · rw [if_neg hr, if_neg hr]
    exact hL r
theorem c_pour2 {t n : Nat} (ht : t < 4) (hn : n ≤ 16) (hn2 : 2 * n ≤ 40) (hW : HWf tt) (hg : pgd (B 18) tt t n) (hLm : Lam (A 13) (A 14) lk lh) : ∃ f g, f_X11_pour_139 xFU (HH A Z B Q P F q D c) 0 (nI t) (nI (2 * n)) (nI 0) = some (.inr (nI n, HH (upA (upA A 13 f) 14 g) Z B Q P F q D c)) ∧ Lam f g (plk (B 18) t lk n) (plh (B 18) t lh n) := by
  have key := loop_J (F := fun m i (s : xH) => f_X11_pour_139 m s 0 (nI t) (nI (2 * n)) (nI i)) (N := n) (fun s => some (.inr (nI n, s))) (fun i s => ∃ f g, s = HH (upA (upA A 13 f) 14 g) Z B Q P F q D c ∧ Lam f g (plk (B 18) t lk i) (plh (B 18) t lh i)) (fun m i s hi hs => ?_) (fun m s hs => ?_) (by omega) (s := HH A Z B Q P F q D c) ⟨A 13, A 14, by rw [y_ua, y_ua], hLm⟩
  · obtain ⟨s, e1, f, g, e2, hf⟩ := key
    exact ⟨f, g, by rw [← e2]; exact e1, hf⟩
  · obtain ⟨f, g, rfl, hf⟩ := hs
    obtain ⟨v1, v2, v3, v4⟩ := pgd_v hW hg hi
    have hp := Lam_put hf i (kof (B 18 (40 * t + 2 * i)).toInt32) (if kof (B 18 (40 * t + 2 * i)).toInt32 = 0 then 0 else (B 18 (40 * t + (2 * i + 1))).toInt32.toNatClampNeg)
    rw [v1, ← v3, plk_s, plh_s] at hp
    refine ⟨_, ?_, _, _, rfl, hp⟩
    have hd : 2 * n / 2 = n := by omega
    simp (disch := omega) only [f_X11_pour_139, if_true, if_false, Bool.false_eq_true, Bool.true_eq_false, y_lit, y_m1, nI_add, pk_mul, fa_and, fa_or, y_bs, if_pos, if_neg, y_shl, y_shr, y_le, y_lt, y_eq, y_sub, y_dv, y_rm, y_b0, y_b1, y_sdf, y_ltM, y_Mlt, y_leM, y_Mle, y_eqM, y_Meq, s_e1, s_e2, s_e3, s_e4, s_e5, s_e6, hd, gf_0_5, gf_0_10, gO_17, gO_12, c_numberAt, c_put, y_us, y_un, y_vs, y_vn, y_uu, y_vv, ne_eq, not_false_eq_true, not_true_eq_false]
    congr 2
    funext k
    unfold upA
    by_cases e1 : k = 14
    · subst e1; simp
    · by_cases e2 : k = 13
      · subst e2; simp
      · simp [e1, e2]
  · obtain ⟨f, g, rfl, hf⟩ := hs
    have hd : 2 * n / 2 = n := by omega
    simp (disch := omega) only [f_X11_pour_139, if_true, if_false, Bool.false_eq_true, Bool.true_eq_false, y_lit, y_m1, nI_add, pk_mul, fa_and, fa_or, y_bs, if_pos, if_neg, y_shl, y_shr, y_le, y_lt, y_eq, y_sub, y_dv, y_rm, y_b0, y_b1, y_sdf, y_ltM, y_Mlt, y_leM, y_Mle, y_eqM, y_Meq, s_e1, s_e2, s_e3, s_e4, s_e5, s_e6, hd]
theorem c_pour1 {t n : Nat} (ht : t < 4) (hn2 : 2 * n ≤ 40) (H : Hs K D q tt) : (pgd (B 18) tt t n ∧ f_X11_pour_58 xFU (HH A Z B Q P F q D c) 0 (nI t) (nI (2 * n)) (nI 0) = f_X11_pour_139 xFU (HH A Z B Q P F q D c) 0 (nI t) (nI (2 * n)) (nI 0)) ∨ (¬ pgd (B 18) tt t n ∧ f_X11_pour_58 xFU (HH A Z B Q P F q D c) 0 (nI t) (nI (2 * n)) (nI 0) = some (.inl ("java/lang/IllegalArgumentException", HH A Z B Q P F q D (c.1 + 1, c.2 + 6)))) := by
  generalize hG : f_X11_pour_139 xFU (HH A Z B Q P F q D c) 0 (nI t) (nI (2 * n)) (nI 0) = G
  have hd : 2 * n / 2 = n := by omega
  have key := loop_I (F := fun m i (s : Unit) => f_X11_pour_58 m (HH A Z B Q P F q D c) 0 (nI t) (nI (2 * n)) (nI i)) (N := n) (ρ := Option ((String × xH) ⊕ (Int32 × xH))) id (fun i _ => pgd (B 18) tt t i) (fun o => (pgd (B 18) tt t n ∧ o = G) ∨ (¬ pgd (B 18) tt t n ∧ o = some (.inl ("java/lang/IllegalArgumentException", HH A Z B Q P F q D (c.1 + 1, c.2 + 6))))) (fun m i s hi hs => ?_) (fun m s hs => ?_) (by omega) (s := ()) (fun r hr => by omega)
  · obtain ⟨o, e1, h⟩ := key
    rcases h with ⟨h, rfl⟩ | ⟨h, rfl⟩
    · exact Or.inl ⟨h, e1⟩
    · exact Or.inr ⟨h, e1⟩
  · cases hk : kin (B 18 (40 * t + 2 * i)) (tt 3)
    · right
      refine ⟨_, rfl, Or.inr ⟨fun h => ?_, ?_⟩⟩
      · rw [(h i hi).1] at hk
        cases hk
      · show f_X11_pour_58 (m + 1) _ _ _ _ _ = _
        rw [f_X11_pour_58]
        generalize f_X11_pour_139 xFU = N
        rcases kin_f hk with h1 | ⟨h1, h2⟩
        · simp (disch := omega) only [f_X11_pour_120, if_true, if_false, Bool.false_eq_true, Bool.true_eq_false, y_lit, y_m1, nI_add, pk_mul, fa_and, fa_or, y_bs, if_pos, if_neg, y_shl, y_shr, y_le, y_lt, y_eq, y_sub, y_dv, y_rm, y_b0, y_b1, y_sdf, y_ltM, y_Mlt, y_leM, y_Mle, y_eqM, y_Meq, hd, gf_0_10, gO_17, c_numberAt, h1, thr_HH]
        · simp (disch := omega) only [f_X11_pour_120, if_true, if_false, Bool.false_eq_true, Bool.true_eq_false, y_lit, y_m1, nI_add, pk_mul, fa_and, fa_or, y_bs, if_pos, if_neg, y_shl, y_shr, y_le, y_lt, y_eq, y_sub, y_dv, y_rm, y_b0, y_b1, y_sdf, y_ltM, y_Mlt, y_leM, y_Mle, y_eqM, y_Meq, hd, gf_0_10, gf_0_4, hs_4 H, gO_17, c_numberAt, h1, h2, thr_HH]
    · cases hh : hin (B 18 (40 * t + (2 * i + 1)))
      · right
        refine ⟨_, rfl, Or.inr ⟨fun h => ?_, ?_⟩⟩
        · rw [(h i hi).2] at hh
          cases hh
        · obtain ⟨h1, h2⟩ := kin_t hk
          show f_X11_pour_58 (m + 1) _ _ _ _ _ = _
          rw [f_X11_pour_58]
          generalize f_X11_pour_139 xFU = N
          simp (disch := omega) only [f_X11_pour_120, if_true, if_false, Bool.false_eq_true, Bool.true_eq_false, y_lit, y_m1, nI_add, pk_mul, fa_and, fa_or, y_bs, if_pos, if_neg, y_shl, y_shr, y_le, y_lt, y_eq, y_sub, y_dv, y_rm, y_b0, y_b1, y_sdf, y_ltM, y_Mlt, y_leM, y_Mle, y_eqM, y_Meq, hd, gf_0_10, gf_0_4, hs_4 H, gO_17, c_numberAt, h1, h2, hin_c, hh, thr_HH]
      · left
        refine ⟨(), ?_, fun r hr => ?_⟩
        · obtain ⟨h1, h2⟩ := kin_t hk
          show f_X11_pour_58 (m + 1) _ _ _ _ _ = _
          rw [f_X11_pour_58]
          generalize f_X11_pour_139 xFU = N
          simp (disch := omega) only [f_X11_pour_120, if_true, if_false, Bool.false_eq_true, Bool.true_eq_false, y_lit, y_m1, nI_add, pk_mul, fa_and, fa_or, y_bs, if_pos, if_neg, y_shl, y_shr, y_le, y_lt, y_eq, y_sub, y_dv, y_rm, y_b0, y_b1, y_sdf, y_ltM, y_Mlt, y_leM, y_Mle, y_eqM, y_Meq, hd, gf_0_10, gf_0_4, hs_4 H, gO_17, c_numberAt, h1, h2, hin_c, hh]
        · by_cases e : r = i
          · subst e; exact ⟨hk, hh⟩
          · exact hs r (by omega)
  · refine ⟨G, ?_, Or.inl ⟨hs, rfl⟩⟩
    show f_X11_pour_58 (m + 1) _ _ _ _ _ = G
    rw [f_X11_pour_58]
    rw [show (2 : Int32) = nI 2 from rfl, y_dv (by omega) (by omega) (by omega), Option.bind_some, hd, if_pos (by rw [y_le (by omega) (by omega)]; exact Nat.le_refl _)]
    exact hG
theorem m_pour2 {t n : Nat} (ht : t < 4) (hn : n ≤ 16) (hn2 : 2 * n ≤ 40) (hW : HWf tt) (hg : pgd (B 75) tt t n) (hT : Told (A 58) tt lk lh) : ∃ f, f_X12_pour_167 xFU (HH A Z B Q P F q D c) 57 (nI t) (nI n) (nI 0) = some (nI n, HH (upA A 58 f) Z B Q P F q D c) ∧ Told f tt (plk (B 75) t lk n) (plh (B 75) t lh n) := by
  have key := loop_J (F := fun m i (s : xH) => f_X12_pour_167 m s 57 (nI t) (nI n) (nI i)) (N := n) (fun s => some (nI n, s)) (fun i s => ∃ f, s = HH (upA A 58 f) Z B Q P F q D c ∧ Told f tt (plk (B 75) t lk i) (plh (B 75) t lh i)) (fun m i s hi hs => ?_) (fun m s hs => ?_) (by omega) (s := HH A Z B Q P F q D c) ⟨A 58, by rw [y_ua], hT⟩
  · obtain ⟨s, e1, f, e2, hf⟩ := key
    exact ⟨f, by rw [← e2]; exact e1, hf⟩
  · obtain ⟨f, rfl, hf⟩ := hs
    obtain ⟨v1, v2, v3, v4⟩ := pgd_v hW hg hi
    have hp := Told_put hf (r := i) (by omega) (kof (B 75 (40 * t + 2 * i)).toInt32) (if kof (B 75 (40 * t + 2 * i)).toInt32 = 0 then 0 else (B 75 (40 * t + (2 * i + 1))).toInt32.toNatClampNeg)
    rw [v1, ← v3, plk_s, plh_s] at hp
    refine ⟨_, ?_, _, rfl, hp⟩
    simp (disch := omega) only [f_X12_pour_167, if_true, if_false, Bool.false_eq_true, Bool.true_eq_false, y_lit, y_m1, nI_add, pk_mul, fa_and, fa_or, y_bs, if_pos, if_neg, y_shl, y_shr, y_le, y_lt, y_eq, y_sub, y_dv, y_rm, y_b0, y_b1, y_sdf, y_ltM, y_Mlt, y_leM, y_Mle, y_eqM, y_Meq, s_e1, s_e2, s_e3, s_e4, s_e5, s_e6, gf_57_31, gO_57, ld_75, m_hangs, y_us, y_un, y_vs, y_vn, y_uu, y_vv, ne_eq, not_false_eq_true, not_true_eq_false]
    rw [show 40 * t + 2 * i + 1 = 40 * t + (2 * i + 1) by omega]
  · obtain ⟨f, rfl, hf⟩ := hs
    simp (disch := omega) only [f_X12_pour_167, if_true, if_false, Bool.false_eq_true, Bool.true_eq_false, y_lit, y_m1, nI_add, pk_mul, fa_and, fa_or, y_bs, if_pos, if_neg, y_shl, y_shr, y_le, y_lt, y_eq, y_sub, y_dv, y_rm, y_b0, y_b1, y_sdf, y_ltM, y_Mlt, y_leM, y_Mle, y_eqM, y_Meq, s_e1, s_e2, s_e3, s_e4, s_e5, s_e6]
theorem m_pour1 {t n : Nat} (ht : t < 4) (hn2 : 2 * n ≤ 40) (hT : Told (A 58) tt lk lh) (hW : HWf tt) (good : Bool) : (good = true ∧ pgd (B 75) tt t n ∧ f_X12_pour_81 xFU (HH A Z B Q P F q D c) 57 (nI t) (nI n) (nI (if good then 1 else 0)) (nI (40 * t)) = f_X12_pour_167 xFU (HH A Z B Q P F q D c) 57 (nI t) (nI n) (nI 0)) ∨ (¬ (good = true ∧ pgd (B 75) tt t n) ∧ f_X12_pour_81 xFU (HH A Z B Q P F q D c) 57 (nI t) (nI n) (nI (if good then 1 else 0)) (nI (40 * t)) = some (nI 0, HH A (upA Z 18 (nI 4)) B Q P F q D c)) := by
  have hki := hW.ki
  generalize hG : f_X12_pour_167 xFU (HH A Z B Q P F q D c) 57 (nI t) (nI n) (nI 0) = G
  have ew : ∀ v, f_X12_within (HH A Z B Q P F q D c) v (-1 : Int64) (nI (tt 3) - nI 1).toInt64 = some (if kin v (tt 3) = true then nI 1 else nI 0) := fun v => kin_m _ v (by omega)
  have e3 : A 58 3 = nI (tt 3) := hT.1 3 (by decide)
  have key := loop_I (F := fun m i (s : Bool) => f_X12_pour_81 m (HH A Z B Q P F q D c) 57 (nI t) (nI n) (nI (if s then 1 else 0)) (nI (40 * t + 2 * i))) (N := n) (ρ := Option (Int32 × xH)) id (fun i s => s = true ↔ (good = true ∧ pgd (B 75) tt t i)) (fun o => (good = true ∧ pgd (B 75) tt t n ∧ o = G) ∨ (¬ (good = true ∧ pgd (B 75) tt t n) ∧ o = some (nI 0, HH A (upA Z 18 (nI 4)) B Q P F q D c))) (fun m i s hi hs => ?_) (fun m s hs => ?_) (by omega) (s := good) ⟨fun h => ⟨h, fun r hr => by omega⟩, fun h => h.1⟩
  · obtain ⟨o, e1, h⟩ := key
    rcases h with ⟨h0, h, rfl⟩ | ⟨h, rfl⟩
    · exact Or.inl ⟨h0, h, e1⟩
    · exact Or.inr ⟨h, e1⟩
  · left
    have es : 40 * t + 2 * (i + 1) = 40 * t + 2 * i + 2 := by omega
    have ei : 40 * t + 2 * i + 1 = 40 * t + (2 * i + 1) := by omega
    cases s with
    | false =>
      refine ⟨false, ?_, ?_⟩
      · show f_X12_pour_81 (m + 1) _ _ _ _ _ _ = f_X12_pour_81 m _ _ _ _ _ _
        rw [f_X12_pour_81, es]
        generalize f_X12_pour_167 xFU = N
        simp (disch := omega) only [if_true, if_false, Bool.false_eq_true, Bool.true_eq_false, y_lit, y_m1, nI_add, pk_mul, fa_and, fa_or, y_bs, if_pos, if_neg, y_shl, y_shr, y_le, y_lt, y_eq, y_sub, y_dv, y_rm, y_b0, y_b1, y_sdf, y_ltM, y_Mlt, y_leM, y_Mle, y_eqM, y_Meq]
      · constructor
        · intro h; cases h
        · intro h
          exact hs.mpr ⟨h.1, fun r hr => h.2 r (by omega)⟩
    | true =>
      have hgi := hs.mp rfl
      cases hk : kin (B 75 (40 * t + 2 * i)) (tt 3)
      · refine ⟨false, ?_, ?_⟩
        · show f_X12_pour_81 (m + 1) _ _ _ _ _ _ = f_X12_pour_81 m _ _ _ _ _ _
          rw [f_X12_pour_81, es]
          generalize f_X12_pour_167 xFU = N
          simp (disch := omega) only [y_lit, pk_mul, nI_add, y_bs, if_true, if_false, if_pos, if_neg, y_le, y_eq, gf_57_31, gf_57_0, ld_75, ld_58, e3, ew, hk, Bool.false_eq_true]
        · constructor
          · intro h; cases h
          · intro h
            rw [(h.2 i (by omega)).1] at hk
            cases hk
      · cases hh : hin (B 75 (40 * t + (2 * i + 1)))
        · refine ⟨false, ?_, ?_⟩
          · show f_X12_pour_81 (m + 1) _ _ _ _ _ _ = f_X12_pour_81 m _ _ _ _ _ _
            rw [f_X12_pour_81, es]
            generalize f_X12_pour_167 xFU = N
            simp (disch := omega) only [y_lit, pk_mul, nI_add, y_bs, if_true, if_false, if_pos, if_neg, y_le, y_eq, gf_57_31, gf_57_0, ld_75, ld_58, e3, ew, hk, ei, hin_m, hh, Bool.false_eq_true]
          · constructor
            · intro h; cases h
            · intro h
              rw [(h.2 i (by omega)).2] at hh
              cases hh
        · refine ⟨true, ?_, ?_⟩
          · show f_X12_pour_81 (m + 1) _ _ _ _ _ _ = f_X12_pour_81 m _ _ _ _ _ _
            rw [f_X12_pour_81, es]
            generalize f_X12_pour_167 xFU = N
            simp (disch := omega) only [y_lit, pk_mul, nI_add, y_bs, if_true, if_false, if_pos, if_neg, y_le, y_eq, gf_57_31, gf_57_0, ld_75, ld_58, e3, ew, hk, ei, hin_m, hh, Bool.false_eq_true]
          · refine ⟨fun _ => ⟨hgi.1, fun r hr => ?_⟩, fun _ => rfl⟩
            by_cases e : r = i
            · subst e; exact ⟨hk, hh⟩
            · exact hgi.2 r (by omega)
  · have hle : (40 : Int32) * nI t + 2 * nI n ≤ nI (40 * t + 2 * n) := by
      rw [show (40 : Int32) = nI 40 from rfl, show (2 : Int32) = nI 2 from rfl, pk_mul, pk_mul, nI_add, y_le (by omega) (by omega)]
      exact Nat.le_refl _
    cases s with
    | false =>
      refine ⟨some (nI 0, HH A (upA Z 18 (nI 4)) B Q P F q D c), ?_, Or.inr ⟨fun h => ?_, rfl⟩⟩
      · show f_X12_pour_81 (m + 1) _ _ _ _ _ _ = some _
        rw [f_X12_pour_81, if_pos hle, if_pos (by decide), gO_57, Option.bind_some, m_fails, Option.bind_some]
        rfl
      · have := hs.mpr h
        cases this
    | true =>
      have h := hs.mp rfl
      refine ⟨G, ?_, Or.inl ⟨h.1, h.2, rfl⟩⟩
      show f_X12_pour_81 (m + 1) _ _ _ _ _ _ = G
      rw [f_X12_pour_81, if_pos hle, if_neg (by decide)]
      exact hG
end Pour
theorem pgd_cong {f g : Nat → Int64} {tt : Nat → Nat} {t n : Nat} (ht : t < 4) (hn : 2 * n ≤ 40) (h : ∀ k, k < 160 → f k = g k) : pgd f tt t n ↔ pgd g tt t n := by
  constructor
  · intro h1 r hr
    rw [← h _ (by omega), ← h _ (by omega)]
    exact h1 r hr
  · intro h1 r hr
    rw [h _ (by omega), h _ (by omega)]
    exact h1 r hr
theorem plk_cong {f g : Nat → Int64} {t n : Nat} (ht : t < 4) (hn : 2 * n ≤ 40) (h : ∀ k, k < 160 → f k = g k) (lk : Nat → Nat) : plk f t lk n = plk g t lk n := by
  funext r
  unfold plk
  by_cases hr : r < n
  · rw [if_pos hr, if_pos hr, h _ (by omega)]
  · rw [if_neg hr, if_neg hr]
theorem plh_cong {f g : Nat → Int64} {t n : Nat} (ht : t < 4) (hn : 2 * n ≤ 40) (h : ∀ k, k < 160 → f k = g k) (lh : Nat → Nat) : plh f t lh n = plh g t lh n := by
  funext r
  unfold plh
  by_cases hr : r < n
  · rw [if_pos hr, if_pos hr, h _ (by omega), h _ (by omega)]
  · rw [if_neg hr, if_neg hr]
theorem ok_pour : ∀ x0, ME (fun h => f_L_pour h 0 x0 76) (fun h => f_X12_pour h 57 x0) := by
  intro x h i hJ hi
  obtain ⟨K, A, Z, B, Q, P, F, q, D, c, tt, lk, lh, R, rfl, hI⟩ := hJ
  have hz := hI.2.1.2.2.2
  obtain ⟨H, hW, hL, hT, hLm⟩ := hI.1
  obtain ⟨hY, hN⟩ := hI.2.1.2.2.1
  have hro := hW.ro
  cases hx : rk x 4
  · refine ME_t hI (k := 1) (b := nI 0) (by decide) ?_ ?_ (oZ182 (nI 0) (nI 1)) rfl
    · unfold f_L_pour f_X11_pour
      generalize xFU = N
      simp (disch := omega) only [if_true, if_false, Bool.false_eq_true, Bool.true_eq_false, y_lit, y_m1, nI_add, pk_mul, fa_and, fa_or, y_bs, if_pos, if_neg, y_shl, y_shr, y_le, y_lt, y_eq, y_sub, y_dv, y_rm, y_b0, y_b1, y_sdf, y_ltM, y_Mlt, y_leM, y_Mle, y_eqM, y_Meq, s_e1, s_e2, s_e3, s_e4, s_e5, s_e6, gO_0, c_trayThere0 hx]
    · unfold f_X12_pour
      simp (disch := omega) only [if_true, if_false, Bool.false_eq_true, Bool.true_eq_false, y_lit, y_m1, nI_add, pk_mul, fa_and, fa_or, y_bs, if_pos, if_neg, y_shl, y_shr, y_le, y_lt, y_eq, y_sub, y_dv, y_rm, y_b0, y_b1, y_sdf, y_ltM, y_Mlt, y_leM, y_Mle, y_eqM, y_Meq, s_e1, s_e2, s_e3, s_e4, s_e5, s_e6, pf_57_4, gO_57, m_isTray, hx, m_fails]
  · obtain ⟨t, ht, rfl⟩ := rk_t (by decide) hx
    rcases hY t ht with ⟨a1, a2⟩ | ⟨s, m, hs, hm, a3, a4, a5, a6⟩
    · refine ME_t hI (k := 2) (b := nI 0) (by decide) ?_ ?_ (oZ182 (nI 0) (nI 2)) rfl
      · unfold f_L_pour f_X11_pour
        generalize xFU = N
        simp (disch := omega) only [if_true, if_false, Bool.false_eq_true, Bool.true_eq_false, y_lit, y_m1, nI_add, pk_mul, fa_and, fa_or, y_bs, if_pos, if_neg, y_shl, y_shr, y_le, y_lt, y_eq, y_sub, y_dv, y_rm, y_b0, y_b1, y_sdf, y_ltM, y_Mlt, y_leM, y_Mle, y_eqM, y_Meq, s_e1, s_e2, s_e3, s_e4, s_e5, s_e6, gO_0, c_trayThere1 ht a1]
      · unfold f_X12_pour
        simp (disch := omega) only [if_true, if_false, Bool.false_eq_true, Bool.true_eq_false, y_lit, y_m1, nI_add, pk_mul, fa_and, fa_or, y_bs, if_pos, if_neg, y_shl, y_shr, y_le, y_lt, y_eq, y_sub, y_dv, y_rm, y_b0, y_b1, y_sdf, y_ltM, y_Mlt, y_leM, y_Mle, y_eqM, y_Meq, s_e1, s_e2, s_e3, s_e4, s_e5, s_e6, pf_57_4, gO_57, m_isTray, hx, gf_57_29, ld_73, a2, m_fails]
    · by_cases hodd : m % 2 = 1
      · refine ME_t hI (k := 3) (b := nI 0) (by decide) ?_ ?_ (oZ182 (nI 0) (nI 3)) rfl
        · unfold f_L_pour f_X11_pour
          generalize xFU = N
          simp (disch := omega) only [if_true, if_false, Bool.false_eq_true, Bool.true_eq_false, y_lit, y_m1, nI_add, pk_mul, fa_and, fa_or, y_bs, if_pos, if_neg, y_shl, y_shr, y_le, y_lt, y_eq, y_sub, y_dv, y_rm, y_b0, y_b1, y_sdf, y_ltM, y_Mlt, y_leM, y_Mle, y_eqM, y_Meq, s_e1, s_e2, s_e3, s_e4, s_e5, s_e6, gO_0, c_trayThere2 ht hm a3, gf_0_10, gf_17_1, ld_19, a3, thr_HH]
        · unfold f_X12_pour
          simp (disch := omega) only [if_true, if_false, Bool.false_eq_true, Bool.true_eq_false, y_lit, y_m1, nI_add, pk_mul, fa_and, fa_or, y_bs, if_pos, if_neg, y_shl, y_shr, y_le, y_lt, y_eq, y_sub, y_dv, y_rm, y_b0, y_b1, y_sdf, y_ltM, y_Mlt, y_leM, y_Mle, y_eqM, y_Meq, s_e1, s_e2, s_e3, s_e4, s_e5, s_e6, pf_57_4, gO_57, m_isTray, hx, gf_57_29, gf_57_30, ld_73, ld_74, a5, a6, m_fails]
      · obtain ⟨n, rfl⟩ : ∃ n, m = 2 * n := ⟨m / 2, by omega⟩
        have hd : 2 * n / 2 = n := by omega
        have em : ∀ A1 B1 c1, (upA Z 18 (nI 0)) 18 = nI 0 → Told (A1 58) tt lk lh → A1 73 t = nI s → A1 74 t = nI (2 * n) → f_X12_pour (HH A1 Z B1 Q P F q D c1) 57 (nI t) = f_X12_pour_81 xFU (HH A1 (upA Z 18 (nI 0)) B1 Q P F q D c1) 57 (nI t) (nI n) (nI (if decide (n ≤ tt 1) then 1 else 0)) (nI (40 * t)) := by
          intro A1 B1 c1 _ hT1 u5 u6
          unfold f_X12_pour f_X12_pour_74
          generalize xFU = N
          by_cases hle : n ≤ tt 1
          · simp (disch := omega) only [if_true, if_false, Bool.false_eq_true, Bool.true_eq_false, y_lit, y_m1, nI_add, pk_mul, fa_and, fa_or, y_bs, if_pos, if_neg, y_shl, y_shr, y_le, y_lt, y_eq, y_sub, y_dv, y_rm, y_b0, y_b1, y_sdf, y_ltM, y_Mlt, y_leM, y_Mle, y_eqM, y_Meq, s_e1, s_e2, s_e3, s_e4, s_e5, s_e6, pf_57_4, gO_57, m_isTray, hx, gf_57_29, gf_57_30, ld_73, ld_74, u5, u6, hd, m_rooms hT1, hle, decide_true]
          · simp (disch := omega) only [if_true, if_false, Bool.false_eq_true, Bool.true_eq_false, y_lit, y_m1, nI_add, pk_mul, fa_and, fa_or, y_bs, if_pos, if_neg, y_shl, y_shr, y_le, y_lt, y_eq, y_sub, y_dv, y_rm, y_b0, y_b1, y_sdf, y_ltM, y_Mlt, y_leM, y_Mle, y_eqM, y_Meq, s_e1, s_e2, s_e3, s_e4, s_e5, s_e6, pf_57_4, gO_57, m_isTray, hx, gf_57_29, gf_57_30, ld_73, ld_74, u5, u6, hd, m_rooms hT1, hle, decide_false]
        by_cases hle : n ≤ tt 1
        · rcases c_pour1 (A := A) (Z := Z) (B := B) (Q := Q) (P := P) (F := F) (c := c) (n := n) ht (by omega) H with ⟨hg, e1⟩ | ⟨hg, e1⟩
          · obtain ⟨f, g, e2, hfg⟩ := c_pour2 (A := A) (Z := Z) (B := B) (Q := Q) (P := P) (F := F) (q := q) (D := D) (c := c) (n := n) ht (by omega) (by omega) hW hg hLm
            have hg2 : pgd (B 75) tt t n := (pgd_cong ht (by omega) hN).mp hg
            obtain ⟨u, e4, hu⟩ := m_pour2 (A := upA (upA A 13 f) 14 g) (Z := upA Z 18 (nI 0)) (B := oB B (nI n).toInt64) (Q := Q) (P := P) (F := F) (q := q) (D := D) (c := c) (n := n) ht (by omega) (by omega) hW hg2 hT
            rcases m_pour1 (A := upA (upA A 13 f) 14 g) (Z := upA Z 18 (nI 0)) (B := oB B (nI n).toInt64) (Q := Q) (P := P) (F := F) (q := q) (D := D) (c := c) (n := n) ht (by omega) hT hW (decide (n ≤ tt 1)) with ⟨_, _, e3⟩ | ⟨h9, _⟩
            · refine ME_l hI (v := nI n) (A1 := upA (upA A 13 f) 14 g) (Z1 := Z) (A2 := upA (upA (upA A 13 f) 14 g) 58 u) (Z2 := upA Z 18 (nI 0)) (lk' := plk (B 18) t lk n) (lh' := plh (B 18) t lh n) ?_ ?_ (((Only.rf.up (by decide)).up (by decide)).up (by decide)) hz (oZ18 _) rfl (pLWf hW hL hg hle) ?_ hfg
              · show f_L_pour (HH A Z B Q P F q D c) 0 (nI t) 76 = _
                unfold f_L_pour f_X11_pour
                rw [e2] at e1
                generalize xFU = N at e1 ⊢
                simp (disch := omega) only [if_true, if_false, Bool.false_eq_true, Bool.true_eq_false, y_lit, y_m1, nI_add, pk_mul, fa_and, fa_or, y_bs, if_pos, if_neg, y_shl, y_shr, y_le, y_lt, y_eq, y_sub, y_dv, y_rm, y_b0, y_b1, y_sdf, y_ltM, y_Mlt, y_leM, y_Mle, y_eqM, y_Meq, s_e1, s_e2, s_e3, s_e4, s_e5, s_e6, gO_0, c_trayThere2 ht hm a3, gf_0_10, gf_0_4, gf_17_1, ld_19, a3, hd, hs_1 H, e1, oB_st]
              · show f_X12_pour (HH (upA (upA A 13 f) 14 g) Z (oB B (nI n).toInt64) Q P F q D c) 57 (nI t) = _
                rw [em (upA (upA A 13 f) 14 g) _ _ rfl hT a5 a6, e3, e4]
              · rw [y_us, plk_cong ht (by omega) hN, plh_cong ht (by omega) hN]
                exact hu
            · exact absurd ⟨decide_eq_true hle, hg2⟩ h9
          · have hg2 : ¬ pgd (B 75) tt t n := fun h => hg ((pgd_cong ht (by omega) hN).mpr h)
            refine ME_t hI (k := 4) (b := nI 0) (by decide) ?_ ?_ (oZ182 (nI 0) (nI 4)) rfl
            · show f_L_pour (HH A Z B Q P F q D c) 0 (nI t) 76 = _
              unfold f_L_pour f_X11_pour
              generalize xFU = N at e1 ⊢
              simp (disch := omega) only [if_true, if_false, Bool.false_eq_true, Bool.true_eq_false, y_lit, y_m1, nI_add, pk_mul, fa_and, fa_or, y_bs, if_pos, if_neg, y_shl, y_shr, y_le, y_lt, y_eq, y_sub, y_dv, y_rm, y_b0, y_b1, y_sdf, y_ltM, y_Mlt, y_leM, y_Mle, y_eqM, y_Meq, s_e1, s_e2, s_e3, s_e4, s_e5, s_e6, gO_0, c_trayThere2 ht hm a3, gf_0_10, gf_0_4, gf_17_1, ld_19, a3, hd, hs_1 H, e1]
            · show f_X12_pour (HH A Z B Q P F q D (c.1 + 1, c.2 + 6)) 57 (nI t) = _
              rw [em _ _ _ rfl hT a5 a6]
              rcases m_pour1 (A := A) (Z := upA Z 18 (nI 0)) (B := B) (Q := Q) (P := P) (F := F) (q := q) (D := D) (c := (c.1 + 1, c.2 + 6)) (n := n) ht (by omega) hT hW (decide (n ≤ tt 1)) with ⟨_, h9, _⟩ | ⟨_, e3⟩
              · exact absurd h9 hg2
              · exact e3
        · refine ME_t hI (k := 4) (b := nI 0) (by decide) ?_ ?_ (oZ182 (nI 0) (nI 4)) rfl
          · unfold f_L_pour f_X11_pour
            generalize xFU = N
            simp (disch := omega) only [if_true, if_false, Bool.false_eq_true, Bool.true_eq_false, y_lit, y_m1, nI_add, pk_mul, fa_and, fa_or, y_bs, if_pos, if_neg, y_shl, y_shr, y_le, y_lt, y_eq, y_sub, y_dv, y_rm, y_b0, y_b1, y_sdf, y_ltM, y_Mlt, y_leM, y_Mle, y_eqM, y_Meq, s_e1, s_e2, s_e3, s_e4, s_e5, s_e6, gO_0, c_trayThere2 ht hm a3, gf_0_10, gf_0_4, gf_17_1, ld_19, a3, hd, hs_1 H, thr_HH]
          · show f_X12_pour (HH A Z B Q P F q D (c.1 + 1, c.2 + 6)) 57 (nI t) = _
            rw [em _ _ _ rfl hT a5 a6]
            rcases m_pour1 (A := A) (Z := upA Z 18 (nI 0)) (B := B) (Q := Q) (P := P) (F := F) (q := q) (D := D) (c := (c.1 + 1, c.2 + 6)) (n := n) ht (by omega) hT hW (decide (n ≤ tt 1)) with ⟨h9, _⟩ | ⟨_, e3⟩
            · exact absurd (of_decide_eq_true h9) hle
            · exact e3
