/-! ===== level 2: cells known, loops by their states ===== -/
theorem gO_of {h : xH} {a ci : Nat} {fs : List Value} (H : h.1[a]? = some (.inr (ci, fs))) : gO h a ci = some fs := by simp [gO, H]
theorem gI_of {h : xH} {a ci k : Nat} {fs : List Value} {v : Int32} (H : h.1[a]? = some (.inr (ci, fs))) (hk : fs[k]? = some (.int v)) : gI h a ci k = some v := by simp [gI, gO_of H, hk]
theorem gJ_of {h : xH} {a ci k : Nat} {fs : List Value} {v : Int64} (H : h.1[a]? = some (.inr (ci, fs))) (hk : fs[k]? = some (.long v)) : gJ h a ci k = some v := by simp [gJ, gO_of H, hk]
theorem gR_of {h : xH} {a ci k : Nat} {fs : List Value} {v : Nat} (H : h.1[a]? = some (.inr (ci, fs))) (hk : fs[k]? = some (.ref v)) : gR h a ci k = some v := by simp [gR, gO_of H, hk]
theorem pF_of {h : xH} {a ci k : Nat} {fs : List Value} {v : Value} (H : h.1[a]? = some (.inr (ci, fs))) (hk : k < fs.length) : pF h a ci k v = some (h.1.set a (.inr (ci, fs.set k v)), h.2) := by simp [pF, gO_of H, hk]
theorem gA_of {h : xH} {a : Nat} {x : xA} (H : h.1[a]? = some (.inl x)) : gA h a = some x := by simp [gA, H]
theorem ldI_of {h : xH} {ty : FieldType} {a n : Nat} {i : Int32} {f : Nat → Int32} (H : h.1[a]? = some (.inl (ty, n, .inl f))) (hi : inB i n = true) : ldI h ty a i = some (f i.toNatClampNeg) := by simp [ldI, gA_of H, hi]
theorem ldJ_of {h : xH} {a n : Nat} {i : Int32} {f : Nat → Int64} (H : h.1[a]? = some (.inl (.long, n, .inr (.inl f)))) (hi : inB i n = true) : ldJ h a i = some (f i.toNatClampNeg) := by simp [ldJ, gA_of H, hi]
theorem stI_of {h : xH} {ty : FieldType} {a n : Nat} {i x : Int32} {f : Nat → Int32} (H : h.1[a]? = some (.inl (ty, n, .inl f))) (hi : inB i n = true) : stI h ty a i x = some (h.1.set a (.inl (ty, n, .inl (va_up f i.toNatClampNeg x))), h.2) := by simp [stI, gA_of H, hi]
theorem stJ_of {h : xH} {a n : Nat} {i : Int32} {x : Int64} {f : Nat → Int64} (H : h.1[a]? = some (.inl (.long, n, .inr (.inl f)))) (hi : inB i n = true) : stJ h a i x = some (h.1.set a (.inl (.long, n, .inr (.inl (va_up f i.toNatClampNeg x)))), h.2) := by simp [stJ, gA_of H, hi]
theorem inB_nI {k n : Nat} (hk : k < n) (hn : n < 2 ^ 31) : inB (nI k) n = true := by
  have h1 := vp_in_nI hk hn
  unfold inB
  exact decide_eq_true h1
theorem loop_seq {S R : Type} {F : Nat → Nat → S → Option R} {N : Nat} {st : Nat → S} {r : Option R} (hs : ∀ n i, i < N → F (n + 1) i (st i) = F n (i + 1) (st (i + 1))) (he : ∀ n, F (n + 1) N (st N) = r) : ∀ k i n, i + k = N → k < n → F n i (st i) = r := by
  intro k
  induction k with
  | zero =>
    intro i n hi hn
    have e : i = N := by omega
    subst e
    obtain ⟨m, rfl⟩ : ∃ m, n = m + 1 := ⟨n - 1, by omega⟩
    exact he m
  | succ k ih =>
    intro i n hi hn
    obtain ⟨m, rfl⟩ : ∃ m, n = m + 1 := ⟨n - 1, by omega⟩
    rw [hs m i (by omega)]
    exact ih (i + 1) m (by omega) (by omega)
theorem loop0 {S R : Type} {F : Nat → Nat → S → Option R} {N : Nat} {st : Nat → S} {r : Option R} (hs : ∀ n i, i < N → F (n + 1) i (st i) = F n (i + 1) (st (i + 1))) (he : ∀ n, F (n + 1) N (st N) = r) (hN : N < 1000000) : F xFU 0 (st 0) = r := loop_seq hs he N 0 xFU (by omega) (by unfold xFU; exact hN)
