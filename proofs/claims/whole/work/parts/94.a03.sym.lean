/-! ===== words for following functions by simp ===== -/
def nM : Int32 := -1
theorem y_lit (n : Nat) : (OfNat.ofNat n : Int32) = nI (OfNat.ofNat n) := Int32.toBitVec_inj.mp (Eq.refl _)
theorem y_m1 : -nI 1 = nM := Int32.toBitVec_inj.mp (Eq.refl _)
theorem y_bs {α β : Type} (a : α) (f : α → Option β) : (some a).bind f = f a := (Option.bind_some a f).trans (Eq.refl _)
theorem y_litL (n : Nat) : (OfNat.ofNat n : Int64) = lN (OfNat.ofNat n) := rfl
theorem y_le {a b : Nat} (ha : a < 2147483648) (hb : b < 2147483648) : (nI a ≤ nI b) = (a ≤ b) := propext (nI_leI ha hb)
theorem y_lt {a b : Nat} (ha : a < 2147483648) (hb : b < 2147483648) : (nI a < nI b) = (a < b) := propext (nI_ltI ha hb)
theorem y_eq {a b : Nat} (ha : a < 2147483648) (hb : b < 2147483648) : (nI a = nI b) = (a = b) := propext (nI_eq ha hb)
theorem y_sub {a b : Nat} (h : b ≤ a) : nI a - nI b = nI (a - b) := pk_sub h
theorem y_dv {a b : Nat} (ha : a < 2147483648) (h0 : 0 < b) (hb : b < 2147483648) : dvI (nI a) (nI b) = some (nI (a / b)) := by
  unfold dvI
  rw [if_neg (nI_ne0 h0 hb), pk_div ha h0 hb]
theorem y_rm {a b : Nat} (ha : a < 2147483648) (h0 : 0 < b) (hb : b < 2147483648) : rmI (nI a) (nI b) = some (nI (a % b)) := by
  unfold rmI
  rw [if_neg (nI_ne0 h0 hb), pk_rem ha h0 hb]
theorem y_shl {k : Nat} (hk : k < 31) : nI 1 <<< nI (k &&& 31) = nI (2 ^ k) := by rw [← fa_and]; exact n_shl hk
theorem y_shr {n k : Nat} (hn : n < 2147483648) (hk : k < 32) : nI n >>> nI (k &&& 31) = nI (n / 2 ^ k) := by rw [← fa_and]; exact n_shr hn hk
theorem y_bv (n k : Nat) : n / 2 ^ k &&& 1 = if n.testBit k then 1 else 0 := by
  rw [show (1 : Nat) = 2 ^ 1 - 1 from rfl, Nat.and_two_pow_sub_one_eq_mod, Nat.testBit_eq_decide_div_mod_eq]
  have h : n / 2 ^ k % 2 < 2 := Nat.mod_lt _ (by decide)
  by_cases e : n / 2 ^ k % 2 = 1
  · simp [e]
  · have e0 : n / 2 ^ k % 2 = 0 := by omega
    simp [e0]
theorem y_b0 (n k : Nat) : (nI (n / 2 ^ k &&& 1) = nI 0) = (n.testBit k = false) := by
  rw [y_bv]
  cases n.testBit k
  · simp
  · simp; decide
theorem y_b1 (n k : Nat) : (nI (n / 2 ^ k &&& 1) = nI 1) = (n.testBit k = true) := by
  rw [y_bv]
  cases n.testBit k
  · simp; decide
  · simp
theorem y_sdf {a b : Nat} (ha : a < 4294967296) : nI a &&& (nI b ^^^ nM) = nI (sdf a b) := n_andn ha
theorem y_ltM {a : Nat} (ha : a < 2147483648) : (nI a < nM) = False := eq_false (by
  rw [fa_lt, nI_toInt ha, show nM.toInt = -1 from rfl]; omega)
theorem y_Mlt {a : Nat} (ha : a < 2147483648) : (nM < nI a) = True := eq_true (by
  rw [fa_lt, nI_toInt ha, show nM.toInt = -1 from rfl]; omega)
theorem y_leM {a : Nat} (ha : a < 2147483648) : (nI a ≤ nM) = False := eq_false (by
  rw [fa_le, nI_toInt ha, show nM.toInt = -1 from rfl]; omega)
theorem y_Mle {a : Nat} (ha : a < 2147483648) : (nM ≤ nI a) = True := eq_true (by
  rw [fa_le, nI_toInt ha, show nM.toInt = -1 from rfl]; omega)
theorem y_eqM {a : Nat} (ha : a < 2147483648) : (nI a = nM) = False := eq_false (by
  rw [fa_eq, nI_toInt ha, show nM.toInt = -1 from rfl]; omega)
theorem y_Meq {a : Nat} (ha : a < 2147483648) : (nM = nI a) = False := eq_false (by
  rw [fa_eq, nI_toInt ha, show nM.toInt = -1 from rfl]; omega)
theorem y_us {α : Type} {A : Nat → α} {k : Nat} {f : α} : upA A k f k = f := if_pos rfl
theorem y_un {α : Type} {A : Nat → α} {k j : Nat} {f : α} (h : j ≠ k) : upA A k f j = A j := if_neg h
theorem y_vs {α : Type} {f : Nat → α} {k : Nat} {x : α} : va_up f k x k = x := if_pos rfl
theorem y_vn {α : Type} {f : Nat → α} {k j : Nat} {x : α} (h : j ≠ k) : va_up f k x j = f j := if_neg h
theorem y_uu {α : Type} {A : Nat → α} {k : Nat} {f g : α} : upA (upA A k f) k g = upA A k g := by
  funext j
  unfold upA
  split <;> rfl
theorem y_vv {α : Type} {f : Nat → α} {k : Nat} {x y : α} : va_up (va_up f k x) k y = va_up f k y := by
  funext j
  unfold va_up
  split <;> rfl
theorem y_ua {α : Type} {A : Nat → α} {k : Nat} : upA A k (A k) = A := by
  funext j
  unfold upA
  split
  · rename_i e; rw [e]
  · rfl
/-- cells outside S are as before -/
def Only {α : Type} (S : List Nat) (A A' : Nat → α) : Prop := ∀ k, k ∉ S → A' k = A k
theorem Only.rf {α : Type} {S : List Nat} {A : Nat → α} : Only S A A := fun _ _ => rfl
theorem Only.up {α : Type} {S : List Nat} {A A' : Nat → α} {k : Nat} {f : α} (h : Only S A A') (hk : k ∈ S) : Only S A (upA A' k f) := fun j hj => by
  have e : j ≠ k := fun e => hj (by rw [e]; exact hk)
  rw [y_un e, h j hj]
theorem Only.tr {α : Type} {S T U : List Nat} {A A' A'' : Nat → α} (h : Only S A A') (h2 : Only T A' A'') (hs : ∀ k, k ∈ S → k ∈ U) (ht : ∀ k, k ∈ T → k ∈ U) : Only U A A'' := fun j hj => by
  rw [h2 j (fun e => hj (ht j e)), h j (fun e => hj (hs j e))]
theorem Only.mono {α : Type} {S U : List Nat} {A A' : Nat → α} (h : Only S A A') (hs : ∀ k, k ∈ S → k ∈ U) : Only U A A' := fun j hj => h j (fun e => hj (hs j e))
/-- a loop that keeps I, and goes on, or ends as Post says -/
theorem loop_G {S R ρ : Type} {F : Nat → Nat → S → Option R} {N : Nat} (G : ρ → Option R) (I : Nat → S → Prop) (Post : ρ → Prop)
    (hs : ∀ n i s, i < N → I i s → (∃ s', F (n + 1) i s = F n (i + 1) s' ∧ I (i + 1) s') ∨ (∃ r, F (n + 1) i s = G r ∧ Post r))
    (he : ∀ n s, I N s → ∃ r, F (n + 1) N s = G r ∧ Post r) : ∀ k i n s, i + k = N → k < n → I i s → ∃ r, F n i s = G r ∧ Post r := by
  intro k
  induction k with
  | zero =>
    intro i n s hi hn h
    have e : i = N := by omega
    subst e
    obtain ⟨m, rfl⟩ : ∃ m, n = m + 1 := ⟨n - 1, by omega⟩
    exact he m s h
  | succ k ih =>
    intro i n s hi hn h
    obtain ⟨m, rfl⟩ : ∃ m, n = m + 1 := ⟨n - 1, by omega⟩
    rcases hs m i s (by omega) h with ⟨s', e1, h1⟩ | h2
    · rw [e1]
      exact ih (i + 1) m s' (by omega) (by omega) h1
    · exact h2
theorem loop_I {S R ρ : Type} {F : Nat → Nat → S → Option R} {N : Nat} (G : ρ → Option R) (I : Nat → S → Prop) (Post : ρ → Prop)
    (hs : ∀ n i s, i < N → I i s → (∃ s', F (n + 1) i s = F n (i + 1) s' ∧ I (i + 1) s') ∨ (∃ r, F (n + 1) i s = G r ∧ Post r))
    (he : ∀ n s, I N s → ∃ r, F (n + 1) N s = G r ∧ Post r) (hN : N < 1000000) {s : S} (h0 : I 0 s) : ∃ r, F xFU 0 s = G r ∧ Post r := loop_G G I Post hs he N 0 xFU s (by omega) (by unfold xFU; exact hN) h0
/-- the same, with no early end -/
theorem loop_J {S R : Type} {F : Nat → Nat → S → Option R} {N : Nat} (G : S → Option R) (I : Nat → S → Prop)
    (hs : ∀ n i s, i < N → I i s → ∃ s', F (n + 1) i s = F n (i + 1) s' ∧ I (i + 1) s')
    (he : ∀ n s, I N s → F (n + 1) N s = G s) (hN : N < 1000000) {s : S} (h0 : I 0 s) : ∃ r, F xFU 0 s = G r ∧ I N r :=
  loop_I G I (I N) (fun n i s hi h => Or.inl (hs n i s hi h)) (fun n s h => ⟨s, he n s h, h⟩) hN h0
/-- an argument that is one of 0 to n less 1 -/
def rk (x : Int32) (n : Nat) : Bool := decide (¬ x < 0 ∧ x < nI n)
theorem rk_t {x : Int32} {n : Nat} (hn : n < 2147483648) (h : rk x n = true) : ∃ k, k < n ∧ x = nI k := by
  obtain ⟨h1, h2⟩ := of_decide_eq_true h
  obtain ⟨k, hk, rfl⟩ := nI_of h1
  exact ⟨k, (nI_ltI hk hn).mp h2, rfl⟩
theorem rk_k {k n : Nat} (hk : k < n) (hn : n < 2147483648) : rk (nI k) n = true := decide_eq_true ⟨nI_pos (by omega), (nI_ltI (by omega) hn).mpr hk⟩
theorem rk_0 (x : Int32) : rk x 0 = false := decide_eq_false (fun h => h.1 h.2)
theorem nb_ite (c : Prop) [Decidable c] : narrow .boolean (.int (if c then (1 : Int32) else 0)) = .int (if c then (1 : Int32) else 0) := by
  split
  · exact narrow_b1
  · rfl
theorem rk_within (h : xH) (x : Int32) {n : Nat} (hn : n < 2147483648) : f_X12_within h x.toInt64 (0 : Int64) (nI n - 1).toInt64 = some (if rk x n = true then 1 else 0) := by
  have e := within_spec h x 0 (nI n - 1)
  rw [show (0 : Int32).toInt64 = (0 : Int64) from rfl] at e
  rw [e]
  congr 1
  have hi : (nI n - 1).toInt = (n : Int) - 1 := by
    have e1 : (nI n).toInt = n := nI_toInt hn
    rw [fb_subI]
    · rw [e1]; rfl
    · rw [e1]; show -2147483648 ≤ (n : Int) - 1; omega
    · rw [e1]; show (n : Int) - 1 < 2147483648; omega
  by_cases hr : rk x n = true
  · rw [if_pos hr]
    obtain ⟨h1, h2⟩ := of_decide_eq_true hr
    rw [if_pos]
    rw [fa_lt] at h1
    rw [fa_lt, nI_toInt hn] at h2
    rw [fa_le, fa_le, hi]
    have h0 : (0 : Int32).toInt = 0 := rfl
    omega
  · rw [if_neg hr, if_neg]
    intro hc
    apply hr
    rw [fa_le, fa_le, hi] at hc
    have h0 : (0 : Int32).toInt = 0 := rfl
    exact decide_eq_true ⟨by rw [fa_lt]; omega, by rw [fa_lt, nI_toInt hn]; omega⟩
