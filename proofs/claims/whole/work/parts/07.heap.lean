/-! ===== worlds of numbered cells ===== -/
theorem xw_get {ad : Nat → Nat} {ac : Nat → ClassId} {h : List xC} {k : Nat} {x : xC} (hk : h[k]? = some x) : (xw ad ac h)[k]? = some (ad k, xe ad (ac k) x) := by
  simp [xw, List.getElem?_mapIdx, hk]
theorem xw_inv {ad : Nat → Nat} {ac : Nat → ClassId} {h : List xC} {k : Nat} {q : Nat × va_E} (hk : (xw ad ac h)[k]? = some q) : ∃ x, h[k]? = some x ∧ q = (ad k, xe ad (ac k) x) := by
  simp only [xw, List.getElem?_mapIdx] at hk
  cases hx : h[k]? with
  | none => rw [hx] at hk; cases hk
  | some x => rw [hx] at hk; exact ⟨x, rfl, (Option.some.inj hk).symm⟩
theorem xw_set {ad : Nat → Nat} {ac : Nat → ClassId} {h : List xC} {k : Nat} {x : xC} : xw ad ac (h.set k x) = (xw ad ac h).set k (ad k, xe ad (ac k) x) := by
  unfold xw
  rw [List.mapIdx_set]
theorem okv_mono {n n' : Nat} (hn : n ≤ n') {v : Value} (h : okv n v) : okv n' v := by
  cases v with
  | ref a => rcases h with h | h
             · exact Or.inl (Nat.lt_of_lt_of_le h hn)
             · exact Or.inr h
  | _ => trivial
theorem okS_mono {n n' : Nat} (hn : n ≤ n') : ∀ {st : List Value}, okS n st → okS n' st
  | [], _ => trivial
  | _ :: _, h => ⟨okv_mono hn h.1, okS_mono hn h.2⟩
theorem okL_mono {n n' : Nat} (hn : n ≤ n') : ∀ {lv : List (Nat × Value)}, okL n lv → okL n' lv
  | [], _ => trivial
  | _ :: _, h => ⟨okv_mono hn h.1, okL_mono hn h.2⟩
theorem okS_at {n : Nat} : ∀ {fs : List Value} (_ : okS n fs) {k : Nat} {v : Value} (_ : fs[k]? = some v), okv n v
  | _ :: _, h, 0, _, hk => by cases hk; exact h.1
  | _ :: r, h, k + 1, v, hk => okS_at h.2 (show r[k]? = some v from hk)
theorem okS_set {n : Nat} {v : Value} (hv : okv n v) : ∀ {fs : List Value} (_ : okS n fs) (k : Nat), okS n (fs.set k v)
  | [], _, _ => trivial
  | _ :: _, h, 0 => ⟨hv, h.2⟩
  | _ :: _, h, k + 1 => ⟨h.1, okS_set hv h.2 k⟩
theorem okS_app {n : Nat} {b : List Value} (hb : okS n b) : ∀ {a : List Value} (_ : okS n a), okS n (a ++ b)
  | [], _ => hb
  | _ :: _, h => ⟨h.1, okS_app hb h.2⟩
theorem okS_left {n : Nat} {b : List Value} : ∀ {a : List Value} (_ : okS n (a ++ b)), okS n a
  | [], _ => trivial
  | _ :: _, h => ⟨h.1, okS_left h.2⟩
theorem okS_right {n : Nat} {b : List Value} : ∀ {a : List Value} (_ : okS n (a ++ b)), okS n b
  | [], h => h
  | _ :: _, h => okS_right h.2
theorem okS_rev {n : Nat} : ∀ {a : List Value} (_ : okS n a), okS n a.reverse
  | [], _ => trivial
  | v :: r, h => by
    rw [List.reverse_cons]
    exact okS_app (b := [v]) (show okS n [v] from ⟨h.1, trivial⟩) (okS_rev h.2)
theorem okC_mono {n n' : Nat} (hn : n ≤ n') {x : xC} (h : okC n x) : okC n' x := by
  match x, h with
  | .inl (_, _, .inl _), _ => trivial
  | .inl (_, _, .inr (.inl _)), _ => trivial
  | .inl (_, _, .inr (.inr f)), h => exact fun i a e => Nat.lt_of_lt_of_le (h i a e) hn
  | .inr (_, fs), h => exact okS_mono hn h
theorem okH_set {h : List xC} {k : Nat} {x : xC} (hh : okH h) (hx : okC h.length x) : okH (h.set k x) := by
  intro j z hz
  rw [List.length_set]
  by_cases e : j = k
  · subst e
    rw [List.getElem?_set] at hz
    split at hz
    · split at hz
      · cases hz; exact hx
      · cases hz
    · exact hh j z hz
  · rw [List.getElem?_set_ne (Ne.symm e)] at hz
    exact hh j z hz
theorem okH_push {h : List xC} {x : xC} (hh : okH h) (hx : okC (h.length + 1) x) : okH (h ++ [x]) := by
  intro j z hz
  rw [List.length_append, List.length_singleton]
  by_cases e : j < h.length
  · rw [List.getElem?_append_left e] at hz
    exact okC_mono (Nat.le_succ _) (hh j z hz)
  · rw [List.getElem?_append_right (Nat.le_of_not_lt e)] at hz
    have : j - h.length = 0 := by
      have := (List.getElem?_eq_some_iff.mp hz).1
      simp at this
      omega
    rw [this] at hz
    cases hz
    exact hx
theorem xv_congr {n : Nat} {ad ad1 : Nat → Nat} (hs : xSm n ad1 ad) {v : Value} (h : okv n v) : xv ad1 v = xv ad v := by
  cases v with
  | ref a => exact congrArg Value.ref (hs a h)
  | _ => rfl
theorem xvs_congr {n : Nat} {ad ad1 : Nat → Nat} (hs : xSm n ad1 ad) : ∀ {st : List Value} (_ : okS n st), st.map (xv ad1) = st.map (xv ad)
  | [], _ => rfl
  | _ :: _, h => by rw [List.map_cons, List.map_cons, xv_congr hs h.1, xvs_congr hs h.2]
theorem xl_congr {n : Nat} {ad ad1 : Nat → Nat} (hs : xSm n ad1 ad) : ∀ {lv : List (Nat × Value)} (_ : okL n lv), lv.map (xl ad1) = lv.map (xl ad)
  | [], _ => rfl
  | _ :: _, h => by rw [List.map_cons, List.map_cons, xl_congr hs h.2]; unfold xl; rw [xv_congr hs h.1]
theorem xe_congr {n : Nat} {ad ad1 : Nat → Nat} (hs : xSm n ad1 ad) {cA : ClassId} {x : xC} (h : okC n x) : xe ad1 cA x = xe ad cA x := by
  match x, h with
  | .inl (_, _, .inl _), _ => rfl
  | .inl (_, _, .inr (.inl _)), _ => rfl
  | .inl (_, m, .inr (.inr f)), h =>
    have : (fun i => (f i).map ad1) = (fun i => (f i).map ad) := by
      funext i
      cases hf : f i with
      | none => rfl
      | some a => exact congrArg some (hs a (Or.inl (h i a hf)))
    show (Sum.inl (cA, m, _) : va_E) = Sum.inl (cA, m, _)
    rw [this]
  | .inr (ci, fs), h =>
    show (Sum.inr (ci, _) : va_E) = Sum.inr (ci, _)
    rw [xvs_congr hs h]
def xup (f : Nat → Nat) (k q : Nat) : Nat → Nat := fun j => if j = k then q else f j
def xupC (f : Nat → ClassId) (k : Nat) (q : ClassId) : Nat → ClassId := fun j => if j = k then q else f j
theorem xup_Sm {ad : Nat → Nat} {n q : Nat} (hn : n < xS0) : xSm n (xup ad n q) ad := by
  intro k hk
  have : k ≠ n := by omega
  simp [xup, this]
theorem xw_push {ad : Nat → Nat} {ac : Nat → ClassId} {h : List xC} {x : xC} {q : Nat} {cA : ClassId} (hh : okH h) (hn : h.length < xS0) : xw (xup ad h.length q) (xupC ac h.length cA) (h ++ [x]) = xw ad ac h ++ [(q, xe (xup ad h.length q) cA x)] := by
  apply List.ext_getElem?
  intro k
  by_cases e : k < h.length
  · rw [List.getElem?_append_left (by simpa [xw] using e)]
    have hx : h[k]? = some h[k] := List.getElem?_eq_getElem e
    have hx' : (h ++ [x])[k]? = some h[k] := by rw [List.getElem?_append_left e]; exact hx
    rw [xw_get hx, xw_get hx']
    have e1 : k ≠ h.length := Nat.ne_of_lt e
    rw [xe_congr (xup_Sm hn) (hh k _ hx)]
    simp [xup, xupC, e1]
  · have hl : (xw ad ac h).length = h.length := by simp [xw]
    rw [List.getElem?_append_right (by rw [hl]; exact Nat.le_of_not_lt e), hl]
    by_cases e2 : k = h.length
    · subst e2
      have hx' : (h ++ [x])[h.length]? = some x := by simp
      rw [xw_get hx']
      simp [xup, xupC]
    · have h1 : (h ++ [x]).length ≤ k := by simp; omega
      rw [List.getElem?_eq_none (by simpa [xw] using h1), List.getElem?_eq_none (by simp; omega)]
theorem xNw_kind : ∀ w ∈ xNw, xnw w = true := by decide +kernel
theorem xnw_warm {w : Cond} {s U : State} (hW : s.WarmedH U.vm) (hk : xnw w = true) (h : va_Nw w s) : va_Nw w U := by
  cases w <;> first | (cases hk; done) | exact h.warmM hW | exact h.warmC hW | exact h.warmD hW
theorem xnw_same {w : Cond} {u U : State} (hv : U.vm = u.vm) (hk : xnw w = true) (h : va_Nw w u) : va_Nw w U := by
  cases w <;> first | (cases hk; done) | exact h.same rfl hv.symm
theorem xOW.warm {ad : Nat → Nat} {A : Nat → Prop} {s U : State} {H : Heap} (hW : s.WarmedH U.vm) (h : xOW ad A s H) : xOW ad A U H := by
  obtain ⟨h1, h2, h3, h4, h5, h6, h7, h8, h9, h10⟩ := h
  exact ⟨fun i hi => (h1 i hi).moved hW.alike, fun q hq => (h2 q hq).warm hW, h3.moved hW.alike, h4.moved hW.alike, h5.imp (fun z => z.moved hW.alike) (fun z => z.moved hW.alike), h6.moved hW.alike, fun w hw => xnw_warm hW (xNw_kind w hw) (h7 w hw), h8.moved hW.alike, h9.moved hW.alike, fun a ha b hb hab => (h10 a ha b hb hab).moved hW.alike⟩
theorem xOW.blind {ad : Nat → Nat} {A : Nat → Prop} {u U : State} {H : Heap} (hv : U.vm = u.vm) (h : xOW ad A u H) : xOW ad A U H := by
  have ha : u.vm.Alike U.vm := by rw [hv]; exact Vm.Alike.refl _
  obtain ⟨h1, h2, h3, h4, h5, h6, h7, h8, h9, h10⟩ := h
  exact ⟨fun i hi => (h1 i hi).moved ha, fun q hq => (h2 q hq).same hv, h3.moved ha, h4.moved ha, h5.imp (fun z => z.moved ha) (fun z => z.moved ha), h6.moved ha, fun w hw => xnw_same hv (xNw_kind w hw) (h7 w hw), h8.moved ha, h9.moved ha, fun a hA b hb hab => (h10 a hA b hb hab).moved ha⟩
theorem xOW.kept {ad : Nat → Nat} {A : Nat → Prop} {U : State} {H H1 : Heap} (hq : ∀ a : Nat, a < H.size → ¬ A a → H1[a]? = H[a]?) (h : xOW ad A U H) : xOW ad A U H1 := by
  obtain ⟨h1, h2, h3, h4, h5, h6, h7⟩ := h
  exact ⟨fun i hi => (h1 i hi).kept hq, h2, h3.kept hq, h4.kept hq, h5.imp (fun z => z.kept hq) (fun z => z.kept hq), h6.kept hq, h7⟩
theorem xOW.narrow {ad : Nat → Nat} {A B : Nat → Prop} {U : State} {H : Heap} (hAB : ∀ q, B q → A q) (h : xOW ad A U H) : xOW ad B U H := by
  obtain ⟨h1, h2, h3, h4, h5, h6, h7⟩ := h
  exact ⟨fun i hi => (h1 i hi).narrow hAB, h2, h3.narrow hAB, h4.narrow hAB, h5.imp (fun z => z.narrow hAB) (fun z => z.narrow hAB), h6.narrow hAB, h7⟩
theorem xOW.congr {n : Nat} {ad ad1 : Nat → Nat} (hs : xSm n ad1 ad) {A : Nat → Prop} {U : State} {H : Heap} (h : xOW ad A U H) : xOW ad1 A U H := by
  obtain ⟨h1, h2, h3, h4, h5, h6⟩ := h
  refine ⟨fun i hi => by rw [hs (xS0 + 2 * i) (Or.inr (by omega)), hs (xS0 + 2 * i + 1) (Or.inr (by omega))]; exact h1 i hi, fun q hq => ?_, h3, h4, ?_, h6⟩
  · rw [hs _ (Or.inr (by omega))]
    exact h2 q hq
  · rw [hs 1000004000 (Or.inr (by decide))]
    exact h5
theorem xP.moved {D : va_G} {ad : Nat → Nat} {ac : Nat → ClassId} {h : List xC} {A : Nat → Prop} {u U : State} {H : Heap} (hvm : u.vm.Alike U.vm) (hP : xP D ad ac h A u H) : xP D ad ac h A U H :=
  ⟨hP.1, hP.2.1, fun k ty x hk => ⟨arrOfT_moved hvm (hP.2.2.1 k ty x hk).1, (hP.2.2.1 k ty x hk).2.moved hvm⟩, hP.2.2.2⟩
theorem xP.weaken {D : va_G} {ad : Nat → Nat} {ac : Nat → ClassId} {h : List xC} {A B : Nat → Prop} {U : State} {H : Heap} (hAB : ∀ q, A q → B q) (hP : xP D ad ac h A U H) : xP D ad ac h B U H :=
  ⟨hP.1, hP.2.1.weaken (fun _ _ _ hq => hAB _ hq), hP.2.2⟩
theorem xP.set {D : va_G} {ad : Nat → Nat} {ac : Nat → ClassId} {h : List xC} {A : Nat → Prop} {U : State} {H H1 : Heap} {a : Nat} {x0 x : xC} (hP : xP D ad ac h A U H) (hg : h[a]? = some x0) (hx : okC h.length x)
    (hs : ∀ ty z, x = .inl (ty, z) → ∃ z0, x0 = .inl (ty, z0)) (h1 : va_P D vwCl ((xw ad ac h).set a (ad a, xe ad (ac a) x)) H1) (h2 : va_D A ((xw ad ac h).set a (ad a, xe ad (ac a) x))) : xP D ad ac (h.set a x) A U H1 := by
  refine ⟨by rw [xw_set]; exact h1, by rw [xw_set]; exact h2, fun k ty z hk => ?_, okH_set hP.2.2.2 hx⟩
  by_cases e : k = a
  · subst e
    rw [List.getElem?_set_self (List.getElem?_eq_some_iff.mp hg).1] at hk
    obtain ⟨z0, rfl⟩ := hs ty z (Option.some.inj hk)
    exact hP.2.2.1 k ty z0 hg
  · rw [List.getElem?_set_ne (Ne.symm e)] at hk
    exact hP.2.2.1 k ty z hk
theorem xK1 {D : va_G} {U : State} {cA : ClassId} {ty : FieldType} (hK : va_K D vwCl [] U) (h : ArrOfT U cA ty ∧ va_RA U cA ty) : va_K D vwCl [(cA, ty)] U := by
  refine ⟨hK.1, fun k q hq => ?_⟩
  match k, hq with
  | 0, hq => cases hq; exact h
  | k + 1, hq => simp at hq
theorem xS_put {A : Nat → Prop} {H0 H : Heap} {locs : List Loc} (hS : va_S A H0 H locs) : H0.size ≤ H.size := hS.1
theorem xP.push {D : va_G} {ad : Nat → Nat} {ac : Nat → ClassId} {h : List xC} {A : Nat → Prop} {U : State} {H H1 : Heap} {q : Nat} {cA : ClassId} {x : xC} (hP : xP D ad ac h A U H) (hn : h.length < xS0) (hx : okC (h.length + 1) x) (hT : ∀ ty z, x = .inl (ty, z) → ArrOfT U cA ty ∧ va_RA U cA ty)
    (h1 : va_P D vwCl (xw ad ac h ++ [(q, xe (xup ad h.length q) cA x)]) H1) (h2 : va_D A (xw ad ac h ++ [(q, xe (xup ad h.length q) cA x)])) : xP D (xup ad h.length q) (xupC ac h.length cA) (h ++ [x]) A U H1 := by
  refine ⟨by rw [xw_push hP.2.2.2 hn]; exact h1, by rw [xw_push hP.2.2.2 hn]; exact h2, fun k ty z hk => ?_, okH_push hP.2.2.2 hx⟩
  by_cases e : k < h.length
  · rw [List.getElem?_append_left e] at hk
    have e1 : k ≠ h.length := Nat.ne_of_lt e
    simp only [xupC, e1, if_false]
    exact hP.2.2.1 k ty z hk
  · rw [List.getElem?_append_right (Nat.le_of_not_lt e)] at hk
    have e2 : k - h.length = 0 := by
      have := (List.getElem?_eq_some_iff.mp hk).1
      simp at this
      omega
    rw [e2] at hk
    have e3 : k = h.length := by omega
    subst e3
    simp only [xupC, if_true]
    exact hT ty z (Option.some.inj hk)
