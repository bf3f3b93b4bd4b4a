/-! ===== contracts in V's words: Ev; calls ===== -/
def xcw (y : MethodName) (cc : ByteArray) (nL : Nat) (rt : Option FieldType) : List (Nat × Nat × Nat × Nat) → Cond
  | [] => .code y cc nL rt
  | q :: r => .codeWith y cc nL rt (q :: r)
def xPc (D : va_G) (ad : Nat → Nat) (ac : Nat → ClassId) (h : List xC) (As : List Value) (sz : Nat) : Array Value → State → Prop := fun v U =>
  v = (As.map (xv ad)).toArray ∧ U.heap.size = sz ∧ xP D ad ac h (va_A (xw ad ac h) sz) U U.heap ∧ va_K D vwCl [] U ∧ xOW ad (va_A (xw ad ac h) sz) U U.heap
def Ev (d : Nat) (y : MethodName) (cc : ByteArray) (nL : Nat) (rt : Option FieldType) (hh : List (Nat × Nat × Nat × Nat)) (As : List Value) (h : xH) (o : xO) : Prop :=
  (h.2.1 ≤ o.2.2.1 ∧ h.2.2 ≤ o.2.2.2) ∧
  ∀ (l : Launch) (rm : Room) (D : va_G) (ad : Nat → Nat) (ac : Nat → ClassId) (sz : Nat), l.stackTraces = false → d + 20 ≤ rm.frames → 64 * d + 400 ≤ rm.locals → rm.cells = o.2.2.1 - h.2.1 → rm.slots = o.2.2.2 - h.2.2 → okS h.1.length As →
    vx_Met l y (xcw y cc nL rt hh :: xT) rm (xPc D ad ac h.1 As sz) (xQ D ad h.1.length (va_A (xw ad ac h.1) sz) o) (xX D ad h.1.length (va_A (xw ad ac h.1) sz) o) (o.2.2.1 - h.2.1) (o.2.2.2 - h.2.2) (va_A (xw ad ac h.1) sz)
theorem xSm_trans {n n0 : Nat} {ad ad1 ad0 : Nat → Nat} (h1 : xSm n ad1 ad) (h0 : xSm n0 ad ad0) (hn : n0 ≤ n) : xSm n0 ad1 ad0 := fun k hk => (h1 k (hk.elim (fun q => Or.inl (Nat.lt_of_lt_of_le q hn)) Or.inr)).trans (h0 k hk)
theorem xl_args (ad : Nat → Nat) : ∀ (i : Nat) (As : List Value), lv_args i (As.map (xv ad)) = (lv_args i As).map (xl ad)
  | _, [] => rfl
  | i, v :: r => by
    rw [List.map_cons, lv_args, lv_args, List.map_cons, xv_cat, xl_args ad _ r]
    rfl
theorem okL_args {n : Nat} : ∀ (i : Nat) {As : List Value}, okS n As → okL n (lv_args i As)
  | _, [], _ => trivial
  | _, _ :: _, h => ⟨h.1, okL_args _ h.2⟩
theorem xsl_len (ad : Nat → Nat) : ∀ As : List Value, (lg_sl (As.map (xv ad))).length = (lg_sl As).length
  | [] => rfl
  | v :: r => by
    have := xsl_len ad r
    unfold lg_sl at this ⊢
    rw [List.map_cons, List.flatMap_cons, List.flatMap_cons, List.length_append, List.length_append, this, xv_cat]
    split <;> rfl
theorem Ev.of {d : Nat} {y : MethodName} {cc : ByteArray} {nL : Nat} {rt : Option FieldType} {As : List Value} {h : xH} {o : xO} (hy : plainName y.cls = true) (hl : (lg_sl As).length ≤ nL) (hV : V d y cc nL rt [] none 0 (lv_args 0 As) [] h o) : Ev d y cc nL rt [] As h o := by
  refine ⟨hV.1, fun l rm D ad ac sz htr hf1 hf2 hrc hrs hok => ?_⟩
  refine vx_ofW (cc := cc) (maxL := nL) (ret := rt) hy rfl ?_
  intro p e s m args below meth c s₁ B hml htab hv
  obtain ⟨rfl, rfl, hP, hK, hO⟩ := hv
  have hts := atoms_spec (ws := xcw y cc nL rt [] :: xT) B.pre
  have hF : xF y cc nL rt [] p l s m (As.map (xv ad)).toArray meth c :=
    ⟨B.exec, B.bytes, hml, B.returns, findClass_of_methodNamed B.named, fun w hw => hts w (List.mem_cons_of_mem _ hw), B.notSynchronized, List.eq_nil_iff_forall_not_mem.mpr (fun q hq => htab q hq), (name_of_methodNamed B.named B.method).1, htr⟩
  have hen := lv_entry (As.map (xv ad)) (n := nL) (by rw [xsl_len]; exact hl)
  rw [lg_entry_eq]
  rw [xl_args] at hen
  exact hV.2 p l e _ s m _ below meth c D ad ac _ ad h.1.length s.heap [] 0 0 _ _ _ ⟨hF, ⟨hf1, hf2, Nat.le_of_eq hrc.symm, Nat.le_of_eq hrs.symm⟩, ⟨by have := hV.1.1; omega, by have := hV.1.2; omega⟩, ⟨fun _ _ => rfl, Nat.le_refl _⟩, fun q hq => Or.inr hq, va_S.rf, hP, hK, hO, okL_args 0 hok, trivial, hen, fun _ hq => nomatch hq⟩
theorem Ev.ofH {d : Nat} {y : MethodName} {cc : ByteArray} {nL : Nat} {rt : Option FieldType} {q0 : Nat × Nat × Nat × Nat} {hh : List (Nat × Nat × Nat × Nat)} {As : List Value} {h : xH} {o : xO} (hy : plainName y.cls = true) (hl : (lg_sl As).length ≤ nL) (hV : V d y cc nL rt (q0 :: hh) none 0 (lv_args 0 As) [] h o) : Ev d y cc nL rt (q0 :: hh) As h o := by
  refine ⟨hV.1, fun l rm D ad ac sz htr hf1 hf2 hrc hrs hok => ?_⟩
  refine vx_ofWH (cc := cc) (maxL := nL) (ret := rt) (hh := q0 :: hh) hy rfl ?_
  intro p e s m args below meth c s₁ B hml hv
  obtain ⟨rfl, rfl, hP, hK, hO⟩ := hv
  have hts := atoms_spec (ws := xcw y cc nL rt (q0 :: hh) :: xT) B.pre
  have hF : xF y cc nL rt (q0 :: hh) p l s m (As.map (xv ad)).toArray meth c :=
    ⟨B.exec, B.bytes, hml, B.returns, findClass_of_methodNamed B.named, fun w hw => hts w (List.mem_cons_of_mem _ hw), B.notSynchronized, vx_table (x := y) B (hts _ List.mem_cons_self), (name_of_methodNamed B.named B.method).1, htr⟩
  have hen := lv_entry (As.map (xv ad)) (n := nL) (by rw [xsl_len]; exact hl)
  rw [lg_entry_eq]
  rw [xl_args] at hen
  exact hV.2 p l e _ s m _ below meth c D ad ac _ ad h.1.length s.heap [] 0 0 _ _ _ ⟨hF, ⟨hf1, hf2, Nat.le_of_eq hrc.symm, Nat.le_of_eq hrs.symm⟩, ⟨by have := hV.1.1; omega, by have := hV.1.2; omega⟩, ⟨fun _ _ => rfl, Nat.le_refl _⟩, fun q hq => Or.inr hq, va_S.rf, hP, hK, hO, okL_args 0 hok, trivial, hen, fun _ hq => nomatch hq⟩
theorem Ev.mono {d d' : Nat} {y : MethodName} {cc : ByteArray} {nL : Nat} {rt : Option FieldType} {hh : List (Nat × Nat × Nat × Nat)} {As : List Value} {h : xH} {o : xO} (hd : d ≤ d') (hE : Ev d y cc nL rt hh As h o) : Ev d' y cc nL rt hh As h o :=
  ⟨hE.1, fun l rm D ad ac sz h1 h2 h3 h4 h5 h6 => hE.2 l rm D ad ac sz h1 (by omega) (by omega) h4 h5 h6⟩
/-- the word of a callee: good, and among the tables' -/
theorem xT_good {w : Cond} (h : w ∈ xT) : w ∈ lw_tbl ∧ goodWord w = true := List.mem_filter.mp h
theorem xT_GoodIn {w : Cond} (h : w ∈ xT) : GoodIn xT (w :: xT) := fun z hz => by
  rcases List.mem_cons.mp hz with rfl | hz
  · exact ⟨h, good_of_word (xT_good h).2⟩
  · exact ⟨hz, good_of_word (xT_good hz).2⟩
/-- a call's words: link, the callee's code, what is static of it -/
def xCL (own : String) (idx : Nat) (y : MethodName) (cc : ByteArray) (nL : Nat) (rt : Option FieldType) (n : Nat) : Prop :=
  Cond.methodLink own idx y ∈ xT ∧ Cond.code y cc nL rt ∈ xT ∧ Cond.initialized y.cls ∈ xT ∧ (y.cls ≠ "java/lang/invoke/MethodHandle" ∧ y.cls ≠ "java/lang/invoke/VarHandle" ∧ (parseMethodDescriptor y.desc).map (fun d => d.parameters.length) = some n) ∧ nL ≤ 40
section Calls
variable {d : Nat} {y : MethodName} {cc : ByteArray} {nL : Nat} {rt : Option FieldType} {hh : List (Nat × Nat × Nat × Nat)} {sc : Option (Nat × (Nat → Int32))} {pc : Nat} {lv : List (Nat × Value)} {st stk : List Value} {h h' : xH} {o : xO}
variable {d' idx n : Nat} {yc : MethodName} {cc' : ByteArray} {nL' : Nat} {rt' : Option FieldType} {As : List Value} {r : Option Value}
theorem xblind {D : va_G} {ad : Nat → Nat} {ac : Nat → ClassId} {hc : List xC} {As : List Value} {sz : Nat} : FrameBlind (xPc D ad ac hc As sz) := by
  intro a U g mk q
  obtain ⟨q1, q2, q3, q4, q5⟩ := q
  exact ⟨q1, q2, xP.moved (u := U) (U := U.calling g mk a) (Vm.Alike.refl U.vm) q3, va_K.moved (u := U) (U := U.calling g mk a) (Vm.Alike.refl U.vm) q4, xOW.blind (u := U) rfl q5⟩
/-- the world as the callee finds it -/
theorem xPre {D : va_G} {ad : Nat → Nat} {ac : Nat → ClassId} {A : Nat → Prop} {s U : State} {H : Heap} {locs : List Loc} (hA : ∀ q, s.heap.size ≤ q → A q) (hS : va_S A s.heap H locs) (hP : xP D ad ac h.1 A s H) (hK : va_K D vwCl [] s) (hO : xOW ad A s s.heap) (hU : U.heap = H) (hW : s.WarmedH U.vm) :
    xPc D ad ac h.1 As H.size (As.map (xv ad)).toArray U := by
  have hAA : ∀ q, va_A (xw ad ac h.1) H.size q → A q := by
    intro q hq
    rcases hq with ⟨k, e9, hk⟩ | hq
    · exact hP.2.1.2 k _ hk
    · exact hA q (Nat.le_trans hS.1 hq)
  refine ⟨rfl, by rw [hU], ?_, hK.moved hW.alike, ?_⟩
  · rw [hU]
    have h1 := hP.moved hW.alike
    exact ⟨h1.1, h1.2.1.self, h1.2.2⟩
  · rw [hU]
    exact ((hO.kept hS.2.1).narrow hAA).warm hW
theorem xAA {D : va_G} {ad : Nat → Nat} {ac : Nat → ClassId} {A : Nat → Prop} {s : State} {H : Heap} {locs : List Loc} (hA : ∀ q, s.heap.size ≤ q → A q) (hS : va_S A s.heap H locs) (hP : xP D ad ac h.1 A s H) : ∀ q, va_A (xw ad ac h.1) H.size q → A q := by
  intro q hq
  rcases hq with ⟨k, e9, hk⟩ | hq
  · exact hP.2.1.2 k _ hk
  · exact hA q (Nat.le_trans hS.1 hq)
theorem xcats (ad : Nat → Nat) (st : List Value) : ((st.map (xv ad)).map fun v => v.category).sum = (st.map fun v => v.category).sum := by
  rw [List.map_map]
  congr 1
  apply List.map_congr_left
  intro v _
  exact xv_cat ad v
/-- behind a call that came back -/
theorem xBack {p : Program} {l : Launch} {e : Env} {R : Room} {s : State} {m : MethodId} {args : Array Value} {below : List Frame} {meth : Method} {c : Code} {D : va_G} {ad : Nat → Nat} {ac : Nat → ClassId} {A : Nat → Prop} {ad0 : Nat → Nat} {n0 : Nat} {H : Heap} {locs : List Loc} {cells slots mc ms : Nat} {ls : Array Slot}
    (hx : xCx d y cc nL rt hh sc lv stk h o p l R s m args meth c D ad ac A ad0 n0 H locs cells slots mc ms ls) (hE : h.2.1 ≤ h'.2.1 ∧ h.2.2 ≤ h'.2.2) (hst : okS h.1.length st) (hk : V d y cc nL rt hh sc (pc + 3) lv (r.toList ++ st) h' o)
    (hr : vx_Run p l e R s m args below meth c H locs cells slots (h'.2.1 - h.2.1) (h'.2.2 - h.2.2) (F0 m pc ls (stk.map (xv ad))) (st.map (xv ad)) (xQ D ad h.1.length (va_A (xw ad ac h.1) H.size) (.inl r, h') ((As.map (xv ad)).toArray)) (xX D ad h.1.length (va_A (xw ad ac h.1) H.size) (.inl r, h')) (va_A (xw ad ac h.1) H.size)) :
    W p l e R s m args below meth c H locs cells slots (vx_MQ below (xQ D ad0 n0 A o) (xX D ad0 n0 A o) args s mc ms A) (F0 m pc ls (stk.map (xv ad))) := by
  obtain ⟨F, hR, hC, hAd, hA, hS, hP, hK, hO, hL, hT, hls, hsc⟩ := hx
  have hAA := xAA hA hS hP
  intro T hT0 X
  rcases hr T hT0 X with ⟨v, st₀, t, T', L, h0, X', hLf, e1, e2, ⟨⟨r1, ad1, ac1, hr1, hv, hsm, hn1, hok, hP1⟩, hF⟩, stp⟩ | ⟨q, st₀, t, T', L, E, ce, h0, X', hLf, e1, e2, ⟨⟨ad1, ac1, hbad, -⟩, -⟩, -⟩
  · cases hr1
    cases hv
    obtain ⟨k1, k2, k3⟩ := vx_keep h0 e1 hS (fun q _ hq => hAA q hq) hAA hLf hF
    have hal : t.vm.Alike s.vm := by rw [← e2]; exact X'.warmed.alike.symm
    have hP2 : xP D ad1 ac1 h'.1 A s T'.heap := by rw [e1]; exact (hP1.weaken hAA).moved hal
    have hst2 : (r.toList ++ st).map (xv ad1) = (r.map (xv ad1)).toList ++ st.map (xv ad) := by
      rw [List.map_append, xvs_congr hsm hst]
      cases r <;> rfl
    have hgo := hk.2 p l e R s m args below meth c D ad1 ac1 A ad0 n0 T'.heap (locs ++ L) (cells + (h'.2.1 - h.2.1)) (slots + (h'.2.2 - h.2.2)) mc ms ls
      ⟨F, hR, ⟨by have := hC.1; have := hE.1; omega, by have := hC.2; have := hE.2; omega⟩, ⟨xSm_trans hsm hAd.1 hAd.2, Nat.le_trans hAd.2 hn1⟩, hA, k3, hP2, hK, hO.congr hsm, okL_mono hn1 hL,
        okS_app (okS_mono hn1 hst) (by cases r with
          | none => trivial
          | some w => exact ⟨hok w rfl, trivial⟩), by rw [xl_congr hsm hL]; exact hls, fun q hq => by rw [hsm xSC (Or.inr (by decide))]; exact hsc q hq⟩
    rw [hst2] at hgo
    obtain ⟨t2, a1, b1⟩ := hgo T' rfl X'
    exact ⟨t2, stp t2 a1, b1⟩
  · cases hbad
/-- behind a call that threw, where no row of this method's table covers the place -/
theorem xBackX {E0 : String} {p : Program} {l : Launch} {e : Env} {R : Room} {s : State} {m : MethodId} {args : Array Value} {below : List Frame} {meth : Method} {c : Code} {D : va_G} {ad : Nat → Nat} {ac : Nat → ClassId} {A : Nat → Prop} {ad0 : Nat → Nat} {n0 : Nat} {H : Heap} {locs : List Loc} {cells slots mc ms : Nat} {ls : Array Slot}
    (hx : xCx d y cc nL rt hh sc lv stk h (.inr E0, h') p l R s m args meth c D ad ac A ad0 n0 H locs cells slots mc ms ls) (hE : h.2.1 ≤ h'.2.1 ∧ h.2.2 ≤ h'.2.2) (hno : ∀ q ∈ tableOf hh, covers q pc = false)
    (hr : vx_Run p l e R s m args below meth c H locs cells slots (h'.2.1 - h.2.1) (h'.2.2 - h.2.2) (F0 m pc ls (stk.map (xv ad))) (st.map (xv ad)) (xQ D ad h.1.length (va_A (xw ad ac h.1) H.size) (.inr E0, h') ((As.map (xv ad)).toArray)) (xX D ad h.1.length (va_A (xw ad ac h.1) H.size) (.inr E0, h')) (va_A (xw ad ac h.1) H.size)) :
    W p l e R s m args below meth c H locs cells slots (vx_MQ below (xQ D ad0 n0 A (.inr E0, h')) (xX D ad0 n0 A (.inr E0, h')) args s mc ms A) (F0 m pc ls (stk.map (xv ad))) := by
  obtain ⟨F, hR, hC, hAd, hA, hS, hP, hK, hO, hL, hT, hls, hsc⟩ := hx
  have hAA := xAA hA hS hP
  intro T hT0 X
  rcases hr T hT0 X with ⟨v, st₀, t, T', L, h0, X', hLf, e1, e2, ⟨⟨r1, ad1, ac1, hbad, -⟩, -⟩, -⟩ | ⟨q, st₀, t, T', L, E, ce, h0, X', hLf, e1, e2, ⟨⟨ad1, ac1, hE1, hsm, hn1, hP1⟩, hF⟩, hce, hcv, hcl, stp⟩
  · cases hbad
  · cases hE1
    obtain ⟨k1, k2, k3⟩ := vx_keep h0 e1 hS (fun q _ hq => hAA q hq) hAA hLf hF
    have hal : t.vm.Alike s.vm := by rw [← e2]; exact X'.warmed.alike.symm
    have hP2 : xP D ad1 ac1 h'.1 A s T'.heap := by rw [e1]; exact (hP1.weaken hAA).moved hal
    have hout := vx_out (p := p) (l := l) (e := e) (R := R) (s := s) (m := m) (args := args) (below := below) (meth := meth) (c := c) (H := T'.heap) (locs := locs ++ L) (cells := cells + (h'.2.1 - h.2.1)) (slots := slots + (h'.2.2 - h.2.2)) (free := A) (ls := ls) (rest := st.map (xv ad)) (pc := pc) (E := E0) (ce := ce) (q := q) (mc := mc) (ms := ms)
      (Qc := xQ D ad0 n0 A (.inr E0, h')) (XC := xX D ad0 n0 A (.inr E0, h')) (by rw [F.2.2.2.2.2.2.2.1]; exact hno) F.2.2.2.2.2.2.1 (by rw [e1]; exact hce) hcv hcl
      (fun t9 ht9 hal9 => ⟨⟨ad1, ac1, rfl, xSm_trans hsm hAd.1 hAd.2, Nat.le_trans hAd.2 hn1, by rw [ht9]; exact hP2.moved hal9⟩, k3.F ht9⟩) k3.2.2
      (by have := hC.1; have := hE.1; dsimp only at *; omega) (by have := hC.2; have := hE.2; dsimp only at *; omega)
    obtain ⟨t2, a1, b1⟩ := hout T' rfl X'
    exact ⟨t2, stp.trans a1, b1⟩
end Calls
