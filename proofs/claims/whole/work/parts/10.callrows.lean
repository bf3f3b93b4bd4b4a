/-! ===== call rows ===== -/
section CallRows
variable {d : Nat} {y : MethodName} {cc : ByteArray} {nL : Nat} {rt : Option FieldType} {hh : List (Nat × Nat × Nat × Nat)} {sc : Option (Nat × (Nat → Int32))} {pc : Nat} {lv : List (Nat × Value)} {st stk : List Value} {h h' : xH} {o : xO}
variable {d' idx n : Nat} {yc : MethodName} {cc' : ByteArray} {nL' : Nat} {rt' : Option FieldType} {As : List Value} {r : Option Value} {E0 : String}
theorem xrev {ad : Nat → Nat} (As st : List Value) : (As.reverse ++ st).map (xv ad) = (As.map (xv ad)).reverse ++ st.map (xv ad) := by
  rw [List.map_append, List.map_reverse]
theorem xfrm {a b F : Nat} (h1 : a + 1 ≤ b) (h2 : b + 20 ≤ F) : a + 20 + 1 ≤ F := by omega
set_option maxRecDepth 20000 in
theorem xloc {a b L k : Nat} (h1 : a + 1 ≤ b) (h2 : 64 * b + 400 ≤ L) (h3 : k ≤ 40) : 8 + (k + 11) + (64 * a + 400) ≤ L := by omega
theorem xRunS {oc : xO} {p : Program} {l : Launch} {e : Env} {R : Room} {s : State} {m : MethodId} {args : Array Value} {below : List Frame} {meth : Method} {c : Code} {D : va_G} {ad : Nat → Nat} {ac : Nat → ClassId} {A : Nat → Prop} {ad0 : Nat → Nat} {n0 : Nat} {H : Heap} {locs : List Loc} {cells slots mc ms : Nat} {ls : Array Slot}
    (hx : xCx d y cc nL rt hh sc lv (As.reverse ++ st) h o p l R s m args meth c D ad ac A ad0 n0 H locs cells slots mc ms ls) (hoc : oc.2.2.1 ≤ o.2.2.1 ∧ oc.2.2.2 ≤ o.2.2.2)
    (hd : decode cc pc = .ok (.invokestatic idx, 3)) (hw : xCL y.cls idx yc cc' nL' rt' n) (hst : Cond.static yc ∈ xT) (hdd : d' + 1 ≤ d) (hn : As.length = n) (hcat : (st.map fun v => v.category).sum ≤ 8) (hE : Ev d' yc cc' nL' rt' [] As h oc) :
    vx_Run p l e R s m args below meth c H locs cells slots (oc.2.2.1 - h.2.1) (oc.2.2.2 - h.2.2) (F0 m pc ls ((As.reverse ++ st).map (xv ad))) (st.map (xv ad)) (xQ D ad h.1.length (va_A (xw ad ac h.1) H.size) oc ((As.map (xv ad)).toArray)) (xX D ad h.1.length (va_A (xw ad ac h.1) H.size) oc) (va_A (xw ad ac h.1) H.size) := by
  obtain ⟨F, hR, hC, hAd, hA, hS, hP, hK, hO, hL, hT, hls, hsc⟩ := hx
  have hts := F.2.2.2.2.2.1
  have hokA : okS h.1.length As := by
    have := okS_rev (okS_left hT)
    rwa [List.reverse_reverse] at this
  have hM := hE.2 l { frames := d' + 20, locals := 64 * d' + 400, cells := oc.2.2.1 - h.2.1, slots := oc.2.2.2 - h.2.2 } D ad ac H.size F.2.2.2.2.2.2.2.2.2 (Nat.le_refl _) (Nat.le_refl _) rfl rfl hokA
  have hcb := callB_of (R := R) (own := y.cls) (index := idx) (y := yc) (bytes := cc') (maxL := nL') (ret := rt') (rm := { frames := d' + 20, locals := 64 * d' + 400, cells := oc.2.2.1 - h.2.1, slots := oc.2.2.2 - h.2.2 }) n hts (xT_GoodIn hw.2.1) rfl rfl rfl (hts _ hw.2.2.1) (hts _ hw.1) hw.2.2.2.1
    ⟨xfrm hdd hR.1, xloc hdd hR.2.1 hw.2.2.2.2⟩
  refine vx_runS (Ts := xT) (own := y.cls) (cc := cc) (nL := nL) (As := As.map (xv ad)) (rest := st.map (xv ad)) (g := F0 m pc ls ((As.reverse ++ st).map (xv ad))) ⟨F.1, F.2.1, F.2.2.1, F.2.2.2.2.1, hts⟩ hM ⟨hcb, hts _ hst⟩ ⟨xblind, fun U hU hW => xPre hA hS hP hK hO hU hW⟩ rfl (by rw [List.length_map]; exact hn) hls.1 (xrev As st) (lv_room (by rw [xcats]; exact hcat)) hd ?_
  have e1 := hE.1.1
  have e2 := hE.1.2
  exact ⟨by have := hC.1; have := hR.2.2.1; omega, by have := hC.2; have := hR.2.2.2; omega⟩
theorem xRunV {oc : xO} {b ci : Nat} {fs : List Value} {C : String} {T : u_T} {N : Nat} {p : Program} {l : Launch} {e : Env} {R : Room} {s : State} {m : MethodId} {args : Array Value} {below : List Frame} {meth : Method} {c : Code} {D : va_G} {ad : Nat → Nat} {ac : Nat → ClassId} {A : Nat → Prop} {ad0 : Nat → Nat} {n0 : Nat} {H : Heap} {locs : List Loc} {cells slots mc ms : Nat} {ls : Array Slot}
    (hx : xCx d y cc nL rt hh sc lv (As.reverse ++ .ref b :: st) h o p l R s m args meth c D ad ac A ad0 n0 H locs cells slots mc ms ls) (hoc : oc.2.2.1 ≤ o.2.2.1 ∧ oc.2.2.2 ≤ o.2.2.2)
    (hd : decode cc pc = .ok (.invokevirtual idx, 3)) (hw : xCL y.cls idx yc cc' nL' rt' n) (hst : Cond.instanceMethod yc ∈ xT ∧ Cond.selects C yc yc ∈ xT) (hdd : d' + 1 ≤ d) (hn : As.length = n) (hcat : (st.map fun v => v.category).sum ≤ 8)
    (hg : h.1[b]? = some (.inr (ci, fs))) (hc : vwCl[ci]? = some (C, T, N)) (hE : Ev d' yc cc' nL' rt' [] (.ref b :: As) h oc) :
    vx_Run p l e R s m args below meth c H locs cells slots (oc.2.2.1 - h.2.1) (oc.2.2.2 - h.2.2) (F0 m pc ls ((As.reverse ++ .ref b :: st).map (xv ad))) (st.map (xv ad)) (xQ D ad h.1.length (va_A (xw ad ac h.1) H.size) oc (((Value.ref b :: As).map (xv ad)).toArray)) (xX D ad h.1.length (va_A (xw ad ac h.1) H.size) oc) (va_A (xw ad ac h.1) H.size) := by
  obtain ⟨F, hR, hC, hAd, hA, hS, hP, hK, hO, hL, hT, hls, hsc⟩ := hx
  have hts := F.2.2.2.2.2.1
  have hokA : okS h.1.length (.ref b :: As) := by
    have := okS_rev (okS_left hT)
    rw [List.reverse_reverse] at this
    exact ⟨(okS_right hT).1, this⟩
  have hM := hE.2 l { frames := d' + 20, locals := 64 * d' + 400, cells := oc.2.2.1 - h.2.1, slots := oc.2.2.2 - h.2.2 } D ad ac H.size F.2.2.2.2.2.2.2.2.2 (Nat.le_refl _) (Nat.le_refl _) rfl rfl hokA
  have hcb := callB_of (R := R) (own := y.cls) (index := idx) (y := yc) (bytes := cc') (maxL := nL') (ret := rt') (rm := { frames := d' + 20, locals := 64 * d' + 400, cells := oc.2.2.1 - h.2.1, slots := oc.2.2.2 - h.2.2 }) n hts (xT_GoodIn hw.2.1) rfl rfl rfl (hts _ hw.2.2.1) (hts _ hw.1) hw.2.2.2.1
    ⟨xfrm hdd hR.1, xloc hdd hR.2.1 hw.2.2.2.2⟩
  refine vx_runV (Ts := xT) (own := y.cls) (C := C) (cc := cc) (nL := nL) (b := ad b) (As := As.map (xv ad)) (rest := st.map (xv ad)) (g := F0 m pc ls ((As.reverse ++ .ref b :: st).map (xv ad))) ⟨F.1, F.2.1, F.2.2.1, F.2.2.2.2.1, hts⟩ hM ⟨hcb, hts _ hst.1, hts _ hst.2⟩ ⟨xblind, va_recv hK hP.1 hc (xw_get hg), fun U hU hW => xPre (As := .ref b :: As) hA hS hP hK hO hU hW⟩ rfl (by rw [List.length_map]; exact hn) hls.1 (xrev As (.ref b :: st)) (lv_room (by rw [xcats]; exact hcat)) hd ?_
  have e1 := hE.1.1
  have e2 := hE.1.2
  exact ⟨by have := hC.1; have := hR.2.2.1; omega, by have := hC.2; have := hR.2.2.2; omega⟩
theorem V.callS (hd : decode cc pc = .ok (.invokestatic idx, 3)) (hw : xCL y.cls idx yc cc' nL' rt' n) (hst : Cond.static yc ∈ xT) (hdd : d' + 1 ≤ d) (hn : As.length = n) (hcat : (st.map fun v => v.category).sum ≤ 8) (hstk : As.reverse ++ st = stk) (hE : Ev d' yc cc' nL' rt' [] As h (.inl r, h'))
    (hk : V d y cc nL rt hh sc (pc + 3) lv (r.toList ++ st) h' o) : V d y cc nL rt hh sc pc lv stk h o := by
  subst hstk
  refine ⟨⟨Nat.le_trans hE.1.1 hk.1.1, Nat.le_trans hE.1.2 hk.1.2⟩, fun p l e R s m args below meth c D ad ac A ad0 n0 H locs cells slots mc ms ls hx => ?_⟩
  exact xBack hx hE.1 (okS_right hx.2.2.2.2.2.2.2.2.2.2.1) hk (xRunS hx hk.1 hd hw hst hdd hn hcat hE)
theorem V.callV {b ci : Nat} {fs : List Value} {C : String} {T : u_T} {N : Nat} (hd : decode cc pc = .ok (.invokevirtual idx, 3)) (hw : xCL y.cls idx yc cc' nL' rt' n) (hst : Cond.instanceMethod yc ∈ xT ∧ Cond.selects C yc yc ∈ xT) (hdd : d' + 1 ≤ d) (hn : As.length = n) (hcat : (st.map fun v => v.category).sum ≤ 8) (hstk : As.reverse ++ .ref b :: st = stk)
    (hg : h.1[b]? = some (.inr (ci, fs))) (hc : vwCl[ci]? = some (C, T, N)) (hE : Ev d' yc cc' nL' rt' [] (.ref b :: As) h (.inl r, h')) (hk : V d y cc nL rt hh sc (pc + 3) lv (r.toList ++ st) h' o) : V d y cc nL rt hh sc pc lv stk h o := by
  subst hstk
  refine ⟨⟨Nat.le_trans hE.1.1 hk.1.1, Nat.le_trans hE.1.2 hk.1.2⟩, fun p l e R s m args below meth c D ad ac A ad0 n0 H locs cells slots mc ms ls hx => ?_⟩
  exact xBack hx hE.1 (okS_right hx.2.2.2.2.2.2.2.2.2.2.1).2 hk (xRunV hx hk.1 hd hw hst hdd hn hcat hg hc hE)
/-- the callee throws, and nothing here catches it -/
theorem V.callST (hd : decode cc pc = .ok (.invokestatic idx, 3)) (hw : xCL y.cls idx yc cc' nL' rt' n) (hst : Cond.static yc ∈ xT) (hdd : d' + 1 ≤ d) (hn : As.length = n) (hcat : (st.map fun v => v.category).sum ≤ 8) (hstk : As.reverse ++ st = stk) (hno : ∀ q ∈ tableOf hh, covers q pc = false) (hE : Ev d' yc cc' nL' rt' [] As h (.inr E0, h')) :
    V d y cc nL rt hh sc pc lv stk h (.inr E0, h') := by
  subst hstk
  refine ⟨hE.1, fun p l e R s m args below meth c D ad ac A ad0 n0 H locs cells slots mc ms ls hx => ?_⟩
  exact xBackX hx hE.1 hno (xRunS hx ⟨Nat.le_refl _, Nat.le_refl _⟩ hd hw hst hdd hn hcat hE)
theorem V.callVT {b ci : Nat} {fs : List Value} {C : String} {T : u_T} {N : Nat} (hd : decode cc pc = .ok (.invokevirtual idx, 3)) (hw : xCL y.cls idx yc cc' nL' rt' n) (hst : Cond.instanceMethod yc ∈ xT ∧ Cond.selects C yc yc ∈ xT) (hdd : d' + 1 ≤ d) (hn : As.length = n) (hcat : (st.map fun v => v.category).sum ≤ 8) (hstk : As.reverse ++ .ref b :: st = stk)
    (hg : h.1[b]? = some (.inr (ci, fs))) (hc : vwCl[ci]? = some (C, T, N)) (hno : ∀ q ∈ tableOf hh, covers q pc = false) (hE : Ev d' yc cc' nL' rt' [] (.ref b :: As) h (.inr E0, h')) : V d y cc nL rt hh sc pc lv stk h (.inr E0, h') := by
  subst hstk
  refine ⟨hE.1, fun p l e R s m args below meth c D ad ac A ad0 n0 H locs cells slots mc ms ls hx => ?_⟩
  exact xBackX hx hE.1 hno (xRunV hx ⟨Nat.le_refl _, Nat.le_refl _⟩ hd hw hst hdd hn hcat hg hc hE)
end CallRows
