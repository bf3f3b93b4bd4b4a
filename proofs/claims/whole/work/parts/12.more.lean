/-! ===== calls of constructors and of nest mates; Math; copies ===== -/
section More
variable {d : Nat} {y : MethodName} {cc : ByteArray} {nL : Nat} {rt : Option FieldType} {hh : List (Nat × Nat × Nat × Nat)} {sc : Option (Nat × (Nat → Int32))} {pc : Nat} {lv : List (Nat × Value)} {st stk : List Value} {h h' : xH} {o : xO}
variable {d' idx n : Nat} {yc : MethodName} {cc' : ByteArray} {nL' : Nat} {rt' : Option FieldType} {As : List Value} {r : Option Value}
/-- a contract whose end is a return is one in the sense of 'Met' -/
theorem Ev.met {oc : xO} {r : Option Value} (hr : oc.1 = .inl r) (hE : Ev d' yc cc' nL' rt' [] As h oc) {l : Launch} {rm : Room} {D : va_G} {ad : Nat → Nat} {ac : Nat → ClassId} {sz : Nat} (h1 : l.stackTraces = false) (h2 : d' + 20 ≤ rm.frames) (h3 : 64 * d' + 400 ≤ rm.locals) (h4 : rm.cells = oc.2.2.1 - h.2.1) (h5 : rm.slots = oc.2.2.2 - h.2.2) (h6 : okS h.1.length As) :
    Met l yc (xcw yc cc' nL' rt' [] :: xT) rm (xPc D ad ac h.1 As sz) (xQ D ad h.1.length (va_A (xw ad ac h.1) sz) oc) (oc.2.2.1 - h.2.1) (oc.2.2.2 - h.2.2) (va_A (xw ad ac h.1) sz) := by
  intro p e ha hc hk s m args below hf happ hP hK
  obtain ⟨k, oo, a1, a2, a3, a4⟩ := hE.2 l rm D ad ac sz h1 h2 h3 h4 h5 h6 p e ha hc hk s m args below hf happ hP hK
  refine ⟨k, oo, a1, a2, a3, ?_⟩
  rcases a4 with a4 | ⟨q, -, E, ce, L, ⟨⟨ad1, ac1, hbad, -⟩, -⟩, -⟩
  · exact a4
  · rw [hr] at hbad; cases hbad
theorem xBackM {p : Program} {l : Launch} {e : Env} {R : Room} {s : State} {m : MethodId} {args : Array Value} {below : List Frame} {meth : Method} {c : Code} {D : va_G} {ad : Nat → Nat} {ac : Nat → ClassId} {A : Nat → Prop} {ad0 : Nat → Nat} {n0 : Nat} {H : Heap} {locs : List Loc} {cells slots mc ms : Nat} {ls : Array Slot}
    (hx : xCx d y cc nL rt hh sc lv stk h o p l R s m args meth c D ad ac A ad0 n0 H locs cells slots mc ms ls) (hE : h.2.1 ≤ h'.2.1 ∧ h.2.2 ≤ h'.2.2) (hst : okS h.1.length st) (hk : V d y cc nL rt hh sc (pc + 3) lv (r.toList ++ st) h' o)
    (hr : va_Run p l e R s m args below meth c H locs cells slots (h'.2.1 - h.2.1) (h'.2.2 - h.2.2) (F0 m pc ls (stk.map (xv ad))) (st.map (xv ad)) (xQ D ad h.1.length (va_A (xw ad ac h.1) H.size) (.inl r, h') ((As.map (xv ad)).toArray)) (va_A (xw ad ac h.1) H.size)) :
    W p l e R s m args below meth c H locs cells slots (vx_MQ below (xQ D ad0 n0 A o) (xX D ad0 n0 A o) args s mc ms A) (F0 m pc ls (stk.map (xv ad))) := by
  refine xBack (As := As) (r := r) hx hE hst hk ?_
  intro T hT X
  obtain ⟨v, st₀, t, T', L, a1, a2, a3, a4, a5, a6, a7⟩ := hr T hT X
  exact Or.inl ⟨v, st₀, t, T', L, a1, a2, a3, a4, a5, a6, a7⟩
theorem V.callI {b : Nat} (hd : decode cc pc = .ok (.invokespecial idx, 3)) (hw : xCL y.cls idx yc cc' nL' none n) (hst : Cond.instanceMethod yc ∈ xT) (hin : yc.name = "<init>") (hdd : d' + 1 ≤ d) (hn : As.length = n) (hcat : (st.map fun v => v.category).sum ≤ 8) (hstk : As.reverse ++ .ref b :: st = stk)
    (hE : Ev d' yc cc' nL' none [] (.ref b :: As) h (.inl none, h')) (hk : V d y cc nL rt hh sc (pc + 3) lv st h' o) : V d y cc nL rt hh sc pc lv stk h o := by
  subst hstk
  refine ⟨⟨Nat.le_trans hE.1.1 hk.1.1, Nat.le_trans hE.1.2 hk.1.2⟩, fun p l e R s m args below meth c D ad ac A ad0 n0 H locs cells slots mc ms ls hx => ?_⟩
  have hx0 := hx
  obtain ⟨F, hR, hC, hAd, hA, hS, hP, hK, hO, hL, hT, hls, hsc⟩ := hx
  have hts := F.2.2.2.2.2.1
  have hokA : okS h.1.length (.ref b :: As) := by
    have := okS_rev (okS_left hT)
    rw [List.reverse_reverse] at this
    exact ⟨(okS_right hT).1, this⟩
  have hM := hE.met (r := none) rfl (l := l) (rm := { frames := d' + 20, locals := 64 * d' + 400, cells := h'.2.1 - h.2.1, slots := h'.2.2 - h.2.2 }) (D := D) (ad := ad) (ac := ac) (sz := H.size) F.2.2.2.2.2.2.2.2.2 (Nat.le_refl _) (Nat.le_refl _) rfl rfl hokA
  have hcb := callB_of (R := R) (own := y.cls) (index := idx) (y := yc) (bytes := cc') (maxL := nL') (ret := none) (rm := { frames := d' + 20, locals := 64 * d' + 400, cells := h'.2.1 - h.2.1, slots := h'.2.2 - h.2.2 }) n hts (xT_GoodIn hw.2.1) rfl rfl rfl (hts _ hw.2.2.1) (hts _ hw.1) hw.2.2.2.1 ⟨xfrm hdd hR.1, xloc hdd hR.2.1 hw.2.2.2.2⟩
  have e1 := hE.1.1
  have e2 := hE.1.2
  have k1 := hk.1.1
  have k2 := hk.1.2
  refine xBackM (As := .ref b :: As) (r := none) hx0 hE.1 (okS_right hT).2 hk ?_
  exact va_runI (Ts := xT) (own := y.cls) (cc := cc) (nL := nL) (b := ad b) (As := As.map (xv ad)) (rest := st.map (xv ad)) (g := F0 m pc ls ((As.reverse ++ .ref b :: st).map (xv ad))) ⟨F.1, F.2.1, F.2.2.1, F.2.2.2.2.1, hts⟩ hM ⟨hcb, hin, hts _ hst⟩ ⟨xblind, fun U hU hW => xPre (As := .ref b :: As) hA hS hP hK hO hU hW⟩ rfl (by rw [List.length_map]; exact hn) hls.1 (xrev As (.ref b :: st)) (lv_room (by rw [xcats]; exact hcat)) hd
    ⟨by have := hC.1; have := hR.2.2.1; dsimp only at *; omega, by have := hC.2; have := hR.2.2.2; dsimp only at *; omega⟩
/-- nest mates -/
theorem V.callIN {b : Nat} {host : String} (hd : decode cc pc = .ok (.invokespecial idx, 3)) (hnw : Cond.methodLinkNest y.cls idx yc host ∈ xNw) (hw : Cond.code yc cc' nL' none ∈ xT ∧ Cond.initialized yc.cls ∈ xT ∧ (yc.cls ≠ "java/lang/invoke/MethodHandle" ∧ yc.cls ≠ "java/lang/invoke/VarHandle" ∧ (parseMethodDescriptor yc.desc).map (fun d => d.parameters.length) = some n) ∧ nL' ≤ 40) (hst : Cond.instanceMethod yc ∈ xT) (hin : yc.name = "<init>") (hdd : d' + 1 ≤ d) (hn : As.length = n) (hcat : (st.map fun v => v.category).sum ≤ 8) (hstk : As.reverse ++ .ref b :: st = stk)
    (hE : Ev d' yc cc' nL' none [] (.ref b :: As) h (.inl none, h')) (hk : V d y cc nL rt hh sc (pc + 3) lv st h' o) : V d y cc nL rt hh sc pc lv stk h o := by
  subst hstk
  refine ⟨⟨Nat.le_trans hE.1.1 hk.1.1, Nat.le_trans hE.1.2 hk.1.2⟩, fun p l e R s m args below meth c D ad ac A ad0 n0 H locs cells slots mc ms ls hx => ?_⟩
  have hx0 := hx
  obtain ⟨F, hR, hC, hAd, hA, hS, hP, hK, hO, hL, hT, hls, hsc⟩ := hx
  have hts := F.2.2.2.2.2.1
  have hokA : okS h.1.length (.ref b :: As) := by
    have := okS_rev (okS_left hT)
    rw [List.reverse_reverse] at this
    exact ⟨(okS_right hT).1, this⟩
  have hM := hE.met (r := none) rfl (l := l) (rm := { frames := d' + 20, locals := 64 * d' + 400, cells := h'.2.1 - h.2.1, slots := h'.2.2 - h.2.2 }) (D := D) (ad := ad) (ac := ac) (sz := H.size) F.2.2.2.2.2.2.2.2.2 (Nat.le_refl _) (Nat.le_refl _) rfl rfl hokA
  have hcb := va_cnB (R := R) (own := y.cls) (host := host) (index := idx) (y := yc) (bytes := cc') (maxL := nL') (ret := none) (rm := { frames := d' + 20, locals := 64 * d' + 400, cells := h'.2.1 - h.2.1, slots := h'.2.2 - h.2.2 }) n hts (xT_GoodIn hw.1) rfl rfl rfl (hO.2.2.2.2.2.2.1 _ hnw) (hts _ hw.2.1) hw.2.2.1 ⟨xfrm hdd hR.1, xloc hdd hR.2.1 hw.2.2.2⟩
  have e1 := hE.1.1
  have e2 := hE.1.2
  have k1 := hk.1.1
  have k2 := hk.1.2
  refine xBackM (As := .ref b :: As) (r := none) hx0 hE.1 (okS_right hT).2 hk ?_
  exact va_runIN (Ts := xT) (own := y.cls) (cc := cc) (nL := nL) (b := ad b) (As := As.map (xv ad)) (rest := st.map (xv ad)) (g := F0 m pc ls ((As.reverse ++ .ref b :: st).map (xv ad))) ⟨F.1, F.2.1, F.2.2.1, F.2.2.2.2.1, hts⟩ hM ⟨hcb, hin, hts _ hst⟩ ⟨xblind, fun U hU hW => xPre (As := .ref b :: As) hA hS hP hK hO hU hW⟩ rfl (by rw [List.length_map]; exact hn) hls.1 (xrev As (.ref b :: st)) (lv_room (by rw [xcats]; exact hcat)) hd
    ⟨by have := hC.1; have := hR.2.2.1; dsimp only at *; omega, by have := hC.2; have := hR.2.2.2; dsimp only at *; omega⟩
theorem V.callSN {host : String} (hd : decode cc pc = .ok (.invokestatic idx, 3)) (hnw : Cond.methodLinkNest y.cls idx yc host ∈ xNw) (hw : Cond.code yc cc' nL' rt' ∈ xT ∧ Cond.initialized yc.cls ∈ xT ∧ (yc.cls ≠ "java/lang/invoke/MethodHandle" ∧ yc.cls ≠ "java/lang/invoke/VarHandle" ∧ (parseMethodDescriptor yc.desc).map (fun d => d.parameters.length) = some n) ∧ nL' ≤ 40) (hst : Cond.static yc ∈ xT) (hdd : d' + 1 ≤ d) (hn : As.length = n) (hcat : (st.map fun v => v.category).sum ≤ 8) (hstk : As.reverse ++ st = stk)
    (hE : Ev d' yc cc' nL' rt' [] As h (.inl r, h')) (hk : V d y cc nL rt hh sc (pc + 3) lv (r.toList ++ st) h' o) : V d y cc nL rt hh sc pc lv stk h o := by
  subst hstk
  refine ⟨⟨Nat.le_trans hE.1.1 hk.1.1, Nat.le_trans hE.1.2 hk.1.2⟩, fun p l e R s m args below meth c D ad ac A ad0 n0 H locs cells slots mc ms ls hx => ?_⟩
  have hx0 := hx
  obtain ⟨F, hR, hC, hAd, hA, hS, hP, hK, hO, hL, hT, hls, hsc⟩ := hx
  have hts := F.2.2.2.2.2.1
  have hokA : okS h.1.length As := by
    have := okS_rev (okS_left hT)
    rwa [List.reverse_reverse] at this
  have hM := hE.met (r := r) rfl (l := l) (rm := { frames := d' + 20, locals := 64 * d' + 400, cells := h'.2.1 - h.2.1, slots := h'.2.2 - h.2.2 }) (D := D) (ad := ad) (ac := ac) (sz := H.size) F.2.2.2.2.2.2.2.2.2 (Nat.le_refl _) (Nat.le_refl _) rfl rfl hokA
  have hcb := va_cnB (R := R) (own := y.cls) (host := host) (index := idx) (y := yc) (bytes := cc') (maxL := nL') (ret := rt') (rm := { frames := d' + 20, locals := 64 * d' + 400, cells := h'.2.1 - h.2.1, slots := h'.2.2 - h.2.2 }) n hts (xT_GoodIn hw.1) rfl rfl rfl (hO.2.2.2.2.2.2.1 _ hnw) (hts _ hw.2.1) hw.2.2.1 ⟨xfrm hdd hR.1, xloc hdd hR.2.1 hw.2.2.2⟩
  have e1 := hE.1.1
  have e2 := hE.1.2
  have k1 := hk.1.1
  have k2 := hk.1.2
  refine xBackM (As := As) (r := r) hx0 hE.1 (okS_right hT) hk ?_
  exact va_runSN (Ts := xT) (own := y.cls) (cc := cc) (nL := nL) (As := As.map (xv ad)) (rest := st.map (xv ad)) (g := F0 m pc ls ((As.reverse ++ st).map (xv ad))) ⟨F.1, F.2.1, F.2.2.1, F.2.2.2.2.1, hts⟩ hM ⟨hcb, hts _ hst, trivial⟩ ⟨xblind, fun U hU hW => xPre hA hS hP hK hO hU hW⟩ rfl (by rw [List.length_map]; exact hn) hls.1 (xrev As st) (lv_room (by rw [xcats]; exact hcat)) hd
    ⟨by have := hC.1; have := hR.2.2.1; dsimp only at *; omega, by have := hC.2; have := hR.2.2.2; dsimp only at *; omega⟩
/-- a static method with a table of its own, that returns -/
def xCW (own : String) (idx : Nat) (y : MethodName) (cc : ByteArray) (nL : Nat) (rt : Option FieldType) (hh : List (Nat × Nat × Nat × Nat)) (n : Nat) : Prop :=
  Cond.methodLink own idx y ∈ xT ∧ Cond.codeWith y cc nL rt hh ∈ xT ∧ Cond.initialized y.cls ∈ xT ∧ (y.cls ≠ "java/lang/invoke/MethodHandle" ∧ y.cls ≠ "java/lang/invoke/VarHandle" ∧ (parseMethodDescriptor y.desc).map (fun d => d.parameters.length) = some n) ∧ nL ≤ 40 ∧ Cond.static y ∈ xT
theorem V.callSW {q0 : Nat × Nat × Nat × Nat} {hh' : List (Nat × Nat × Nat × Nat)} (hd : decode cc pc = .ok (.invokestatic idx, 3)) (hw : xCW y.cls idx yc cc' nL' rt' (q0 :: hh') n) (hdd : d' + 1 ≤ d) (hn : As.length = n) (hcat : (st.map fun v => v.category).sum ≤ 8) (hstk : As.reverse ++ st = stk) (hE : Ev d' yc cc' nL' rt' (q0 :: hh') As h (.inl r, h'))
    (hk : V d y cc nL rt hh sc (pc + 3) lv (r.toList ++ st) h' o) : V d y cc nL rt hh sc pc lv stk h o := by
  subst hstk
  refine ⟨⟨Nat.le_trans hE.1.1 hk.1.1, Nat.le_trans hE.1.2 hk.1.2⟩, fun p l e R s m args below meth c D ad ac A ad0 n0 H locs cells slots mc ms ls hx => ?_⟩
  have hx0 := hx
  obtain ⟨F, hR, hC, hAd, hA, hS, hP, hK, hO, hL, hT, hls, hsc⟩ := hx
  have hts := F.2.2.2.2.2.1
  have hokA : okS h.1.length As := by
    have := okS_rev (okS_left hT)
    rwa [List.reverse_reverse] at this
  have hM := hE.2 l { frames := d' + 20, locals := 64 * d' + 400, cells := h'.2.1 - h.2.1, slots := h'.2.2 - h.2.2 } D ad ac H.size F.2.2.2.2.2.2.2.2.2 (Nat.le_refl _) (Nat.le_refl _) rfl rfl hokA
  have hG : GoodIn xT (va_wsS y.cls idx yc (Cond.codeWith yc cc' nL' rt' (q0 :: hh') :: xT)) := by
    intro z hz
    unfold va_wsS at hz
    rcases List.mem_append.mp hz with hz | hz
    · have hz1 : z ∈ xT := by
        rcases List.mem_cons.mp hz with rfl | hz
        · exact hw.1
        · rcases List.mem_cons.mp hz with rfl | hz
          · exact hw.2.2.2.2.2
          · rcases List.mem_cons.mp hz with rfl | hz
            · exact hw.2.2.1
            · cases hz
      exact ⟨hz1, good_of_word (xT_good hz1).2⟩
    · exact xT_GoodIn hw.2.1 z hz
  have hcb := vx_cwSW (R := R) (own := y.cls) (index := idx) (y := yc) (bytes := cc') (maxL := nL') (ret := rt') (hh := q0 :: hh') (rm := { frames := d' + 20, locals := 64 * d' + 400, cells := h'.2.1 - h.2.1, slots := h'.2.2 - h.2.2 }) n hts hG rfl rfl rfl hw.2.2.2.1 ⟨xfrm hdd hR.1, xloc hdd hR.2.1 hw.2.2.2.2.1⟩
  have e1 := hE.1.1
  have e2 := hE.1.2
  have k1 := hk.1.1
  have k2 := hk.1.2
  refine xBack (As := As) (r := r) hx0 hE.1 (okS_right hT) hk ?_
  exact vx_runSX (Ts := xT) (own := y.cls) (cc := cc) (nL := nL) (As := As.map (xv ad)) (rest := st.map (xv ad)) (g := F0 m pc ls ((As.reverse ++ st).map (xv ad))) ⟨F.1, F.2.1, F.2.2.1, F.2.2.2.2.1, hts⟩ hM hcb ⟨xblind, fun U hU hW => xPre hA hS hP hK hO hU hW⟩ rfl (by rw [List.length_map]; exact hn) hls.1 (xrev As st) (lv_room (by rw [xcats]; exact hcat)) hd
    ⟨by have := hC.1; have := hR.2.2.1; dsimp only at *; omega, by have := hC.2; have := hR.2.2.2; dsimp only at *; omega⟩
end More
