/-! ===== strings, statics, throws, catches, Math, copies ===== -/
section Str
variable {d : Nat} {y : MethodName} {cc : ByteArray} {nL : Nat} {rt : Option FieldType} {hh : List (Nat × Nat × Nat × Nat)} {sc : Option (Nat × (Nat → Int32))} {pc : Nat} {lv : List (Nat × Value)} {st stk : List Value} {h h' : xH} {o : xO}
variable {d' idx n : Nat} {yc : MethodName} {cc' : ByteArray} {nL' : Nat} {rt' : Option FieldType} {As : List Value} {r : Option Value} {E0 : String}
theorem V.ldcS {i : Nat} (hd : decode cc pc = .ok (.ldc idx, 2)) (hs : (y.cls, idx, i) ∈ xStrs) (hk : V d y cc nL rt hh sc (pc + 2) lv (.ref (xS0 + 2 * i) :: st) h o) : V d y cc nL rt hh sc pc lv st h o := by
  refine ⟨hk.1, fun p l e R s m args below meth c D ad ac A ad0 n0 H locs cells slots mc ms ls hx => ?_⟩
  obtain ⟨F, hR, hC, hAd, hA, hS, hP, hK, hO, hL, hT, hls, hsc⟩ := hx
  refine va_ldcS F.1 F.2.1 F.2.2.2.2.1 (hO.2.1 _ hs) hd ?_
  exact hk.2 p l e R s m args below meth c D ad ac A ad0 n0 H locs cells slots mc ms ls ⟨F, hR, hC, hAd, hA, hS, hP, hK, hO, hL, ⟨Or.inr (Nat.le_add_right _ _), hT⟩, hls, hsc⟩
theorem V.sval {i : Nat} (hi : i < 47) (hd : decode cc pc = .ok (.getfield idx, 3)) (hl : Cond.fieldLink y.cls idx "java/lang/String" "value" "[B" ∈ xT) (hk : V d y cc nL rt hh sc (pc + 3) lv (.ref (xS0 + 2 * i + 1) :: st) h o) : V d y cc nL rt hh sc pc lv (.ref (xS0 + 2 * i) :: st) h o := by
  refine ⟨hk.1, fun p l e R s m args below meth c D ad ac A ad0 n0 H locs cells slots mc ms ls hx => ?_⟩
  obtain ⟨F, hR, hC, hAd, hA, hS, hP, hK, hO, hL, hT, hls, hsc⟩ := hx
  refine vk_getf F.1 F.2.1 ((hO.1 i hi).1 0 Nat.zero_lt_one).2.2.1 hS F.2.2.2.2.1 (F.2.2.2.2.2.1 _ hl) (fun _ h9 => h9) hd ?_
  exact hk.2 p l e R s m args below meth c D ad ac A ad0 n0 H locs cells slots mc ms ls ⟨F, hR, hC, hAd, hA, hS, hP, hK, hO, hL, ⟨Or.inr (by omega), hT.2⟩, hls, hsc⟩
theorem V.scod {i : Nat} (hi : i < 47) (hd : decode cc pc = .ok (.getfield idx, 3)) (hl : Cond.fieldLink y.cls idx "java/lang/String" "coder" "B" ∈ xT) (hk : V d y cc nL rt hh sc (pc + 3) lv (.int 0 :: st) h o) : V d y cc nL rt hh sc pc lv (.ref (xS0 + 2 * i) :: st) h o := by
  refine ⟨hk.1, fun p l e R s m args below meth c D ad ac A ad0 n0 H locs cells slots mc ms ls hx => ?_⟩
  obtain ⟨F, hR, hC, hAd, hA, hS, hP, hK, hO, hL, hT, hls, hsc⟩ := hx
  refine vk_getf F.1 F.2.1 ((hO.1 i hi).1 0 Nat.zero_lt_one).2.1 hS F.2.2.2.2.1 (F.2.2.2.2.2.1 _ hl) (fun _ h9 => h9) hd ?_
  exact hk.2 p l e R s m args below meth c D ad ac A ad0 n0 H locs cells slots mc ms ls ⟨F, hR, hC, hAd, hA, hS, hP, hK, hO, hL, ⟨trivial, hT.2⟩, hls, hsc⟩
theorem V.sblen {i : Nat} {v : Int32} (hi : i < 47) (hd : decode cc pc = .ok (.arraylength, 1)) (hv : Int32.ofNat (xLen.getD i 0) = v) (hk : V d y cc nL rt hh sc (pc + 1) lv (.int v :: st) h o) : V d y cc nL rt hh sc pc lv (.ref (xS0 + 2 * i + 1) :: st) h o := by
  refine ⟨hk.1, fun p l e R s m args below meth c D ad ac A ad0 n0 H locs cells slots mc ms ls hx => ?_⟩
  obtain ⟨F, hR, hC, hAd, hA, hS, hP, hK, hO, hL, hT, hls, hsc⟩ := hx
  refine va_tlen F.1 F.2.1 ((hO.1 i hi).1 0 Nat.zero_lt_one).2.2.2 hS hv hd ?_
  exact hk.2 p l e R s m args below meth c D ad ac A ad0 n0 H locs cells slots mc ms ls ⟨F, hR, hC, hAd, hA, hS, hP, hK, hO, hL, ⟨trivial, hT.2⟩, hls, hsc⟩
theorem V.sbald {i : Nat} {j v : Int32} (hi : i < 47) (hd : decode cc pc = .ok (.baload, 1)) (hj : vp_in j (xLen.getD i 0)) (hv : (xByt.getD i []).getD j.toNatClampNeg 0 = v) (hk : V d y cc nL rt hh sc (pc + 1) lv (.int v :: st) h o) : V d y cc nL rt hh sc pc lv (.int j :: .ref (xS0 + 2 * i + 1) :: st) h o := by
  refine ⟨hk.1, fun p l e R s m args below meth c D ad ac A ad0 n0 H locs cells slots mc ms ls hx => ?_⟩
  obtain ⟨F, hR, hC, hAd, hA, hS, hP, hK, hO, hL, hT, hls, hsc⟩ := hx
  refine va_tb F.1 F.2.1 ((hO.1 i hi).1 0 Nat.zero_lt_one).2.2.2 hS hj (v := .int v) (by rw [← hv]; rfl) hd ?_
  exact hk.2 p l e R s m args below meth c D ad ac A ad0 n0 H locs cells slots mc ms ls ⟨F, hR, hC, hAd, hA, hS, hP, hK, hO, hL, ⟨trivial, hT.2.2⟩, hls, hsc⟩
theorem V.compact (hd : decode cc pc = .ok (.getstatic idx, 3)) (hl : Cond.fieldLink y.cls idx "java/lang/String" "COMPACT_STRINGS" "Z" ∈ xT) (hk : V d y cc nL rt hh sc (pc + 3) lv (.int 1 :: st) h o) : V d y cc nL rt hh sc pc lv st h o := by
  refine ⟨hk.1, fun p l e R s m args below meth c D ad ac A ad0 n0 H locs cells slots mc ms ls hx => ?_⟩
  obtain ⟨F, hR, hC, hAd, hA, hS, hP, hK, hO, hL, hT, hls, hsc⟩ := hx
  refine va_gets F.1 F.2.1 hO.2.2.2.2.2.1 hS F.2.2.2.2.1 (F.2.2.2.2.2.1 _ hl) (fun _ h9 => h9) hd ?_
  exact hk.2 p l e R s m args below meth c D ad ac A ad0 n0 H locs cells slots mc ms ls ⟨F, hR, hC, hAd, hA, hS, hP, hK, hO, hL, ⟨trivial, hT⟩, hls, hsc⟩
theorem V.sioobe (hd : decode cc pc = .ok (.getstatic idx, 3)) (hl : Cond.fieldLink y.cls idx "jdk/internal/util/Preconditions" "SIOOBE_FORMATTER" "Ljava/util/function/BiFunction;" ∈ xT) (hk : V d y cc nL rt hh sc (pc + 3) lv (.null :: st) h o) (hk2 : V d y cc nL rt hh sc (pc + 3) lv (.ref 1000004000 :: st) h o) : V d y cc nL rt hh sc pc lv st h o := by
  refine ⟨hk.1, fun p l e R s m args below meth c D ad ac A ad0 n0 H locs cells slots mc ms ls hx => ?_⟩
  obtain ⟨F, hR, hC, hAd, hA, hS, hP, hK, hO, hL, hT, hls, hsc⟩ := hx
  rcases hO.2.2.2.2.1 with hz | hz
  · refine va_gets F.1 F.2.1 hz hS F.2.2.2.2.1 (F.2.2.2.2.2.1 _ hl) (fun _ h9 => h9) hd ?_
    exact hk.2 p l e R s m args below meth c D ad ac A ad0 n0 H locs cells slots mc ms ls ⟨F, hR, hC, hAd, hA, hS, hP, hK, hO, hL, ⟨trivial, hT⟩, hls, hsc⟩
  · refine va_gets F.1 F.2.1 hz hS F.2.2.2.2.1 (F.2.2.2.2.2.1 _ hl) (fun _ h9 => h9) hd ?_
    exact hk2.2 p l e R s m args below meth c D ad ac A ad0 n0 H locs cells slots mc ms ls ⟨F, hR, hC, hAd, hA, hS, hP, hK, hO, hL, ⟨Or.inr (by decide), hT⟩, hls, hsc⟩
/-- a call of a string's method -/
theorem V.callStr {i : Nat} (hi : i < 47) (hd : decode cc pc = .ok (.invokevirtual idx, 3)) (hw : xCL y.cls idx yc cc' nL' rt' n) (hst : Cond.instanceMethod yc ∈ xT ∧ Cond.selects "java/lang/String" yc yc ∈ xT) (hdd : d' + 1 ≤ d) (hn : As.length = n) (hcat : (st.map fun v => v.category).sum ≤ 8) (hstk : As.reverse ++ .ref (xS0 + 2 * i) :: st = stk)
    (hE : Ev d' yc cc' nL' rt' [] (.ref (xS0 + 2 * i) :: As) h (.inl r, h')) (hk : V d y cc nL rt hh sc (pc + 3) lv (r.toList ++ st) h' o) : V d y cc nL rt hh sc pc lv stk h o := by
  subst hstk
  refine ⟨⟨Nat.le_trans hE.1.1 hk.1.1, Nat.le_trans hE.1.2 hk.1.2⟩, fun p l e R s m args below meth c D ad ac A ad0 n0 H locs cells slots mc ms ls hx => ?_⟩
  have hx0 := hx
  obtain ⟨F, hR, hC, hAd, hA, hS, hP, hK, hO, hL, hT, hls, hsc⟩ := hx
  have hts := F.2.2.2.2.2.1
  have hokA : okS h.1.length (.ref (xS0 + 2 * i) :: As) := by
    have := okS_rev (okS_left hT)
    rw [List.reverse_reverse] at this
    exact ⟨(okS_right hT).1, this⟩
  have hM := hE.2 l { frames := d' + 20, locals := 64 * d' + 400, cells := h'.2.1 - h.2.1, slots := h'.2.2 - h.2.2 } D ad ac H.size F.2.2.2.2.2.2.2.2.2 (Nat.le_refl _) (Nat.le_refl _) rfl rfl hokA
  have hcb := callB_of (R := R) (own := y.cls) (index := idx) (y := yc) (bytes := cc') (maxL := nL') (ret := rt') (rm := { frames := d' + 20, locals := 64 * d' + 400, cells := h'.2.1 - h.2.1, slots := h'.2.2 - h.2.2 }) n hts (xT_GoodIn hw.2.1) rfl rfl rfl (hts _ hw.2.2.1) (hts _ hw.1) hw.2.2.2.1 ⟨xfrm hdd hR.1, xloc hdd hR.2.1 hw.2.2.2.2⟩
  have e1 := hE.1.1
  have e2 := hE.1.2
  have k1 := hk.1.1
  have k2 := hk.1.2
  refine xBack (As := .ref (xS0 + 2 * i) :: As) (r := r) hx0 hE.1 (okS_right hT).2 hk ?_
  exact vx_runV (Ts := xT) (own := y.cls) (C := "java/lang/String") (cc := cc) (nL := nL) (b := ad (xS0 + 2 * i)) (As := As.map (xv ad)) (rest := st.map (xv ad)) (g := F0 m pc ls ((As.reverse ++ .ref (xS0 + 2 * i) :: st).map (xv ad))) ⟨F.1, F.2.1, F.2.2.1, F.2.2.2.2.1, hts⟩ hM ⟨hcb, hts _ hst.1, hts _ hst.2⟩ ⟨xblind, vk_recv (adK := fun _ => ad (xS0 + 2 * i)) (i := 0) (hO.1 i hi) Nat.zero_lt_one hS, fun U hU hW => xPre (As := .ref (xS0 + 2 * i) :: As) hA hS hP hK hO hU hW⟩ rfl (by rw [List.length_map]; exact hn) hls.1 (xrev As (.ref (xS0 + 2 * i) :: st)) (lv_room (by rw [xcats]; exact hcat)) hd
    ⟨by have := hC.1; have := hR.2.2.1; dsimp only at *; omega, by have := hC.2; have := hR.2.2.2; dsimp only at *; omega⟩
/-- throw new E("text") -/
def xTh (own : String) (ik ic : Nat) (cls : String) (names : List String) : Prop := Bundle.fit cls = true ∧ (∀ n ∈ names, Bundle.fit n = true) ∧ Cond.classLink own ik cls ∈ xT ∧ Cond.initialized cls ∈ xT ∧ (∀ w ∈ vx_atS own ic cls names, w ∈ xT ∨ w ∈ xNw) ∧
  (∀ w ∈ Cond.classLink own ik cls :: Cond.initialized cls :: vx_atS own ic cls names, vx_ot w = true) ∧ names.length ≤ 4
theorem xNw_use {ad : Nat → Nat} {A : Nat → Prop} {s : State} {H : Heap} {args : Array Value} (hO : xOW ad A s H) {w : Cond} (hw : w ∈ xNw) : w.before args s = true := by
  have h1 := hO.2.2.2.2.2.2.1 w hw
  have h2 := xNw_kind w hw
  cases w <;> first | (cases h2; done) | exact h1.use rfl
theorem xThX {cls : String} {p : Program} {l : Launch} {R : Room} {s : State} {m : MethodId} {args : Array Value} {meth : Method} {c : Code} {D : va_G} {ad : Nat → Nat} {ac : Nat → ClassId} {A : Nat → Prop} {ad0 : Nat → Nat} {n0 : Nat} {H : Heap} {locs : List Loc} {cells slots mc ms : Nat} {ls : Array Slot}
    (hx : xCx d y cc nL rt hh sc lv st h (.inr cls, (h.1, h.2.1 + 1, h.2.2 + 6)) p l R s m args meth c D ad ac A ad0 n0 H locs cells slots mc ms ls) (t : State) (hal : s.vm.Alike t.vm) (hz : H.size ≤ t.heap.size) (hq : ∀ q : Nat, q < H.size → t.heap[q]? = H[q]?) : xX D ad0 n0 A (.inr cls, (h.1, h.2.1 + 1, h.2.2 + 6)) cls s t := by
  obtain ⟨F, hR, hC, hAd, hA, hS, hP, hK, hO, hL, hT, hls, hsc⟩ := hx
  refine ⟨⟨ad, ac, rfl, hAd.1, hAd.2, ?_⟩, Nat.le_trans hS.1 hz, fun q h1 h2 => (hq q (Nat.lt_of_lt_of_le h1 hS.1)).trans (hS.2.1 q h1 h2)⟩
  have h1 := hP.moved hal
  exact ⟨hP.1.kept (fun k q hk => hq _ ((hP.1 k q hk).lt)), h1.2⟩
theorem V.throwS {ik ic : Nat} {cls : String} {names : List String} {i : Nat} (hw : xTh y.cls ik ic cls names) (hs : (y.cls, idx, i) ∈ xStrs) (d0 : decode cc pc = .ok (.new ik, 3)) (d3 : decode cc (pc + 3) = .ok (.dup, 1)) (d4 : decode cc (pc + 4) = .ok (.ldc idx, 2)) (d6 : decode cc (pc + 6) = .ok (.invokespecial ic, 3)) (d9 : decode cc (pc + 9) = .ok (.athrow, 1))
    (hno : ∀ q ∈ tableOf hh, covers q (pc + 9) = false) (hcat : (st.map fun v => v.category).sum ≤ 8) : V d y cc nL rt hh sc pc lv st h (.inr cls, (h.1, h.2.1 + 1, h.2.2 + 6)) := by
  refine ⟨⟨Nat.le_succ _, Nat.le_add_right _ _⟩, fun p l e R s m args below meth c D ad ac A ad0 n0 H locs cells slots mc ms ls hx => ?_⟩
  have hx0 := hx
  obtain ⟨F, hR, hC, hAd, hA, hS, hP, hK, hO, hL, hT, hls, hsc⟩ := hx
  have hts := F.2.2.2.2.2.1
  obtain ⟨w1, w2, w3, w4, w5, w6, w7⟩ := hw
  exact vx_throwS F.1 F.2.1 F.2.2.2.2.2.2.2.2.2 F.2.2.2.2.1 w1 w2 (hts _ w3) (hts _ w4) (hO.2.1 _ hs) (fun w hw => (w5 w hw).elim (hts w) (xNw_use hO)) w6 hO.2.2.1 hO.2.2.2.1 hS (by rw [F.2.2.1]; exact hls.1) d0 d3 d4 d6 d9 (by rw [F.2.2.2.2.2.2.2.1]; exact hno)
    (by have := hR.1; omega) (by rw [xcats]; have := hR.2.1; omega) (by have := hC.1; have := hR.2.2.1; dsimp only at *; omega) (by have := hC.2; have := hR.2.2.2; dsimp only at *; omega) F.2.2.2.2.2.2.1 (xThX hx0) hS.2.2 (by have := hC.1; dsimp only at *; omega) (by have := hC.2; dsimp only at *; omega)
theorem V.throwSW {ik ic : Nat} {cls : String} {names : List String} {i : Nat} (hw : xTh y.cls ik ic cls names) (hs : (y.cls, idx, i) ∈ xStrs) (d0 : decode cc pc = .ok (.new ik, 3)) (d3 : decode cc (pc + 3) = .ok (.dup, 1)) (d4 : decode cc (pc + 4) = .ok (.ldc_w idx, 3)) (d7 : decode cc (pc + 7) = .ok (.invokespecial ic, 3)) (d10 : decode cc (pc + 10) = .ok (.athrow, 1))
    (hno : ∀ q ∈ tableOf hh, covers q (pc + 10) = false) (hcat : (st.map fun v => v.category).sum ≤ 8) : V d y cc nL rt hh sc pc lv st h (.inr cls, (h.1, h.2.1 + 1, h.2.2 + 6)) := by
  refine ⟨⟨Nat.le_succ _, Nat.le_add_right _ _⟩, fun p l e R s m args below meth c D ad ac A ad0 n0 H locs cells slots mc ms ls hx => ?_⟩
  have hx0 := hx
  obtain ⟨F, hR, hC, hAd, hA, hS, hP, hK, hO, hL, hT, hls, hsc⟩ := hx
  have hts := F.2.2.2.2.2.1
  obtain ⟨w1, w2, w3, w4, w5, w6, w7⟩ := hw
  exact vx_throwSW F.1 F.2.1 F.2.2.2.2.2.2.2.2.2 F.2.2.2.2.1 w1 w2 (hts _ w3) (hts _ w4) (hO.2.1 _ hs) (fun w hw => (w5 w hw).elim (hts w) (xNw_use hO)) w6 hO.2.2.1 hO.2.2.2.1 hS (by rw [F.2.2.1]; exact hls.1) d0 d3 d4 d7 d10 (by rw [F.2.2.2.2.2.2.2.1]; exact hno)
    (by have := hR.1; omega) (by rw [xcats]; have := hR.2.1; omega) (by have := hC.1; have := hR.2.2.1; dsimp only at *; omega) (by have := hC.2; have := hR.2.2.2; dsimp only at *; omega) F.2.2.2.2.2.2.1 (xThX hx0) hS.2.2 (by have := hC.1; dsimp only at *; omega) (by have := hC.2; dsimp only at *; omega)
/-- the callee throws, and the row x of this method's table takes it: its handler begins with a store that nobody reads -/
theorem V.callVC {b ci : Nat} {fs : List Value} {C : String} {T : u_T} {N k : Nat} {n' : Nat} {name : String} {pre suf : List ExceptionTableEntry} {x : ExceptionTableEntry} (hd : decode cc pc = .ok (.invokevirtual idx, 3)) (hw : xCL y.cls idx yc cc' nL' rt' n) (hst : Cond.instanceMethod yc ∈ xT ∧ Cond.selects C yc yc ∈ xT) (hdd : d' + 1 ≤ d) (hn : As.length = n) (hcat : (st.map fun v => v.category).sum ≤ 8) (hstk : As.reverse ++ .ref b :: st = stk)
    (hg : h.1[b]? = some (.inr (ci, fs))) (hc : vwCl[ci]? = some (C, T, N)) (hE : Ev d' yc cc' nL' rt' [] (.ref b :: As) h (.inr E0, h')) (hsplit : tableOf hh = pre ++ x :: suf) (hpre : ∀ z ∈ pre, z.catchType ≠ 0 ∧ ∃ nm : String, Cond.classLink y.cls z.catchType nm ∈ xT ∧ nm ∈ xExc ∧ E0 ≠ nm) (hE0 : E0 ∈ xExc)
    (hcov : covers x pc = true) (h0 : x.catchType ≠ 0) (hlink : Cond.classLink y.cls x.catchType name ∈ xT) (hcast : Cond.castable E0 name ∈ xNw) (hast : (∃ j : Fin 4, decode cc x.handlerPc = .ok (.astore_n j, 1) ∧ (j : Nat) = k) ∧ n' = x.handlerPc + 1 ∨ decode cc x.handlerPc = .ok (.astore k, 2) ∧ n' = x.handlerPc + 2) (hkL : k < nL)
    (hk : V d y cc nL rt hh sc n' (lv.filter (fun q => !(q.1 == k) && !(q.1 + 1 == k && q.2.category == 2))) [] h' o) : V d y cc nL rt hh sc pc lv stk h o := by
  subst hstk
  refine ⟨⟨Nat.le_trans hE.1.1 hk.1.1, Nat.le_trans hE.1.2 hk.1.2⟩, fun p l e R s m args below meth c D ad ac A ad0 n0 H locs cells slots mc ms ls hx => ?_⟩
  have hr := xRunV (p := p) (l := l) (e := e) (below := below) hx hk.1 hd hw hst hdd hn hcat hg hc hE
  have hE1 := hE.1
  obtain ⟨F, hR, hC, hAd, hA, hS, hP, hK, hO, hL, hT, hls, hsc⟩ := hx
  have hts := F.2.2.2.2.2.1
  have hAA := xAA hA hS hP
  intro T0 hT0 X
  rcases hr T0 hT0 X with ⟨v, st₀, t, T', L, e0, X', hLf, e1, e2, ⟨⟨r1, ad1, ac1, hbad, -⟩, -⟩, -⟩ | ⟨q, st₀, t, T', L, E, ce, e0, X', hLf, e1, e2, ⟨⟨ad1, ac1, hE1', hsm, hn1, hP1⟩, hF⟩, hce, hcv, hcl, stp⟩
  · cases hbad
  · cases hE1'
    obtain ⟨k1, k2, k3⟩ := vx_keep e0 e1 hS (fun q _ hq => hAA q hq) hAA hLf hF
    have hal : t.vm.Alike s.vm := by rw [← e2]; exact X'.warmed.alike.symm
    have hP2 : xP D ad1 ac1 h'.1 A s T'.heap := by rw [e1]; exact (hP1.weaken hAA).moved hal
    have hls1 : lv_has ls nL (lv.map (xl ad1)) := by rw [xl_congr hsm hL]; exact hls
    have hgo : ∀ ls' : Array Slot, lv_has ls' nL ((lv.filter (fun q => !(q.1 == k) && !(q.1 + 1 == k && q.2.category == 2))).map (xl ad1)) → W p l e R s m args below meth c T'.heap (locs ++ L) (cells + (h'.2.1 - h.2.1)) (slots + (h'.2.2 - h.2.2)) (vx_MQ below (xQ D ad0 n0 A o) (xX D ad0 n0 A o) args s mc ms A) (F0 m n' ls' []) := fun ls' hl' =>
      hk.2 p l e R s m args below meth c D ad1 ac1 A ad0 n0 T'.heap (locs ++ L) (cells + (h'.2.1 - h.2.1)) (slots + (h'.2.2 - h.2.2)) mc ms ls'
      ⟨F, hR, ⟨by have := hC.1; have := hE1.1; dsimp only at *; omega, by have := hC.2; have := hE1.2; dsimp only at *; omega⟩, ⟨xSm_trans hsm hAd.1 hAd.2, Nat.le_trans hAd.2 hn1⟩, hA, k3, hP2, hK, hO.congr hsm, okL_mono hn1 (okL_filter hL), trivial, hl', fun q hq => by rw [hsm xSC (Or.inr (by decide))]; exact hsc q hq⟩
    have hW : W p l e R s m args below meth c T'.heap (locs ++ L) (cells + (h'.2.1 - h.2.1)) (slots + (h'.2.2 - h.2.2)) (vx_MQ below (xQ D ad0 n0 A o) (xX D ad0 n0 A o) args s mc ms A) (F0 m x.handlerPc ls [.ref q]) := by
      rcases hast with ⟨⟨j, hj, hjk⟩, rfl⟩ | ⟨hj, rfl⟩
      · exact lv_astore_n F.1 F.2.1 hj hjk hls1 hkL rfl (fun ls' hl' => hgo ls' (by rw [xl_filter1]; exact ⟨hl'.1, hl'.2.1, fun z hz => hl'.2.2 z (List.mem_cons_of_mem _ hz)⟩))
      · exact lv_astore F.1 F.2.1 hj hls1 hkL rfl (fun ls' hl' => hgo ls' (by rw [xl_filter1]; exact ⟨hl'.1, hl'.2.1, fun z hz => hl'.2.2 z (List.mem_cons_of_mem _ hz)⟩))
    have hcatch := vx_catch (p := p) (l := l) (e := e) (R := R) (s := s) (m := m) (args := args) (below := below) (meth := meth) (c := c) (H := T'.heap) (locs := locs ++ L) (ls := ls) (rest := st.map (xv ad)) (pc := pc) (own := y.cls) (name := name) (E := E0) (ce := ce) (q := q) F.2.2.2.2.1 pre x suf (by rw [F.2.2.2.2.2.2.2.1]; exact hsplit)
      (fun z hz => by
        obtain ⟨a1, nm, a2, a3, a4⟩ := hpre z hz
        exact Or.inr ⟨a1, nm, hts _ a2, hO.2.2.2.2.2.2.2.2.2 E0 hE0 nm a3 a4⟩) hcov h0 (hts _ hlink) (xNw_use hO hcast) (by rw [e1]; exact hce) hcv hcl hW
    obtain ⟨t2, a1, b1⟩ := hcatch T' rfl X'
    exact ⟨t2, stp.trans a1, b1⟩
end Str
