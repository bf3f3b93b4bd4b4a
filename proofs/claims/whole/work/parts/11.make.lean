/-! ===== rows that make cells; constants; Math; copies ===== -/
/-- class ci, made by the entry idx of the class own: its fields at first -/
def xNC (own : String) (idx ci N : Nat) (fs : List Value) : Prop := ∃ (C : String) (T : u_T) (ty : Nat → FieldType), vwCl[ci]? = some (C, T, N) ∧ (∀ w ∈ u_ws C T N, w ∈ xT) ∧ (∀ k, k < N → parseFieldDescriptor (T k).2.2.1 = some (ty k)) ∧
  Cond.classLink own idx C ∈ xT ∧ Cond.instantiable C N ∈ xT ∧ Cond.initialized C ∈ xT ∧ (∀ j, j < N → defaultValue (ty j) = vp_V fs j) ∧ (∀ v ∈ fs, ∀ a, v ≠ .ref a)
theorem noref_map {ad : Nat → Nat} : ∀ {fs : List Value} (_ : ∀ v ∈ fs, ∀ a, v ≠ .ref a), fs.map (xv ad) = fs
  | [], _ => rfl
  | v :: r, h => by
    rw [List.map_cons, noref_map (fun w hw => h w (List.mem_cons_of_mem _ hw))]
    have : xv ad v = v := by
      cases v with
      | ref a => exact absurd rfl (h _ List.mem_cons_self a)
      | _ => rfl
    rw [this]
theorem noref_ok {n : Nat} : ∀ {fs : List Value} (_ : ∀ v ∈ fs, ∀ a, v ≠ .ref a), okS n fs
  | [], _ => trivial
  | v :: r, h => by
    refine ⟨?_, noref_ok (fun w hw => h w (List.mem_cons_of_mem _ hw))⟩
    cases v with
    | ref a => exact absurd rfl (h _ List.mem_cons_self a)
    | _ => trivial
section Make
variable {d : Nat} {y : MethodName} {cc : ByteArray} {nL : Nat} {rt : Option FieldType} {hh : List (Nat × Nat × Nat × Nat)} {sc : Option (Nat × (Nat → Int32))} {pc : Nat} {lv : List (Nat × Value)} {st : List Value} {h : xH} {o : xO}
/-- behind a making: the new cell has the next place -/
theorem xPush {x : xC} {N pc' : Nat} {p : Program} {l : Launch} {e : Env} {R : Room} {s : State} {m : MethodId} {args : Array Value} {below : List Frame} {meth : Method} {c : Code} {D : va_G} {ad : Nat → Nat} {ac : Nat → ClassId} {A : Nat → Prop} {ad0 : Nat → Nat} {n0 : Nat} {H H1 : Heap} {locs : List Loc} {cells slots mc ms q : Nat} {cA : ClassId} {ls : Array Slot} {stk : List Value}
    (hx : xCx d y cc nL rt hh sc lv stk h o p l R s m args meth c D ad ac A ad0 n0 H locs cells slots mc ms ls) (hst : okS h.1.length st) (hlen : h.1.length < xS0) (hk : V d y cc nL rt hh sc pc' lv (.ref h.1.length :: st) (h.1 ++ [x], h.2.1 + 1, h.2.2 + N) o)
    (hok : okC (h.1.length + 1) x) (hT : ∀ ty z, x = .inl (ty, z) → ArrOfT s cA ty ∧ va_RA s cA ty) (h1 : va_P D vwCl (xw ad ac h.1 ++ [(q, xe (xup ad h.1.length q) cA x)]) H1) (h2 : va_D A (xw ad ac h.1 ++ [(q, xe (xup ad h.1.length q) cA x)])) (h3 : va_S A s.heap H1 locs) :
    W p l e R s m args below meth c H1 locs (cells + 1) (slots + N) (vx_MQ below (xQ D ad0 n0 A o) (xX D ad0 n0 A o) args s mc ms A) (F0 m pc' ls (.ref q :: st.map (xv ad))) := by
  obtain ⟨F, hR, hC, hAd, hA, hS, hP, hK, hO, hL, hTT, hls, hsc⟩ := hx
  have hsm : xSm h.1.length (xup ad h.1.length q) ad := xup_Sm hlen
  have hl1 : (h.1 ++ [x]).length = h.1.length + 1 := by simp
  have hgo := hk.2 p l e R s m args below meth c D (xup ad h.1.length q) (xupC ac h.1.length cA) A ad0 n0 H1 locs (cells + 1) (slots + N) mc ms ls
    ⟨F, hR, ⟨by have := hC.1; dsimp only; omega, by have := hC.2; dsimp only; omega⟩, ⟨xSm_trans hsm hAd.1 hAd.2, by rw [hl1]; exact Nat.le_succ_of_le hAd.2⟩, hA, h3, hP.push hlen hok hT h1 h2, hK, hO.congr hsm, by rw [hl1]; exact okL_mono (Nat.le_succ _) hL,
      by rw [hl1]; exact ⟨Or.inl (Nat.lt_succ_self _), okS_mono (Nat.le_succ _) hst⟩, by rw [xl_congr hsm hL]; exact hls, fun z hz => by rw [hsm xSC (Or.inr (by decide))]; exact hsc z hz⟩
  have e1 : (Value.ref h.1.length :: st).map (xv (xup ad h.1.length q)) = .ref q :: st.map (xv ad) := by
    rw [List.map_cons, xvs_congr hsm hst]
    simp [xv, xup]
  rw [e1] at hgo
  exact hgo
theorem V.new {idx ci N : Nat} {fs : List Value} (hd : decode cc pc = .ok (.new idx, 3)) (hw : xNC y.cls idx ci N fs) (hlen : h.1.length < xS0) (hk : V d y cc nL rt hh sc (pc + 3) lv (.ref h.1.length :: st) (h.1 ++ [.inr (ci, fs)], h.2.1 + 1, h.2.2 + N) o) : V d y cc nL rt hh sc pc lv st h o := by
  obtain ⟨C, T, ty, hc, hin, hty, hcl, hinst, hini, hfs, hnr⟩ := hw
  refine ⟨⟨by have := hk.1.1; dsimp only at this; omega, by have := hk.1.2; dsimp only at this; omega⟩, fun p l e R s m args below meth c D ad ac A ad0 n0 H locs cells slots mc ms ls hx => ?_⟩
  have hx0 := hx
  obtain ⟨F, hR, hC, hAd, hA, hS, hP, hK, hO, hL, hT, hls, hsc⟩ := hx
  have hts := F.2.2.2.2.2.1
  have k1 := hk.1.1
  have k2 := hk.1.2
  dsimp only at k1 k2
  refine va_new F.1 F.2.1 hts hin ty hty F.2.2.2.2.1 (hts _ hcl) (hts _ hinst) (hts _ hini) hK hP.1 hP.2.1 hS hA hc hfs (by have := hC.1; have := hR.2.2.1; omega) (by have := hC.2; have := hR.2.2.2; omega) hd (fun q H1 h1 h2 h3 => ?_)
  exact xPush (cA := 0) hx0 hT hlen hk (noref_ok hnr) (fun _ _ e => nomatch e) (by show va_P D vwCl (_ ++ [(q, .inr (ci, fs.map _))]) H1; rw [noref_map hnr]; exact h1) (by show va_D A (_ ++ [(q, .inr (ci, fs.map _))]); rw [noref_map hnr]; exact h2) h3
theorem V.newI {at_ : ArrayType} {ty : FieldType} {n : Int32} {N : Nat} (hd : decode cc pc = .ok (.newarray at_, 2)) (hty : newarray.typeOf at_ = ty) (hdf : defaultValue ty = .int 0) (harr : Cond.arrayClass ty ∈ xT) (hn : ¬ n < 0) (hN : n.toNatClampNeg = N) (hb : N * componentBytes ty ≤ 536870912) (hlen : h.1.length < xS0)
    (hk : V d y cc nL rt hh sc (pc + 2) lv (.ref h.1.length :: st) (h.1 ++ [.inl (ty, N, .inl (fun _ => 0))], h.2.1 + 1, h.2.2 + N) o) : V d y cc nL rt hh sc pc lv (.int n :: st) h o := by
  refine ⟨⟨by have := hk.1.1; dsimp only at this; omega, by have := hk.1.2; dsimp only at this; omega⟩, fun p l e R s m args below meth c D ad ac A ad0 n0 H locs cells slots mc ms ls hx => ?_⟩
  have hx0 := hx
  obtain ⟨F, hR, hC, hAd, hA, hS, hP, hK, hO, hL, hT, hls, hsc⟩ := hx
  have hts := F.2.2.2.2.2.1
  have k1 := hk.1.1
  have k2 := hk.1.2
  dsimp only at k1 k2
  refine va_newa (a0 := (N, .inl (fun _ => 0))) F.1 F.2.1 (by rw [hty]; exact hts _ harr) hty hK hP.1 hP.2.1 hS hA (fun cA => by rw [hdf]; rfl) hn hN hb (by have := hC.1; have := hR.2.2.1; omega) (by have := hC.2; have := hR.2.2.2; omega) hd (fun q cA H1 hK1 h1 h2 h3 => ?_)
  exact xPush (cA := cA) hx0 hT.2 hlen hk trivial (fun ty1 z e => by cases e; exact hK1.2 0 _ rfl) h1 h2 h3
theorem V.newJ {n : Int32} {N : Nat} (hd : decode cc pc = .ok (.newarray .long, 2)) (harr : Cond.arrayClass .long ∈ xT) (hn : ¬ n < 0) (hN : n.toNatClampNeg = N) (hb : N * componentBytes .long ≤ 536870912) (hlen : h.1.length < xS0)
    (hk : V d y cc nL rt hh sc (pc + 2) lv (.ref h.1.length :: st) (h.1 ++ [.inl (.long, N, .inr (.inl (fun _ => 0)))], h.2.1 + 1, h.2.2 + N) o) : V d y cc nL rt hh sc pc lv (.int n :: st) h o := by
  refine ⟨⟨by have := hk.1.1; dsimp only at this; omega, by have := hk.1.2; dsimp only at this; omega⟩, fun p l e R s m args below meth c D ad ac A ad0 n0 H locs cells slots mc ms ls hx => ?_⟩
  have hx0 := hx
  obtain ⟨F, hR, hC, hAd, hA, hS, hP, hK, hO, hL, hT, hls, hsc⟩ := hx
  have hts := F.2.2.2.2.2.1
  have k1 := hk.1.1
  have k2 := hk.1.2
  dsimp only at k1 k2
  refine va_newa (atype := .long) (ty := .long) (a0 := (N, .inr (.inl (fun _ => 0)))) F.1 F.2.1 (hts _ harr) rfl hK hP.1 hP.2.1 hS hA (fun cA => rfl) hn hN hb (by have := hC.1; have := hR.2.2.1; omega) (by have := hC.2; have := hR.2.2.2; omega) hd (fun q cA H1 hK1 h1 h2 h3 => ?_)
  exact xPush (cA := cA) hx0 hT.2 hlen hk trivial (fun ty1 z e => by cases e; exact hK1.2 0 _ rfl) h1 h2 h3
theorem V.newR {idx : Nat} {C : String} {n : Int32} {N : Nat} (hd : decode cc pc = .ok (.anewarray idx, 3)) (hl : Cond.classLink y.cls idx C ∈ xT) (hC9 : C = "LitNextDoor$House" ∨ C = "LitNextDoor$Lamps") (hn : ¬ n < 0) (hN : n.toNatClampNeg = N) (hb : N * 4 ≤ 536870912) (hlen : h.1.length < xS0)
    (hk : V d y cc nL rt hh sc (pc + 3) lv (.ref h.1.length :: st) (h.1 ++ [.inl (.object C, N, .inr (.inr (fun _ => none)))], h.2.1 + 1, h.2.2 + N) o) : V d y cc nL rt hh sc pc lv (.int n :: st) h o := by
  refine ⟨⟨by have := hk.1.1; dsimp only at this; omega, by have := hk.1.2; dsimp only at this; omega⟩, fun p l e R s m args below meth c D ad ac A ad0 n0 H locs cells slots mc ms ls hx => ?_⟩
  have hx0 := hx
  obtain ⟨F, hR, hC, hAd, hA, hS, hP, hK, hO, hL, hT, hls, hsc⟩ := hx
  have hts := F.2.2.2.2.2.1
  have k1 := hk.1.1
  have k2 := hk.1.2
  dsimp only at k1 k2
  have hover : va_AO C s := by
    rcases hC9 with rfl | rfl
    · exact hO.2.2.2.2.2.2.2.1
    · exact hO.2.2.2.2.2.2.2.2.1
  refine va_newq F.1 F.2.1 F.2.2.2.2.1 (hts _ hl) hover hK hP.1 hP.2.1 hS hA hn hN hb (by have := hC.1; have := hR.2.2.1; omega) (by have := hC.2; have := hR.2.2.2; omega) hd (fun q cA H1 hK1 h1 h2 h3 => ?_)
  exact xPush (cA := cA) hx0 hT.2 hlen hk (fun i a e => nomatch e) (fun ty1 z e => by cases e; exact hK1.2 0 _ rfl) h1 h2 h3
theorem V.objInit {idx a : Nat} (hd : decode cc pc = .ok (.invokespecial idx, 3)) (hl : Cond.methodLink y.cls idx Lib.objectInit ∈ xT) (hi : Cond.instanceMethod Lib.objectInit ∈ xT) (hcd : Cond.code Lib.objectInit ⟨#[0xb1]⟩ 1 none ∈ xT) (hcat : (st.map fun v => v.category).sum ≤ 8)
    (hk : V d y cc nL rt hh sc (pc + 3) lv st h o) : V d y cc nL rt hh sc pc lv (.ref a :: st) h o := by
  refine ⟨hk.1, fun p l e R s m args below meth c D ad ac A ad0 n0 H locs cells slots mc ms ls hx => ?_⟩
  obtain ⟨F, hR, hC, hAd, hA, hS, hP, hK, hO, hL, hT, hls, hsc⟩ := hx
  have hts := F.2.2.2.2.2.1
  refine W.objInit F.1 F.2.1 F.2.2.2.2.1 (hts _ hl) (hts _ hi) (hts _ hcd) rfl (by rw [F.2.2.1]; exact hls.1) rfl hd (by have := hR.1; omega) (by show 2 * 0 + _ + 12 ≤ _; rw [xcats]; have := hR.2.1; omega) ?_
  exact hk.2 p l e R s m args below meth c D ad ac A ad0 n0 H locs cells slots mc ms ls ⟨F, hR, hC, hAd, hA, hS, hP, hK, hO, hL, hT.2, hls, hsc⟩
theorem V.ldc {idx : Nat} {v : Int32} (hd : decode cc pc = .ok (.ldc idx, 2)) (hw : Cond.constant y.cls idx v ∈ xT) (hk : V d y cc nL rt hh sc (pc + 2) lv (.int v :: st) h o) : V d y cc nL rt hh sc pc lv st h o := by
  refine ⟨hk.1, fun p l e R s m args below meth c D ad ac A ad0 n0 H locs cells slots mc ms ls hx => ?_⟩
  obtain ⟨F, hR, hC, hAd, hA, hS, hP, hK, hO, hL, hT, hls, hsc⟩ := hx
  exact lv_ldc F.1 F.2.1 F.2.2.2.2.1 (F.2.2.2.2.2.1 _ hw) hd (hk.2 p l e R s m args below meth c D ad ac A ad0 n0 H locs cells slots mc ms ls ⟨F, hR, hC, hAd, hA, hS, hP, hK, hO, hL, ⟨trivial, hT⟩, hls, hsc⟩)
theorem V.ldcw {idx : Nat} {v : Int32} (hd : decode cc pc = .ok (.ldc_w idx, 3)) (hw : Cond.constant y.cls idx v ∈ xT) (hk : V d y cc nL rt hh sc (pc + 3) lv (.int v :: st) h o) : V d y cc nL rt hh sc pc lv st h o := by
  refine ⟨hk.1, fun p l e R s m args below meth c D ad ac A ad0 n0 H locs cells slots mc ms ls hx => ?_⟩
  obtain ⟨F, hR, hC, hAd, hA, hS, hP, hK, hO, hL, hT, hls, hsc⟩ := hx
  exact lv_ldcw F.1 F.2.1 F.2.2.2.2.1 (F.2.2.2.2.2.1 _ hw) hd (hk.2 p l e R s m args below meth c D ad ac A ad0 n0 H locs cells slots mc ms ls ⟨F, hR, hC, hAd, hA, hS, hP, hK, hO, hL, ⟨trivial, hT⟩, hls, hsc⟩)
theorem V.ldc2 {idx : Nat} {v : Int64} (hd : decode cc pc = .ok (.ldc2_w idx, 3)) (hw : Cond.constantLong y.cls idx v ∈ xT) (hk : V d y cc nL rt hh sc (pc + 3) lv (.long v :: st) h o) : V d y cc nL rt hh sc pc lv st h o := by
  refine ⟨hk.1, fun p l e R s m args below meth c D ad ac A ad0 n0 H locs cells slots mc ms ls hx => ?_⟩
  obtain ⟨F, hR, hC, hAd, hA, hS, hP, hK, hO, hL, hT, hls, hsc⟩ := hx
  exact lv_ldc2 F.1 F.2.1 F.2.2.2.2.1 (F.2.2.2.2.2.1 _ hw) hd (hk.2 p l e R s m args below meth c D ad ac A ad0 n0 H locs cells slots mc ms ls ⟨F, hR, hC, hAd, hA, hS, hP, hK, hO, hL, ⟨trivial, hT⟩, hls, hsc⟩)
end Make
