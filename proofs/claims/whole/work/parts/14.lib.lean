/-! ===== Math, copies, clones, compared references ===== -/
section LibRows
variable {d : Nat} {y : MethodName} {cc : ByteArray} {nL : Nat} {rt : Option FieldType} {hh : List (Nat × Nat × Nat × Nat)} {sc : Option (Nat × (Nat → Int32))} {pc : Nat} {lv : List (Nat × Value)} {st stk : List Value} {h h' : xH} {o : xO} {idx : Nat}
theorem V.mmax {x z : Int32} (hd : decode cc pc = .ok (.invokestatic idx, 3)) (hl : Cond.methodLink y.cls idx Lib.Math.max.name ∈ xT) (hs : Cond.static Lib.Math.max.name ∈ xT) (hi : Cond.initialized "java/lang/Math" ∈ xT) (hcd : Cond.code Lib.Math.max.name Lib.Math.max.code 2 (some .int) ∈ xT) (hcat : (st.map fun v => v.category).sum ≤ 8)
    (hk : V d y cc nL rt hh sc (pc + 3) lv (.int (if x < z then z else x) :: st) h o) : V d y cc nL rt hh sc pc lv (.int z :: .int x :: st) h o := by
  refine ⟨hk.1, fun p l e R s m args below meth c D ad ac A ad0 n0 H locs cells slots mc ms ls hx => ?_⟩
  obtain ⟨F, hR, hC, hAd, hA, hS, hP, hK, hO, hL, hT, hls, hsc⟩ := hx
  have hts := F.2.2.2.2.2.1
  have k1 := hk.1
  refine va_mmax F.1 F.2.1 (F.2.2.1.trans hls.1.symm) F.2.2.2.2.1 (hts _ hl) (hts _ hs) (hts _ hi) (hts _ hcd) (by have := hR.1; omega) (by rw [xcats]; have := hR.2.1; omega) (by have := hC.1; have := hR.2.2.1; omega) (by have := hC.2; have := hR.2.2.2; omega) hd ?_
  exact hk.2 p l e R s m args below meth c D ad ac A ad0 n0 H locs cells slots mc ms ls ⟨F, hR, hC, hAd, hA, hS, hP, hK, hO, hL, ⟨trivial, hT.2.2⟩, hls, hsc⟩
theorem V.mmin {x z : Int32} (hd : decode cc pc = .ok (.invokestatic idx, 3)) (hl : Cond.methodLink y.cls idx Lib.Math.min.name ∈ xT) (hs : Cond.static Lib.Math.min.name ∈ xT) (hi : Cond.initialized "java/lang/Math" ∈ xT) (hcd : Cond.code Lib.Math.min.name Lib.Math.min.code 2 (some .int) ∈ xT) (hcat : (st.map fun v => v.category).sum ≤ 8)
    (hk : V d y cc nL rt hh sc (pc + 3) lv (.int (if z < x then z else x) :: st) h o) : V d y cc nL rt hh sc pc lv (.int z :: .int x :: st) h o := by
  refine ⟨hk.1, fun p l e R s m args below meth c D ad ac A ad0 n0 H locs cells slots mc ms ls hx => ?_⟩
  obtain ⟨F, hR, hC, hAd, hA, hS, hP, hK, hO, hL, hT, hls, hsc⟩ := hx
  have hts := F.2.2.2.2.2.1
  have k1 := hk.1
  refine va_mmin F.1 F.2.1 (F.2.2.1.trans hls.1.symm) F.2.2.2.2.1 (hts _ hl) (hts _ hs) (hts _ hi) (hts _ hcd) (by have := hR.1; omega) (by rw [xcats]; have := hR.2.1; omega) (by have := hC.1; have := hR.2.2.1; omega) (by have := hC.2; have := hR.2.2.2; omega) hd ?_
  exact hk.2 p l e R s m args below meth c D ad ac A ad0 n0 H locs cells slots mc ms ls ⟨F, hR, hC, hAd, hA, hS, hP, hK, hO, hL, ⟨trivial, hT.2.2⟩, hls, hsc⟩
theorem V.mabs {x : Int32} (hd : decode cc pc = .ok (.invokestatic idx, 3)) (hl : Cond.methodLink y.cls idx Lib.Math.abs.name ∈ xT) (hs : Cond.static Lib.Math.abs.name ∈ xT) (hi : Cond.initialized "java/lang/Math" ∈ xT) (hcd : Cond.code Lib.Math.abs.name Lib.Math.abs.code 1 (some .int) ∈ xT) (hcat : (st.map fun v => v.category).sum ≤ 8)
    (hk : V d y cc nL rt hh sc (pc + 3) lv (.int (if 0 ≤ x then x else 0 - x) :: st) h o) : V d y cc nL rt hh sc pc lv (.int x :: st) h o := by
  refine ⟨hk.1, fun p l e R s m args below meth c D ad ac A ad0 n0 H locs cells slots mc ms ls hx => ?_⟩
  obtain ⟨F, hR, hC, hAd, hA, hS, hP, hK, hO, hL, hT, hls, hsc⟩ := hx
  have hts := F.2.2.2.2.2.1
  have k1 := hk.1
  refine va_mabs F.1 F.2.1 (F.2.2.1.trans hls.1.symm) F.2.2.2.2.1 (hts _ hl) (hts _ hs) (hts _ hi) (hts _ hcd) (by have := hR.1; omega) (by rw [xcats]; have := hR.2.1; omega) (by have := hC.1; have := hR.2.2.1; omega) (by have := hC.2; have := hR.2.2.2; omega) hd ?_
  exact hk.2 p l e R s m args below meth c D ad ac A ad0 n0 H locs cells slots mc ms ls ⟨F, hR, hC, hAd, hA, hS, hP, hK, hO, hL, ⟨trivial, hT.2⟩, hls, hsc⟩
theorem xK2 {D : va_G} {U : State} {cA cB : ClassId} {ty ty' : FieldType} (hK : va_K D vwCl [] U) (h : ArrOfT U cA ty ∧ va_RA U cA ty) (h' : ArrOfT U cB ty' ∧ va_RA U cB ty') : va_K D vwCl [(cA, ty), (cB, ty')] U := by
  refine ⟨hK.1, fun k q hq => ?_⟩
  match k, hq with
  | 0, hq => cases hq; exact h
  | 1, hq => cases hq; exact h'
  | k + 2, hq => simp at hq
theorem V.copy {a b na nb : Nat} {f g : Nat → Int32} {sp dp n : Int32} (hd : decode cc pc = .ok (.invokestatic idx, 3)) (hl : Cond.methodLink y.cls idx arraycopyName ∈ xT) (hn : Cond.native arraycopyName ∈ xT) (hs : Cond.static arraycopyName ∈ xT) (hi : Cond.initialized "java/lang/System" ∈ xT) (hcat : (st.map fun v => v.category).sum ≤ 8)
    (hga : h.1[a]? = some (.inl (.int, na, .inl f))) (hgb : h.1[b]? = some (.inl (.int, nb, .inl g))) (h1 : ¬ sp < 0) (h2 : ¬ dp < 0) (h3 : ¬ n < 0) (h4 : sp.toNatClampNeg + n.toNatClampNeg ≤ na) (h5 : dp.toNatClampNeg + n.toNatClampNeg ≤ nb)
    (hk : V d y cc nL rt hh sc (pc + 3) lv st (h.1.set b (.inl (.int, nb, .inl (va_cpy f g sp.toNatClampNeg dp.toNatClampNeg n.toNatClampNeg))), h.2) o) : V d y cc nL rt hh sc pc lv (.int n :: .int dp :: .ref b :: .int sp :: .ref a :: st) h o := by
  refine ⟨hk.1, fun p l e R s m args below meth c D ad ac A ad0 n0 H locs cells slots mc ms ls hx => ?_⟩
  obtain ⟨F, hR, hC, hAd, hA, hS, hP, hK, hO, hL, hT, hls, hsc⟩ := hx
  have hts := F.2.2.2.2.2.1
  refine va_copyi F.1 F.2.1 (F.2.2.1.trans hls.1.symm) F.2.2.2.2.1 (hts _ hl) (hts _ hn) (hts _ hs) (hts _ hi) (xK2 hK (hP.2.2.1 a _ _ hga) (hP.2.2.1 b _ _ hgb)) hP.1 hP.2.1 hS a b 0 1 (xw_get hga) (xw_get hgb) rfl rfl rfl h1 h2 h3 h4 h5 (fun _ _ => rfl) (by have := hR.1; omega)
    (by rw [xcats]; have h9 : nativeFrameWords "java/lang/System" "arraycopy" 5 + 11 ≤ 100 := by decide
        have := hR.2.1; omega) hd (fun H1 locs1 q1 q2 q3 => ?_)
  have hP1 : xP D ad ac (h.1.set b (.inl (.int, nb, .inl (va_cpy f g sp.toNatClampNeg dp.toNatClampNeg n.toNatClampNeg)))) A s H1 := hP.set hgb trivial (fun _ _ e => by cases e; exact ⟨_, rfl⟩) q1 q2
  exact hk.2 p l e R s m args below meth c D ad ac A ad0 n0 H1 locs1 cells slots mc ms ls ⟨F, hR, hC, by simpa using hAd, hA, q3, hP1, hK, hO, by simpa using hL, by simpa using hT.2.2.2.2.2, hls, hsc⟩
/-- int[].clone(), with the cast behind it -/
theorem V.cloneI {a n idx2 : Nat} {f : Nat → Int32} (hd : decode cc pc = .ok (.invokevirtual idx, 3)) (hd2 : decode cc (pc + 3) = .ok (.checkcast idx2, 3)) (hl : Cond.methodLink y.cls idx ⟨"[I", "clone", "()Ljava/lang/Object;"⟩ ∈ xT) (hsm : Cond.sameMethod "[I" "java/lang/Object" "clone" "()Ljava/lang/Object;" ∈ xT) (hn : Cond.native ⟨"java/lang/Object", "clone", "()Ljava/lang/Object;"⟩ ∈ xT)
    (hin : Cond.instanceMethod ⟨"java/lang/Object", "clone", "()Ljava/lang/Object;"⟩ ∈ xT) (hsel : Cond.selects "[I" ⟨"[I", "clone", "()Ljava/lang/Object;"⟩ ⟨"java/lang/Object", "clone", "()Ljava/lang/Object;"⟩ ∈ xT) (hcast : Cond.castable "[I" "java/lang/Cloneable" ∈ xNw) (hcl : Cond.classLink y.cls idx2 "[I" ∈ xT) (hcat : (st.map fun v => v.category).sum ≤ 8) (hlen : h.1.length < xS0)
    (hg : h.1[a]? = some (.inl (.int, n, .inl f))) (hk : V d y cc nL rt hh sc (pc + 3 + 3) lv (.ref h.1.length :: st) (h.1 ++ [.inl (.int, n, .inl f)], h.2.1 + 1, h.2.2 + n) o) : V d y cc nL rt hh sc pc lv (.ref a :: st) h o := by
  refine ⟨⟨by have := hk.1.1; dsimp only at this; omega, by have := hk.1.2; dsimp only at this; omega⟩, fun p l e R s m args below meth c D ad ac A ad0 n0 H locs cells slots mc ms ls hx => ?_⟩
  have hx0 := hx
  obtain ⟨F, hR, hC, hAd, hA, hS, hP, hK, hO, hL, hT, hls, hsc⟩ := hx
  have hts := F.2.2.2.2.2.1
  have k1 := hk.1.1
  have k2 := hk.1.2
  dsimp only at k1 k2
  have hra : s.vm.findClass "[I" = some (ac a) := (hP.2.2.1 a _ _ hg).2
  refine va_clone (ad := "[I") F.1 F.2.1 (F.2.2.1.trans hls.1.symm) F.2.2.2.2.1 (hts _ hl) (hts _ hsm) (hts _ hn) (hts _ hin) (hts _ hsel) (hO.2.2.2.2.2.2.1 _ hcast) (xK1 hK (hP.2.2.1 a _ _ hg)) hP.1 hP.2.1 hS hA a 0 (xw_get hg) rfl hra
    (fun i v hv => by
      have h9 : (arrV (ac a) n (fun j => Value.int (f j))).slots[i]? = some v := hv
      have hi9 : i < n := by
        have := (Array.getElem?_eq_some_iff.mp h9).1
        rwa [arrV_size] at this
      rw [arrV_read _ _ hi9] at h9
      cases h9
      rfl)
    (by have := hR.1; omega) (by rw [xcats]; have := hR.2.1; omega) (by have := hC.1; have := hR.2.2.1; omega) (by have := hC.2; have := hR.2.2.2; show slots + n ≤ _; omega) hd (fun q H1 hK1 h1 h2 h3 => ?_)
  have hq1 : (xw ad ac h.1 ++ [(q, (.inl (ac a, n, .inl f) : va_E))])[(xw ad ac h.1).length]? = some (q, .inl (ac a, n, .inl f)) := by simp
  refine va_castA F.1 F.2.1 F.2.2.2.2.1 (hts _ hcl) h1 (xw ad ac h.1).length hq1 hra hd2 ?_
  exact xPush (cA := ac a) hx0 hT.2 hlen hk trivial (fun ty1 z e => by cases e; exact hP.2.2.1 a _ _ hg) h1 h2 h3
theorem V.acmp_ne {a b : Nat} {off : Int} {tgt : Nat} (hd : decode cc pc = .ok (.if_acmp .ne off, 3)) (ht : (pc : Int) + off = (tgt : Int)) (ha : a < h.1.length) (hb : b < h.1.length) (h1 : ¬ a = b → V d y cc nL rt hh sc tgt lv st h o) (h2 : a = b → V d y cc nL rt hh sc (pc + 3) lv st h o) : V d y cc nL rt hh sc pc lv (.ref b :: .ref a :: st) h o := by
  refine ⟨?_, fun p l e R s m args below meth c D ad ac A ad0 n0 H locs cells slots mc ms ls hx => ?_⟩
  · by_cases hp : a = b
    · exact (h2 hp).1
    · exact (h1 hp).1
  · obtain ⟨F, hR, hC, hAd, hA, hS, hP, hK, hO, hL, hT, hls, hsc⟩ := hx
    refine lv_acmp_ne (rx := some (ad a)) (ry := some (ad b)) F.1 F.2.1 hd ht (fun hne => ?_) (fun heq => ?_)
    · exact (h1 (fun e1 => hne (by rw [e1]))).2 p l e R s m args below meth c D ad ac A ad0 n0 H locs cells slots mc ms ls ⟨F, hR, hC, hAd, hA, hS, hP, hK, hO, hL, hT.2.2, hls, hsc⟩
    · have e1 : a = b := by
        have hxa : h.1[a]? = some h.1[a] := List.getElem?_eq_getElem ha
        have hxb : h.1[b]? = some h.1[b] := List.getElem?_eq_getElem hb
        exact hP.2.1.1 a b _ _ (xw_get hxa) (xw_get hxb) (Option.some.inj heq)
      exact (h2 e1).2 p l e R s m args below meth c D ad ac A ad0 n0 H locs cells slots mc ms ls ⟨F, hR, hC, hAd, hA, hS, hP, hK, hO, hL, hT.2.2, hls, hsc⟩
/-- null against a thing -/
theorem V.acmp_neN {b : Nat} {off : Int} {tgt : Nat} (hd : decode cc pc = .ok (.if_acmp .ne off, 3)) (ht : (pc : Int) + off = (tgt : Int)) (hk : V d y cc nL rt hh sc tgt lv st h o) : V d y cc nL rt hh sc pc lv (.ref b :: .null :: st) h o := by
  refine ⟨hk.1, fun p l e R s m args below meth c D ad ac A ad0 n0 H locs cells slots mc ms ls hx => ?_⟩
  obtain ⟨F, hR, hC, hAd, hA, hS, hP, hK, hO, hL, hT, hls, hsc⟩ := hx
  exact lv_acmp_ne (rx := none) (ry := some (ad b)) F.1 F.2.1 hd ht (fun _ => hk.2 p l e R s m args below meth c D ad ac A ad0 n0 H locs cells slots mc ms ls ⟨F, hR, hC, hAd, hA, hS, hP, hK, hO, hL, hT.2.2, hls, hsc⟩) (fun e1 => nomatch e1)
end LibRows
