/-! ===== rows of V that read and write cells, returns ===== -/
/-- field k of class ci, by the entry idx of the class own -/
def xFL (own : String) (idx ci k : Nat) (ty : FieldType) (fin : Bool) : Prop := ∃ (C : String) (T : u_T) (N : Nat) (ty0 : Nat → FieldType), vwCl[ci]? = some (C, T, N) ∧ k < N ∧ Cond.fieldLink own idx (T k).1 (T k).2.1 (T k).2.2.1 ∈ xT ∧ (∀ w ∈ u_ws C T N, w ∈ xT) ∧
  (∀ j, j < N → parseFieldDescriptor (T j).2.2.1 = some (ty0 j)) ∧ (∀ a, a < N → ∀ b, b < N → a ≠ b → (T a).2.1 ≠ (T b).2.1) ∧ ty0 k = ty ∧ (T k).2.2.2 = fin ∧ (fin = true → (T k).1 = own)
section VHeap
variable {d : Nat} {y : MethodName} {cc : ByteArray} {nL : Nat} {rt : Option FieldType} {hh : List (Nat × Nat × Nat × Nat)} {sc : Option (Nat × (Nat → Int32))} {pc : Nat} {lv : List (Nat × Value)} {st : List Value} {h : xH} {o : xO}
theorem V.getf {ci k a idx : Nat} {ty : FieldType} {fin : Bool} {fs : List Value} {v : Value} (hd : decode cc pc = .ok (.getfield idx, 3)) (hf : xFL y.cls idx ci k ty fin) (hg : h.1[a]? = some (.inr (ci, fs))) (hv : fs[k]? = some v)
    (hk : V d y cc nL rt hh sc (pc + 3) lv (v :: st) h o) : V d y cc nL rt hh sc pc lv (.ref a :: st) h o := by
  obtain ⟨C, T, N, ty0, hc, hkN, hlink, hin, -⟩ := hf
  refine ⟨hk.1, fun p l e R s m args below meth c D ad ac A ad0 n0 H locs cells slots mc ms ls hx => ?_⟩
  obtain ⟨F, hR, hC, hAd, hA, hS, hP, hK, hO, hL, hT, hls, hsc⟩ := hx
  refine va_get F.1 F.2.1 F.2.2.2.2.2.1 hin F.2.2.2.2.1 hK hP.1 a (fs := fs.map (xv ad)) (xw_get hg) hc k hkN (F.2.2.2.2.2.1 _ hlink) (fun _ h9 => h9) (v := xv ad v) (by rw [List.getElem?_map, hv]; rfl) hd ?_
  exact hk.2 p l e R s m args below meth c D ad ac A ad0 n0 H locs cells slots mc ms ls ⟨F, hR, hC, hAd, hA, hS, hP, hK, hO, hL, ⟨okS_at (hP.2.2.2 a _ hg) hv, hT.2⟩, hls, hsc⟩
theorem V.putf {ci k a idx : Nat} {ty : FieldType} {fin : Bool} {fs : List Value} {v : Value} (hd : decode cc pc = .ok (.putfield idx, 3)) (hf : xFL y.cls idx ci k ty fin) (hi : fin = true → y.name = "<init>") (hn : ∀ ad, narrow ty (xv ad v) = xv ad v) (hfit : ∀ ad, fits ty (xv ad v) = true)
    (hg : h.1[a]? = some (.inr (ci, fs))) (hkl : k < fs.length) (hk : V d y cc nL rt hh sc (pc + 3) lv st (h.1.set a (.inr (ci, fs.set k v)), h.2) o) : V d y cc nL rt hh sc pc lv (v :: .ref a :: st) h o := by
  obtain ⟨C, T, N, ty0, hc, hkN, hlink, hin, hty, hnm, htk, hfin, hown⟩ := hf
  refine ⟨hk.1, fun p l e R s m args below meth c D ad ac A ad0 n0 H locs cells slots mc ms ls hx => ?_⟩
  obtain ⟨F, hR, hC, hAd, hA, hS, hP, hK, hO, hL, hT, hls, hsc⟩ := hx
  have hd1 : parseFieldDescriptor (T k).2.2.1 = some ty := by rw [hty k hkN, htk]
  have key : ∀ (H1 : Heap) (locs1 : List Loc), va_P D vwCl ((xw ad ac h.1).set a (ad a, .inr (ci, (fs.map (xv ad)).set k (xv ad v)))) H1 → va_D A ((xw ad ac h.1).set a (ad a, .inr (ci, (fs.map (xv ad)).set k (xv ad v)))) → va_S A s.heap H1 locs1 →
      W p l e R s m args below meth c H1 locs1 cells slots (vx_MQ below (xQ D ad0 n0 A o) (xX D ad0 n0 A o) args s mc ms A) (F0 m (pc + 3) ls (st.map (xv ad))) := by
    intro H1 locs1 h1 h2 h3
    rw [← List.map_set] at h1 h2
    have hP1 : xP D ad ac (h.1.set a (.inr (ci, fs.set k v))) A s H1 := hP.set hg (okS_set hT.1 (hP.2.2.2 a _ hg) k) (fun _ _ e => by cases e) h1 h2
    refine hk.2 p l e R s m args below meth c D ad ac A ad0 n0 H1 locs1 cells slots mc ms ls ⟨F, hR, hC, ?_, hA, h3, hP1, hK, hO, ?_, ?_, hls, hsc⟩
    · simpa using hAd
    · simpa using hL
    · simpa using hT.2.2
  cases fin with
  | false => exact va_put F.1 F.2.1 F.2.2.2.2.2.1 hin ty0 hty hnm F.2.2.2.2.1 hK hP.1 hP.2.1 hS a (fs := fs.map (xv ad)) (xw_get hg) hc k hkN (F.2.2.2.2.2.1 _ hlink) (fun _ h9 => h9) hfin hd1 (hn ad) (hfit ad) (by simpa using hkl) hd key
  | true => exact va_putF F.1 F.2.1 F.2.2.2.2.2.1 hin ty0 hty hnm F.2.2.2.2.1 hK hP.1 hP.2.1 hS a (fs := fs.map (xv ad)) (xw_get hg) hc k hkN (F.2.2.2.2.2.1 _ hlink) (fun _ h9 => h9) hfin (F.2.2.2.2.2.2.2.2.1.trans (hi rfl)) (hown rfl) hd1 (hn ad) (hfit ad) (by simpa using hkl) hd key
theorem V.iald {a n : Nat} {i : Int32} {f : Nat → Int32} (hd : decode cc pc = .ok (.iaload, 1)) (hg : h.1[a]? = some (.inl (.int, n, .inl f))) (hi : vp_in i n) (hk : V d y cc nL rt hh sc (pc + 1) lv (.int (f i.toNatClampNeg) :: st) h o) : V d y cc nL rt hh sc pc lv (.int i :: .ref a :: st) h o := by
  refine ⟨hk.1, fun p l e R s m args below meth c D ad ac A ad0 n0 H locs cells slots mc ms ls hx => ?_⟩
  obtain ⟨F, hR, hC, hAd, hA, hS, hP, hK, hO, hL, hT, hls, hsc⟩ := hx
  refine va_iald F.1 F.2.1 (xK1 hK (hP.2.2.1 a _ _ hg)) hP.1 a 0 (xw_get hg) rfl hi hd ?_
  exact hk.2 p l e R s m args below meth c D ad ac A ad0 n0 H locs cells slots mc ms ls ⟨F, hR, hC, hAd, hA, hS, hP, hK, hO, hL, ⟨trivial, hT.2.2⟩, hls, hsc⟩
theorem V.bald {a n : Nat} {i : Int32} {f : Nat → Int32} (hd : decode cc pc = .ok (.baload, 1)) (hg : h.1[a]? = some (.inl (.byte, n, .inl f))) (hi : vp_in i n) (hk : V d y cc nL rt hh sc (pc + 1) lv (.int (f i.toNatClampNeg) :: st) h o) : V d y cc nL rt hh sc pc lv (.int i :: .ref a :: st) h o := by
  refine ⟨hk.1, fun p l e R s m args below meth c D ad ac A ad0 n0 H locs cells slots mc ms ls hx => ?_⟩
  obtain ⟨F, hR, hC, hAd, hA, hS, hP, hK, hO, hL, hT, hls, hsc⟩ := hx
  refine va_bald F.1 F.2.1 (xK1 hK (hP.2.2.1 a _ _ hg)) hP.1 a 0 (xw_get hg) rfl hi hd ?_
  exact hk.2 p l e R s m args below meth c D ad ac A ad0 n0 H locs cells slots mc ms ls ⟨F, hR, hC, hAd, hA, hS, hP, hK, hO, hL, ⟨trivial, hT.2.2⟩, hls, hsc⟩
theorem V.zald {a n : Nat} {i : Int32} {f : Nat → Int32} (hd : decode cc pc = .ok (.baload, 1)) (hg : h.1[a]? = some (.inl (.boolean, n, .inl f))) (hi : vp_in i n) (hk : V d y cc nL rt hh sc (pc + 1) lv (.int (f i.toNatClampNeg) :: st) h o) : V d y cc nL rt hh sc pc lv (.int i :: .ref a :: st) h o := by
  refine ⟨hk.1, fun p l e R s m args below meth c D ad ac A ad0 n0 H locs cells slots mc ms ls hx => ?_⟩
  obtain ⟨F, hR, hC, hAd, hA, hS, hP, hK, hO, hL, hT, hls, hsc⟩ := hx
  refine va_zald F.1 F.2.1 (xK1 hK (hP.2.2.1 a _ _ hg)) hP.1 a 0 (xw_get hg) rfl hi hd ?_
  exact hk.2 p l e R s m args below meth c D ad ac A ad0 n0 H locs cells slots mc ms ls ⟨F, hR, hC, hAd, hA, hS, hP, hK, hO, hL, ⟨trivial, hT.2.2⟩, hls, hsc⟩
theorem V.lald {a n : Nat} {i : Int32} {f : Nat → Int64} (hd : decode cc pc = .ok (.laload, 1)) (hg : h.1[a]? = some (.inl (.long, n, .inr (.inl f)))) (hi : vp_in i n) (hk : V d y cc nL rt hh sc (pc + 1) lv (.long (f i.toNatClampNeg) :: st) h o) : V d y cc nL rt hh sc pc lv (.int i :: .ref a :: st) h o := by
  refine ⟨hk.1, fun p l e R s m args below meth c D ad ac A ad0 n0 H locs cells slots mc ms ls hx => ?_⟩
  obtain ⟨F, hR, hC, hAd, hA, hS, hP, hK, hO, hL, hT, hls, hsc⟩ := hx
  refine va_lald F.1 F.2.1 (xK1 hK (hP.2.2.1 a _ _ hg)) hP.1 a 0 (xw_get hg) rfl hi hd ?_
  exact hk.2 p l e R s m args below meth c D ad ac A ad0 n0 H locs cells slots mc ms ls ⟨F, hR, hC, hAd, hA, hS, hP, hK, hO, hL, ⟨trivial, hT.2.2⟩, hls, hsc⟩
theorem V.aald {a n b : Nat} {C : String} {i : Int32} {f : Nat → Option Nat} (hd : decode cc pc = .ok (.aaload, 1)) (hg : h.1[a]? = some (.inl (.object C, n, .inr (.inr f)))) (hi : vp_in i n) (hb : f i.toNatClampNeg = some b) (hk : V d y cc nL rt hh sc (pc + 1) lv (.ref b :: st) h o) : V d y cc nL rt hh sc pc lv (.int i :: .ref a :: st) h o := by
  refine ⟨hk.1, fun p l e R s m args below meth c D ad ac A ad0 n0 H locs cells slots mc ms ls hx => ?_⟩
  obtain ⟨F, hR, hC, hAd, hA, hS, hP, hK, hO, hL, hT, hls, hsc⟩ := hx
  refine va_aldq F.1 F.2.1 (xK1 hK (hP.2.2.1 a _ _ hg)) hP.1 a 0 (xw_get hg) rfl hi hd ?_
  rw [hb]
  exact hk.2 p l e R s m args below meth c D ad ac A ad0 n0 H locs cells slots mc ms ls ⟨F, hR, hC, hAd, hA, hS, hP, hK, hO, hL, ⟨Or.inl (hP.2.2.2 a _ hg _ _ hb), hT.2.2⟩, hls, hsc⟩
theorem V.aaldN {a n : Nat} {C : String} {i : Int32} {f : Nat → Option Nat} (hd : decode cc pc = .ok (.aaload, 1)) (hg : h.1[a]? = some (.inl (.object C, n, .inr (.inr f)))) (hi : vp_in i n) (hb : f i.toNatClampNeg = none) (hk : V d y cc nL rt hh sc (pc + 1) lv (.null :: st) h o) : V d y cc nL rt hh sc pc lv (.int i :: .ref a :: st) h o := by
  refine ⟨hk.1, fun p l e R s m args below meth c D ad ac A ad0 n0 H locs cells slots mc ms ls hx => ?_⟩
  obtain ⟨F, hR, hC, hAd, hA, hS, hP, hK, hO, hL, hT, hls, hsc⟩ := hx
  refine va_aldq F.1 F.2.1 (xK1 hK (hP.2.2.1 a _ _ hg)) hP.1 a 0 (xw_get hg) rfl hi hd ?_
  rw [hb]
  exact hk.2 p l e R s m args below meth c D ad ac A ad0 n0 H locs cells slots mc ms ls ⟨F, hR, hC, hAd, hA, hS, hP, hK, hO, hL, ⟨trivial, hT.2.2⟩, hls, hsc⟩
theorem V.iast {a n : Nat} {i : Int32} {f : Nat → Int32} {x : Int32} (hd : decode cc pc = .ok (.iastore, 1)) (hg : h.1[a]? = some (.inl (.int, n, .inl (f)))) (hi : vp_in i n) (hk : V d y cc nL rt hh sc (pc + 1) lv (st) (h.1.set a (.inl (.int, n, .inl (va_up f i.toNatClampNeg x))), h.2) o) : V d y cc nL rt hh sc pc lv (.int x :: .int i :: .ref a :: st) h o := by
  refine ⟨hk.1, fun p l e R s m args below meth c D ad ac A ad0 n0 H locs cells slots mc ms ls hx => ?_⟩
  obtain ⟨F, hR, hC, hAd, hA, hS, hP, hK, hO, hL, hT, hls, hsc⟩ := hx
  refine va_iast F.1 F.2.1 (xK1 hK (hP.2.2.1 a _ _ hg)) hP.1 hP.2.1 hS a 0 (xw_get hg) rfl hi hd (fun H1 locs1 h1 h2 h3 => ?_)
  have hP1 : xP D ad ac (h.1.set a (.inl (.int, n, .inl (va_up f i.toNatClampNeg x)))) A s H1 := hP.set hg trivial (fun _ _ e => by cases e; exact ⟨_, rfl⟩) h1 h2
  exact hk.2 p l e R s m args below meth c D ad ac A ad0 n0 H1 locs1 cells slots mc ms ls ⟨F, hR, hC, by simpa using hAd, hA, h3, hP1, hK, hO, by simpa using hL, by simpa using hT.2.2.2, hls, hsc⟩
theorem V.bast {a n : Nat} {i : Int32} {f : Nat → Int32} {x : Int32} (hd : decode cc pc = .ok (.bastore, 1)) (hg : h.1[a]? = some (.inl (.byte, n, .inl (f)))) (hi : vp_in i n) (hk : V d y cc nL rt hh sc (pc + 1) lv (st) (h.1.set a (.inl (.byte, n, .inl (va_up f i.toNatClampNeg (vp_nar .byte x)))), h.2) o) : V d y cc nL rt hh sc pc lv (.int x :: .int i :: .ref a :: st) h o := by
  refine ⟨hk.1, fun p l e R s m args below meth c D ad ac A ad0 n0 H locs cells slots mc ms ls hx => ?_⟩
  obtain ⟨F, hR, hC, hAd, hA, hS, hP, hK, hO, hL, hT, hls, hsc⟩ := hx
  refine va_bast F.1 F.2.1 (xK1 hK (hP.2.2.1 a _ _ hg)) hP.1 hP.2.1 hS a 0 (xw_get hg) rfl hi hd (fun H1 locs1 h1 h2 h3 => ?_)
  have hP1 : xP D ad ac (h.1.set a (.inl (.byte, n, .inl (va_up f i.toNatClampNeg (vp_nar .byte x))))) A s H1 := hP.set hg trivial (fun _ _ e => by cases e; exact ⟨_, rfl⟩) h1 h2
  exact hk.2 p l e R s m args below meth c D ad ac A ad0 n0 H1 locs1 cells slots mc ms ls ⟨F, hR, hC, by simpa using hAd, hA, h3, hP1, hK, hO, by simpa using hL, by simpa using hT.2.2.2, hls, hsc⟩
theorem V.zast {a n : Nat} {i : Int32} {f : Nat → Int32} {x : Int32} (hd : decode cc pc = .ok (.bastore, 1)) (hg : h.1[a]? = some (.inl (.boolean, n, .inl (f)))) (hi : vp_in i n) (hk : V d y cc nL rt hh sc (pc + 1) lv (st) (h.1.set a (.inl (.boolean, n, .inl (va_up f i.toNatClampNeg (vp_nar .boolean x)))), h.2) o) : V d y cc nL rt hh sc pc lv (.int x :: .int i :: .ref a :: st) h o := by
  refine ⟨hk.1, fun p l e R s m args below meth c D ad ac A ad0 n0 H locs cells slots mc ms ls hx => ?_⟩
  obtain ⟨F, hR, hC, hAd, hA, hS, hP, hK, hO, hL, hT, hls, hsc⟩ := hx
  refine va_zast F.1 F.2.1 (xK1 hK (hP.2.2.1 a _ _ hg)) hP.1 hP.2.1 hS a 0 (xw_get hg) rfl hi hd (fun H1 locs1 h1 h2 h3 => ?_)
  have hP1 : xP D ad ac (h.1.set a (.inl (.boolean, n, .inl (va_up f i.toNatClampNeg (vp_nar .boolean x))))) A s H1 := hP.set hg trivial (fun _ _ e => by cases e; exact ⟨_, rfl⟩) h1 h2
  exact hk.2 p l e R s m args below meth c D ad ac A ad0 n0 H1 locs1 cells slots mc ms ls ⟨F, hR, hC, by simpa using hAd, hA, h3, hP1, hK, hO, by simpa using hL, by simpa using hT.2.2.2, hls, hsc⟩
theorem V.last {a n : Nat} {i : Int32} {f : Nat → Int64} {x : Int64} (hd : decode cc pc = .ok (.lastore, 1)) (hg : h.1[a]? = some (.inl (.long, n, .inr (.inl (f))))) (hi : vp_in i n) (hk : V d y cc nL rt hh sc (pc + 1) lv (st) (h.1.set a (.inl (.long, n, .inr (.inl (va_up f i.toNatClampNeg x)))), h.2) o) : V d y cc nL rt hh sc pc lv (.long x :: .int i :: .ref a :: st) h o := by
  refine ⟨hk.1, fun p l e R s m args below meth c D ad ac A ad0 n0 H locs cells slots mc ms ls hx => ?_⟩
  obtain ⟨F, hR, hC, hAd, hA, hS, hP, hK, hO, hL, hT, hls, hsc⟩ := hx
  refine va_last F.1 F.2.1 (xK1 hK (hP.2.2.1 a _ _ hg)) hP.1 hP.2.1 hS a 0 (xw_get hg) rfl hi hd (fun H1 locs1 h1 h2 h3 => ?_)
  have hP1 : xP D ad ac (h.1.set a (.inl (.long, n, .inr (.inl (va_up f i.toNatClampNeg x))))) A s H1 := hP.set hg trivial (fun _ _ e => by cases e; exact ⟨_, rfl⟩) h1 h2
  exact hk.2 p l e R s m args below meth c D ad ac A ad0 n0 H1 locs1 cells slots mc ms ls ⟨F, hR, hC, by simpa using hAd, hA, h3, hP1, hK, hO, by simpa using hL, by simpa using hT.2.2.2, hls, hsc⟩
theorem V.aast {a n b ci : Nat} {r : vw_C} {i : Int32} {vs : List Value} {f : Nat → Option Nat} (hd : decode cc pc = .ok (.aastore, 1)) (hg : h.1[a]? = some (.inl (.object r.1, n, .inr (.inr f)))) (hi : vp_in i n) (hb : h.1[b]? = some (.inr (ci, vs))) (hc : vwCl[ci]? = some r) (hk : V d y cc nL rt hh sc (pc + 1) lv (st) (h.1.set a (.inl (.object r.1, n, .inr (.inr (va_up f i.toNatClampNeg (some b))))), h.2) o) : V d y cc nL rt hh sc pc lv (.ref b :: .int i :: .ref a :: st) h o := by
  refine ⟨hk.1, fun p l e R s m args below meth c D ad ac A ad0 n0 H locs cells slots mc ms ls hx => ?_⟩
  obtain ⟨F, hR, hC, hAd, hA, hS, hP, hK, hO, hL, hT, hls, hsc⟩ := hx
  refine va_astq F.1 F.2.1 (xK1 hK (hP.2.2.1 a _ _ hg)) hP.1 hP.2.1 hS a 0 b ci (xw_get hg) rfl (xw_get hb) hc hi hd (fun H1 locs1 h1 h2 h3 => ?_)
  have e1 : va_up (fun i => (f i).map ad) i.toNatClampNeg (some (ad b)) = fun j => (va_up f i.toNatClampNeg (some b) j).map ad := by
    funext j
    unfold va_up
    split <;> rfl
  rw [e1] at h1 h2
  have hok : okC h.1.length (.inl (.object r.1, n, .inr (.inr (va_up f i.toNatClampNeg (some b))))) := by
    intro j z hz
    unfold va_up at hz
    split at hz
    · cases hz; exact (List.getElem?_eq_some_iff.mp hb).1
    · exact hP.2.2.2 a _ hg _ _ hz
  have hP1 : xP D ad ac (h.1.set a (.inl (.object r.1, n, .inr (.inr (va_up f i.toNatClampNeg (some b)))))) A s H1 := hP.set hg hok (fun _ _ e => by cases e; exact ⟨_, rfl⟩) h1 h2
  exact hk.2 p l e R s m args below meth c D ad ac A ad0 n0 H1 locs1 cells slots mc ms ls ⟨F, hR, hC, by simpa using hAd, hA, h3, hP1, hK, hO, by simpa using hL, by simpa using hT.2.2.2, hls, hsc⟩
theorem V.alen {a : Nat} {x : xA} {v : Int32} (hd : decode cc pc = .ok (.arraylength, 1)) (hg : h.1[a]? = some (.inl x)) (hv : Int32.ofNat x.2.1 = v) (hk : V d y cc nL rt hh sc (pc + 1) lv (.int v :: st) h o) : V d y cc nL rt hh sc pc lv (.ref a :: st) h o := by
  refine ⟨hk.1, fun p l e R s m args below meth c D ad ac A ad0 n0 H locs cells slots mc ms ls hx => ?_⟩
  obtain ⟨F, hR, hC, hAd, hA, hS, hP, hK, hO, hL, hT, hls, hsc⟩ := hx
  obtain ⟨ty, n, f | f | f⟩ := x
  · refine va_alen F.1 F.2.1 (xK1 hK (hP.2.2.1 a _ _ hg)) hP.1 a 0 (xw_get hg) rfl hv hd ?_
    exact hk.2 p l e R s m args below meth c D ad ac A ad0 n0 H locs cells slots mc ms ls ⟨F, hR, hC, hAd, hA, hS, hP, hK, hO, hL, ⟨trivial, hT.2⟩, hls, hsc⟩
  · refine va_alen F.1 F.2.1 (xK1 hK (hP.2.2.1 a _ _ hg)) hP.1 a 0 (xw_get hg) rfl hv hd ?_
    exact hk.2 p l e R s m args below meth c D ad ac A ad0 n0 H locs cells slots mc ms ls ⟨F, hR, hC, hAd, hA, hS, hP, hK, hO, hL, ⟨trivial, hT.2⟩, hls, hsc⟩
  · refine va_alen F.1 F.2.1 (xK1 hK (hP.2.2.1 a _ _ hg)) hP.1 a 0 (xw_get hg) rfl hv hd ?_
    exact hk.2 p l e R s m args below meth c D ad ac A ad0 n0 H locs cells slots mc ms ls ⟨F, hR, hC, hAd, hA, hS, hP, hK, hO, hL, ⟨trivial, hT.2⟩, hls, hsc⟩
theorem V.sld {L : Nat} {xs : Nat → Int32} {i : Int32} (hs : sc = some (L, xs)) (hd : decode cc pc = .ok (.iaload, 1)) (hi : vp_in i L) (hk : V d y cc nL rt hh sc (pc + 1) lv (.int (xs i.toNatClampNeg) :: st) h o) : V d y cc nL rt hh sc pc lv (.int i :: .ref xSC :: st) h o := by
  refine ⟨hk.1, fun p l e R s m args below meth c D ad ac A ad0 n0 H locs cells slots mc ms ls hx => ?_⟩
  obtain ⟨F, hR, hC, hAd, hA, hS, hP, hK, hO, hL, hT, hls, hsc⟩ := hx
  obtain ⟨hX, hbl, hbA⟩ := hsc _ hs
  refine va_sld F.1 F.2.1 hX hbl hbA hS hi hd ?_
  exact hk.2 p l e R s m args below meth c D ad ac A ad0 n0 H locs cells slots mc ms ls ⟨F, hR, hC, hAd, hA, hS, hP, hK, hO, hL, ⟨trivial, hT.2.2⟩, hls, hsc⟩
theorem V.slen {L : Nat} {xs : Nat → Int32} {v : Int32} (hs : sc = some (L, xs)) (hd : decode cc pc = .ok (.arraylength, 1)) (hv : Int32.ofNat L = v) (hk : V d y cc nL rt hh sc (pc + 1) lv (.int v :: st) h o) : V d y cc nL rt hh sc pc lv (.ref xSC :: st) h o := by
  refine ⟨hk.1, fun p l e R s m args below meth c D ad ac A ad0 n0 H locs cells slots mc ms ls hx => ?_⟩
  obtain ⟨F, hR, hC, hAd, hA, hS, hP, hK, hO, hL, hT, hls, hsc⟩ := hx
  obtain ⟨hX, hbl, hbA⟩ := hsc _ hs
  subst hv
  refine va_slen F.1 F.2.1 hX hbl hbA hS hd ?_
  exact hk.2 p l e R s m args below meth c D ad ac A ad0 n0 H locs cells slots mc ms ls ⟨F, hR, hC, hAd, hA, hS, hP, hK, hO, hL, ⟨trivial, hT.2⟩, hls, hsc⟩
theorem V.iret {v : Int32} (hd : decode cc pc = .ok (.ireturn, 1)) : V d y cc nL (some .int) hh sc pc lv [.int v] h (.inl (some (.int v)), h) := by
  refine ⟨⟨Nat.le_refl _, Nat.le_refl _⟩, fun p l e R s m args below meth c D ad ac A ad0 n0 H locs cells slots mc ms ls hx => ?_⟩
  obtain ⟨F, hR, hC, hAd, hA, hS, hP, hK, hO, hL, hT, hls, hsc⟩ := hx
  have hc1 : cells ≤ mc := by have := hC.1; dsimp only at this; omega
  have hc2 : slots ≤ ms := by have := hC.2; dsimp only at this; omega
  refine W.widen (k := mc) (n := ms) hc1 hc2 (vx_ret ?_)
  exact W.iret F.1 F.2.1 F.2.2.2.1 (fun t ht hW => ⟨⟨some (.int v), ad, ac, rfl, rfl, hAd.1, hAd.2, fun w e => (by cases e; trivial), by rw [ht]; exact hP.moved hW.alike⟩, hS.F ht⟩) hS.2.2 hd F.2.2.2.2.2.2.1
theorem V.zret {v : Int32} {ty : FieldType} (hd : decode cc pc = .ok (.ireturn, 1)) (hn : narrow ty (.int v) = .int v) : V d y cc nL (some ty) hh sc pc lv [.int v] h (.inl (some (.int v)), h) := by
  refine ⟨⟨Nat.le_refl _, Nat.le_refl _⟩, fun p l e R s m args below meth c D ad ac A ad0 n0 H locs cells slots mc ms ls hx => ?_⟩
  obtain ⟨F, hR, hC, hAd, hA, hS, hP, hK, hO, hL, hT, hls, hsc⟩ := hx
  have hc1 : cells ≤ mc := by have := hC.1; dsimp only at this; omega
  have hc2 : slots ≤ ms := by have := hC.2; dsimp only at this; omega
  refine W.widen (k := mc) (n := ms) hc1 hc2 (vx_ret ?_)
  exact W.zret F.1 F.2.1 F.2.2.2.1 hn (fun t ht hW => ⟨⟨some (.int v), ad, ac, rfl, rfl, hAd.1, hAd.2, fun w e => (by cases e; trivial), by rw [ht]; exact hP.moved hW.alike⟩, hS.F ht⟩) hS.2.2 hd F.2.2.2.2.2.2.1
theorem V.lret {v : Int64} (hd : decode cc pc = .ok (.lreturn, 1)) : V d y cc nL (some .long) hh sc pc lv [.long v] h (.inl (some (.long v)), h) := by
  refine ⟨⟨Nat.le_refl _, Nat.le_refl _⟩, fun p l e R s m args below meth c D ad ac A ad0 n0 H locs cells slots mc ms ls hx => ?_⟩
  obtain ⟨F, hR, hC, hAd, hA, hS, hP, hK, hO, hL, hT, hls, hsc⟩ := hx
  have hc1 : cells ≤ mc := by have := hC.1; dsimp only at this; omega
  have hc2 : slots ≤ ms := by have := hC.2; dsimp only at this; omega
  refine W.widen (k := mc) (n := ms) hc1 hc2 (vx_ret ?_)
  exact W.lret F.1 F.2.1 F.2.2.2.1 (fun t ht hW => ⟨⟨some (.long v), ad, ac, rfl, rfl, hAd.1, hAd.2, fun w e => (by cases e; trivial), by rw [ht]; exact hP.moved hW.alike⟩, hS.F ht⟩) hS.2.2 hd F.2.2.2.2.2.2.1
theorem V.vret  (hd : decode cc pc = .ok (.return_, 1)) : V d y cc nL (none) hh sc pc lv [] h (.inl (none), h) := by
  refine ⟨⟨Nat.le_refl _, Nat.le_refl _⟩, fun p l e R s m args below meth c D ad ac A ad0 n0 H locs cells slots mc ms ls hx => ?_⟩
  obtain ⟨F, hR, hC, hAd, hA, hS, hP, hK, hO, hL, hT, hls, hsc⟩ := hx
  have hc1 : cells ≤ mc := by have := hC.1; dsimp only at this; omega
  have hc2 : slots ≤ ms := by have := hC.2; dsimp only at this; omega
  refine W.widen (k := mc) (n := ms) hc1 hc2 (vx_ret ?_)
  exact W.vret F.1 F.2.1 F.2.2.2.1 (fun t ht hW => ⟨⟨none, ad, ac, rfl, rfl, hAd.1, hAd.2, fun w e => (nomatch e), by rw [ht]; exact hP.moved hW.alike⟩, hS.F ht⟩) hS.2.2 hd F.2.2.2.2.2.2.1
theorem V.aret {a : Nat} {rt0 : FieldType} (hd : decode cc pc = .ok (.areturn, 1)) (hrt : (∃ n, rt0 = .object n) ∨ ∃ t, rt0 = .array t) : V d y cc nL (some rt0) hh sc pc lv [.ref a] h (.inl (some (.ref a)), h) := by
  refine ⟨⟨Nat.le_refl _, Nat.le_refl _⟩, fun p l e R s m args below meth c D ad ac A ad0 n0 H locs cells slots mc ms ls hx => ?_⟩
  obtain ⟨F, hR, hC, hAd, hA, hS, hP, hK, hO, hL, hT, hls, hsc⟩ := hx
  have hc1 : cells ≤ mc := by have := hC.1; dsimp only at this; omega
  have hc2 : slots ≤ ms := by have := hC.2; dsimp only at this; omega
  refine W.widen (k := mc) (n := ms) hc1 hc2 (vx_ret ?_)
  exact W.aret F.1 F.2.1 F.2.2.2.1 hrt (Or.inr ⟨_, rfl⟩) (fun t ht hW => ⟨⟨some (.ref a), ad, ac, rfl, rfl, hAd.1, hAd.2, fun w e => (by cases e; exact hT.1), by rw [ht]; exact hP.moved hW.alike⟩, hS.F ht⟩) hS.2.2 hd F.2.2.2.2.2.2.1
end VHeap
