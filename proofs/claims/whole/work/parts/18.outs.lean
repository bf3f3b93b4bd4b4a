/-! ===== ends of methods, by what the functions give ===== -/
def oI (h : xH) (v : Int32) : xO := (.inl (some (.int v)), h)
def oJ (h : xH) (v : Int64) : xO := (.inl (some (.long v)), h)
def oR (h : xH) (v : Nat) : xO := (.inl (some (.ref v)), h)
def oV (h : xH) (_ : Unit) : xO := (.inl none, h)
def oIh (r : Int32 × xH) : xO := (.inl (some (.int r.1)), r.2)
def oJh (r : Int64 × xH) : xO := (.inl (some (.long r.1)), r.2)
def oRh (r : Nat × xH) : xO := (.inl (some (.ref r.1)), r.2)
def oVh (r : xH) : xO := (.inl none, r)
def oTI (h : xH) (r : (String × xH) ⊕ Int32) : xO := match r with
  | .inl e => (.inr e.1, e.2)
  | .inr v => (.inl (some (.int v)), h)
def oTJ (h : xH) (r : (String × xH) ⊕ Int64) : xO := match r with
  | .inl e => (.inr e.1, e.2)
  | .inr v => (.inl (some (.long v)), h)
def oTV (h : xH) (r : (String × xH) ⊕ Unit) : xO := match r with
  | .inl e => (.inr e.1, e.2)
  | .inr _ => (.inl none, h)
def oTIh (r : (String × xH) ⊕ (Int32 × xH)) : xO := match r with
  | .inl e => (.inr e.1, e.2)
  | .inr v => (.inl (some (.int v.1)), v.2)
def oTJh (r : (String × xH) ⊕ (Int64 × xH)) : xO := match r with
  | .inl e => (.inr e.1, e.2)
  | .inr v => (.inl (some (.long v.1)), v.2)
def oTVh (r : (String × xH) ⊕ xH) : xO := match r with
  | .inl e => (.inr e.1, e.2)
  | .inr v => (.inl none, v)
/-- both places hold cells -/
def lt2 (h : xH) (a b : Nat) : Option Unit := if a < h.1.length ∧ b < h.1.length then some () else none
theorem lt2_l {h : xH} {a b : Nat} {u : Unit} (e : lt2 h a b = some u) : a < h.1.length := by
  unfold lt2 at e
  split at e
  · rename_i q
    exact q.1
  · cases e
theorem lt2_r {h : xH} {a b : Nat} {u : Unit} (e : lt2 h a b = some u) : b < h.1.length := by
  unfold lt2 at e
  split at e
  · rename_i q
    exact q.2
  · cases e
section ReadRows
variable {d : Nat} {y : MethodName} {cc : ByteArray} {nL : Nat} {rt : Option FieldType} {hh : List (Nat × Nat × Nat × Nat)} {sc : Option (Nat × (Nat → Int32))} {pc : Nat} {lv : List (Nat × Value)} {st : List Value} {h : xH} {o : xO} {idx a ci k : Nat}
theorem V.getfr {fs : List Value} {v : Value} (hd : decode cc pc = .ok (.getfield idx, 3)) (hf : xFLr y.cls idx ci k) (hg : h.1[a]? = some (.inr (ci, fs))) (hv : fs[k]? = some v)
    (hk : V d y cc nL rt hh sc (pc + 3) lv (v :: st) h o) : V d y cc nL rt hh sc pc lv (.ref a :: st) h o := by
  obtain ⟨C, T, N, hc, hkN, hlink, hin⟩ := hf
  refine ⟨hk.1, fun p l e R s m args below meth c D ad ac A ad0 n0 H locs cells slots mc ms ls hx => ?_⟩
  obtain ⟨F, hR, hC, hAd, hA, hS, hP, hK, hO, hL, hT, hls, hsc⟩ := hx
  refine va_get F.1 F.2.1 F.2.2.2.2.2.1 hin F.2.2.2.2.1 hK hP.1 a (fs := fs.map (xv ad)) (xw_get hg) hc k hkN (F.2.2.2.2.2.1 _ hlink) (fun _ h9 => h9) (v := xv ad v) (by rw [List.getElem?_map, hv]; rfl) hd ?_
  exact hk.2 p l e R s m args below meth c D ad ac A ad0 n0 H locs cells slots mc ms ls ⟨F, hR, hC, hAd, hA, hS, hP, hK, hO, hL, ⟨okS_at (hP.2.2.2 a _ hg) hv, hT.2⟩, hls, hsc⟩
theorem V.rgI {v : Int32} (hd : decode cc pc = .ok (.getfield idx, 3)) (hf : xFLr y.cls idx ci k) (e : gI h a ci k = some v) (hk : V d y cc nL rt hh sc (pc + 3) lv (.int v :: st) h o) : V d y cc nL rt hh sc pc lv (.ref a :: st) h o := by
  obtain ⟨fs, e1, e2⟩ := gI_some e
  exact V.getfr hd hf e1 e2 hk
theorem V.rgR {v : Nat} (hd : decode cc pc = .ok (.getfield idx, 3)) (hf : xFLr y.cls idx ci k) (e : gR h a ci k = some v) (hk : V d y cc nL rt hh sc (pc + 3) lv (.ref v :: st) h o) : V d y cc nL rt hh sc pc lv (.ref a :: st) h o := by
  obtain ⟨fs, e1, e2⟩ := gR_some e
  exact V.getfr hd hf e1 e2 hk
def ldS (L : Nat) (xs : Nat → Int32) (i : Int32) : Option Int32 := if inB i L = true then some (xs i.toNatClampNeg) else none
theorem V.xldS {L : Nat} {xs : Nat → Int32} {i v : Int32} (hs : sc = some (L, xs)) (hd : decode cc pc = .ok (.iaload, 1)) (e : ldS L xs i = some v) (hk : V d y cc nL rt hh sc (pc + 1) lv (.int v :: st) h o) : V d y cc nL rt hh sc pc lv (.int i :: .ref xSC :: st) h o := by
  unfold ldS at e
  split at e
  · rename_i q
    cases e
    exact V.sld hs hd (inB_vp q) hk
  · cases e
end ReadRows
theorem xpre_n {own E0 : String} : ∀ z ∈ ([] : List ExceptionTableEntry), z.catchType ≠ 0 ∧ ∃ nm : String, Cond.classLink own z.catchType nm ∈ xT ∧ nm ∈ xExc ∧ E0 ≠ nm := fun _ hz => nomatch hz
theorem xpre_c {own E0 nm : String} {x : ExceptionTableEntry} {l : List ExceptionTableEntry} (h0 : x.catchType ≠ 0) (h1 : Cond.classLink own x.catchType nm ∈ xT) (h2 : nm ∈ xExc) (h3 : E0 ≠ nm) (h : ∀ z ∈ l, z.catchType ≠ 0 ∧ ∃ nm : String, Cond.classLink own z.catchType nm ∈ xT ∧ nm ∈ xExc ∧ E0 ≠ nm) : ∀ z ∈ x :: l, z.catchType ≠ 0 ∧ ∃ nm : String, Cond.classLink own z.catchType nm ∈ xT ∧ nm ∈ xExc ∧ E0 ≠ nm := by
  intro z hz
  rcases List.mem_cons.mp hz with rfl | hz
  · exact ⟨h0, nm, h1, h2, h3⟩
  · exact h z hz
