/-! ===== cells read and written, as functions that may fail; rows by them ===== -/
theorem bS {α β : Type} {x : Option α} {f : α → Option β} {r : β} (h : x.bind f = some r) : ∃ v, x = some v ∧ f v = some r := Option.bind_eq_some_iff.mp h
/-- loops and calls are followed so far -/
def xFU : Nat := 1000000
def gO (h : xH) (a ci : Nat) : Option (List Value) := match h.1[a]? with
  | some (.inr (c, fs)) => if c = ci then some fs else none
  | _ => none
def gI (h : xH) (a ci k : Nat) : Option Int32 := match gO h a ci with
  | some fs => (match fs[k]? with
    | some (.int v) => some v
    | _ => none)
  | none => none
def gJ (h : xH) (a ci k : Nat) : Option Int64 := match gO h a ci with
  | some fs => (match fs[k]? with
    | some (.long v) => some v
    | _ => none)
  | none => none
def gR (h : xH) (a ci k : Nat) : Option Nat := match gO h a ci with
  | some fs => (match fs[k]? with
    | some (.ref v) => some v
    | _ => none)
  | none => none
/-- a field that may hold null -/
def gN (h : xH) (a ci k : Nat) : Option (Option Nat) := match gO h a ci with
  | some fs => (match fs[k]? with
    | some (.ref v) => some (some v)
    | some .null => some none
    | _ => none)
  | none => none
def pF (h : xH) (a ci k : Nat) (v : Value) : Option xH := match gO h a ci with
  | some fs => if k < fs.length then some (h.1.set a (.inr (ci, fs.set k v)), h.2) else none
  | none => none
def gA (h : xH) (a : Nat) : Option xA := match h.1[a]? with
  | some (.inl x) => some x
  | _ => none
def inB (i : Int32) (n : Nat) : Bool := decide (¬ (i < 0 ∨ n ≤ i.toNatClampNeg))
def ldI (h : xH) (ty : FieldType) (a : Nat) (i : Int32) : Option Int32 := match gA h a with
  | some (t, n, .inl f) => if t = ty ∧ inB i n = true then some (f i.toNatClampNeg) else none
  | _ => none
def ldJ (h : xH) (a : Nat) (i : Int32) : Option Int64 := match gA h a with
  | some (t, n, .inr (.inl f)) => if t = .long ∧ inB i n = true then some (f i.toNatClampNeg) else none
  | _ => none
def ldN (h : xH) (C : String) (a : Nat) (i : Int32) : Option (Option Nat) := match gA h a with
  | some (t, n, .inr (.inr f)) => if t = .object C ∧ inB i n = true then some (f i.toNatClampNeg) else none
  | _ => none
def stI (h : xH) (ty : FieldType) (a : Nat) (i x : Int32) : Option xH := match gA h a with
  | some (t, n, .inl f) => if t = ty ∧ inB i n = true then some (h.1.set a (.inl (ty, n, .inl (va_up f i.toNatClampNeg x))), h.2) else none
  | _ => none
def stJ (h : xH) (a : Nat) (i : Int32) (x : Int64) : Option xH := match gA h a with
  | some (t, n, .inr (.inl f)) => if t = .long ∧ inB i n = true then some (h.1.set a (.inl (.long, n, .inr (.inl (va_up f i.toNatClampNeg x)))), h.2) else none
  | _ => none
def stN (h : xH) (C : String) (ci a : Nat) (i : Int32) (b : Nat) : Option xH := match gA h a, gO h b ci with
  | some (t, n, .inr (.inr f)), some _ => if t = .object C ∧ inB i n = true then some (h.1.set a (.inl (.object C, n, .inr (.inr (va_up f i.toNatClampNeg (some b))))), h.2) else none
  | _, _ => none
def aln (h : xH) (a : Nat) : Option Int32 := match gA h a with
  | some x => some (Int32.ofNat x.2.1)
  | none => none
def mkO (h : xH) (ci N : Nat) (fs : List Value) : Option xH := if h.1.length < xS0 then some (h.1 ++ [.inr (ci, fs)], h.2.1 + 1, h.2.2 + N) else none
def mkI (h : xH) (ty : FieldType) (n : Int32) : Option xH := if h.1.length < xS0 ∧ ¬ n < 0 ∧ n.toNatClampNeg ≤ 1000000 then some (h.1 ++ [.inl (ty, n.toNatClampNeg, .inl (fun _ => 0))], h.2.1 + 1, h.2.2 + n.toNatClampNeg) else none
def mkJ (h : xH) (n : Int32) : Option xH := if h.1.length < xS0 ∧ ¬ n < 0 ∧ n.toNatClampNeg ≤ 1000000 then some (h.1 ++ [.inl (.long, n.toNatClampNeg, .inr (.inl (fun _ => 0)))], h.2.1 + 1, h.2.2 + n.toNatClampNeg) else none
def mkN (h : xH) (C : String) (n : Int32) : Option xH := if h.1.length < xS0 ∧ ¬ n < 0 ∧ n.toNatClampNeg ≤ 1000000 then some (h.1 ++ [.inl (.object C, n.toNatClampNeg, .inr (.inr (fun _ => none)))], h.2.1 + 1, h.2.2 + n.toNatClampNeg) else none
def cpI (h : xH) (a : Nat) (sp : Int32) (b : Nat) (dp n : Int32) : Option xH := match gA h a, gA h b with
  | some (t, na, .inl f), some (t', nb, .inl g) => if t = .int ∧ t' = .int ∧ ¬ sp < 0 ∧ ¬ dp < 0 ∧ ¬ n < 0 ∧ sp.toNatClampNeg + n.toNatClampNeg ≤ na ∧ dp.toNatClampNeg + n.toNatClampNeg ≤ nb then some (h.1.set b (.inl (.int, nb, .inl (va_cpy f g sp.toNatClampNeg dp.toNatClampNeg n.toNatClampNeg))), h.2) else none
  | _, _ => none
def clI (h : xH) (a : Nat) : Option xH := match gA h a with
  | some (t, n, .inl f) => if t = .int ∧ h.1.length < xS0 then some (h.1 ++ [.inl (.int, n, .inl f)], h.2.1 + 1, h.2.2 + n) else none
  | _ => none
def dvI (x z : Int32) : Option Int32 := if z = 0 then none else some (x / z)
def rmI (x z : Int32) : Option Int32 := if z = 0 then none else some (x - x / z * z)
def dvJ (x z : Int64) : Option Int64 := if z = 0 then none else some (x / z)
def rmJ (x z : Int64) : Option Int64 := if z = 0 then none else some (x - x / z * z)
/-- behind a throw -/
def thr (h : xH) : xH := (h.1, h.2.1 + 1, h.2.2 + 6)
theorem gO_some {h : xH} {a ci : Nat} {fs : List Value} (e : gO h a ci = some fs) : h.1[a]? = some (.inr (ci, fs)) := by
  unfold gO at e
  split at e
  · rename_i c fs' hc
    split at e
    · rename_i hcc
      cases e
      rw [hc, hcc]
    · cases e
  · cases e
theorem gA_some {h : xH} {a : Nat} {x : xA} (e : gA h a = some x) : h.1[a]? = some (.inl x) := by
  unfold gA at e
  split at e
  · rename_i x' hx
    cases e
    exact hx
  · cases e
theorem gI_some {h : xH} {a ci k : Nat} {v : Int32} (e : gI h a ci k = some v) : ∃ fs, h.1[a]? = some (.inr (ci, fs)) ∧ fs[k]? = some (.int v) := by
  unfold gI at e
  split at e
  · rename_i fs hfs
    split at e
    · rename_i w hw
      cases e
      exact ⟨fs, gO_some hfs, hw⟩
    · cases e
  · cases e
theorem gJ_some {h : xH} {a ci k : Nat} {v : Int64} (e : gJ h a ci k = some v) : ∃ fs, h.1[a]? = some (.inr (ci, fs)) ∧ fs[k]? = some (.long v) := by
  unfold gJ at e
  split at e
  · rename_i fs hfs
    split at e
    · rename_i w hw
      cases e
      exact ⟨fs, gO_some hfs, hw⟩
    · cases e
  · cases e
theorem gR_some {h : xH} {a ci k : Nat} {v : Nat} (e : gR h a ci k = some v) : ∃ fs, h.1[a]? = some (.inr (ci, fs)) ∧ fs[k]? = some (.ref v) := by
  unfold gR at e
  split at e
  · rename_i fs hfs
    split at e
    · rename_i w hw
      cases e
      exact ⟨fs, gO_some hfs, hw⟩
    · cases e
  · cases e
theorem gN_some {h : xH} {a ci k : Nat} {v : Option Nat} (e : gN h a ci k = some v) : ∃ fs, h.1[a]? = some (.inr (ci, fs)) ∧ fs[k]? = some (va_rf v) := by
  unfold gN at e
  split at e
  · rename_i fs hfs
    split at e
    · rename_i w hw
      cases e
      exact ⟨fs, gO_some hfs, hw⟩
    · rename_i hw
      cases e
      exact ⟨fs, gO_some hfs, hw⟩
    · cases e
  · cases e
theorem inB_vp {i : Int32} {n : Nat} (e : inB i n = true) : vp_in i n := by
  unfold inB at e
  exact (of_decide_eq_true e : ¬ (i < 0 ∨ n ≤ i.toNatClampNeg))
section Acc
variable {d : Nat} {y : MethodName} {cc : ByteArray} {nL : Nat} {rt : Option FieldType} {hh : List (Nat × Nat × Nat × Nat)} {sc : Option (Nat × (Nat → Int32))} {pc : Nat} {lv : List (Nat × Value)} {st stk : List Value} {h h' : xH} {o : xO} {idx : Nat} {a ci k : Nat} {ty : FieldType} {fin : Bool}
theorem V.xgI {v : Int32} (hd : decode cc pc = .ok (.getfield idx, 3)) (hf : xFL y.cls idx ci k ty fin) (e : gI h a ci k = some v) (hk : V d y cc nL rt hh sc (pc + 3) lv (.int v :: st) h o) : V d y cc nL rt hh sc pc lv (.ref a :: st) h o := by
  obtain ⟨fs, e1, e2⟩ := gI_some e
  exact V.getf hd hf e1 e2 hk
theorem V.xgJ {v : Int64} (hd : decode cc pc = .ok (.getfield idx, 3)) (hf : xFL y.cls idx ci k ty fin) (e : gJ h a ci k = some v) (hk : V d y cc nL rt hh sc (pc + 3) lv (.long v :: st) h o) : V d y cc nL rt hh sc pc lv (.ref a :: st) h o := by
  obtain ⟨fs, e1, e2⟩ := gJ_some e
  exact V.getf hd hf e1 e2 hk
theorem V.xgR {v : Nat} (hd : decode cc pc = .ok (.getfield idx, 3)) (hf : xFL y.cls idx ci k ty fin) (e : gR h a ci k = some v) (hk : V d y cc nL rt hh sc (pc + 3) lv (.ref v :: st) h o) : V d y cc nL rt hh sc pc lv (.ref a :: st) h o := by
  obtain ⟨fs, e1, e2⟩ := gR_some e
  exact V.getf hd hf e1 e2 hk
theorem V.xgN {v : Nat} (hd : decode cc pc = .ok (.getfield idx, 3)) (hf : xFL y.cls idx ci k ty fin) (e : gN h a ci k = some (some v)) (hk : V d y cc nL rt hh sc (pc + 3) lv (.ref v :: st) h o) : V d y cc nL rt hh sc pc lv (.ref a :: st) h o := by
  obtain ⟨fs, e1, e2⟩ := gN_some e
  exact V.getf hd hf e1 e2 hk
theorem V.xgN0 (hd : decode cc pc = .ok (.getfield idx, 3)) (hf : xFL y.cls idx ci k ty fin) (e : gN h a ci k = some none) (hk : V d y cc nL rt hh sc (pc + 3) lv (.null :: st) h o) : V d y cc nL rt hh sc pc lv (.ref a :: st) h o := by
  obtain ⟨fs, e1, e2⟩ := gN_some e
  exact V.getf hd hf e1 e2 hk
theorem V.xpF {v : Value} (hd : decode cc pc = .ok (.putfield idx, 3)) (hf : xFL y.cls idx ci k ty fin) (hi : fin = true → y.name = "<init>") (hn : ∀ ad, narrow ty (xv ad v) = xv ad v) (hfit : ∀ ad, fits ty (xv ad v) = true) (e : pF h a ci k v = some h') (hk : V d y cc nL rt hh sc (pc + 3) lv st h' o) : V d y cc nL rt hh sc pc lv (v :: .ref a :: st) h o := by
  unfold pF at e
  split at e
  · rename_i fs hfs
    split at e
    · rename_i hl
      cases e
      exact V.putf hd hf hi hn hfit (gO_some hfs) hl hk
    · cases e
  · cases e
theorem V.xldI {i v : Int32} (hd : decode cc pc = .ok (.iaload, 1)) (e : ldI h .int a i = some v) (hk : V d y cc nL rt hh sc (pc + 1) lv (.int v :: st) h o) : V d y cc nL rt hh sc pc lv (.int i :: .ref a :: st) h o := by
  unfold ldI at e
  split at e
  · rename_i t n f hx
    split at e
    · rename_i hc
      obtain ⟨rfl, hb⟩ := hc
      cases e
      exact V.iald hd (gA_some hx) (inB_vp hb) hk
    · cases e
  · cases e
theorem V.xldB {i v : Int32} (hd : decode cc pc = .ok (.baload, 1)) (e : ldI h .byte a i = some v) (hk : V d y cc nL rt hh sc (pc + 1) lv (.int v :: st) h o) : V d y cc nL rt hh sc pc lv (.int i :: .ref a :: st) h o := by
  unfold ldI at e
  split at e
  · rename_i t n f hx
    split at e
    · rename_i hc
      obtain ⟨rfl, hb⟩ := hc
      cases e
      exact V.bald hd (gA_some hx) (inB_vp hb) hk
    · cases e
  · cases e
theorem V.xldZ {i v : Int32} (hd : decode cc pc = .ok (.baload, 1)) (e : ldI h .boolean a i = some v) (hk : V d y cc nL rt hh sc (pc + 1) lv (.int v :: st) h o) : V d y cc nL rt hh sc pc lv (.int i :: .ref a :: st) h o := by
  unfold ldI at e
  split at e
  · rename_i t n f hx
    split at e
    · rename_i hc
      obtain ⟨rfl, hb⟩ := hc
      cases e
      exact V.zald hd (gA_some hx) (inB_vp hb) hk
    · cases e
  · cases e
theorem V.xldJ {i : Int32} {v : Int64} (hd : decode cc pc = .ok (.laload, 1)) (e : ldJ h a i = some v) (hk : V d y cc nL rt hh sc (pc + 1) lv (.long v :: st) h o) : V d y cc nL rt hh sc pc lv (.int i :: .ref a :: st) h o := by
  unfold ldJ at e
  split at e
  · rename_i t n f hx
    split at e
    · rename_i hc
      obtain ⟨rfl, hb⟩ := hc
      cases e
      exact V.lald hd (gA_some hx) (inB_vp hb) hk
    · cases e
  · cases e
theorem V.xldN {i : Int32} {C : String} {v : Nat} (hd : decode cc pc = .ok (.aaload, 1)) (e : ldN h C a i = some (some v)) (hk : V d y cc nL rt hh sc (pc + 1) lv (.ref v :: st) h o) : V d y cc nL rt hh sc pc lv (.int i :: .ref a :: st) h o := by
  unfold ldN at e
  split at e
  · rename_i t n f hx
    split at e
    · rename_i hc
      obtain ⟨rfl, hb⟩ := hc
      exact V.aald hd (gA_some hx) (inB_vp hb) (Option.some.inj e) hk
    · cases e
  · cases e
theorem V.xldN0 {i : Int32} {C : String} (hd : decode cc pc = .ok (.aaload, 1)) (e : ldN h C a i = some none) (hk : V d y cc nL rt hh sc (pc + 1) lv (.null :: st) h o) : V d y cc nL rt hh sc pc lv (.int i :: .ref a :: st) h o := by
  unfold ldN at e
  split at e
  · rename_i t n f hx
    split at e
    · rename_i hc
      obtain ⟨rfl, hb⟩ := hc
      exact V.aaldN hd (gA_some hx) (inB_vp hb) (Option.some.inj e) hk
    · cases e
  · cases e
theorem V.xstI {i x : Int32} (hd : decode cc pc = .ok (.iastore, 1)) (e : stI h .int a i x = some h') (hk : V d y cc nL rt hh sc (pc + 1) lv st h' o) : V d y cc nL rt hh sc pc lv (.int x :: .int i :: .ref a :: st) h o := by
  unfold stI at e
  split at e
  · rename_i t n f hx
    split at e
    · rename_i hc
      obtain ⟨rfl, hb⟩ := hc
      cases e
      exact V.iast hd (gA_some hx) (inB_vp hb) hk
    · cases e
  · cases e
theorem V.xstB {i x : Int32} (hd : decode cc pc = .ok (.bastore, 1)) (e : stI h .byte a i (vp_nar .byte x) = some h') (hk : V d y cc nL rt hh sc (pc + 1) lv st h' o) : V d y cc nL rt hh sc pc lv (.int x :: .int i :: .ref a :: st) h o := by
  unfold stI at e
  split at e
  · rename_i t n f hx
    split at e
    · rename_i hc
      obtain ⟨rfl, hb⟩ := hc
      cases e
      exact V.bast hd (gA_some hx) (inB_vp hb) hk
    · cases e
  · cases e
theorem V.xstZ {i x : Int32} (hd : decode cc pc = .ok (.bastore, 1)) (e : stI h .boolean a i (vp_nar .boolean x) = some h') (hk : V d y cc nL rt hh sc (pc + 1) lv st h' o) : V d y cc nL rt hh sc pc lv (.int x :: .int i :: .ref a :: st) h o := by
  unfold stI at e
  split at e
  · rename_i t n f hx
    split at e
    · rename_i hc
      obtain ⟨rfl, hb⟩ := hc
      cases e
      exact V.zast hd (gA_some hx) (inB_vp hb) hk
    · cases e
  · cases e
theorem V.xstJ {i : Int32} {x : Int64} (hd : decode cc pc = .ok (.lastore, 1)) (e : stJ h a i x = some h') (hk : V d y cc nL rt hh sc (pc + 1) lv st h' o) : V d y cc nL rt hh sc pc lv (.long x :: .int i :: .ref a :: st) h o := by
  unfold stJ at e
  split at e
  · rename_i t n f hx
    split at e
    · rename_i hc
      obtain ⟨rfl, hb⟩ := hc
      cases e
      exact V.last hd (gA_some hx) (inB_vp hb) hk
    · cases e
  · cases e
theorem V.xstN {i : Int32} {b : Nat} {r : vw_C} (hd : decode cc pc = .ok (.aastore, 1)) (hc : vwCl[ci]? = some r) (e : stN h r.1 ci a i b = some h') (hk : V d y cc nL rt hh sc (pc + 1) lv st h' o) : V d y cc nL rt hh sc pc lv (.ref b :: .int i :: .ref a :: st) h o := by
  unfold stN at e
  split at e
  · rename_i t n f vs hx hb
    split at e
    · rename_i hcc
      obtain ⟨rfl, hbb⟩ := hcc
      cases e
      exact V.aast hd (gA_some hx) (inB_vp hbb) (gO_some hb) hc hk
    · cases e
  · cases e
theorem V.xaln {v : Int32} (hd : decode cc pc = .ok (.arraylength, 1)) (e : aln h a = some v) (hk : V d y cc nL rt hh sc (pc + 1) lv (.int v :: st) h o) : V d y cc nL rt hh sc pc lv (.ref a :: st) h o := by
  unfold aln at e
  split at e
  · rename_i x hx
    exact V.alen hd (gA_some hx) (Option.some.inj e) hk
  · cases e
theorem V.xmkO {N : Nat} {fs : List Value} (hd : decode cc pc = .ok (.new idx, 3)) (hw : xNC y.cls idx ci N fs) (e : mkO h ci N fs = some h') (hk : V d y cc nL rt hh sc (pc + 3) lv (.ref h.1.length :: st) h' o) : V d y cc nL rt hh sc pc lv st h o := by
  unfold mkO at e
  split at e
  · rename_i hl
    cases e
    exact V.new hd hw hl hk
  · cases e
theorem V.xmkI {at_ : ArrayType} {n : Int32} (hd : decode cc pc = .ok (.newarray at_, 2)) (hty : newarray.typeOf at_ = ty) (hdf : defaultValue ty = .int 0) (harr : Cond.arrayClass ty ∈ xT) (hcb : componentBytes ty ≤ 8) (e : mkI h ty n = some h') (hk : V d y cc nL rt hh sc (pc + 2) lv (.ref h.1.length :: st) h' o) : V d y cc nL rt hh sc pc lv (.int n :: st) h o := by
  unfold mkI at e
  split at e
  · rename_i hl
    obtain ⟨h1, h2, h3⟩ := hl
    cases e
    exact V.newI hd hty hdf harr h2 rfl (Nat.le_trans (Nat.mul_le_mul h3 hcb) (by decide)) h1 hk
  · cases e
theorem V.xmkJ {n : Int32} (hd : decode cc pc = .ok (.newarray .long, 2)) (harr : Cond.arrayClass .long ∈ xT) (e : mkJ h n = some h') (hk : V d y cc nL rt hh sc (pc + 2) lv (.ref h.1.length :: st) h' o) : V d y cc nL rt hh sc pc lv (.int n :: st) h o := by
  unfold mkJ at e
  split at e
  · rename_i hl
    obtain ⟨h1, h2, h3⟩ := hl
    cases e
    exact V.newJ hd harr h2 rfl (Nat.le_trans (Nat.mul_le_mul h3 (show componentBytes .long ≤ 8 by decide)) (by decide)) h1 hk
  · cases e
theorem V.xmkN {C : String} {n : Int32} (hd : decode cc pc = .ok (.anewarray idx, 3)) (hl : Cond.classLink y.cls idx C ∈ xT) (hC9 : C = "LitNextDoor$House" ∨ C = "LitNextDoor$Lamps") (e : mkN h C n = some h') (hk : V d y cc nL rt hh sc (pc + 3) lv (.ref h.1.length :: st) h' o) : V d y cc nL rt hh sc pc lv (.int n :: st) h o := by
  unfold mkN at e
  split at e
  · rename_i hl1
    obtain ⟨h1, h2, h3⟩ := hl1
    cases e
    exact V.newR hd hl hC9 h2 rfl (Nat.le_trans (Nat.mul_le_mul_right 4 h3) (by decide)) h1 hk
  · cases e
theorem V.xcpI {b : Nat} {sp dp n : Int32} (hd : decode cc pc = .ok (.invokestatic idx, 3)) (hl : Cond.methodLink y.cls idx arraycopyName ∈ xT) (hn : Cond.native arraycopyName ∈ xT) (hs : Cond.static arraycopyName ∈ xT) (hi : Cond.initialized "java/lang/System" ∈ xT) (hcat : (st.map fun v => v.category).sum ≤ 8)
    (e : cpI h a sp b dp n = some h') (hk : V d y cc nL rt hh sc (pc + 3) lv st h' o) : V d y cc nL rt hh sc pc lv (.int n :: .int dp :: .ref b :: .int sp :: .ref a :: st) h o := by
  unfold cpI at e
  split at e
  · rename_i t na f t' nb g hx hx'
    split at e
    · rename_i hc
      obtain ⟨rfl, rfl, h1, h2, h3, h4, h5⟩ := hc
      cases e
      exact V.copy hd hl hn hs hi hcat (gA_some hx) (gA_some hx') h1 h2 h3 h4 h5 hk
    · cases e
  · cases e
theorem V.xclI {idx2 : Nat} (hd : decode cc pc = .ok (.invokevirtual idx, 3)) (hd2 : decode cc (pc + 3) = .ok (.checkcast idx2, 3)) (hl : Cond.methodLink y.cls idx ⟨"[I", "clone", "()Ljava/lang/Object;"⟩ ∈ xT) (hsm : Cond.sameMethod "[I" "java/lang/Object" "clone" "()Ljava/lang/Object;" ∈ xT) (hn : Cond.native ⟨"java/lang/Object", "clone", "()Ljava/lang/Object;"⟩ ∈ xT)
    (hin : Cond.instanceMethod ⟨"java/lang/Object", "clone", "()Ljava/lang/Object;"⟩ ∈ xT) (hsel : Cond.selects "[I" ⟨"[I", "clone", "()Ljava/lang/Object;"⟩ ⟨"java/lang/Object", "clone", "()Ljava/lang/Object;"⟩ ∈ xT) (hcast : Cond.castable "[I" "java/lang/Cloneable" ∈ xNw) (hcl : Cond.classLink y.cls idx2 "[I" ∈ xT) (hcat : (st.map fun v => v.category).sum ≤ 8)
    (e : clI h a = some h') (hk : V d y cc nL rt hh sc (pc + 3 + 3) lv (.ref h.1.length :: st) h' o) : V d y cc nL rt hh sc pc lv (.ref a :: st) h o := by
  unfold clI at e
  split at e
  · rename_i t n f hx
    split at e
    · rename_i hc
      obtain ⟨rfl, h1⟩ := hc
      cases e
      exact V.cloneI hd hd2 hl hsm hn hin hsel hcast hcl hcat h1 (gA_some hx) hk
    · cases e
  · cases e
theorem V.xdvI {x z v : Int32} (hd : decode cc pc = .ok (.idiv, 1)) (e : dvI x z = some v) (hk : V d y cc nL rt hh sc (pc + 1) lv (.int v :: st) h o) : V d y cc nL rt hh sc pc lv (.int z :: .int x :: st) h o := by
  unfold dvI at e
  split at e
  · cases e
  · rename_i hz
    cases e
    exact V.idiv hd hz hk
theorem V.xrmI {x z v : Int32} (hd : decode cc pc = .ok (.irem, 1)) (e : rmI x z = some v) (hk : V d y cc nL rt hh sc (pc + 1) lv (.int v :: st) h o) : V d y cc nL rt hh sc pc lv (.int z :: .int x :: st) h o := by
  unfold rmI at e
  split at e
  · cases e
  · rename_i hz
    cases e
    exact V.irem hd hz hk
theorem V.xdvJ {x z v : Int64} (hd : decode cc pc = .ok (.ldiv, 1)) (e : dvJ x z = some v) (hk : V d y cc nL rt hh sc (pc + 1) lv (.long v :: st) h o) : V d y cc nL rt hh sc pc lv (.long z :: .long x :: st) h o := by
  unfold dvJ at e
  split at e
  · cases e
  · rename_i hz
    cases e
    exact V.ldiv hd hz hk
theorem V.xrmJ {x z v : Int64} (hd : decode cc pc = .ok (.lrem, 1)) (e : rmJ x z = some v) (hk : V d y cc nL rt hh sc (pc + 1) lv (.long v :: st) h o) : V d y cc nL rt hh sc pc lv (.long z :: .long x :: st) h o := by
  unfold rmJ at e
  split at e
  · cases e
  · rename_i hz
    cases e
    exact V.lrem hd hz hk
end Acc
