/-! ===== V: a judgement over heaps of numbered cells: the machine, from a frame on, comes to the told end ===== -/
abbrev xA : Type := FieldType × Nat × ((Nat → Int32) ⊕ (Nat → Int64) ⊕ (Nat → Option Nat))
abbrev xC : Type := xA ⊕ (Nat × List Value)
/-- the cells by their places, how many cells were made in all, how many slots -/
abbrev xH : Type := List xC × Nat × Nat
/-- what is returned, or the class of what is thrown; the heap behind it -/
abbrev xO : Type := (Option Value ⊕ String) × xH
/-- places from here on name things that were there before: strings, the script -/
def xS0 : Nat := 1000000000
def xSC : Nat := 1000900000
def xv (ad : Nat → Nat) : Value → Value
  | .ref a => .ref (ad a)
  | v => v
def xl (ad : Nat → Nat) (q : Nat × Value) : Nat × Value := (q.1, xv ad q.2)
def xe (ad : Nat → Nat) (cA : ClassId) : xC → va_E
  | .inl (_, n, .inl f) => .inl (cA, n, .inl f)
  | .inl (_, n, .inr (.inl f)) => .inl (cA, n, .inr (.inl f))
  | .inl (_, n, .inr (.inr f)) => .inl (cA, n, .inr (.inr (.inr (.inr (fun i => (f i).map ad)))))
  | .inr (ci, fs) => .inr (ci, fs.map (xv ad))
def xw (ad : Nat → Nat) (ac : Nat → ClassId) (h : List xC) : va_W := h.mapIdx fun k x => (ad k, xe ad (ac k) x)
def okv (n : Nat) : Value → Prop
  | .ref a => a < n ∨ xS0 ≤ a
  | _ => True
def okS (n : Nat) : List Value → Prop
  | [] => True
  | v :: r => okv n v ∧ okS n r
def okL (n : Nat) : List (Nat × Value) → Prop
  | [] => True
  | q :: r => okv n q.2 ∧ okL n r
def okC (n : Nat) : xC → Prop
  | .inl (_, _, .inl _) => True
  | .inl (_, _, .inr (.inl _)) => True
  | .inl (_, _, .inr (.inr f)) => ∀ i a, f i = some a → a < n
  | .inr (_, fs) => okS n fs
def okH (h : List xC) : Prop := ∀ (k : Nat) (x : xC), h[k]? = some x → okC h.length x
/-- the strings: their texts' bytes, by number; where a class names them -/
def xTx : List String := ["rooms", "pane", "to", "lets", "both", "lamp", "bright", "oil", "want", "least", "most", "from", "hole", "costs", "burns", "for", "hates", "dear",
  "not so many bytes", "no such pane", "no such what", "no such kind", "no such room", "hours beyond 23", "no such hour", "a set with others", "more than 8 rooms", "no such grid", "no such hole", "one lamp or two",
  "the second hour is ahead of the first", "no such tray", "the tray is missing", "fewer numbers than rooms", "more than 10 rooms", "too large a number", "more than 12 rooms", "no such row or ring", "no such rule", "no such fail", "no such row", "no such place",
  "it ends within two", "more lamps than rooms", "no such lamp", "no such image", "no image was made"]
def xLen : List Nat := xTx.map String.length
def xByt : List (List Int32) := xTx.map fun t => t.toList.map fun c => Int32.ofNat c.toNat
def xStrs : List (String × Nat × Nat) := [("LitNextDoor$Reader", 76, 0), ("LitNextDoorModel", 182, 0), ("LitNextDoor$Reader", 85, 1), ("LitNextDoorModel", 194, 1), ("LitNextDoor$Reader", 179, 2), ("LitNextDoorModel", 152, 2),
  ("LitNextDoor$Reader", 203, 3), ("LitNextDoorModel", 154, 3), ("LitNextDoor$Reader", 143, 4), ("LitNextDoorModel", 165, 4), ("LitNextDoor$Reader", 90, 5), ("LitNextDoorModel", 187, 5), ("LitNextDoor$Reader", 162, 6), ("LitNextDoorModel", 169, 6),
  ("LitNextDoor$Reader", 164, 7), ("LitNextDoorModel", 171, 7), ("LitNextDoor$Reader", 95, 8), ("LitNextDoorModel", 199, 8), ("LitNextDoor$Reader", 172, 9), ("LitNextDoorModel", 173, 9), ("LitNextDoor$Reader", 174, 10), ("LitNextDoorModel", 175, 10),
  ("LitNextDoor$Reader", 177, 11), ("LitNextDoorModel", 178, 11), ("LitNextDoor$Reader", 100, 12), ("LitNextDoorModel", 204, 12), ("LitNextDoor$Reader", 187, 13), ("LitNextDoorModel", 167, 13), ("LitNextDoor$Reader", 105, 14), ("LitNextDoorModel", 209, 14),
  ("LitNextDoor$Reader", 192, 15), ("LitNextDoorModel", 180, 15), ("LitNextDoor$Reader", 110, 16), ("LitNextDoorModel", 214, 16), ("LitNextDoor$Reader", 115, 17), ("LitNextDoorModel", 192, 17),
  ("LitNextDoor", 108, 18), ("LitNextDoor", 137, 19), ("LitNextDoor", 343, 20), ("LitNextDoor", 421, 21), ("LitNextDoor", 419, 22), ("LitNextDoor", 169, 23), ("LitNextDoor", 423, 24), ("LitNextDoor", 425, 25), ("LitNextDoor", 251, 26), ("LitNextDoor", 266, 27),
  ("LitNextDoor", 271, 28), ("LitNextDoor", 285, 29), ("LitNextDoor", 287, 30), ("LitNextDoor", 429, 31), ("LitNextDoor", 431, 32), ("LitNextDoor", 322, 33), ("LitNextDoor", 325, 34), ("LitNextDoor", 335, 35), ("LitNextDoor", 341, 36), ("LitNextDoor", 427, 37),
  ("LitNextDoor", 360, 38), ("LitNextDoor", 375, 39), ("LitNextDoor", 381, 40), ("LitNextDoor", 385, 41), ("LitNextDoor", 390, 42), ("LitNextDoor", 392, 43), ("LitNextDoor", 399, 44), ("LitNextDoor", 433, 45), ("LitNextDoor", 410, 46)]
/-- words that stay, though the kit doesn't call them good -/
def xnw : Cond → Bool
  | .methodLinkNest _ _ _ _ => true
  | .castable _ _ => true
  | .declares _ => true
  | _ => false
def xNw : List Cond := [.methodLinkNest "LitNextDoor" 65 ⟨"LitNextDoor$Cover", "<init>", "()V"⟩ "LitNextDoor", .methodLinkNest "LitNextDoor" 72 ⟨"LitNextDoor$Kindled", "<init>", "()V"⟩ "LitNextDoor", .methodLinkNest "LitNextDoor$Kindled" 11 ⟨"LitNextDoor$Balance", "<init>", "()V"⟩ "LitNextDoor",
  .methodLinkNest "LitNextDoor" 79 ⟨"LitNextDoor$Mixture", "<init>", "()V"⟩ "LitNextDoor", .methodLinkNest "LitNextDoor$Mixture" 31 ⟨"LitNextDoor$Balance", "<init>", "()V"⟩ "LitNextDoor", .methodLinkNest "LitNextDoor" 86 ⟨"LitNextDoor$Carrier", "<init>", "()V"⟩ "LitNextDoor",
  .methodLinkNest "LitNextDoor" 93 ⟨"LitNextDoor$Tenants", "<init>", "()V"⟩ "LitNextDoor", .methodLinkNest "LitNextDoor$Tenants" 71 ⟨"LitNextDoor", "factorial", "(I)J"⟩ "LitNextDoor",
  .castable "[I" "java/lang/Cloneable", .castable "java/lang/IllegalArgumentException" "java/lang/IllegalArgumentException", .castable "java/util/NoSuchElementException" "java/util/NoSuchElementException", .castable "java/lang/IllegalStateException" "java/lang/IllegalStateException", .castable "java/lang/IndexOutOfBoundsException" "java/lang/IndexOutOfBoundsException",
  .declares ⟨"java/lang/RuntimeException", "<init>", "()V"⟩, .declares ⟨"java/lang/RuntimeException", "<init>", "(Ljava/lang/String;)V"⟩, .declares ⟨"java/lang/Exception", "<init>", "()V"⟩, .declares ⟨"java/lang/Exception", "<init>", "(Ljava/lang/String;)V"⟩, .declares ⟨"java/lang/Throwable", "<init>", "()V"⟩, .declares ⟨"java/lang/Throwable", "<init>", "(Ljava/lang/String;)V"⟩]
def xExc : List String := ["java/lang/IllegalArgumentException", "java/util/NoSuchElementException", "java/lang/IllegalStateException", "java/lang/IndexOutOfBoundsException"]
/-- what lies outside: nothing writes it -/
def xOW (ad : Nat → Nat) (A : Nat → Prop) (U : State) (H : Heap) : Prop :=
  (∀ i : Nat, i < 47 → vk_S 1 [xLen.getD i 0] [xByt.getD i []] (fun _ => ad (xS0 + 2 * i)) (fun _ => ad (xS0 + 2 * i + 1)) A U H) ∧
  (∀ q ∈ xStrs, vk_R q.1 q.2.1 (xTx.getD q.2.2 "") (ad (xS0 + 2 * q.2.2)) U) ∧
  vx_Zq Bundle.tN "UNASSIGNED_STACK" Bundle.steD A U H ∧ vx_Zq Bundle.tN "SUPPRESSED_SENTINEL" Bundle.listD A U H ∧
  (va_Z "jdk/internal/util/Preconditions" "SIOOBE_FORMATTER" "Ljava/util/function/BiFunction;" .null A U H ∨ va_Z "jdk/internal/util/Preconditions" "SIOOBE_FORMATTER" "Ljava/util/function/BiFunction;" (.ref (ad 1000004000)) A U H) ∧
  va_Z "java/lang/String" "COMPACT_STRINGS" "Z" (.int 1) A U H ∧
  (∀ w ∈ xNw, va_Nw w U) ∧ va_AO "LitNextDoor$House" U ∧ va_AO "LitNextDoor$Lamps" U ∧ (∀ a ∈ xExc, ∀ b ∈ xExc, a ≠ b → va_Nc a b U)
/-- the tables' words that hold in every state of the run -/
def xT : List Cond := lw_tbl.filter goodWord
def xP (D : va_G) (ad : Nat → Nat) (ac : Nat → ClassId) (h : List xC) (A : Nat → Prop) (U : State) (H : Heap) : Prop :=
  va_P D vwCl (xw ad ac h) H ∧ va_D A (xw ad ac h) ∧ (∀ (k : Nat) (ty : FieldType) (x : Nat × ((Nat → Int32) ⊕ (Nat → Int64) ⊕ (Nat → Option Nat))), h[k]? = some (.inl (ty, x)) → ArrOfT U (ac k) ty ∧ va_RA U (ac k) ty) ∧ okH h
def xF (y : MethodName) (cc : ByteArray) (nL : Nat) (rt : Option FieldType) (hh : List (Nat × Nat × Nat × Nat)) (p : Program) (l : Launch) (s : State) (m : MethodId) (args : Array Value) (meth : Method) (c : Code) : Prop :=
  p.tables.exec = Jvm.exec ∧ c.code = cc ∧ c.maxLocals = nL ∧ meth.sig.returnType = rt ∧ s.vm.findClass y.cls = some m.cls ∧ (∀ w ∈ xT, w.before args s = true) ∧ meth.locks = false ∧ c.exceptionTable.toList = tableOf hh ∧ meth.name = y.name ∧ l.stackTraces = false
def xR (d : Nat) (R : Room) (mc ms : Nat) : Prop := d + 20 ≤ R.frames ∧ 64 * d + 400 ≤ R.locals ∧ mc ≤ R.cells ∧ ms ≤ R.slots
def xSm (n0 : Nat) (ad ad0 : Nat → Nat) : Prop := ∀ k, k < n0 ∨ xS0 ≤ k → ad k = ad0 k
def xSc (sc : Option (Nat × (Nat → Int32))) (ad : Nat → Nat) (A : Nat → Prop) (s : State) : Prop := ∀ q, sc = some q → va_X (ad xSC) q.1 q.2 s s.heap ∧ ad xSC < s.heap.size ∧ ¬ A (ad xSC)
/-- a method has returned -/
def xQ (D : va_G) (ad0 : Nat → Nat) (n0 : Nat) (A : Nat → Prop) (o : xO) : Array Value → State → Outcome → State → Prop := fun _ st oc t =>
  (∃ (r : Option Value) (ad : Nat → Nat) (ac : Nat → ClassId), o.1 = .inl r ∧ oc = .returned (r.map (xv ad)) ∧ xSm n0 ad ad0 ∧ n0 ≤ o.2.1.length ∧ (∀ v, r = some v → okv o.2.1.length v) ∧ xP D ad ac o.2.1 A t t.heap) ∧ va_F A st t
/-- .. or has thrown -/
def xX (D : va_G) (ad0 : Nat → Nat) (n0 : Nat) (A : Nat → Prop) (o : xO) : String → State → State → Prop := fun E st t =>
  (∃ (ad : Nat → Nat) (ac : Nat → ClassId), o.1 = .inr E ∧ xSm n0 ad ad0 ∧ n0 ≤ o.2.1.length ∧ xP D ad ac o.2.1 A t t.heap) ∧ va_F A st t
def xCx (d : Nat) (y : MethodName) (cc : ByteArray) (nL : Nat) (rt : Option FieldType) (hh : List (Nat × Nat × Nat × Nat)) (sc : Option (Nat × (Nat → Int32))) (lv : List (Nat × Value)) (st : List Value) (h : xH) (o : xO)
    (p : Program) (l : Launch) (R : Room) (s : State) (m : MethodId) (args : Array Value) (meth : Method) (c : Code) (D : va_G) (ad : Nat → Nat) (ac : Nat → ClassId) (A : Nat → Prop) (ad0 : Nat → Nat) (n0 : Nat) (H : Heap) (locs : List Loc) (cells slots mc ms : Nat) (ls : Array Slot) : Prop :=
  xF y cc nL rt hh p l s m args meth c ∧ xR d R mc ms ∧ (cells + o.2.2.1 ≤ mc + h.2.1 ∧ slots + o.2.2.2 ≤ ms + h.2.2) ∧ (xSm n0 ad ad0 ∧ n0 ≤ h.1.length) ∧ (∀ q, s.heap.size ≤ q → A q) ∧ va_S A s.heap H locs ∧
  xP D ad ac h.1 A s H ∧ va_K D vwCl [] s ∧ xOW ad A s s.heap ∧ okL h.1.length lv ∧ okS h.1.length st ∧ lv_has ls nL (lv.map (xl ad)) ∧ xSc sc ad A s
def V (d : Nat) (y : MethodName) (cc : ByteArray) (nL : Nat) (rt : Option FieldType) (hh : List (Nat × Nat × Nat × Nat)) (sc : Option (Nat × (Nat → Int32))) (pc : Nat) (lv : List (Nat × Value)) (st : List Value) (h : xH) (o : xO) : Prop :=
  (h.2.1 ≤ o.2.2.1 ∧ h.2.2 ≤ o.2.2.2) ∧
  ∀ (p : Program) (l : Launch) (e : Env) (R : Room) (s : State) (m : MethodId) (args : Array Value) (below : List Frame) (meth : Method) (c : Code) (D : va_G) (ad : Nat → Nat) (ac : Nat → ClassId) (A : Nat → Prop) (ad0 : Nat → Nat) (n0 : Nat) (H : Heap) (locs : List Loc) (cells slots mc ms : Nat) (ls : Array Slot),
    xCx d y cc nL rt hh sc lv st h o p l R s m args meth c D ad ac A ad0 n0 H locs cells slots mc ms ls →
    W p l e R s m args below meth c H locs cells slots (vx_MQ below (xQ D ad0 n0 A o) (xX D ad0 n0 A o) args s mc ms A) (F0 m pc ls (st.map (xv ad)))
section VRows
variable {d : Nat} {y : MethodName} {cc : ByteArray} {nL : Nat} {rt : Option FieldType} {hh : List (Nat × Nat × Nat × Nat)} {sc : Option (Nat × (Nat → Int32))} {pc pc' : Nat} {lv lv' : List (Nat × Value)} {st st' : List Value} {h : xH} {o : xO}
theorem V.stk (hk : V d y cc nL rt hh sc pc' lv st' h o) (hg : ∀ {p : Program} {l : Launch} {e : Env} {R : Room} {s : State} {m : MethodId} {args : Array Value} {below : List Frame} {meth : Method} {c : Code} {H : Heap} {locs : List Loc} {cells slots : Nat} {Q : State → Prop} {ls : Array Slot} {ad : Nat → Nat},
      p.tables.exec = Jvm.exec → c.code = cc → lv_has ls nL (lv.map (xl ad)) → W p l e R s m args below meth c H locs cells slots Q (F0 m pc' ls (st'.map (xv ad))) → W p l e R s m args below meth c H locs cells slots Q (F0 m pc ls (st.map (xv ad))))
    (ho : ∀ n, okL n lv → okS n st → okS n st') : V d y cc nL rt hh sc pc lv st h o := by
  refine ⟨hk.1, fun p l e R s m args below meth c D ad ac A ad0 n0 H locs cells slots mc ms ls hx => ?_⟩
  obtain ⟨F, hR, hC, hAd, hA, hS, hP, hK, hO, hL, hT, hls, hsc⟩ := hx
  exact hg F.1 F.2.1 hls (hk.2 p l e R s m args below meth c D ad ac A ad0 n0 H locs cells slots mc ms ls ⟨F, hR, hC, hAd, hA, hS, hP, hK, hO, hL, ho _ hL hT, hls, hsc⟩)
theorem V.loc (hk : V d y cc nL rt hh sc pc' lv' st' h o) (hg : ∀ {p : Program} {l : Launch} {e : Env} {R : Room} {s : State} {m : MethodId} {args : Array Value} {below : List Frame} {meth : Method} {c : Code} {H : Heap} {locs : List Loc} {cells slots : Nat} {Q : State → Prop} {ls : Array Slot} {ad : Nat → Nat},
      p.tables.exec = Jvm.exec → c.code = cc → lv_has ls nL (lv.map (xl ad)) → (∀ ls', lv_has ls' nL (lv'.map (xl ad)) → W p l e R s m args below meth c H locs cells slots Q (F0 m pc' ls' (st'.map (xv ad)))) → W p l e R s m args below meth c H locs cells slots Q (F0 m pc ls (st.map (xv ad))))
    (ho : ∀ n, okL n lv → okS n st → okL n lv' ∧ okS n st') : V d y cc nL rt hh sc pc lv st h o := by
  refine ⟨hk.1, fun p l e R s m args below meth c D ad ac A ad0 n0 H locs cells slots mc ms ls hx => ?_⟩
  obtain ⟨F, hR, hC, hAd, hA, hS, hP, hK, hO, hL, hT, hls, hsc⟩ := hx
  exact hg F.1 F.2.1 hls (fun ls' hl' => hk.2 p l e R s m args below meth c D ad ac A ad0 n0 H locs cells slots mc ms ls' ⟨F, hR, hC, hAd, hA, hS, hP, hK, hO, (ho _ hL hT).1, (ho _ hL hT).2, hl', hsc⟩)
theorem V.br {P : Prop} {pc1 pc2 : Nat} {st1 : List Value} (h1 : P → V d y cc nL rt hh sc pc1 lv st1 h o) (h2 : ¬ P → V d y cc nL rt hh sc pc2 lv st1 h o) (hg : ∀ {p : Program} {l : Launch} {e : Env} {R : Room} {s : State} {m : MethodId} {args : Array Value} {below : List Frame} {meth : Method} {c : Code} {H : Heap} {locs : List Loc} {cells slots : Nat} {Q : State → Prop} {ls : Array Slot} {ad : Nat → Nat},
      p.tables.exec = Jvm.exec → c.code = cc → (P → W p l e R s m args below meth c H locs cells slots Q (F0 m pc1 ls (st1.map (xv ad)))) → (¬ P → W p l e R s m args below meth c H locs cells slots Q (F0 m pc2 ls (st1.map (xv ad)))) → W p l e R s m args below meth c H locs cells slots Q (F0 m pc ls (st.map (xv ad))))
    (ho : ∀ n, okS n st → okS n st1) : V d y cc nL rt hh sc pc lv st h o := by
  refine ⟨?_, fun p l e R s m args below meth c D ad ac A ad0 n0 H locs cells slots mc ms ls hx => ?_⟩
  · by_cases hp : P
    · exact (h1 hp).1
    · exact (h2 hp).1
  · obtain ⟨F, hR, hC, hAd, hA, hS, hP, hK, hO, hL, hT, hls, hsc⟩ := hx
    exact hg F.1 F.2.1 (fun hp => (h1 hp).2 p l e R s m args below meth c D ad ac A ad0 n0 H locs cells slots mc ms ls ⟨F, hR, hC, hAd, hA, hS, hP, hK, hO, hL, ho _ hT, hls, hsc⟩)
      (fun hp => (h2 hp).2 p l e R s m args below meth c D ad ac A ad0 n0 H locs cells slots mc ms ls ⟨F, hR, hC, hAd, hA, hS, hP, hK, hO, hL, ho _ hT, hls, hsc⟩)
end VRows
