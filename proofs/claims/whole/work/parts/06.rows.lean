theorem xl_at {ls : Array Slot} {nL : Nat} {lv : List (Nat × Value)} {ad : Nat → Nat} (h : lv_has ls nL (lv.map (xl ad))) {k i : Nat} {v : Value} (hk : lv[k]? = some (i, v)) : ls[i]? = some (.val (xv ad v)) :=
  lv_at h k (by rw [List.getElem?_map, hk]; rfl)
theorem okL_at {n : Nat} : ∀ {lv : List (Nat × Value)} (_ : okL n lv) {k i : Nat} {v : Value} (_ : lv[k]? = some (i, v)), okv n v
  | q :: r, h, 0, i, v, hk => by cases hk; exact h.1
  | q :: r, h, k + 1, i, v, hk => okL_at h.2 (show r[k]? = some (i, v) from hk)
theorem okL_filter {n : Nat} {f : Nat × Value → Bool} : ∀ {lv : List (Nat × Value)}, okL n lv → okL n (lv.filter f)
  | [], _ => trivial
  | q :: r, h => by
    rw [List.filter_cons]
    split
    · exact ⟨h.1, okL_filter h.2⟩
    · exact okL_filter h.2
theorem xv_cat (ad : Nat → Nat) (v : Value) : (xv ad v).category = v.category := by cases v <;> rfl
theorem xl_filter1 {ad : Nat → Nat} {i : Nat} : ∀ lv : List (Nat × Value), (lv.filter (fun q => !(q.1 == i) && !(q.1 + 1 == i && q.2.category == 2))).map (xl ad) = (lv.map (xl ad)).filter (fun q => !(q.1 == i) && !(q.1 + 1 == i && q.2.category == 2))
  | [] => rfl
  | q :: r => by
    have hq : (!((xl ad q).1 == i) && !((xl ad q).1 + 1 == i && (xl ad q).2.category == 2)) = (!(q.1 == i) && !(q.1 + 1 == i && q.2.category == 2)) := by
      simp only [xl, xv_cat]
    rw [List.map_cons, List.filter_cons, List.filter_cons, hq, ← xl_filter1 r]
    split <;> rfl
theorem xl_filter2 {ad : Nat → Nat} {i : Nat} : ∀ lv : List (Nat × Value), (lv.filter (fun q => !(q.1 == i) && (!(q.1 == i + 1) && !(q.1 + 1 == i && q.2.category == 2)))).map (xl ad) = (lv.map (xl ad)).filter (fun q => !(q.1 == i) && (!(q.1 == i + 1) && !(q.1 + 1 == i && q.2.category == 2)))
  | [] => rfl
  | q :: r => by
    have hq : (!((xl ad q).1 == i) && (!((xl ad q).1 == i + 1) && !((xl ad q).1 + 1 == i && (xl ad q).2.category == 2))) = (!(q.1 == i) && (!(q.1 == i + 1) && !(q.1 + 1 == i && q.2.category == 2))) := by
      simp only [xl, xv_cat]
    rw [List.map_cons, List.filter_cons, List.filter_cons, hq, ← xl_filter2 r]
    split <;> rfl
section VSimple
variable {d : Nat} {y : MethodName} {cc : ByteArray} {nL : Nat} {rt : Option FieldType} {hh : List (Nat × Nat × Nat × Nat)} {sc : Option (Nat × (Nat → Int32))} {pc : Nat} {lv lv' : List (Nat × Value)} {st : List Value} {h : xH} {o : xO}
theorem V.iconst {n : Int} {v : Int32} (hd : decode cc pc = .ok (.iconst n, 1)) (hv : Int32.ofInt n = v) (hk : V d y cc nL rt hh sc (pc + 1) lv (.int v :: st) h o) : V d y cc nL rt hh sc pc lv (st) h o :=
  V.stk hk (fun hx hb hl kk => lv_iconst hx hb hd hv kk) (fun _ _ ht => ⟨trivial, ht⟩)
theorem V.bipush {n : Int} {v : Int32} (hd : decode cc pc = .ok (.bipush n, 2)) (hv : (Int8.ofInt n).toInt32 = v) (hk : V d y cc nL rt hh sc (pc + 2) lv (.int v :: st) h o) : V d y cc nL rt hh sc pc lv (st) h o :=
  V.stk hk (fun hx hb hl kk => lv_bipush hx hb hd hv kk) (fun _ _ ht => ⟨trivial, ht⟩)
theorem V.sipush {n : Int} {v : Int32} (hd : decode cc pc = .ok (.sipush n, 3)) (hv : (Int16.ofInt n).toInt32 = v) (hk : V d y cc nL rt hh sc (pc + 3) lv (.int v :: st) h o) : V d y cc nL rt hh sc pc lv (st) h o :=
  V.stk hk (fun hx hb hl kk => lv_sipush hx hb hd hv kk) (fun _ _ ht => ⟨trivial, ht⟩)
theorem V.lconst {n : Fin 2} {v : Int64} (hd : decode cc pc = .ok (.lconst n, 1)) (hv : Int64.ofNat (n : Nat) = v) (hk : V d y cc nL rt hh sc (pc + 1) lv (.long v :: st) h o) : V d y cc nL rt hh sc pc lv (st) h o :=
  V.stk hk (fun hx hb hl kk => lv_lconst hx hb hd hv kk) (fun _ _ ht => ⟨trivial, ht⟩)
theorem V.anull  (hd : decode cc pc = .ok (.aconst_null, 1)) (hk : V d y cc nL rt hh sc (pc + 1) lv (.null :: st) h o) : V d y cc nL rt hh sc pc lv (st) h o :=
  V.stk hk (fun hx hb hl kk => lv_null hx hb hd kk) (fun _ _ ht => ⟨trivial, ht⟩)
theorem V.iload {i : Nat} {x : Int32} (hd : decode cc pc = .ok (.iload i, 2)) (k : Nat) (hlv : lv[k]? = some (i, .int x)) (hk : V d y cc nL rt hh sc (pc + 2) lv (.int x :: st) h o) : V d y cc nL rt hh sc pc lv (st) h o :=
  V.stk hk (fun hx hb hl kk => lv_iload hx hb hd (xl_at hl hlv) kk) (fun _ _ ht => ⟨trivial, ht⟩)
theorem V.iload_n {i : Nat} {j : Fin 4} {x : Int32} (hd : decode cc pc = .ok (.iload_n j, 1)) (hi : (j : Nat) = i) (k : Nat) (hlv : lv[k]? = some (i, .int x)) (hk : V d y cc nL rt hh sc (pc + 1) lv (.int x :: st) h o) : V d y cc nL rt hh sc pc lv (st) h o :=
  V.stk hk (fun hx hb hl kk => lv_iload_n hx hb hd hi (xl_at hl hlv) kk) (fun _ _ ht => ⟨trivial, ht⟩)
theorem V.lload {i : Nat} {x : Int64} (hd : decode cc pc = .ok (.lload i, 2)) (k : Nat) (hlv : lv[k]? = some (i, .long x)) (hk : V d y cc nL rt hh sc (pc + 2) lv (.long x :: st) h o) : V d y cc nL rt hh sc pc lv (st) h o :=
  V.stk hk (fun hx hb hl kk => lv_lload hx hb hd (xl_at hl hlv) kk) (fun _ _ ht => ⟨trivial, ht⟩)
theorem V.lload_n {i : Nat} {j : Fin 4} {x : Int64} (hd : decode cc pc = .ok (.lload_n j, 1)) (hi : (j : Nat) = i) (k : Nat) (hlv : lv[k]? = some (i, .long x)) (hk : V d y cc nL rt hh sc (pc + 1) lv (.long x :: st) h o) : V d y cc nL rt hh sc pc lv (st) h o :=
  V.stk hk (fun hx hb hl kk => lv_lload_n hx hb hd hi (xl_at hl hlv) kk) (fun _ _ ht => ⟨trivial, ht⟩)
theorem V.aload {i : Nat} {x : Nat} (hd : decode cc pc = .ok (.aload i, 2)) (k : Nat) (hlv : lv[k]? = some (i, .ref x)) (hk : V d y cc nL rt hh sc (pc + 2) lv (.ref x :: st) h o) : V d y cc nL rt hh sc pc lv (st) h o :=
  V.stk hk (fun hx hb hl kk => lv_aload hx hb hd (xl_at hl hlv) kk) (fun _ hl ht => ⟨okL_at hl hlv, ht⟩)
theorem V.aload_n {i : Nat} {j : Fin 4} {x : Nat} (hd : decode cc pc = .ok (.aload_n j, 1)) (hi : (j : Nat) = i) (k : Nat) (hlv : lv[k]? = some (i, .ref x)) (hk : V d y cc nL rt hh sc (pc + 1) lv (.ref x :: st) h o) : V d y cc nL rt hh sc pc lv (st) h o :=
  V.stk hk (fun hx hb hl kk => lv_aload_n hx hb hd hi (xl_at hl hlv) kk) (fun _ hl ht => ⟨okL_at hl hlv, ht⟩)
theorem V.aloadN {i : Nat} (hd : decode cc pc = .ok (.aload i, 2)) (k : Nat) (hlv : lv[k]? = some (i, .null)) (hk : V d y cc nL rt hh sc (pc + 2) lv (.null :: st) h o) : V d y cc nL rt hh sc pc lv (st) h o :=
  V.stk hk (fun hx hb hl kk => lv_aloadN hx hb hd (xl_at hl hlv) kk) (fun _ _ ht => ⟨trivial, ht⟩)
theorem V.aload_nN {i : Nat} {j : Fin 4} (hd : decode cc pc = .ok (.aload_n j, 1)) (hi : (j : Nat) = i) (k : Nat) (hlv : lv[k]? = some (i, .null)) (hk : V d y cc nL rt hh sc (pc + 1) lv (.null :: st) h o) : V d y cc nL rt hh sc pc lv (st) h o :=
  V.stk hk (fun hx hb hl kk => lv_aload_nN hx hb hd hi (xl_at hl hlv) kk) (fun _ _ ht => ⟨trivial, ht⟩)
theorem V.iadd {x z : Int32} (hd : decode cc pc = .ok (.iadd, 1)) (hk : V d y cc nL rt hh sc (pc + 1) lv (.int (x + z) :: st) h o) : V d y cc nL rt hh sc pc lv (.int z :: .int x :: st) h o :=
  V.stk hk (fun hx hb hl kk => lv_iadd hx hb hd kk) (fun _ _ ht => ⟨trivial, ht.2.2⟩)
theorem V.isub {x z : Int32} (hd : decode cc pc = .ok (.isub, 1)) (hk : V d y cc nL rt hh sc (pc + 1) lv (.int (x - z) :: st) h o) : V d y cc nL rt hh sc pc lv (.int z :: .int x :: st) h o :=
  V.stk hk (fun hx hb hl kk => lv_isub hx hb hd kk) (fun _ _ ht => ⟨trivial, ht.2.2⟩)
theorem V.imul {x z : Int32} (hd : decode cc pc = .ok (.imul, 1)) (hk : V d y cc nL rt hh sc (pc + 1) lv (.int (x * z) :: st) h o) : V d y cc nL rt hh sc pc lv (.int z :: .int x :: st) h o :=
  V.stk hk (fun hx hb hl kk => lv_imul hx hb hd kk) (fun _ _ ht => ⟨trivial, ht.2.2⟩)
theorem V.iand {x z : Int32} (hd : decode cc pc = .ok (.iand, 1)) (hk : V d y cc nL rt hh sc (pc + 1) lv (.int (x &&& z) :: st) h o) : V d y cc nL rt hh sc pc lv (.int z :: .int x :: st) h o :=
  V.stk hk (fun hx hb hl kk => lv_iand hx hb hd kk) (fun _ _ ht => ⟨trivial, ht.2.2⟩)
theorem V.ior {x z : Int32} (hd : decode cc pc = .ok (.ior, 1)) (hk : V d y cc nL rt hh sc (pc + 1) lv (.int (x ||| z) :: st) h o) : V d y cc nL rt hh sc pc lv (.int z :: .int x :: st) h o :=
  V.stk hk (fun hx hb hl kk => lv_ior hx hb hd kk) (fun _ _ ht => ⟨trivial, ht.2.2⟩)
theorem V.ixor {x z : Int32} (hd : decode cc pc = .ok (.ixor, 1)) (hk : V d y cc nL rt hh sc (pc + 1) lv (.int (x ^^^ z) :: st) h o) : V d y cc nL rt hh sc pc lv (.int z :: .int x :: st) h o :=
  V.stk hk (fun hx hb hl kk => lv_ixor hx hb hd kk) (fun _ _ ht => ⟨trivial, ht.2.2⟩)
theorem V.ishl {x z : Int32} (hd : decode cc pc = .ok (.ishl, 1)) (hk : V d y cc nL rt hh sc (pc + 1) lv (.int (x <<< (z &&& 31)) :: st) h o) : V d y cc nL rt hh sc pc lv (.int z :: .int x :: st) h o :=
  V.stk hk (fun hx hb hl kk => lv_ishl hx hb hd kk) (fun _ _ ht => ⟨trivial, ht.2.2⟩)
theorem V.ishr {x z : Int32} (hd : decode cc pc = .ok (.ishr, 1)) (hk : V d y cc nL rt hh sc (pc + 1) lv (.int (x >>> (z &&& 31)) :: st) h o) : V d y cc nL rt hh sc pc lv (.int z :: .int x :: st) h o :=
  V.stk hk (fun hx hb hl kk => lv_ishr hx hb hd kk) (fun _ _ ht => ⟨trivial, ht.2.2⟩)
theorem V.idiv {x z : Int32} (hd : decode cc pc = .ok (.idiv, 1)) (hne : ¬ z = 0) (hk : V d y cc nL rt hh sc (pc + 1) lv (.int (x / z) :: st) h o) : V d y cc nL rt hh sc pc lv (.int z :: .int x :: st) h o :=
  V.stk hk (fun hx hb hl kk => lv_idiv hx hb hd hne kk) (fun _ _ ht => ⟨trivial, ht.2.2⟩)
theorem V.irem {x z : Int32} (hd : decode cc pc = .ok (.irem, 1)) (hne : ¬ z = 0) (hk : V d y cc nL rt hh sc (pc + 1) lv (.int (x - x / z * z) :: st) h o) : V d y cc nL rt hh sc pc lv (.int z :: .int x :: st) h o :=
  V.stk hk (fun hx hb hl kk => lv_irem hx hb hd hne kk) (fun _ _ ht => ⟨trivial, ht.2.2⟩)
theorem V.iushr {x z : Int32} (hd : decode cc pc = .ok (.iushr, 1)) (hk : V d y cc nL rt hh sc (pc + 1) lv (.int ((x.toUInt32 >>> (z.toUInt32 &&& Int32.toUInt32 31)).toInt32) :: st) h o) : V d y cc nL rt hh sc pc lv (.int z :: .int x :: st) h o :=
  V.stk hk (fun hx hb hl kk => lv_iushr hx hb hd rfl kk) (fun _ _ ht => ⟨trivial, ht.2.2⟩)
theorem V.ineg {x : Int32} (hd : decode cc pc = .ok (.ineg, 1)) (hk : V d y cc nL rt hh sc (pc + 1) lv (.int (-x) :: st) h o) : V d y cc nL rt hh sc pc lv (.int x :: st) h o :=
  V.stk hk (fun hx hb hl kk => lv_ineg hx hb hd kk) (fun _ _ ht => ⟨trivial, ht.2⟩)
theorem V.ladd {x z : Int64} (hd : decode cc pc = .ok (.ladd, 1)) (hk : V d y cc nL rt hh sc (pc + 1) lv (.long (x + z) :: st) h o) : V d y cc nL rt hh sc pc lv (.long z :: .long x :: st) h o :=
  V.stk hk (fun hx hb hl kk => lv_ladd hx hb hd kk) (fun _ _ ht => ⟨trivial, ht.2.2⟩)
theorem V.lsub {x z : Int64} (hd : decode cc pc = .ok (.lsub, 1)) (hk : V d y cc nL rt hh sc (pc + 1) lv (.long (x - z) :: st) h o) : V d y cc nL rt hh sc pc lv (.long z :: .long x :: st) h o :=
  V.stk hk (fun hx hb hl kk => lv_lsub hx hb hd kk) (fun _ _ ht => ⟨trivial, ht.2.2⟩)
theorem V.lmul {x z : Int64} (hd : decode cc pc = .ok (.lmul, 1)) (hk : V d y cc nL rt hh sc (pc + 1) lv (.long (x * z) :: st) h o) : V d y cc nL rt hh sc pc lv (.long z :: .long x :: st) h o :=
  V.stk hk (fun hx hb hl kk => lv_lmul hx hb hd kk) (fun _ _ ht => ⟨trivial, ht.2.2⟩)
theorem V.land {x z : Int64} (hd : decode cc pc = .ok (.land, 1)) (hk : V d y cc nL rt hh sc (pc + 1) lv (.long (x &&& z) :: st) h o) : V d y cc nL rt hh sc pc lv (.long z :: .long x :: st) h o :=
  V.stk hk (fun hx hb hl kk => lv_land hx hb hd kk) (fun _ _ ht => ⟨trivial, ht.2.2⟩)
theorem V.lor {x z : Int64} (hd : decode cc pc = .ok (.lor, 1)) (hk : V d y cc nL rt hh sc (pc + 1) lv (.long (x ||| z) :: st) h o) : V d y cc nL rt hh sc pc lv (.long z :: .long x :: st) h o :=
  V.stk hk (fun hx hb hl kk => lv_lor hx hb hd kk) (fun _ _ ht => ⟨trivial, ht.2.2⟩)
theorem V.lxor {x z : Int64} (hd : decode cc pc = .ok (.lxor, 1)) (hk : V d y cc nL rt hh sc (pc + 1) lv (.long (x ^^^ z) :: st) h o) : V d y cc nL rt hh sc pc lv (.long z :: .long x :: st) h o :=
  V.stk hk (fun hx hb hl kk => lv_lxor hx hb hd kk) (fun _ _ ht => ⟨trivial, ht.2.2⟩)
theorem V.ldiv {x z : Int64} (hd : decode cc pc = .ok (.ldiv, 1)) (hne : ¬ z = 0) (hk : V d y cc nL rt hh sc (pc + 1) lv (.long (x / z) :: st) h o) : V d y cc nL rt hh sc pc lv (.long z :: .long x :: st) h o :=
  V.stk hk (fun hx hb hl kk => lv_ldiv hx hb hd hne kk) (fun _ _ ht => ⟨trivial, ht.2.2⟩)
theorem V.lrem {x z : Int64} (hd : decode cc pc = .ok (.lrem, 1)) (hne : ¬ z = 0) (hk : V d y cc nL rt hh sc (pc + 1) lv (.long (x - x / z * z) :: st) h o) : V d y cc nL rt hh sc pc lv (.long z :: .long x :: st) h o :=
  V.stk hk (fun hx hb hl kk => lv_lrem hx hb hd hne kk) (fun _ _ ht => ⟨trivial, ht.2.2⟩)
theorem V.lneg {x : Int64} (hd : decode cc pc = .ok (.lneg, 1)) (hk : V d y cc nL rt hh sc (pc + 1) lv (.long (-x) :: st) h o) : V d y cc nL rt hh sc pc lv (.long x :: st) h o :=
  V.stk hk (fun hx hb hl kk => lv_lneg hx hb hd kk) (fun _ _ ht => ⟨trivial, ht.2⟩)
theorem V.lcmp {x z : Int64} (hd : decode cc pc = .ok (.lcmp, 1)) (hk : V d y cc nL rt hh sc (pc + 1) lv (.int (lg_cmp x z) :: st) h o) : V d y cc nL rt hh sc pc lv (.long z :: .long x :: st) h o :=
  V.stk hk (fun hx hb hl kk => W.lcmp hx hb hd kk) (fun _ _ ht => ⟨trivial, ht.2.2⟩)
theorem V.lshl {x : Int64} {z : Int32} (hd : decode cc pc = .ok (.lshl, 1)) (hk : V d y cc nL rt hh sc (pc + 1) lv (.long (x <<< (z.toInt64 &&& 63)) :: st) h o) : V d y cc nL rt hh sc pc lv (.int z :: .long x :: st) h o :=
  V.stk hk (fun hx hb hl kk => lv_lshl hx hb hd rfl kk) (fun _ _ ht => ⟨trivial, ht.2.2⟩)
theorem V.lshr {x : Int64} {z : Int32} (hd : decode cc pc = .ok (.lshr, 1)) (hk : V d y cc nL rt hh sc (pc + 1) lv (.long (x >>> (z.toInt64 &&& 63)) :: st) h o) : V d y cc nL rt hh sc pc lv (.int z :: .long x :: st) h o :=
  V.stk hk (fun hx hb hl kk => lv_lshr hx hb hd rfl kk) (fun _ _ ht => ⟨trivial, ht.2.2⟩)
theorem V.lushr {x : Int64} {z : Int32} (hd : decode cc pc = .ok (.lushr, 1)) (hk : V d y cc nL rt hh sc (pc + 1) lv (.long ((x.toUInt64 >>> (z.toInt64.toUInt64 &&& Int64.toUInt64 63)).toInt64) :: st) h o) : V d y cc nL rt hh sc pc lv (.int z :: .long x :: st) h o :=
  V.stk hk (fun hx hb hl kk => lv_lushr hx hb hd rfl kk) (fun _ _ ht => ⟨trivial, ht.2.2⟩)
theorem V.i2l {x : Int32} (hd : decode cc pc = .ok (.i2l, 1)) (hk : V d y cc nL rt hh sc (pc + 1) lv (.long x.toInt64 :: st) h o) : V d y cc nL rt hh sc pc lv (.int x :: st) h o :=
  V.stk hk (fun hx hb hl kk => lv_i2l hx hb hd rfl kk) (fun _ _ ht => ⟨trivial, ht.2⟩)
theorem V.l2i {x : Int64} (hd : decode cc pc = .ok (.l2i, 1)) (hk : V d y cc nL rt hh sc (pc + 1) lv (.int x.toInt32 :: st) h o) : V d y cc nL rt hh sc pc lv (.long x :: st) h o :=
  V.stk hk (fun hx hb hl kk => lv_l2i hx hb hd rfl kk) (fun _ _ ht => ⟨trivial, ht.2⟩)
theorem V.i2b {x : Int32} (hd : decode cc pc = .ok (.i2b, 1)) (hk : V d y cc nL rt hh sc (pc + 1) lv (.int x.toInt8.toInt32 :: st) h o) : V d y cc nL rt hh sc pc lv (.int x :: st) h o :=
  V.stk hk (fun hx hb hl kk => lv_i2b hx hb hd rfl kk) (fun _ _ ht => ⟨trivial, ht.2⟩)
theorem V.i2c {x : Int32} (hd : decode cc pc = .ok (.i2c, 1)) (hk : V d y cc nL rt hh sc (pc + 1) lv (.int ((x.toUInt32 % 65536).toInt32) :: st) h o) : V d y cc nL rt hh sc pc lv (.int x :: st) h o :=
  V.stk hk (fun hx hb hl kk => lv_i2c hx hb hd rfl kk) (fun _ _ ht => ⟨trivial, ht.2⟩)
theorem V.pop {v : Value} (hd : decode cc pc = .ok (.pop, 1)) (hc : v.category = 1) (hk : V d y cc nL rt hh sc (pc + 1) lv (st) h o) : V d y cc nL rt hh sc pc lv (v :: st) h o :=
  V.stk hk (fun hx hb hl kk => lv_pop hx hb hd ((xv_cat _ _).trans hc) kk) (fun _ _ ht => ht.2)
theorem V.i2s {x : Int32} (hd : decode cc pc = .ok (.i2s, 1)) (hk : V d y cc nL rt hh sc (pc + 1) lv (.int x.toInt16.toInt32 :: st) h o) : V d y cc nL rt hh sc pc lv (.int x :: st) h o :=
  V.stk hk (fun hx hb hl kk => lv_i2s hx hb hd rfl kk) (fun _ _ ht => ⟨trivial, ht.2⟩)
theorem V.dup {v : Value} (hd : decode cc pc = .ok (.dup, 1)) (hc : v.category = 1) (hk : V d y cc nL rt hh sc (pc + 1) lv (v :: v :: st) h o) : V d y cc nL rt hh sc pc lv (v :: st) h o :=
  V.stk hk (fun hx hb hl kk => lv_dup hx hb hd ((xv_cat _ _).trans hc) kk) (fun _ _ ht => ⟨ht.1, ht⟩)
theorem V.dup2 {v w : Value} (hd : decode cc pc = .ok (.dup2, 1)) (hc : v.category = 1) (hw : w.category = 1) (hk : V d y cc nL rt hh sc (pc + 1) lv (v :: w :: v :: w :: st) h o) : V d y cc nL rt hh sc pc lv (v :: w :: st) h o :=
  V.stk hk (fun hx hb hl kk => lv_dup2_11 hx hb hd ((xv_cat _ _).trans hc) ((xv_cat _ _).trans hw) kk) (fun _ _ ht => ⟨ht.1, ht.2.1, ht⟩)
theorem V.dup2L {v : Value} (hd : decode cc pc = .ok (.dup2, 1)) (hc : v.category = 2) (hk : V d y cc nL rt hh sc (pc + 1) lv (v :: v :: st) h o) : V d y cc nL rt hh sc pc lv (v :: st) h o :=
  V.stk hk (fun hx hb hl kk => lv_dup2_2 hx hb hd ((xv_cat _ _).trans hc) kk) (fun _ _ ht => ⟨ht.1, ht⟩)
theorem V.dup_x1 {v w : Value} (hd : decode cc pc = .ok (.dup_x1, 1)) (hc : v.category = 1) (hw : w.category = 1) (hk : V d y cc nL rt hh sc (pc + 1) lv (v :: w :: v :: st) h o) : V d y cc nL rt hh sc pc lv (v :: w :: st) h o :=
  V.stk hk (fun hx hb hl kk => lv_dup_x1 hx hb hd ((xv_cat _ _).trans hc) ((xv_cat _ _).trans hw) kk) (fun _ _ ht => ⟨ht.1, ht.2.1, ht.1, ht.2.2⟩)
theorem V.goto {off : Int} {tgt : Nat} (hd : decode cc pc = .ok (.goto off, 3)) (ht : (pc : Int) + off = (tgt : Int)) (hk : V d y cc nL rt hh sc tgt lv (st) h o) : V d y cc nL rt hh sc pc lv (st) h o :=
  V.stk hk (fun hx hb hl kk => lv_goto hx hb hd ht kk) (fun _ _ ht => ht)
theorem V.ifnull {x : Nat} {off : Int} (hd : decode cc pc = .ok (.ifnull off, 3)) (hk : V d y cc nL rt hh sc (pc + 3) lv (st) h o) : V d y cc nL rt hh sc pc lv (.ref x :: st) h o :=
  V.stk hk (fun hx hb hl kk => lv_ifnull hx hb hd kk) (fun _ _ ht => ht.2)
theorem V.ifnonnullN {off : Int} (hd : decode cc pc = .ok (.ifnonnull off, 3)) (hk : V d y cc nL rt hh sc (pc + 3) lv (st) h o) : V d y cc nL rt hh sc pc lv (.null :: st) h o :=
  V.stk hk (fun hx hb hl kk => lv_ifnonnullN hx hb hd kk) (fun _ _ ht => ht.2)
theorem V.ifnullN {off : Int} {tgt : Nat} (hd : decode cc pc = .ok (.ifnull off, 3)) (ht : (pc : Int) + off = (tgt : Int)) (hk : V d y cc nL rt hh sc tgt lv (st) h o) : V d y cc nL rt hh sc pc lv (.null :: st) h o :=
  V.stk hk (fun hx hb hl kk => lv_ifnullN hx hb hd ht kk) (fun _ _ ht => ht.2)
theorem V.ifnonnull {x : Nat} {off : Int} {tgt : Nat} (hd : decode cc pc = .ok (.ifnonnull off, 3)) (ht : (pc : Int) + off = (tgt : Int)) (hk : V d y cc nL rt hh sc tgt lv (st) h o) : V d y cc nL rt hh sc pc lv (.ref x :: st) h o :=
  V.stk hk (fun hx hb hl kk => lv_ifnonnull hx hb hd ht kk) (fun _ _ ht => ht.2)
theorem V.istore {i : Nat} {x : Int32} (hd : decode cc pc = .ok (.istore i, 2)) (hn : i < nL) (hl : (i, Value.int x) :: lv.filter (fun q => !(q.1 == i) && !(q.1 + 1 == i && q.2.category == 2)) = lv') (hk : V d y cc nL rt hh sc (pc + 2) lv' (st) h o) : V d y cc nL rt hh sc pc lv (.int x :: st) h o := by
  subst hl
  exact V.loc hk (fun hx hb h1 kk => lv_istore hx hb hd h1 hn rfl (fun ls' hl' => kk ls' (by rw [List.map_cons, xl_filter1]; exact hl'))) (fun _ hL ht => ⟨⟨trivial, okL_filter hL⟩, ht.2⟩)
theorem V.istore_n {i : Nat} {j : Fin 4} {x : Int32} (hd : decode cc pc = .ok (.istore_n j, 1)) (hi : (j : Nat) = i) (hn : i < nL) (hl : (i, Value.int x) :: lv.filter (fun q => !(q.1 == i) && !(q.1 + 1 == i && q.2.category == 2)) = lv') (hk : V d y cc nL rt hh sc (pc + 1) lv' (st) h o) : V d y cc nL rt hh sc pc lv (.int x :: st) h o := by
  subst hl
  exact V.loc hk (fun hx hb h1 kk => lv_istore_n hx hb hd hi h1 hn rfl (fun ls' hl' => kk ls' (by rw [List.map_cons, xl_filter1]; exact hl'))) (fun _ hL ht => ⟨⟨trivial, okL_filter hL⟩, ht.2⟩)
theorem V.astore {i : Nat} {x : Nat} (hd : decode cc pc = .ok (.astore i, 2)) (hn : i < nL) (hl : (i, Value.ref x) :: lv.filter (fun q => !(q.1 == i) && !(q.1 + 1 == i && q.2.category == 2)) = lv') (hk : V d y cc nL rt hh sc (pc + 2) lv' (st) h o) : V d y cc nL rt hh sc pc lv (.ref x :: st) h o := by
  subst hl
  exact V.loc hk (fun hx hb h1 kk => lv_astore hx hb hd h1 hn rfl (fun ls' hl' => kk ls' (by rw [List.map_cons, xl_filter1]; exact hl'))) (fun _ hL ht => ⟨⟨ht.1, okL_filter hL⟩, ht.2⟩)
theorem V.astore_n {i : Nat} {j : Fin 4} {x : Nat} (hd : decode cc pc = .ok (.astore_n j, 1)) (hi : (j : Nat) = i) (hn : i < nL) (hl : (i, Value.ref x) :: lv.filter (fun q => !(q.1 == i) && !(q.1 + 1 == i && q.2.category == 2)) = lv') (hk : V d y cc nL rt hh sc (pc + 1) lv' (st) h o) : V d y cc nL rt hh sc pc lv (.ref x :: st) h o := by
  subst hl
  exact V.loc hk (fun hx hb h1 kk => lv_astore_n hx hb hd hi h1 hn rfl (fun ls' hl' => kk ls' (by rw [List.map_cons, xl_filter1]; exact hl'))) (fun _ hL ht => ⟨⟨ht.1, okL_filter hL⟩, ht.2⟩)
theorem V.lstore {i : Nat} {x : Int64} (hd : decode cc pc = .ok (.lstore i, 2)) (hn : i + 1 < nL) (hl : (i, Value.long x) :: lv.filter (fun q => !(q.1 == i) && (!(q.1 == i + 1) && !(q.1 + 1 == i && q.2.category == 2))) = lv') (hk : V d y cc nL rt hh sc (pc + 2) lv' (st) h o) : V d y cc nL rt hh sc pc lv (.long x :: st) h o := by
  subst hl
  exact V.loc hk (fun hx hb h1 kk => lv_lstore hx hb hd h1 hn rfl (fun ls' hl' => kk ls' (by rw [List.map_cons, xl_filter2]; exact hl'))) (fun _ hL ht => ⟨⟨trivial, okL_filter hL⟩, ht.2⟩)
theorem V.lstore_n {i : Nat} {j : Fin 4} {x : Int64} (hd : decode cc pc = .ok (.lstore_n j, 1)) (hi : (j : Nat) = i) (hn : i + 1 < nL) (hl : (i, Value.long x) :: lv.filter (fun q => !(q.1 == i) && (!(q.1 == i + 1) && !(q.1 + 1 == i && q.2.category == 2))) = lv') (hk : V d y cc nL rt hh sc (pc + 1) lv' (st) h o) : V d y cc nL rt hh sc pc lv (.long x :: st) h o := by
  subst hl
  exact V.loc hk (fun hx hb h1 kk => lv_lstore_n hx hb hd hi h1 hn rfl (fun ls' hl' => kk ls' (by rw [List.map_cons, xl_filter2]; exact hl'))) (fun _ hL ht => ⟨⟨trivial, okL_filter hL⟩, ht.2⟩)
theorem V.astoreN {i : Nat}  (hd : decode cc pc = .ok (.astore i, 2)) (hn : i < nL) (hl : (i, Value.null) :: lv.filter (fun q => !(q.1 == i) && !(q.1 + 1 == i && q.2.category == 2)) = lv') (hk : V d y cc nL rt hh sc (pc + 2) lv' (st) h o) : V d y cc nL rt hh sc pc lv (.null :: st) h o := by
  subst hl
  exact V.loc hk (fun hx hb h1 kk => lv_astoreN hx hb hd h1 hn rfl (fun ls' hl' => kk ls' (by rw [List.map_cons, xl_filter1]; exact hl'))) (fun _ hL ht => ⟨⟨trivial, okL_filter hL⟩, ht.2⟩)
theorem V.astore_nN {i : Nat} {j : Fin 4}  (hd : decode cc pc = .ok (.astore_n j, 1)) (hi : (j : Nat) = i) (hn : i < nL) (hl : (i, Value.null) :: lv.filter (fun q => !(q.1 == i) && !(q.1 + 1 == i && q.2.category == 2)) = lv') (hk : V d y cc nL rt hh sc (pc + 1) lv' (st) h o) : V d y cc nL rt hh sc pc lv (.null :: st) h o := by
  subst hl
  exact V.loc hk (fun hx hb h1 kk => lv_astore_nN hx hb hd hi h1 hn rfl (fun ls' hl' => kk ls' (by rw [List.map_cons, xl_filter1]; exact hl'))) (fun _ hL ht => ⟨⟨trivial, okL_filter hL⟩, ht.2⟩)
theorem V.iinc {i : Nat} {n : Int} {x v : Int32} (hd : decode cc pc = .ok (.iinc i n, 3)) (k : Nat) (hlv : lv[k]? = some (i, .int x)) (hv : x + Int32.ofInt n = v) (hn : i < nL) (hl : (i, Value.int v) :: lv.filter (fun q => !(q.1 == i) && !(q.1 + 1 == i && q.2.category == 2)) = lv') (hk : V d y cc nL rt hh sc (pc + 3) lv' (st) h o) : V d y cc nL rt hh sc pc lv (st) h o := by
  subst hl
  exact V.loc hk (fun hx hb h1 kk => lv_iinc hx hb hd h1 (k := k) (by rw [List.getElem?_map, hlv]; rfl) hv hn rfl (fun ls' hl' => kk ls' (by rw [List.map_cons, xl_filter1]; exact hl'))) (fun _ hL ht => ⟨⟨trivial, okL_filter hL⟩, ht⟩)
theorem okL_pick {n : Nat} (hL : okL n lv) : ∀ ks : List Nat, okL n (lv_pick lv ks)
  | [] => trivial
  | k :: r => by
    unfold lv_pick
    rw [List.filterMap_cons]
    split
    · exact okL_pick hL r
    · rename_i q hq
      exact ⟨okL_at (v := q.2) (i := q.1) hL hq, okL_pick hL r⟩
theorem V.sub (ks : List Nat) (hl : lv_pick lv ks = lv') (hk : V d y cc nL rt hh sc pc lv' (st) h o) : V d y cc nL rt hh sc pc lv (st) h o := by
  subst hl
  refine V.loc hk (fun hx hb h1 kk => kk _ (lv_sub h1 ks ?_)) (fun n hL ht => ⟨okL_pick hL ks, ht⟩)
  unfold lv_pick
  rw [List.map_filterMap]
  congr 1
  funext k
  rw [List.getElem?_map]
theorem V.if_eq {x : Int32} {off : Int} {tgt : Nat} (hd : decode cc pc = .ok (.ifCond .eq off, 3)) (ht : (pc : Int) + off = (tgt : Int)) (h1 : x = 0 → V d y cc nL rt hh sc tgt lv (st) h o) (h2 : ¬ (x = 0) → V d y cc nL rt hh sc (pc + 3) lv (st) h o) : V d y cc nL rt hh sc pc lv (.int x :: st) h o :=
  V.br (P := x = 0) h1 h2 (fun hx hb k1 k2 => lv_if_eq hx hb hd ht k1 k2) (fun _ hs => hs.2)
theorem V.if_lt {x : Int32} {off : Int} {tgt : Nat} (hd : decode cc pc = .ok (.ifCond .lt off, 3)) (ht : (pc : Int) + off = (tgt : Int)) (h1 : x < 0 → V d y cc nL rt hh sc tgt lv (st) h o) (h2 : ¬ (x < 0) → V d y cc nL rt hh sc (pc + 3) lv (st) h o) : V d y cc nL rt hh sc pc lv (.int x :: st) h o :=
  V.br (P := x < 0) h1 h2 (fun hx hb k1 k2 => lv_if_lt hx hb hd ht k1 k2) (fun _ hs => hs.2)
theorem V.if_ge {x : Int32} {off : Int} {tgt : Nat} (hd : decode cc pc = .ok (.ifCond .ge off, 3)) (ht : (pc : Int) + off = (tgt : Int)) (h1 : 0 ≤ x → V d y cc nL rt hh sc tgt lv (st) h o) (h2 : ¬ (0 ≤ x) → V d y cc nL rt hh sc (pc + 3) lv (st) h o) : V d y cc nL rt hh sc pc lv (.int x :: st) h o :=
  V.br (P := 0 ≤ x) h1 h2 (fun hx hb k1 k2 => lv_if_ge hx hb hd ht k1 k2) (fun _ hs => hs.2)
theorem V.if_gt {x : Int32} {off : Int} {tgt : Nat} (hd : decode cc pc = .ok (.ifCond .gt off, 3)) (ht : (pc : Int) + off = (tgt : Int)) (h1 : 0 < x → V d y cc nL rt hh sc tgt lv (st) h o) (h2 : ¬ (0 < x) → V d y cc nL rt hh sc (pc + 3) lv (st) h o) : V d y cc nL rt hh sc pc lv (.int x :: st) h o :=
  V.br (P := 0 < x) h1 h2 (fun hx hb k1 k2 => lv_if_gt hx hb hd ht k1 k2) (fun _ hs => hs.2)
theorem V.if_le {x : Int32} {off : Int} {tgt : Nat} (hd : decode cc pc = .ok (.ifCond .le off, 3)) (ht : (pc : Int) + off = (tgt : Int)) (h1 : x ≤ 0 → V d y cc nL rt hh sc tgt lv (st) h o) (h2 : ¬ (x ≤ 0) → V d y cc nL rt hh sc (pc + 3) lv (st) h o) : V d y cc nL rt hh sc pc lv (.int x :: st) h o :=
  V.br (P := x ≤ 0) h1 h2 (fun hx hb k1 k2 => lv_if_le hx hb hd ht k1 k2) (fun _ hs => hs.2)
theorem V.icmp_eq {x z : Int32} {off : Int} {tgt : Nat} (hd : decode cc pc = .ok (.if_icmp .eq off, 3)) (ht : (pc : Int) + off = (tgt : Int)) (h1 : x = z → V d y cc nL rt hh sc tgt lv (st) h o) (h2 : ¬ (x = z) → V d y cc nL rt hh sc (pc + 3) lv (st) h o) : V d y cc nL rt hh sc pc lv (.int z :: .int x :: st) h o :=
  V.br (P := x = z) h1 h2 (fun hx hb k1 k2 => lv_icmp_eq hx hb hd ht k1 k2) (fun _ hs => hs.2.2)
theorem V.icmp_lt {x z : Int32} {off : Int} {tgt : Nat} (hd : decode cc pc = .ok (.if_icmp .lt off, 3)) (ht : (pc : Int) + off = (tgt : Int)) (h1 : x < z → V d y cc nL rt hh sc tgt lv (st) h o) (h2 : ¬ (x < z) → V d y cc nL rt hh sc (pc + 3) lv (st) h o) : V d y cc nL rt hh sc pc lv (.int z :: .int x :: st) h o :=
  V.br (P := x < z) h1 h2 (fun hx hb k1 k2 => lv_icmp_lt hx hb hd ht k1 k2) (fun _ hs => hs.2.2)
theorem V.icmp_ge {x z : Int32} {off : Int} {tgt : Nat} (hd : decode cc pc = .ok (.if_icmp .ge off, 3)) (ht : (pc : Int) + off = (tgt : Int)) (h1 : z ≤ x → V d y cc nL rt hh sc tgt lv (st) h o) (h2 : ¬ (z ≤ x) → V d y cc nL rt hh sc (pc + 3) lv (st) h o) : V d y cc nL rt hh sc pc lv (.int z :: .int x :: st) h o :=
  V.br (P := z ≤ x) h1 h2 (fun hx hb k1 k2 => lv_icmp_ge hx hb hd ht k1 k2) (fun _ hs => hs.2.2)
theorem V.icmp_gt {x z : Int32} {off : Int} {tgt : Nat} (hd : decode cc pc = .ok (.if_icmp .gt off, 3)) (ht : (pc : Int) + off = (tgt : Int)) (h1 : z < x → V d y cc nL rt hh sc tgt lv (st) h o) (h2 : ¬ (z < x) → V d y cc nL rt hh sc (pc + 3) lv (st) h o) : V d y cc nL rt hh sc pc lv (.int z :: .int x :: st) h o :=
  V.br (P := z < x) h1 h2 (fun hx hb k1 k2 => lv_icmp_gt hx hb hd ht k1 k2) (fun _ hs => hs.2.2)
theorem V.icmp_le {x z : Int32} {off : Int} {tgt : Nat} (hd : decode cc pc = .ok (.if_icmp .le off, 3)) (ht : (pc : Int) + off = (tgt : Int)) (h1 : x ≤ z → V d y cc nL rt hh sc tgt lv (st) h o) (h2 : ¬ (x ≤ z) → V d y cc nL rt hh sc (pc + 3) lv (st) h o) : V d y cc nL rt hh sc pc lv (.int z :: .int x :: st) h o :=
  V.br (P := x ≤ z) h1 h2 (fun hx hb k1 k2 => lv_icmp_le hx hb hd ht k1 k2) (fun _ hs => hs.2.2)
theorem V.tableIn {dflt lo hi : Int} {offs : Array Int} {len : Nat} {x : Int32} {off : Int} {tgt : Nat} (hd : decode cc pc = .ok (.tableswitch dflt lo hi offs, len)) (h1 : ¬ x.toInt < lo) (h2 : ¬ hi < x.toInt) (ho : offs[(x.toInt - lo).toNat]? = some off) (ht : (pc : Int) + off = (tgt : Int)) (hk : V d y cc nL rt hh sc tgt lv (st) h o) : V d y cc nL rt hh sc pc lv (.int x :: st) h o :=
  V.stk hk (fun hx hb hl kk => lv_tableIn hx hb hd h1 h2 ho ht kk) (fun _ _ ht => ht.2)
theorem V.tableOut {dflt lo hi : Int} {offs : Array Int} {len : Nat} {x : Int32} {tgt : Nat} (hd : decode cc pc = .ok (.tableswitch dflt lo hi offs, len)) (hout : x.toInt < lo ∨ hi < x.toInt) (ht : (pc : Int) + dflt = (tgt : Int)) (hk : V d y cc nL rt hh sc tgt lv (st) h o) : V d y cc nL rt hh sc pc lv (.int x :: st) h o :=
  V.stk hk (fun hx hb hl kk => lv_tableOut hx hb hd hout ht kk) (fun _ _ ht => ht.2)
theorem V.if_ne {x : Int32} {off : Int} {tgt : Nat} (hd : decode cc pc = .ok (.ifCond .ne off, 3)) (ht : (pc : Int) + off = (tgt : Int)) (h1 : ¬ x = 0 → V d y cc nL rt hh sc tgt lv (st) h o) (h2 : x = 0 → V d y cc nL rt hh sc (pc + 3) lv (st) h o) : V d y cc nL rt hh sc pc lv (.int x :: st) h o :=
  V.br (P := x = 0) h2 h1 (fun hx hb k1 k2 => lv_if_ne hx hb hd ht k2 k1) (fun _ hs => hs.2)
theorem V.icmp_ne {x z : Int32} {off : Int} {tgt : Nat} (hd : decode cc pc = .ok (.if_icmp .ne off, 3)) (ht : (pc : Int) + off = (tgt : Int)) (h1 : ¬ x = z → V d y cc nL rt hh sc tgt lv (st) h o) (h2 : x = z → V d y cc nL rt hh sc (pc + 3) lv (st) h o) : V d y cc nL rt hh sc pc lv (.int z :: .int x :: st) h o :=
  V.br (P := x = z) h2 h1 (fun hx hb k1 k2 => lv_icmp_ne hx hb hd ht k2 k1) (fun _ hs => hs.2.2)
end VSimple
