def f_X5_init (h : xH) (l0 : Nat) : Option (xH) := (mkI h .int (16 : Int32)).bind fun h1 => (pF h1 l0 5 0 (.ref (h.1.length))).bind fun h2 => (mkI h2 .int (16 : Int32)).bind fun h3 => (pF h3 l0 5 1 (.ref (h2.1.length))).bind fun h4 => (gR h4 l0 5 0).bind fun v5 => (f_J7_fill_53178 h4 v5 (-1 : Int32)).bind fun r6 => some (r6)
set_option maxRecDepth 20000 in
theorem w_X5_init (h : xH) (l0 : Nat) (r : xH) (hf : f_X5_init h l0 = some r) : Ev 4 yX5_init cX5_init 1 none [] [.ref l0] h (oVh r) := by
  refine Ev.of (by decide +kernel) (Nat.le_of_ble_eq_true rfl) ?_
  unfold f_X5_init at hf
  refine V.aload_n dX5_init_0 rfl 0 rfl ?_
  refine V.objInit dX5_init_1 oi_RX5_3 oi_inst oi_code (Nat.le_of_ble_eq_true rfl) ?_
  refine V.aload_n dX5_init_4 rfl 0 rfl ?_
  refine V.bipush (v := (16 : Int32)) dX5_init_5 (by decide) ?_
  obtain ⟨h1, e1, hf⟩ := bS hf
  refine V.xmkI dX5_init_7 rfl rfl aw_int (by decide) e1 ?_
  obtain ⟨h2, e2, hf⟩ := bS hf
  refine V.xpF dX5_init_9 fl_RX5_9 (fun _ => rfl) (fun _ => rfl) (fun _ => rfl) e2 ?_
  refine V.aload_n dX5_init_12 rfl 0 rfl ?_
  refine V.bipush (v := (16 : Int32)) dX5_init_13 (by decide) ?_
  obtain ⟨h3, e3, hf⟩ := bS hf
  refine V.xmkI dX5_init_15 rfl rfl aw_int (by decide) e3 ?_
  obtain ⟨h4, e4, hf⟩ := bS hf
  refine V.xpF dX5_init_17 fl_RX5_15 (fun _ => rfl) (fun _ => rfl) (fun _ => rfl) e4 ?_
  refine V.aload_n dX5_init_20 rfl 0 rfl ?_
  obtain ⟨v5, e5, hf⟩ := bS hf
  refine V.xgR dX5_init_21 fl_RX5_9 e5 ?_
  refine V.iconst (v := (-1 : Int32)) dX5_init_24 (by decide) ?_
  obtain ⟨r6, e6, hf⟩ := bS hf
  refine V.callS (As := [.ref v5, .int (-1 : Int32)]) (st := []) dX5_init_25 cl_RX5_18 sw_yJ7_fill_53178 (by decide) rfl (Nat.le_of_ble_eq_true rfl) rfl (w_J7_fill_53178 _ _ _ _ e6) ?_
  obtain rfl := Option.some.inj hf
  exact V.vret dX5_init_28

def f_X10_init (h : xH) (l0 : Nat) : Option (xH) := (mkJ h (160 : Int32)).bind fun h1 => (pF h1 l0 10 0 (.ref (h.1.length))).bind fun h2 => (mkI h2 .int (4 : Int32)).bind fun h3 => (pF h3 l0 10 1 (.ref (h2.1.length))).bind fun h4 => (mkI h4 .int (4 : Int32)).bind fun h5 => (pF h5 l0 10 2 (.ref (h4.1.length))).bind fun h6 => (gR h6 l0 10 1).bind fun v7 => (f_J7_fill_53178 h6 v7 (-1 : Int32)).bind fun r8 => some (r8)
set_option maxRecDepth 20000 in
theorem w_X10_init (h : xH) (l0 : Nat) (r : xH) (hf : f_X10_init h l0 = some r) : Ev 4 yX10_init cX10_init 1 none [] [.ref l0] h (oVh r) := by
  refine Ev.of (by decide +kernel) (Nat.le_of_ble_eq_true rfl) ?_
  unfold f_X10_init at hf
  refine V.aload_n dX10_init_0 rfl 0 rfl ?_
  refine V.objInit dX10_init_1 oi_RX10_3 oi_inst oi_code (Nat.le_of_ble_eq_true rfl) ?_
  refine V.aload_n dX10_init_4 rfl 0 rfl ?_
  refine V.sipush (v := (160 : Int32)) dX10_init_5 (by decide) ?_
  obtain ⟨h1, e1, hf⟩ := bS hf
  refine V.xmkJ dX10_init_8 aw_long e1 ?_
  obtain ⟨h2, e2, hf⟩ := bS hf
  refine V.xpF dX10_init_10 fl_RX10_11 (fun _ => rfl) (fun _ => rfl) (fun _ => rfl) e2 ?_
  refine V.aload_n dX10_init_13 rfl 0 rfl ?_
  refine V.iconst (v := (4 : Int32)) dX10_init_14 (by decide) ?_
  obtain ⟨h3, e3, hf⟩ := bS hf
  refine V.xmkI dX10_init_15 rfl rfl aw_int (by decide) e3 ?_
  obtain ⟨h4, e4, hf⟩ := bS hf
  refine V.xpF dX10_init_17 fl_RX10_15 (fun _ => rfl) (fun _ => rfl) (fun _ => rfl) e4 ?_
  refine V.aload_n dX10_init_20 rfl 0 rfl ?_
  refine V.iconst (v := (4 : Int32)) dX10_init_21 (by decide) ?_
  obtain ⟨h5, e5, hf⟩ := bS hf
  refine V.xmkI dX10_init_22 rfl rfl aw_int (by decide) e5 ?_
  obtain ⟨h6, e6, hf⟩ := bS hf
  refine V.xpF dX10_init_24 fl_RX10_19 (fun _ => rfl) (fun _ => rfl) (fun _ => rfl) e6 ?_
  refine V.aload_n dX10_init_27 rfl 0 rfl ?_
  obtain ⟨v7, e7, hf⟩ := bS hf
  refine V.xgR dX10_init_28 fl_RX10_15 e7 ?_
  refine V.iconst (v := (-1 : Int32)) dX10_init_31 (by decide) ?_
  obtain ⟨r8, e8, hf⟩ := bS hf
  refine V.callS (As := [.ref v7, .int (-1 : Int32)]) (st := []) dX10_init_32 cl_RX10_22 sw_yJ7_fill_53178 (by decide) rfl (Nat.le_of_ble_eq_true rfl) rfl (w_J7_fill_53178 _ _ _ _ e8) ?_
  obtain rfl := Option.some.inj hf
  exact V.vret dX10_init_35

def f_X5_burning_4 (h : xH) : Nat → Nat → Int32 → Int32 → Int32 → Option (Int32)
  | 0, _, _, _, _ => none
  | n + 1, l0, l1, l2, l3 => (if (16 : Int32) ≤ l3 then (some (l2)) else ((gR h l0 5 1).bind fun v2 => (ldI h .int v2 l3).bind fun v3 => f_X5_burning_4 h n l0 l1 (l2 ||| (((v3 >>> (l1 &&& 31)) &&& (1 : Int32)) <<< (l3 &&& 31))) (l3 + 1)))
def f_X5_burning (h : xH) (l0 : Nat) (l1 : Int32) : Option (Int32) := f_X5_burning_4 h xFU l0 l1 (0 : Int32) (0 : Int32)
set_option maxRecDepth 20000 in
theorem w_X5_burning_4 (h : xH) : ∀ (n : Nat) (l0 : Nat) (l1 : Int32) (l2 : Int32) (l3 : Int32) (r : Int32), f_X5_burning_4 h n l0 l1 l2 l3 = some r → V 3 yX5_burning cX5_burning 4 (some .int) [] none 4 [(0, .ref l0), (1, .int l1), (2, .int l2), (3, .int l3)] [] h (oI h r) := by
  intro n
  induction n with
  | zero => intro l0 l1 l2 l3 r hf; cases hf
  | succ n ih =>
    intro l0 l1 l2 l3 r hf
    rw [f_X5_burning_4] at hf
    refine V.iload_n dX5_burning_4 rfl 3 rfl ?_
    refine V.bipush (v := (16 : Int32)) dX5_burning_5 (by decide) ?_
    refine V.icmp_ge (tgt := 31) dX5_burning_7 (by decide) (fun c1 => ?_) (fun c1 => ?_)
    · rw [if_pos c1] at hf
      refine V.iload_n dX5_burning_31 rfl 2 rfl ?_
      obtain rfl := Option.some.inj hf
      exact V.iret dX5_burning_32
    · rw [if_neg c1] at hf
      refine V.iload_n dX5_burning_10 rfl 2 rfl ?_
      refine V.aload_n dX5_burning_11 rfl 0 rfl ?_
      obtain ⟨v2, e1, hf⟩ := bS hf
      refine V.xgR dX5_burning_12 fl_RX5_15 e1 ?_
      refine V.iload_n dX5_burning_15 rfl 3 rfl ?_
      obtain ⟨v3, e2, hf⟩ := bS hf
      refine V.xldI dX5_burning_16 e2 ?_
      refine V.iload_n dX5_burning_17 rfl 1 rfl ?_
      refine V.ishr dX5_burning_18 ?_
      refine V.iconst (v := (1 : Int32)) dX5_burning_19 (by decide) ?_
      refine V.iand dX5_burning_20 ?_
      refine V.iload_n dX5_burning_21 rfl 3 rfl ?_
      refine V.ishl dX5_burning_22 ?_
      refine V.ior dX5_burning_23 ?_
      refine V.istore_n (lv' := [(2, .int (l2 ||| (((v3 >>> (l1 &&& 31)) &&& (1 : Int32)) <<< (l3 &&& 31)))), (0, .ref l0), (1, .int l1), (3, .int l3)]) dX5_burning_24 rfl (by decide) rfl ?_
      refine V.iinc (v := (l3 + 1)) (lv' := [(3, .int (l3 + 1)), (2, .int (l2 ||| (((v3 >>> (l1 &&& 31)) &&& (1 : Int32)) <<< (l3 &&& 31)))), (0, .ref l0), (1, .int l1)]) dX5_burning_25 3 rfl rfl (Nat.le_of_ble_eq_true rfl) rfl ?_
      refine V.goto (tgt := 4) dX5_burning_28 (by decide) ?_
      refine V.sub [2, 3, 1, 0] rfl ?_
      exact ih _ _ _ _ _ hf

set_option maxRecDepth 20000 in
theorem w_X5_burning (h : xH) (l0 : Nat) (l1 : Int32) (r : Int32) (hf : f_X5_burning h l0 l1 = some r) : Ev 3 yX5_burning cX5_burning 4 (some .int) [] [.ref l0, .int l1] h (oI h r) := by
  refine Ev.of (by decide +kernel) (Nat.le_of_ble_eq_true rfl) ?_
  unfold f_X5_burning at hf
  refine V.iconst (v := (0 : Int32)) dX5_burning_0 (by decide) ?_
  refine V.istore_n (lv' := [(2, .int (0 : Int32)), (0, .ref l0), (1, .int l1)]) dX5_burning_1 rfl (by decide) rfl ?_
  refine V.iconst (v := (0 : Int32)) dX5_burning_2 (by decide) ?_
  refine V.istore_n (lv' := [(3, .int (0 : Int32)), (2, .int (0 : Int32)), (0, .ref l0), (1, .int l1)]) dX5_burning_3 rfl (by decide) rfl ?_
  refine V.sub [2, 3, 1, 0] rfl ?_
  exact w_X5_burning_4 h _ _ _ _ _ _ hf

def f_X5_hanging_26 (h : xH) (k4 : Nat → Int32 → Int32 → Option (Int32)) (l0 : Nat) (l2 : Int32) (s0 : Int32) (s1 : Int32) : Option (Int32) := k4 l0 (s1 + s0) (l2 + 1)
def f_X5_hanging_4 (h : xH) : Nat → Nat → Int32 → Int32 → Option (Int32)
  | 0, _, _, _ => none
  | n + 1, l0, l1, l2 => (if (16 : Int32) ≤ l2 then (some (l1)) else ((gR h l0 5 0).bind fun v2 => (ldI h .int v2 l2).bind fun v3 => (if v3 = (-1 : Int32) then (f_X5_hanging_26 h (f_X5_hanging_4 h n) l0 l2 (0 : Int32) l1) else (f_X5_hanging_26 h (f_X5_hanging_4 h n) l0 l2 (1 : Int32) l1))))
def f_X5_hanging (h : xH) (l0 : Nat) : Option (Int32) := f_X5_hanging_4 h xFU l0 (0 : Int32) (0 : Int32)
set_option maxRecDepth 20000 in
theorem w_X5_hanging_26 (h : xH) {k4 : Nat → Int32 → Int32 → Option (Int32)} (hk4 : ∀ (l0 : Nat) (l1 : Int32) (l2 : Int32) (r : Int32), k4 l0 l1 l2 = some r → V 3 yX5_hanging cX5_hanging 3 (some .int) [] none 4 [(0, .ref l0), (1, .int l1), (2, .int l2)] [] h (oI h r)) (l0 : Nat) (l2 : Int32) (s0 : Int32) (s1 : Int32) (r : Int32) (hf : f_X5_hanging_26 h k4 l0 l2 s0 s1 = some r) : V 3 yX5_hanging cX5_hanging 3 (some .int) [] none 26 [(0, .ref l0), (2, .int l2)] [.int s0, .int s1] h (oI h r) := by
  unfold f_X5_hanging_26 at hf
  refine V.iadd dX5_hanging_26 ?_
  refine V.istore_n (lv' := [(1, .int (s1 + s0)), (0, .ref l0), (2, .int l2)]) dX5_hanging_27 rfl (by decide) rfl ?_
  refine V.iinc (v := (l2 + 1)) (lv' := [(2, .int (l2 + 1)), (1, .int (s1 + s0)), (0, .ref l0)]) dX5_hanging_28 2 rfl rfl (Nat.le_of_ble_eq_true rfl) rfl ?_
  refine V.goto (tgt := 4) dX5_hanging_31 (by decide) ?_
  refine V.sub [2, 1, 0] rfl ?_
  exact hk4 _ _ _ _ hf

set_option maxRecDepth 20000 in
theorem w_X5_hanging_4 (h : xH) : ∀ (n : Nat) (l0 : Nat) (l1 : Int32) (l2 : Int32) (r : Int32), f_X5_hanging_4 h n l0 l1 l2 = some r → V 3 yX5_hanging cX5_hanging 3 (some .int) [] none 4 [(0, .ref l0), (1, .int l1), (2, .int l2)] [] h (oI h r) := by
  intro n
  induction n with
  | zero => intro l0 l1 l2 r hf; cases hf
  | succ n ih =>
    intro l0 l1 l2 r hf
    rw [f_X5_hanging_4] at hf
    refine V.iload_n dX5_hanging_4 rfl 2 rfl ?_
    refine V.bipush (v := (16 : Int32)) dX5_hanging_5 (by decide) ?_
    refine V.icmp_ge (tgt := 34) dX5_hanging_7 (by decide) (fun c1 => ?_) (fun c1 => ?_)
    · rw [if_pos c1] at hf
      refine V.iload_n dX5_hanging_34 rfl 1 rfl ?_
      obtain rfl := Option.some.inj hf
      exact V.iret dX5_hanging_35
    · rw [if_neg c1] at hf
      refine V.iload_n dX5_hanging_10 rfl 1 rfl ?_
      refine V.aload_n dX5_hanging_11 rfl 0 rfl ?_
      obtain ⟨v2, e1, hf⟩ := bS hf
      refine V.xgR dX5_hanging_12 fl_RX5_9 e1 ?_
      refine V.iload_n dX5_hanging_15 rfl 2 rfl ?_
      obtain ⟨v3, e2, hf⟩ := bS hf
      refine V.xldI dX5_hanging_16 e2 ?_
      refine V.iconst (v := (-1 : Int32)) dX5_hanging_17 (by decide) ?_
      refine V.icmp_ne (tgt := 25) dX5_hanging_18 (by decide) (fun c4 => ?_) (fun c4 => ?_)
      · rw [if_neg c4] at hf
        refine V.iconst (v := (1 : Int32)) dX5_hanging_25 (by decide) ?_
        refine V.sub [0, 2] rfl ?_
        exact w_X5_hanging_26 _ ih _ _ _ _ _ hf
      · rw [if_pos c4] at hf
        refine V.iconst (v := (0 : Int32)) dX5_hanging_21 (by decide) ?_
        refine V.goto (tgt := 26) dX5_hanging_22 (by decide) ?_
        refine V.sub [0, 2] rfl ?_
        exact w_X5_hanging_26 _ ih _ _ _ _ _ hf

set_option maxRecDepth 20000 in
theorem w_X5_hanging (h : xH) (l0 : Nat) (r : Int32) (hf : f_X5_hanging h l0 = some r) : Ev 3 yX5_hanging cX5_hanging 3 (some .int) [] [.ref l0] h (oI h r) := by
  refine Ev.of (by decide +kernel) (Nat.le_of_ble_eq_true rfl) ?_
  unfold f_X5_hanging at hf
  refine V.iconst (v := (0 : Int32)) dX5_hanging_0 (by decide) ?_
  refine V.istore_n (lv' := [(1, .int (0 : Int32)), (0, .ref l0)]) dX5_hanging_1 rfl (by decide) rfl ?_
  refine V.iconst (v := (0 : Int32)) dX5_hanging_2 (by decide) ?_
  refine V.istore_n (lv' := [(2, .int (0 : Int32)), (1, .int (0 : Int32)), (0, .ref l0)]) dX5_hanging_3 rfl (by decide) rfl ?_
  refine V.sub [2, 1, 0] rfl ?_
  exact w_X5_hanging_4 h _ _ _ _ _ hf

def f_X11_factorial_4 (h : xH) : Nat → Int32 → Int64 → Int32 → Option (Int64)
  | 0, _, _, _ => none
  | n + 1, l0, l1, l3 => (if l0 < l3 then (some (l1)) else (f_X11_factorial_4 h n l0 (l1 * (Int32.toInt64 l3)) (l3 + 1)))
def f_X11_factorial (h : xH) (l0 : Int32) : Option (Int64) := f_X11_factorial_4 h xFU l0 (1 : Int64) (2 : Int32)
set_option maxRecDepth 20000 in
theorem w_X11_factorial_4 (h : xH) : ∀ (n : Nat) (l0 : Int32) (l1 : Int64) (l3 : Int32) (r : Int64), f_X11_factorial_4 h n l0 l1 l3 = some r → V 3 yX11_factorial cX11_factorial 4 (some .long) [] none 4 [(0, .int l0), (1, .long l1), (3, .int l3)] [] h (oJ h r) := by
  intro n
  induction n with
  | zero => intro l0 l1 l3 r hf; cases hf
  | succ n ih =>
    intro l0 l1 l3 r hf
    rw [f_X11_factorial_4] at hf
    refine V.iload_n dX11_factorial_4 rfl 2 rfl ?_
    refine V.iload_n dX11_factorial_5 rfl 0 rfl ?_
    refine V.icmp_gt (tgt := 20) dX11_factorial_6 (by decide) (fun c1 => ?_) (fun c1 => ?_)
    · rw [if_pos c1] at hf
      refine V.lload_n dX11_factorial_20 rfl 1 rfl ?_
      obtain rfl := Option.some.inj hf
      exact V.lret dX11_factorial_21
    · rw [if_neg c1] at hf
      refine V.lload_n dX11_factorial_9 rfl 1 rfl ?_
      refine V.iload_n dX11_factorial_10 rfl 2 rfl ?_
      refine V.i2l dX11_factorial_11 ?_
      refine V.lmul dX11_factorial_12 ?_
      refine V.lstore_n (lv' := [(1, .long (l1 * (Int32.toInt64 l3))), (0, .int l0), (3, .int l3)]) dX11_factorial_13 rfl (by decide) rfl ?_
      refine V.iinc (v := (l3 + 1)) (lv' := [(3, .int (l3 + 1)), (1, .long (l1 * (Int32.toInt64 l3))), (0, .int l0)]) dX11_factorial_14 2 rfl rfl (Nat.le_of_ble_eq_true rfl) rfl ?_
      refine V.goto (tgt := 4) dX11_factorial_17 (by decide) ?_
      refine V.sub [2, 1, 0] rfl ?_
      exact ih _ _ _ _ hf

set_option maxRecDepth 20000 in
theorem w_X11_factorial (h : xH) (l0 : Int32) (r : Int64) (hf : f_X11_factorial h l0 = some r) : Ev 3 yX11_factorial cX11_factorial 4 (some .long) [] [.int l0] h (oJ h r) := by
  refine Ev.of (by decide +kernel) (Nat.le_of_ble_eq_true rfl) ?_
  unfold f_X11_factorial at hf
  refine V.lconst (v := 1) dX11_factorial_0 (by decide) ?_
  refine V.lstore_n (lv' := [(1, .long (1 : Int64)), (0, .int l0)]) dX11_factorial_1 rfl (by decide) rfl ?_
  refine V.iconst (v := (2 : Int32)) dX11_factorial_2 (by decide) ?_
  refine V.istore_n (lv' := [(3, .int (2 : Int32)), (1, .long (1 : Int64)), (0, .int l0)]) dX11_factorial_3 rfl (by decide) rfl ?_
  refine V.sub [2, 1, 0] rfl ?_
  exact w_X11_factorial_4 h _ _ _ _ _ hf

def f_X5_put_22 (h : xH) (s0 : Int32) (s1 : Int32) (s2 : Nat) : Option (xH) := (stI h .int s2 s1 s0).bind fun h1 => some (h1)
def f_X5_put (h : xH) (l0 : Nat) (l1 : Int32) (l2 : Int32) (l3 : Int32) : Option (xH) := (gR h l0 5 0).bind fun v1 => (stI h .int v1 l1 l2).bind fun h2 => (gR h2 l0 5 1).bind fun v3 => (if l2 = (-1 : Int32) then (f_X5_put_22 h2 (0 : Int32) l1 v3) else (f_X5_put_22 h2 l3 l1 v3))
set_option maxRecDepth 20000 in
theorem w_X5_put_22 (h : xH) (s0 : Int32) (s1 : Int32) (s2 : Nat) (r : xH) (hf : f_X5_put_22 h s0 s1 s2 = some r) : V 3 yX5_put cX5_put 4 none [] none 22 [] [.int s0, .int s1, .ref s2] h (oVh r) := by
  unfold f_X5_put_22 at hf
  obtain ⟨h1, e1, hf⟩ := bS hf
  refine V.xstI dX5_put_22 e1 ?_
  obtain rfl := Option.some.inj hf
  exact V.vret dX5_put_23

set_option maxRecDepth 20000 in
theorem w_X5_put (h : xH) (l0 : Nat) (l1 : Int32) (l2 : Int32) (l3 : Int32) (r : xH) (hf : f_X5_put h l0 l1 l2 l3 = some r) : Ev 3 yX5_put cX5_put 4 none [] [.ref l0, .int l1, .int l2, .int l3] h (oVh r) := by
  refine Ev.of (by decide +kernel) (Nat.le_of_ble_eq_true rfl) ?_
  unfold f_X5_put at hf
  refine V.aload_n dX5_put_0 rfl 0 rfl ?_
  obtain ⟨v1, e2, hf⟩ := bS hf
  refine V.xgR dX5_put_1 fl_RX5_9 e2 ?_
  refine V.iload_n dX5_put_4 rfl 1 rfl ?_
  refine V.iload_n dX5_put_5 rfl 2 rfl ?_
  obtain ⟨h2, e3, hf⟩ := bS hf
  refine V.xstI dX5_put_6 e3 ?_
  refine V.aload_n dX5_put_7 rfl 0 rfl ?_
  obtain ⟨v3, e4, hf⟩ := bS hf
  refine V.xgR dX5_put_8 fl_RX5_15 e4 ?_
  refine V.iload_n dX5_put_11 rfl 1 rfl ?_
  refine V.iload_n dX5_put_12 rfl 2 rfl ?_
  refine V.iconst (v := (-1 : Int32)) dX5_put_13 (by decide) ?_
  refine V.icmp_ne (tgt := 21) dX5_put_14 (by decide) (fun c4 => ?_) (fun c4 => ?_)
  · rw [if_neg c4] at hf
    refine V.iload_n dX5_put_21 rfl 3 rfl ?_
    refine V.sub [] rfl ?_
    exact w_X5_put_22 _ _ _ _ _ hf
  · rw [if_pos c4] at hf
    refine V.iconst (v := (0 : Int32)) dX5_put_17 (by decide) ?_
    refine V.goto (tgt := 22) dX5_put_18 (by decide) ?_
    refine V.sub [] rfl ?_
    exact w_X5_put_22 _ _ _ _ _ hf

def f_X5_takeDown (h : xH) (l0 : Nat) : Option (xH) := (gR h l0 5 0).bind fun v1 => (f_J7_fill_53178 h v1 (-1 : Int32)).bind fun r2 => (gR r2 l0 5 1).bind fun v3 => (f_J7_fill_53178 r2 v3 (0 : Int32)).bind fun r4 => some (r4)
set_option maxRecDepth 20000 in
theorem w_X5_takeDown (h : xH) (l0 : Nat) (r : xH) (hf : f_X5_takeDown h l0 = some r) : Ev 4 yX5_takeDown cX5_takeDown 1 none [] [.ref l0] h (oVh r) := by
  refine Ev.of (by decide +kernel) (Nat.le_of_ble_eq_true rfl) ?_
  unfold f_X5_takeDown at hf
  refine V.aload_n dX5_takeDown_0 rfl 0 rfl ?_
  obtain ⟨v1, e1, hf⟩ := bS hf
  refine V.xgR dX5_takeDown_1 fl_RX5_9 e1 ?_
  refine V.iconst (v := (-1 : Int32)) dX5_takeDown_4 (by decide) ?_
  obtain ⟨r2, e2, hf⟩ := bS hf
  refine V.callS (As := [.ref v1, .int (-1 : Int32)]) (st := []) dX5_takeDown_5 cl_RX5_18 sw_yJ7_fill_53178 (by decide) rfl (Nat.le_of_ble_eq_true rfl) rfl (w_J7_fill_53178 _ _ _ _ e2) ?_
  refine V.aload_n dX5_takeDown_8 rfl 0 rfl ?_
  obtain ⟨v3, e3, hf⟩ := bS hf
  refine V.xgR dX5_takeDown_9 fl_RX5_15 e3 ?_
  refine V.iconst (v := (0 : Int32)) dX5_takeDown_12 (by decide) ?_
  obtain ⟨r4, e4, hf⟩ := bS hf
  refine V.callS (As := [.ref v3, .int (0 : Int32)]) (st := []) dX5_takeDown_13 cl_RX5_18 sw_yJ7_fill_53178 (by decide) rfl (Nat.le_of_ble_eq_true rfl) rfl (w_J7_fill_53178 _ _ _ _ e4) ?_
  obtain rfl := Option.some.inj hf
  exact V.vret dX5_takeDown_16

def f_X5_copyFrom (h : xH) (l0 : Nat) (l1 : Nat) : Option (xH) := (gR h l1 5 0).bind fun v1 => (gR h l0 5 0).bind fun v2 => (cpI h v1 (0 : Int32) v2 (0 : Int32) (16 : Int32)).bind fun h3 => (gR h3 l1 5 1).bind fun v4 => (gR h3 l0 5 1).bind fun v5 => (cpI h3 v4 (0 : Int32) v5 (0 : Int32) (16 : Int32)).bind fun h6 => some (h6)
set_option maxRecDepth 20000 in
theorem w_X5_copyFrom (h : xH) (l0 : Nat) (l1 : Nat) (r : xH) (hf : f_X5_copyFrom h l0 l1 = some r) : Ev 4 yX5_copyFrom cX5_copyFrom 2 none [] [.ref l0, .ref l1] h (oVh r) := by
  refine Ev.of (by decide +kernel) (Nat.le_of_ble_eq_true rfl) ?_
  unfold f_X5_copyFrom at hf
  refine V.aload_n dX5_copyFrom_0 rfl 1 rfl ?_
  obtain ⟨v1, e1, hf⟩ := bS hf
  refine V.xgR dX5_copyFrom_1 fl_RX5_9 e1 ?_
  refine V.iconst (v := (0 : Int32)) dX5_copyFrom_4 (by decide) ?_
  refine V.aload_n dX5_copyFrom_5 rfl 0 rfl ?_
  obtain ⟨v2, e2, hf⟩ := bS hf
  refine V.xgR dX5_copyFrom_6 fl_RX5_9 e2 ?_
  refine V.iconst (v := (0 : Int32)) dX5_copyFrom_9 (by decide) ?_
  refine V.bipush (v := (16 : Int32)) dX5_copyFrom_10 (by decide) ?_
  obtain ⟨h3, e3, hf⟩ := bS hf
  refine V.xcpI dX5_copyFrom_12 ac_RX5_24 ac_nat ac_st ac_in (Nat.le_of_ble_eq_true rfl) e3 ?_
  refine V.aload_n dX5_copyFrom_15 rfl 1 rfl ?_
  obtain ⟨v4, e4, hf⟩ := bS hf
  refine V.xgR dX5_copyFrom_16 fl_RX5_15 e4 ?_
  refine V.iconst (v := (0 : Int32)) dX5_copyFrom_19 (by decide) ?_
  refine V.aload_n dX5_copyFrom_20 rfl 0 rfl ?_
  obtain ⟨v5, e5, hf⟩ := bS hf
  refine V.xgR dX5_copyFrom_21 fl_RX5_15 e5 ?_
  refine V.iconst (v := (0 : Int32)) dX5_copyFrom_24 (by decide) ?_
  refine V.bipush (v := (16 : Int32)) dX5_copyFrom_25 (by decide) ?_
  obtain ⟨h6, e6, hf⟩ := bS hf
  refine V.xcpI dX5_copyFrom_27 ac_RX5_24 ac_nat ac_st ac_in (Nat.le_of_ble_eq_true rfl) e6 ?_
  obtain rfl := Option.some.inj hf
  exact V.vret dX5_copyFrom_30

def f_X10_numberAt (h : xH) (l0 : Nat) (l1 : Int32) (l2 : Int32) : Option (Int64) := (gR h l0 10 0).bind fun v1 => (ldJ h v1 ((l1 * (40 : Int32)) + l2)).bind fun v2 => some (v2)
set_option maxRecDepth 20000 in
theorem w_X10_numberAt (h : xH) (l0 : Nat) (l1 : Int32) (l2 : Int32) (r : Int64) (hf : f_X10_numberAt h l0 l1 l2 = some r) : Ev 3 yX10_numberAt cX10_numberAt 3 (some .long) [] [.ref l0, .int l1, .int l2] h (oJ h r) := by
  refine Ev.of (by decide +kernel) (Nat.le_of_ble_eq_true rfl) ?_
  unfold f_X10_numberAt at hf
  refine V.aload_n dX10_numberAt_0 rfl 0 rfl ?_
  obtain ⟨v1, e1, hf⟩ := bS hf
  refine V.xgR dX10_numberAt_1 fl_RX10_11 e1 ?_
  refine V.iload_n dX10_numberAt_4 rfl 1 rfl ?_
  refine V.bipush (v := (40 : Int32)) dX10_numberAt_5 (by decide) ?_
  refine V.imul dX10_numberAt_7 ?_
  refine V.iload_n dX10_numberAt_8 rfl 2 rfl ?_
  refine V.iadd dX10_numberAt_9 ?_
  obtain ⟨v2, e2, hf⟩ := bS hf
  refine V.xldJ dX10_numberAt_10 e2 ?_
  obtain rfl := Option.some.inj hf
  exact V.lret dX10_numberAt_11

def f_X10_lay_17 : Nat → xH → Nat → Int32 → Int32 → Option (xH)
  | 0, _, _, _, _ => none
  | n + 1, h, l0, l1, l4 => (if (40 : Int32) ≤ l4 then (some (h)) else ((gR h l0 10 0).bind fun v2 => (stJ h v2 ((l1 * (40 : Int32)) + l4) (0 : Int64)).bind fun h3 => f_X10_lay_17 n h3 l0 l1 (l4 + 1)))
def f_X10_lay (h : xH) (l0 : Nat) (l1 : Int32) (l2 : Int32) (l3 : Int32) : Option (xH) := (gR h l0 10 1).bind fun v1 => (stI h .int v1 l1 l3).bind fun h2 => (gR h2 l0 10 2).bind fun v3 => (stI h2 .int v3 l1 l2).bind fun h4 => f_X10_lay_17 xFU h4 l0 l1 (0 : Int32)
set_option maxRecDepth 20000 in
theorem w_X10_lay_17 : ∀ (n : Nat) (h : xH) (l0 : Nat) (l1 : Int32) (l4 : Int32) (r : xH), f_X10_lay_17 n h l0 l1 l4 = some r → V 3 yX10_lay cX10_lay 5 none [] none 17 [(0, .ref l0), (1, .int l1), (4, .int l4)] [] h (oVh r) := by
  intro n
  induction n with
  | zero => intro h l0 l1 l4 r hf; cases hf
  | succ n ih =>
    intro h l0 l1 l4 r hf
    rw [f_X10_lay_17] at hf
    refine V.iload dX10_lay_17 2 rfl ?_
    refine V.bipush (v := (40 : Int32)) dX10_lay_19 (by decide) ?_
    refine V.icmp_ge (tgt := 43) dX10_lay_21 (by decide) (fun c1 => ?_) (fun c1 => ?_)
    · rw [if_pos c1] at hf
      obtain rfl := Option.some.inj hf
      exact V.vret dX10_lay_43
    · rw [if_neg c1] at hf
      refine V.aload_n dX10_lay_24 rfl 0 rfl ?_
      obtain ⟨v2, e1, hf⟩ := bS hf
      refine V.xgR dX10_lay_25 fl_RX10_11 e1 ?_
      refine V.iload_n dX10_lay_28 rfl 1 rfl ?_
      refine V.bipush (v := (40 : Int32)) dX10_lay_29 (by decide) ?_
      refine V.imul dX10_lay_31 ?_
      refine V.iload dX10_lay_32 2 rfl ?_
      refine V.iadd dX10_lay_34 ?_
      refine V.lconst (v := 0) dX10_lay_35 (by decide) ?_
      obtain ⟨h3, e2, hf⟩ := bS hf
      refine V.xstJ dX10_lay_36 e2 ?_
      refine V.iinc (v := (l4 + 1)) (lv' := [(4, .int (l4 + 1)), (0, .ref l0), (1, .int l1)]) dX10_lay_37 2 rfl rfl (Nat.le_of_ble_eq_true rfl) rfl ?_
      refine V.goto (tgt := 17) dX10_lay_40 (by decide) ?_
      refine V.sub [1, 2, 0] rfl ?_
      exact ih _ _ _ _ _ hf

set_option maxRecDepth 20000 in
theorem w_X10_lay (h : xH) (l0 : Nat) (l1 : Int32) (l2 : Int32) (l3 : Int32) (r : xH) (hf : f_X10_lay h l0 l1 l2 l3 = some r) : Ev 3 yX10_lay cX10_lay 5 none [] [.ref l0, .int l1, .int l2, .int l3] h (oVh r) := by
  refine Ev.of (by decide +kernel) (Nat.le_of_ble_eq_true rfl) ?_
  unfold f_X10_lay at hf
  refine V.aload_n dX10_lay_0 rfl 0 rfl ?_
  obtain ⟨v1, e3, hf⟩ := bS hf
  refine V.xgR dX10_lay_1 fl_RX10_15 e3 ?_
  refine V.iload_n dX10_lay_4 rfl 1 rfl ?_
  refine V.iload_n dX10_lay_5 rfl 3 rfl ?_
  obtain ⟨h2, e4, hf⟩ := bS hf
  refine V.xstI dX10_lay_6 e4 ?_
  refine V.aload_n dX10_lay_7 rfl 0 rfl ?_
  obtain ⟨v3, e5, hf⟩ := bS hf
  refine V.xgR dX10_lay_8 fl_RX10_19 e5 ?_
  refine V.iload_n dX10_lay_11 rfl 1 rfl ?_
  refine V.iload_n dX10_lay_12 rfl 2 rfl ?_
  obtain ⟨h4, e6, hf⟩ := bS hf
  refine V.xstI dX10_lay_13 e6 ?_
  refine V.iconst (v := (0 : Int32)) dX10_lay_14 (by decide) ?_
  refine V.istore (lv' := [(4, .int (0 : Int32)), (0, .ref l0), (1, .int l1), (2, .int l2), (3, .int l3)]) dX10_lay_15 (by decide) rfl ?_
  refine V.sub [1, 2, 0] rfl ?_
  exact w_X10_lay_17 _ _ _ _ _ _ hf

def f_X10_cutTo (h : xH) (l0 : Int32) (l1 : Int64) : Option (Int64) := (if Int32.toInt l0 < 0 ∨ 2 < Int32.toInt l0 then (some (l1)) else (if l0 = 0 then (some ((Int32.toInt64 (Int8.toInt32 (Int32.toInt8 (Int64.toInt32 l1)))))) else (if l0 = 1 then (some ((Int32.toInt64 (Int16.toInt32 (Int32.toInt16 (Int64.toInt32 l1)))))) else (if l0 = 2 then (some ((Int32.toInt64 (Int64.toInt32 l1)))) else none))))
set_option maxRecDepth 20000 in
theorem w_X10_cutTo (h : xH) (l0 : Int32) (l1 : Int64) (r : Int64) (hf : f_X10_cutTo h l0 l1 = some r) : Ev 3 yX10_cutTo cX10_cutTo 3 (some .long) [] [.int l0, .long l1] h (oJ h r) := by
  refine Ev.of (by decide +kernel) (Nat.le_of_ble_eq_true rfl) ?_
  unfold f_X10_cutTo at hf
  refine V.iload_n dX10_cutTo_0 rfl 0 rfl ?_
  by_cases c1 : Int32.toInt l0 < 0 ∨ 2 < Int32.toInt l0
  · rw [if_pos c1] at hf
    refine V.tableOut (tgt := 42) dX10_cutTo_1 c1 (by decide) ?_
    refine V.lload_n dX10_cutTo_42 rfl 1 rfl ?_
    obtain rfl := Option.some.inj hf
    exact V.lret dX10_cutTo_43
  · rw [if_neg c1] at hf
    by_cases c2 : l0 = 0
    · rw [if_pos c2] at hf
      refine V.tableIn (off := 27) (tgt := 28) dX10_cutTo_1 (by rw [c2]; decide) (by rw [c2]; decide) (by rw [c2]; rfl) (by decide) ?_
      refine V.lload_n dX10_cutTo_28 rfl 1 rfl ?_
      refine V.l2i dX10_cutTo_29 ?_
      refine V.i2b dX10_cutTo_30 ?_
      refine V.i2l dX10_cutTo_31 ?_
      obtain rfl := Option.some.inj hf
      exact V.lret dX10_cutTo_32
    · rw [if_neg c2] at hf
      by_cases c3 : l0 = 1
      · rw [if_pos c3] at hf
        refine V.tableIn (off := 32) (tgt := 33) dX10_cutTo_1 (by rw [c3]; decide) (by rw [c3]; decide) (by rw [c3]; rfl) (by decide) ?_
        refine V.lload_n dX10_cutTo_33 rfl 1 rfl ?_
        refine V.l2i dX10_cutTo_34 ?_
        refine V.i2s dX10_cutTo_35 ?_
        refine V.i2l dX10_cutTo_36 ?_
        obtain rfl := Option.some.inj hf
        exact V.lret dX10_cutTo_37
      · rw [if_neg c3] at hf
        by_cases c4 : l0 = 2
        · rw [if_pos c4] at hf
          refine V.tableIn (off := 37) (tgt := 38) dX10_cutTo_1 (by rw [c4]; decide) (by rw [c4]; decide) (by rw [c4]; rfl) (by decide) ?_
          refine V.lload_n dX10_cutTo_38 rfl 1 rfl ?_
          refine V.l2i dX10_cutTo_39 ?_
          refine V.i2l dX10_cutTo_40 ?_
          obtain rfl := Option.some.inj hf
          exact V.lret dX10_cutTo_41
        · rw [if_neg c4] at hf
          cases hf

def f_X10_put (h : xH) (l0 : Nat) (l1 : Int32) (l2 : Int32) (l3 : Int64) : Option (Int64 × xH) := (gR h l0 10 2).bind fun v1 => (ldI h .int v1 l1).bind fun v2 => (f_X10_cutTo h v2 l3).bind fun r3 => (gR h l0 10 0).bind fun v4 => (stJ h v4 ((l1 * (40 : Int32)) + l2) r3).bind fun h5 => some ((r3, h5))
set_option maxRecDepth 20000 in
theorem w_X10_put (h : xH) (l0 : Nat) (l1 : Int32) (l2 : Int32) (l3 : Int64) (r : Int64 × xH) (hf : f_X10_put h l0 l1 l2 l3 = some r) : Ev 4 yX10_put cX10_put 7 (some .long) [] [.ref l0, .int l1, .int l2, .long l3] h (oJh r) := by
  refine Ev.of (by decide +kernel) (Nat.le_of_ble_eq_true rfl) ?_
  unfold f_X10_put at hf
  refine V.aload_n dX10_put_0 rfl 0 rfl ?_
  obtain ⟨v1, e1, hf⟩ := bS hf
  refine V.xgR dX10_put_1 fl_RX10_19 e1 ?_
  refine V.iload_n dX10_put_4 rfl 1 rfl ?_
  obtain ⟨v2, e2, hf⟩ := bS hf
  refine V.xldI dX10_put_5 e2 ?_
  refine V.lload_n dX10_put_6 rfl 3 rfl ?_
  obtain ⟨r3, e3, hf⟩ := bS hf
  refine V.callS (As := [.int v2, .long l3]) (st := []) dX10_put_7 cl_RX10_28 sw_yX10_cutTo (by decide) rfl (Nat.le_of_ble_eq_true rfl) rfl (w_X10_cutTo _ _ _ _ e3) ?_
  refine V.lstore (lv' := [(5, .long r3), (0, .ref l0), (1, .int l1), (2, .int l2), (3, .long l3)]) dX10_put_10 (by decide) rfl ?_
  refine V.aload_n dX10_put_12 rfl 1 rfl ?_
  obtain ⟨v4, e4, hf⟩ := bS hf
  refine V.xgR dX10_put_13 fl_RX10_11 e4 ?_
  refine V.iload_n dX10_put_16 rfl 2 rfl ?_
  refine V.bipush (v := (40 : Int32)) dX10_put_17 (by decide) ?_
  refine V.imul dX10_put_19 ?_
  refine V.iload_n dX10_put_20 rfl 3 rfl ?_
  refine V.iadd dX10_put_21 ?_
  refine V.lload dX10_put_22 0 rfl ?_
  obtain ⟨h5, e5, hf⟩ := bS hf
  refine V.xstJ dX10_put_24 e5 ?_
  refine V.lload dX10_put_25 0 rfl ?_
  obtain rfl := Option.some.inj hf
  exact V.lret dX10_put_27

