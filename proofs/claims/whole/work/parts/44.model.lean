def f_X12_orders_4 (h : xH) : Nat → Int32 → Int64 → Int32 → Option (Int64)
  | 0, _, _, _ => none
  | n + 1, l0, l1, l3 => (if l0 < l3 then (some (l1)) else (f_X12_orders_4 h n l0 (l1 * (Int32.toInt64 l3)) (l3 + 1)))
def f_X12_orders (h : xH) (l0 : Int32) : Option (Int64) := f_X12_orders_4 h xFU l0 (1 : Int64) (2 : Int32)
set_option maxRecDepth 20000 in
theorem w_X12_orders_4 (h : xH) : ∀ (n : Nat) (l0 : Int32) (l1 : Int64) (l3 : Int32) (r : Int64), f_X12_orders_4 h n l0 l1 l3 = some r → V 3 yX12_orders cX12_orders 4 (some .long) [] none 4 [(0, .int l0), (1, .long l1), (3, .int l3)] [] h (oJ h r) := by
  intro n
  induction n with
  | zero => intro l0 l1 l3 r hf; cases hf
  | succ n ih =>
    intro l0 l1 l3 r hf
    rw [f_X12_orders_4] at hf
    refine V.iload_n dX12_orders_4 rfl 2 rfl ?_
    refine V.iload_n dX12_orders_5 rfl 0 rfl ?_
    refine V.icmp_gt (tgt := 20) dX12_orders_6 (by decide) (fun c1 => ?_) (fun c1 => ?_)
    · rw [if_pos c1] at hf
      refine V.lload_n dX12_orders_20 rfl 1 rfl ?_
      obtain rfl := Option.some.inj hf
      exact V.lret dX12_orders_21
    · rw [if_neg c1] at hf
      refine V.lload_n dX12_orders_9 rfl 1 rfl ?_
      refine V.iload_n dX12_orders_10 rfl 2 rfl ?_
      refine V.i2l dX12_orders_11 ?_
      refine V.lmul dX12_orders_12 ?_
      refine V.lstore_n (lv' := [(1, .long (l1 * (Int32.toInt64 l3))), (0, .int l0), (3, .int l3)]) dX12_orders_13 rfl (by decide) rfl ?_
      refine V.iinc (v := (l3 + 1)) (lv' := [(3, .int (l3 + 1)), (1, .long (l1 * (Int32.toInt64 l3))), (0, .int l0)]) dX12_orders_14 2 rfl rfl (Nat.le_of_ble_eq_true rfl) rfl ?_
      refine V.goto (tgt := 4) dX12_orders_17 (by decide) ?_
      refine V.sub [2, 1, 0] rfl ?_
      exact ih _ _ _ _ hf

set_option maxRecDepth 20000 in
theorem w_X12_orders (h : xH) (l0 : Int32) (r : Int64) (hf : f_X12_orders h l0 = some r) : Ev 3 yX12_orders cX12_orders 4 (some .long) [] [.int l0] h (oJ h r) := by
  refine Ev.of (by decide +kernel) (Nat.le_of_ble_eq_true rfl) ?_
  unfold f_X12_orders at hf
  refine V.lconst (v := 1) dX12_orders_0 (by decide) ?_
  refine V.lstore_n (lv' := [(1, .long (1 : Int64)), (0, .int l0)]) dX12_orders_1 rfl (by decide) rfl ?_
  refine V.iconst (v := (2 : Int32)) dX12_orders_2 (by decide) ?_
  refine V.istore_n (lv' := [(3, .int (2 : Int32)), (1, .long (1 : Int64)), (0, .int l0)]) dX12_orders_3 rfl (by decide) rfl ?_
  refine V.sub [2, 1, 0] rfl ?_
  exact w_X12_orders_4 h _ _ _ _ _ hf

def f_X12_owed_153 (h : xH) (l0 : Nat) (s0 : Int64) : Option (Int32 × xH) := (gJ h l0 12 25).bind fun v1 => (f_X12_divisor h s0 v1).bind fun r2 => (gJ h l0 12 24).bind fun v3 => (dvJ v3 r2).bind fun v4 => (pF h l0 12 24 (.long v4)).bind fun h5 => (gJ h5 l0 12 25).bind fun v6 => (dvJ v6 r2).bind fun v7 => (pF h5 l0 12 25 (.long v7)).bind fun h8 => some (((1 : Int32), h8))
def f_X12_owed_55 : Nat → xH → Nat → Int32 → Int32 → Int32 → Option (Int32 × xH)
  | 0, _, _, _, _, _ => none
  | n + 1, h, l0, l1, l2, l3 => (gO h l0 12).bind fun q1 => (f_X12_all h l0).bind fun r2 => (if r2 < l3 then ((f_X12_orders h l2).bind fun r4 => (pF h l0 12 25 (.long r4)).bind fun h5 => (gJ h5 l0 12 24).bind fun v6 => (if 0 ≤ (lg_cmp v6 (0 : Int64)) then ((gJ h5 l0 12 24).bind fun v8 => f_X12_owed_153 h5 l0 v8) else ((gJ h5 l0 12 24).bind fun v9 => f_X12_owed_153 h5 l0 (-v9)))) else ((f_X12_has h l3 l1).bind fun r10 => (if r10 = 0 then ((gJ h l0 12 24).bind fun v12 => (f_X12_ones h l3).bind fun r13 => (f_X12_orders h r13).bind fun r14 => (f_X12_ones h l3).bind fun r15 => (f_X12_orders h ((l2 - (1 : Int32)) - r15)).bind fun r16 => (gR h l0 12 23).bind fun v17 => (ldI h .int v17 (l3 ||| ((1 : Int32) <<< (l1 &&& 31)))).bind fun v18 => (gR h l0 12 23).bind fun v19 => (ldI h .int v19 l3).bind fun v20 => (pF h l0 12 24 (.long (v12 + ((r14 * r16) * (Int32.toInt64 (v18 - v20)))))).bind fun h21 => f_X12_owed_55 n h21 l0 l1 l2 (l3 + 1)) else (f_X12_owed_55 n h l0 l1 l2 (l3 + 1)))))
def f_X12_owed_14 (h : xH) (l0 : Nat) (l1 : Int32) (s0 : Int32) (s1 : Nat) : Option (Int32 × xH) := (pF h s1 12 4 (.int s0)).bind fun h1 => (gI h1 l0 12 4).bind fun v2 => (if v2 ≤ 0 then ((pF h1 l0 12 24 (.long (0 : Int64))).bind fun h4 => (pF h4 l0 12 25 (.long (0 : Int64))).bind fun h5 => (gO h5 l0 12).bind fun q6 => (f_X12_rooms h5 l0).bind fun r7 => (if r7 ≤ (10 : Int32) then ((gO h5 l0 12).bind fun q9 => (f_X12_laySavings h5 l0).bind fun r10 => f_X12_owed_55 xFU r10 l0 l1 r7 (0 : Int32)) else (some (((0 : Int32), h5))))) else (some (((0 : Int32), h1))))
def f_X12_owed (h : xH) (l0 : Nat) (l1 : Int32) : Option (Int32 × xH) := (gO h l0 12).bind fun q1 => (f_X12_isRoom h l0 l1).bind fun r2 => (if r2 = 0 then (f_X12_owed_14 h l0 l1 (1 : Int32) l0) else (f_X12_owed_14 h l0 l1 (0 : Int32) l0))
set_option maxRecDepth 20000 in
theorem w_X12_owed_153 (h : xH) (l0 : Nat) (s0 : Int64) (r : Int32 × xH) (hf : f_X12_owed_153 h l0 s0 = some r) : V 6 yX12_owed cX12_owed 5 (some .boolean) [] none 153 [(0, .ref l0)] [.long s0] h (oIh r) := by
  unfold f_X12_owed_153 at hf
  refine V.aload_n dX12_owed_153 rfl 0 rfl ?_
  obtain ⟨v1, e1, hf⟩ := bS hf
  refine V.xgJ dX12_owed_154 fl_RX12_377 e1 ?_
  obtain ⟨r2, e2, hf⟩ := bS hf
  refine V.callS (As := [.long s0, .long v1]) (st := []) dX12_owed_157 cl_RX12_387 sw_yX12_divisor (by decide) rfl (Nat.le_of_ble_eq_true rfl) rfl (w_X12_divisor _ _ _ _ e2) ?_
  refine V.lstore_n (lv' := [(3, .long r2), (0, .ref l0)]) dX12_owed_160 rfl (by decide) rfl ?_
  refine V.aload_n dX12_owed_161 rfl 1 rfl ?_
  refine V.dup dX12_owed_162 rfl ?_
  obtain ⟨v3, e3, hf⟩ := bS hf
  refine V.xgJ dX12_owed_163 fl_RX12_373 e3 ?_
  refine V.lload_n dX12_owed_166 rfl 0 rfl ?_
  obtain ⟨v4, e4, hf⟩ := bS hf
  refine V.xdvJ dX12_owed_167 e4 ?_
  obtain ⟨h5, e5, hf⟩ := bS hf
  refine V.xpF dX12_owed_168 fl_RX12_373 (fun h9 => nomatch h9) (fun _ => rfl) (fun _ => rfl) e5 ?_
  refine V.aload_n dX12_owed_171 rfl 1 rfl ?_
  refine V.dup dX12_owed_172 rfl ?_
  obtain ⟨v6, e6, hf⟩ := bS hf
  refine V.xgJ dX12_owed_173 fl_RX12_377 e6 ?_
  refine V.lload_n dX12_owed_176 rfl 0 rfl ?_
  obtain ⟨v7, e7, hf⟩ := bS hf
  refine V.xdvJ dX12_owed_177 e7 ?_
  obtain ⟨h8, e8, hf⟩ := bS hf
  refine V.xpF dX12_owed_178 fl_RX12_377 (fun h9 => nomatch h9) (fun _ => rfl) (fun _ => rfl) e8 ?_
  refine V.iconst (v := (1 : Int32)) dX12_owed_181 (by decide) ?_
  obtain rfl := Option.some.inj hf
  exact V.zret dX12_owed_182 (by first | rfl | assumption)

set_option maxRecDepth 20000 in
theorem w_X12_owed_55 : ∀ (n : Nat) (h : xH) (l0 : Nat) (l1 : Int32) (l2 : Int32) (l3 : Int32) (r : Int32 × xH), f_X12_owed_55 n h l0 l1 l2 l3 = some r → V 6 yX12_owed cX12_owed 5 (some .boolean) [] none 55 [(0, .ref l0), (1, .int l1), (2, .int l2), (3, .int l3)] [] h (oIh r) := by
  intro n
  induction n with
  | zero => intro h l0 l1 l2 l3 r hf; cases hf
  | succ n ih =>
    intro h l0 l1 l2 l3 r hf
    rw [f_X12_owed_55] at hf
    refine V.iload_n dX12_owed_55 rfl 3 rfl ?_
    refine V.aload_n dX12_owed_56 rfl 0 rfl ?_
    obtain ⟨q1, e9, hf⟩ := bS hf
    obtain ⟨r2, e10, hf⟩ := bS hf
    refine V.callV (As := []) (st := [.int l3]) dX12_owed_57 cl_RX12_230 sw_yX12_all (by decide) rfl (Nat.le_of_ble_eq_true rfl) rfl (gO_some e9) rfl (w_X12_all _ _ _ e10) ?_
    refine V.icmp_gt (tgt := 124) dX12_owed_60 (by decide) (fun c3 => ?_) (fun c3 => ?_)
    · rw [if_pos c3] at hf
      refine V.aload_n dX12_owed_124 rfl 0 rfl ?_
      refine V.iload_n dX12_owed_125 rfl 2 rfl ?_
      obtain ⟨r4, e11, hf⟩ := bS hf
      refine V.callS (As := [.int l2]) (st := [.ref l0]) dX12_owed_126 cl_RX12_383 sw_yX12_orders (by decide) rfl (Nat.le_of_ble_eq_true rfl) rfl (w_X12_orders _ _ _ e11) ?_
      obtain ⟨h5, e12, hf⟩ := bS hf
      refine V.xpF dX12_owed_129 fl_RX12_377 (fun h9 => nomatch h9) (fun _ => rfl) (fun _ => rfl) e12 ?_
      refine V.aload_n dX12_owed_132 rfl 0 rfl ?_
      obtain ⟨v6, e13, hf⟩ := bS hf
      refine V.xgJ dX12_owed_133 fl_RX12_373 e13 ?_
      refine V.lconst (v := 0) dX12_owed_136 (by decide) ?_
      refine V.lcmp dX12_owed_137 ?_
      refine V.if_ge (tgt := 149) dX12_owed_138 (by decide) (fun c7 => ?_) (fun c7 => ?_)
      · rw [if_pos c7] at hf
        refine V.aload_n dX12_owed_149 rfl 0 rfl ?_
        obtain ⟨v8, e14, hf⟩ := bS hf
        refine V.xgJ dX12_owed_150 fl_RX12_373 e14 ?_
        refine V.sub [0] rfl ?_
        exact w_X12_owed_153 _ _ _ _ hf
      · rw [if_neg c7] at hf
        refine V.aload_n dX12_owed_141 rfl 0 rfl ?_
        obtain ⟨v9, e15, hf⟩ := bS hf
        refine V.xgJ dX12_owed_142 fl_RX12_373 e15 ?_
        refine V.lneg dX12_owed_145 ?_
        refine V.goto (tgt := 153) dX12_owed_146 (by decide) ?_
        refine V.sub [0] rfl ?_
        exact w_X12_owed_153 _ _ _ _ hf
    · rw [if_neg c3] at hf
      refine V.iload_n dX12_owed_63 rfl 3 rfl ?_
      refine V.iload_n dX12_owed_64 rfl 1 rfl ?_
      obtain ⟨r10, e16, hf⟩ := bS hf
      refine V.callS (As := [.int l3, .int l1]) (st := []) dX12_owed_65 cl_RX12_246 sw_yX12_has (by decide) rfl (Nat.le_of_ble_eq_true rfl) rfl (w_X12_has _ _ _ _ e16) ?_
      refine V.if_ne (tgt := 118) dX12_owed_68 (by decide) (fun c11 => ?_) (fun c11 => ?_)
      · rw [if_neg c11] at hf
        refine V.iinc (v := (l3 + 1)) (lv' := [(3, .int (l3 + 1)), (0, .ref l0), (1, .int l1), (2, .int l2)]) dX12_owed_118 3 rfl rfl (Nat.le_of_ble_eq_true rfl) rfl ?_
        refine V.goto (tgt := 55) dX12_owed_121 (by decide) ?_
        refine V.sub [1, 2, 3, 0] rfl ?_
        exact ih _ _ _ _ _ _ hf
      · rw [if_pos c11] at hf
        refine V.aload_n dX12_owed_71 rfl 0 rfl ?_
        refine V.dup dX12_owed_72 rfl ?_
        obtain ⟨v12, e17, hf⟩ := bS hf
        refine V.xgJ dX12_owed_73 fl_RX12_373 e17 ?_
        refine V.iload_n dX12_owed_76 rfl 3 rfl ?_
        obtain ⟨r13, e18, hf⟩ := bS hf
        refine V.callS (As := [.int l3]) (st := [.long v12, .ref l0]) dX12_owed_77 cl_RX12_285 sw_yX12_ones (by decide) rfl (Nat.le_of_ble_eq_true rfl) rfl (w_X12_ones _ _ _ e18) ?_
        obtain ⟨r14, e19, hf⟩ := bS hf
        refine V.callS (As := [.int r13]) (st := [.long v12, .ref l0]) dX12_owed_80 cl_RX12_383 sw_yX12_orders (by decide) rfl (Nat.le_of_ble_eq_true rfl) rfl (w_X12_orders _ _ _ e19) ?_
        refine V.iload_n dX12_owed_83 rfl 2 rfl ?_
        refine V.iconst (v := (1 : Int32)) dX12_owed_84 (by decide) ?_
        refine V.isub dX12_owed_85 ?_
        refine V.iload_n dX12_owed_86 rfl 3 rfl ?_
        obtain ⟨r15, e20, hf⟩ := bS hf
        refine V.callS (As := [.int l3]) (st := [.int (l2 - (1 : Int32)), .long r14, .long v12, .ref l0]) dX12_owed_87 cl_RX12_285 sw_yX12_ones (by decide) rfl (Nat.le_of_ble_eq_true rfl) rfl (w_X12_ones _ _ _ e20) ?_
        refine V.isub dX12_owed_90 ?_
        obtain ⟨r16, e21, hf⟩ := bS hf
        refine V.callS (As := [.int ((l2 - (1 : Int32)) - r15)]) (st := [.long r14, .long v12, .ref l0]) dX12_owed_91 cl_RX12_383 sw_yX12_orders (by decide) rfl (Nat.le_of_ble_eq_true rfl) rfl (w_X12_orders _ _ _ e21) ?_
        refine V.lmul dX12_owed_94 ?_
        refine V.aload_n dX12_owed_95 rfl 0 rfl ?_
        obtain ⟨v17, e22, hf⟩ := bS hf
        refine V.xgR dX12_owed_96 fl_RX12_51 e22 ?_
        refine V.iload_n dX12_owed_99 rfl 3 rfl ?_
        refine V.iconst (v := (1 : Int32)) dX12_owed_100 (by decide) ?_
        refine V.iload_n dX12_owed_101 rfl 1 rfl ?_
        refine V.ishl dX12_owed_102 ?_
        refine V.ior dX12_owed_103 ?_
        obtain ⟨v18, e23, hf⟩ := bS hf
        refine V.xldI dX12_owed_104 e23 ?_
        refine V.aload_n dX12_owed_105 rfl 0 rfl ?_
        obtain ⟨v19, e24, hf⟩ := bS hf
        refine V.xgR dX12_owed_106 fl_RX12_51 e24 ?_
        refine V.iload_n dX12_owed_109 rfl 3 rfl ?_
        obtain ⟨v20, e25, hf⟩ := bS hf
        refine V.xldI dX12_owed_110 e25 ?_
        refine V.isub dX12_owed_111 ?_
        refine V.i2l dX12_owed_112 ?_
        refine V.lmul dX12_owed_113 ?_
        refine V.ladd dX12_owed_114 ?_
        obtain ⟨h21, e26, hf⟩ := bS hf
        refine V.xpF dX12_owed_115 fl_RX12_373 (fun h9 => nomatch h9) (fun _ => rfl) (fun _ => rfl) e26 ?_
        refine V.iinc (v := (l3 + 1)) (lv' := [(3, .int (l3 + 1)), (0, .ref l0), (1, .int l1), (2, .int l2)]) dX12_owed_118 3 rfl rfl (Nat.le_of_ble_eq_true rfl) rfl ?_
        refine V.goto (tgt := 55) dX12_owed_121 (by decide) ?_
        refine V.sub [1, 2, 3, 0] rfl ?_
        exact ih _ _ _ _ _ _ hf

set_option maxRecDepth 20000 in
theorem w_X12_owed_14 (h : xH) (l0 : Nat) (l1 : Int32) (s0 : Int32) (s1 : Nat) (r : Int32 × xH) (hf : f_X12_owed_14 h l0 l1 s0 s1 = some r) : V 6 yX12_owed cX12_owed 5 (some .boolean) [] none 14 [(0, .ref l0), (1, .int l1)] [.int s0, .ref s1] h (oIh r) := by
  unfold f_X12_owed_14 at hf
  obtain ⟨h1, e27, hf⟩ := bS hf
  refine V.xpF dX12_owed_14 fl_RX12_75 (fun h9 => nomatch h9) (fun _ => rfl) (fun _ => rfl) e27 ?_
  refine V.aload_n dX12_owed_17 rfl 0 rfl ?_
  obtain ⟨v2, e28, hf⟩ := bS hf
  refine V.xgI dX12_owed_18 fl_RX12_75 e28 ?_
  refine V.if_le (tgt := 26) dX12_owed_21 (by decide) (fun c3 => ?_) (fun c3 => ?_)
  · rw [if_pos c3] at hf
    refine V.aload_n dX12_owed_26 rfl 0 rfl ?_
    refine V.lconst (v := 0) dX12_owed_27 (by decide) ?_
    obtain ⟨h4, e29, hf⟩ := bS hf
    refine V.xpF dX12_owed_28 fl_RX12_373 (fun h9 => nomatch h9) (fun _ => rfl) (fun _ => rfl) e29 ?_
    refine V.aload_n dX12_owed_31 rfl 0 rfl ?_
    refine V.lconst (v := 0) dX12_owed_32 (by decide) ?_
    obtain ⟨h5, e30, hf⟩ := bS hf
    refine V.xpF dX12_owed_33 fl_RX12_377 (fun h9 => nomatch h9) (fun _ => rfl) (fun _ => rfl) e30 ?_
    refine V.aload_n dX12_owed_36 rfl 0 rfl ?_
    obtain ⟨q6, e31, hf⟩ := bS hf
    obtain ⟨r7, e32, hf⟩ := bS hf
    refine V.callV (As := []) (st := []) dX12_owed_37 cl_RX12_228 sw_yX12_rooms (by decide) rfl (Nat.le_of_ble_eq_true rfl) rfl (gO_some e31) rfl (w_X12_rooms _ _ _ e32) ?_
    refine V.istore_n (lv' := [(2, .int r7), (0, .ref l0), (1, .int l1)]) dX12_owed_40 rfl (by decide) rfl ?_
    refine V.iload_n dX12_owed_41 rfl 0 rfl ?_
    refine V.bipush (v := (10 : Int32)) dX12_owed_42 (by decide) ?_
    refine V.icmp_le (tgt := 49) dX12_owed_44 (by decide) (fun c8 => ?_) (fun c8 => ?_)
    · rw [if_pos c8] at hf
      refine V.aload_n dX12_owed_49 rfl 1 rfl ?_
      obtain ⟨q9, e33, hf⟩ := bS hf
      obtain ⟨r10, e34, hf⟩ := bS hf
      refine V.callV (As := []) (st := []) dX12_owed_50 cl_RX12_380 sw_yX12_laySavings (by decide) rfl (Nat.le_of_ble_eq_true rfl) rfl (gO_some e33) rfl (w_X12_laySavings _ _ _ e34) ?_
      refine V.iconst (v := (0 : Int32)) dX12_owed_53 (by decide) ?_
      refine V.istore_n (lv' := [(3, .int (0 : Int32)), (2, .int r7), (0, .ref l0), (1, .int l1)]) dX12_owed_54 rfl (by decide) rfl ?_
      refine V.sub [2, 3, 1, 0] rfl ?_
      exact w_X12_owed_55 _ _ _ _ _ _ _ hf
    · rw [if_neg c8] at hf
      refine V.iconst (v := (0 : Int32)) dX12_owed_47 (by decide) ?_
      obtain rfl := Option.some.inj hf
      exact V.zret dX12_owed_48 (by first | rfl | assumption)
  · rw [if_neg c3] at hf
    refine V.iconst (v := (0 : Int32)) dX12_owed_24 (by decide) ?_
    obtain rfl := Option.some.inj hf
    exact V.zret dX12_owed_25 (by first | rfl | assumption)

set_option maxRecDepth 20000 in
theorem w_X12_owed (h : xH) (l0 : Nat) (l1 : Int32) (r : Int32 × xH) (hf : f_X12_owed h l0 l1 = some r) : Ev 6 yX12_owed cX12_owed 5 (some .boolean) [] [.ref l0, .int l1] h (oIh r) := by
  refine Ev.of (by decide +kernel) (Nat.le_of_ble_eq_true rfl) ?_
  unfold f_X12_owed at hf
  refine V.aload_n dX12_owed_0 rfl 0 rfl ?_
  refine V.aload_n dX12_owed_1 rfl 0 rfl ?_
  refine V.iload_n dX12_owed_2 rfl 1 rfl ?_
  obtain ⟨q1, e35, hf⟩ := bS hf
  obtain ⟨r2, e36, hf⟩ := bS hf
  refine V.callV (As := [.int l1]) (st := [.ref l0]) dX12_owed_3 cl_RX12_240 sw_yX12_isRoom (by decide) rfl (Nat.le_of_ble_eq_true rfl) rfl (gO_some e35) rfl (w_X12_isRoom _ _ _ _ e36) ?_
  refine V.if_eq (tgt := 13) dX12_owed_6 (by decide) (fun c3 => ?_) (fun c3 => ?_)
  · rw [if_pos c3] at hf
    refine V.iconst (v := (1 : Int32)) dX12_owed_13 (by decide) ?_
    exact w_X12_owed_14 _ _ _ _ _ _ hf
  · rw [if_neg c3] at hf
    refine V.iconst (v := (0 : Int32)) dX12_owed_9 (by decide) ?_
    refine V.goto (tgt := 14) dX12_owed_10 (by decide) ?_
    exact w_X12_owed_14 _ _ _ _ _ _ hf

def f_X12_pane (h : xH) (l0 : Nat) (l1 : Int32) (l2 : Int32) : Option (Int32 × xH) := (pF h l0 12 4 (.int (0 : Int32))).bind fun h1 => (gR h1 l0 12 0).bind fun v2 => (ldI h1 .int v2 (2 : Int32)).bind fun v3 => (f_X12_within h1 (Int32.toInt64 l1) (0 : Int64) (Int32.toInt64 (v3 - (1 : Int32)))).bind fun r4 => (if r4 = 0 then ((gO h1 l0 12).bind fun q12 => (f_X12_fails h1 l0 (1 : Int32)).bind fun r13 => some ((r13.1, r13.2))) else ((f_X12_within h1 (Int32.toInt64 l2) (0 : Int64) (3 : Int64)).bind fun r6 => (if r6 = 0 then ((gO h1 l0 12).bind fun q8 => (f_X12_fails h1 l0 (2 : Int32)).bind fun r9 => some ((r9.1, r9.2))) else ((gR h1 l0 12 0).bind fun v10 => (ldI h1 .int v10 (((8 : Int32) + ((4 : Int32) * l1)) + l2)).bind fun v11 => some ((v11, h1))))))
set_option maxRecDepth 20000 in
theorem w_X12_pane (h : xH) (l0 : Nat) (l1 : Int32) (l2 : Int32) (r : Int32 × xH) (hf : f_X12_pane h l0 l1 l2 = some r) : Ev 4 yX12_pane cX12_pane 3 (some .int) [] [.ref l0, .int l1, .int l2] h (oIh r) := by
  refine Ev.of (by decide +kernel) (Nat.le_of_ble_eq_true rfl) ?_
  unfold f_X12_pane at hf
  refine V.aload_n dX12_pane_0 rfl 0 rfl ?_
  refine V.iconst (v := (0 : Int32)) dX12_pane_1 (by decide) ?_
  obtain ⟨h1, e1, hf⟩ := bS hf
  refine V.xpF dX12_pane_2 fl_RX12_75 (fun h9 => nomatch h9) (fun _ => rfl) (fun _ => rfl) e1 ?_
  refine V.iload_n dX12_pane_5 rfl 1 rfl ?_
  refine V.i2l dX12_pane_6 ?_
  refine V.lconst (v := 0) dX12_pane_7 (by decide) ?_
  refine V.aload_n dX12_pane_8 rfl 0 rfl ?_
  obtain ⟨v2, e2, hf⟩ := bS hf
  refine V.xgR dX12_pane_9 fl_RX12_9 e2 ?_
  refine V.iconst (v := (2 : Int32)) dX12_pane_12 (by decide) ?_
  obtain ⟨v3, e3, hf⟩ := bS hf
  refine V.xldI dX12_pane_13 e3 ?_
  refine V.iconst (v := (1 : Int32)) dX12_pane_14 (by decide) ?_
  refine V.isub dX12_pane_15 ?_
  refine V.i2l dX12_pane_16 ?_
  obtain ⟨r4, e4, hf⟩ := bS hf
  refine V.callS (As := [.long (Int32.toInt64 l1), .long (0 : Int64), .long (Int32.toInt64 (v3 - (1 : Int32)))]) (st := []) dX12_pane_17 cl_RX12_134 sw_yX12_within (by decide) rfl (Nat.le_of_ble_eq_true rfl) rfl (w_X12_within _ _ _ _ _ e4) ?_
  refine V.if_ne (tgt := 29) dX12_pane_20 (by decide) (fun c5 => ?_) (fun c5 => ?_)
  · rw [if_neg c5] at hf
    refine V.iload_n dX12_pane_29 rfl 2 rfl ?_
    refine V.i2l dX12_pane_30 ?_
    refine V.lconst (v := 0) dX12_pane_31 (by decide) ?_
    refine V.ldc2 (v := (3 : Int64)) dX12_pane_32 cj_RX12_235 ?_
    obtain ⟨r6, e5, hf⟩ := bS hf
    refine V.callS (As := [.long (Int32.toInt64 l2), .long (0 : Int64), .long (3 : Int64)]) (st := []) dX12_pane_35 cl_RX12_134 sw_yX12_within (by decide) rfl (Nat.le_of_ble_eq_true rfl) rfl (w_X12_within _ _ _ _ _ e5) ?_
    refine V.if_eq (tgt := 57) dX12_pane_38 (by decide) (fun c7 => ?_) (fun c7 => ?_)
    · rw [if_pos c7] at hf
      refine V.aload_n dX12_pane_57 rfl 0 rfl ?_
      refine V.iconst (v := (2 : Int32)) dX12_pane_58 (by decide) ?_
      obtain ⟨q8, e6, hf⟩ := bS hf
      obtain ⟨r9, e7, hf⟩ := bS hf
      refine V.callV (As := [.int (2 : Int32)]) (st := []) dX12_pane_59 cl_RX12_219 sw_yX12_fails (by decide) rfl (Nat.le_of_ble_eq_true rfl) rfl (gO_some e6) rfl (w_X12_fails _ _ _ _ e7) ?_
      obtain rfl := Option.some.inj hf
      exact V.iret dX12_pane_62
    · rw [if_neg c7] at hf
      refine V.aload_n dX12_pane_41 rfl 0 rfl ?_
      obtain ⟨v10, e8, hf⟩ := bS hf
      refine V.xgR dX12_pane_42 fl_RX12_9 e8 ?_
      refine V.bipush (v := (8 : Int32)) dX12_pane_45 (by decide) ?_
      refine V.iconst (v := (4 : Int32)) dX12_pane_47 (by decide) ?_
      refine V.iload_n dX12_pane_48 rfl 1 rfl ?_
      refine V.imul dX12_pane_49 ?_
      refine V.iadd dX12_pane_50 ?_
      refine V.iload_n dX12_pane_51 rfl 2 rfl ?_
      refine V.iadd dX12_pane_52 ?_
      obtain ⟨v11, e9, hf⟩ := bS hf
      refine V.xldI dX12_pane_53 e9 ?_
      refine V.goto (tgt := 62) dX12_pane_54 (by decide) ?_
      obtain rfl := Option.some.inj hf
      exact V.iret dX12_pane_62
  · rw [if_pos c5] at hf
    refine V.aload_n dX12_pane_23 rfl 0 rfl ?_
    refine V.iconst (v := (1 : Int32)) dX12_pane_24 (by decide) ?_
    obtain ⟨q12, e10, hf⟩ := bS hf
    obtain ⟨r13, e11, hf⟩ := bS hf
    refine V.callV (As := [.int (1 : Int32)]) (st := []) dX12_pane_25 cl_RX12_219 sw_yX12_fails (by decide) rfl (Nat.le_of_ble_eq_true rfl) rfl (gO_some e10) rfl (w_X12_fails _ _ _ _ e11) ?_
    obtain rfl := Option.some.inj hf
    exact V.iret dX12_pane_28

def f_X12_isTray (h : xH) (l0 : Int32) : Option (Int32) := (f_X12_within h (Int32.toInt64 l0) (0 : Int64) (3 : Int64)).bind fun r1 => (if narrow .boolean (.int r1) = .int r1 then some r1 else none)
set_option maxRecDepth 20000 in
theorem w_X12_isTray (h : xH) (l0 : Int32) (r : Int32) (hf : f_X12_isTray h l0 = some r) : Ev 4 yX12_isTray cX12_isTray 1 (some .boolean) [] [.int l0] h (oI h r) := by
  refine Ev.of (by decide +kernel) (Nat.le_of_ble_eq_true rfl) ?_
  unfold f_X12_isTray at hf
  refine V.iload_n dX12_isTray_0 rfl 0 rfl ?_
  refine V.i2l dX12_isTray_1 ?_
  refine V.lconst (v := 0) dX12_isTray_2 (by decide) ?_
  refine V.ldc2 (v := (3 : Int64)) dX12_isTray_3 cj_RX12_235 ?_
  obtain ⟨r1, e1, hf⟩ := bS hf
  refine V.callS (As := [.long (Int32.toInt64 l0), .long (0 : Int64), .long (3 : Int64)]) (st := []) dX12_isTray_6 cl_RX12_134 sw_yX12_within (by decide) rfl (Nat.le_of_ble_eq_true rfl) rfl (w_X12_within _ _ _ _ _ e1) ?_
  by_cases c2 : narrow .boolean (.int r1) = .int r1
  · rw [if_pos c2] at hf
    obtain rfl := Option.some.inj hf
    exact V.zret dX12_isTray_9 c2
  · rw [if_neg c2] at hf
    cases hf

def f_X12_pour_167 : Nat → xH → Nat → Int32 → Int32 → Int32 → Option (Int32 × xH)
  | 0, _, _, _, _, _ => none
  | n + 1, h, l0, l1, l2, l4 => (if l2 ≤ l4 then (some ((l2, h))) else ((gR h l0 12 31).bind fun v2 => (ldJ h v2 (((40 : Int32) * l1) + ((2 : Int32) * l4))).bind fun v3 => (gR h l0 12 31).bind fun v4 => (ldJ h v4 ((((40 : Int32) * l1) + ((2 : Int32) * l4)) + (1 : Int32))).bind fun v5 => (gO h l0 12).bind fun q6 => (f_X12_hangs h l0 l4 (Int64.toInt32 v3) (Int64.toInt32 v5)).bind fun r7 => f_X12_pour_167 n r7 l0 l1 l2 (l4 + 1)))
def f_X12_pour_81 : Nat → xH → Nat → Int32 → Int32 → Int32 → Int32 → Option (Int32 × xH)
  | 0, _, _, _, _, _, _ => none
  | n + 1, h, l0, l1, l2, l3, l4 => (if (((40 : Int32) * l1) + ((2 : Int32) * l2)) ≤ l4 then ((if l3 = 0 then ((gO h l0 12).bind fun q3 => (f_X12_fails h l0 (4 : Int32)).bind fun r4 => some ((r4.1, r4.2))) else (f_X12_pour_167 xFU h l0 l1 l2 (0 : Int32)))) else ((if l3 = 0 then (f_X12_pour_81 n h l0 l1 l2 (0 : Int32) (l4 + 2)) else ((gR h l0 12 31).bind fun v6 => (ldJ h v6 l4).bind fun v7 => (gR h l0 12 0).bind fun v8 => (ldI h .int v8 (3 : Int32)).bind fun v9 => (f_X12_within h v7 (-1 : Int64) (Int32.toInt64 (v9 - (1 : Int32)))).bind fun r10 => (if r10 = 0 then (f_X12_pour_81 n h l0 l1 l2 (0 : Int32) (l4 + 2)) else ((gR h l0 12 31).bind fun v12 => (ldJ h v12 (l4 + (1 : Int32))).bind fun v13 => (f_X12_within h v13 (0 : Int64) (16777215 : Int64)).bind fun r14 => (if r14 = 0 then (f_X12_pour_81 n h l0 l1 l2 (0 : Int32) (l4 + 2)) else (f_X12_pour_81 n h l0 l1 l2 (1 : Int32) (l4 + 2)))))))))
def f_X12_pour_74 (h : xH) (l0 : Nat) (l1 : Int32) (l2 : Int32) (s0 : Int32) : Option (Int32 × xH) := f_X12_pour_81 xFU h l0 l1 l2 s0 ((40 : Int32) * l1)
def f_X12_pour (h : xH) (l0 : Nat) (l1 : Int32) : Option (Int32 × xH) := (pF h l0 12 4 (.int (0 : Int32))).bind fun h1 => (f_X12_isTray h1 l1).bind fun r2 => (if r2 = 0 then ((gO h1 l0 12).bind fun q21 => (f_X12_fails h1 l0 (1 : Int32)).bind fun r22 => some ((r22.1, r22.2))) else ((gR h1 l0 12 29).bind fun v4 => (ldI h1 .int v4 l1).bind fun v5 => (if v5 = (-1 : Int32) then ((gO h1 l0 12).bind fun q19 => (f_X12_fails h1 l0 (2 : Int32)).bind fun r20 => some ((r20.1, r20.2))) else ((gR h1 l0 12 30).bind fun v7 => (ldI h1 .int v7 l1).bind fun v8 => (rmI v8 (2 : Int32)).bind fun v9 => (if v9 = (1 : Int32) then ((gO h1 l0 12).bind fun q17 => (f_X12_fails h1 l0 (3 : Int32)).bind fun r18 => some ((r18.1, r18.2))) else ((gR h1 l0 12 30).bind fun v11 => (ldI h1 .int v11 l1).bind fun v12 => (dvI v12 (2 : Int32)).bind fun v13 => (gO h1 l0 12).bind fun q14 => (f_X12_rooms h1 l0).bind fun r15 => (if r15 < v13 then (f_X12_pour_74 h1 l0 l1 v13 (0 : Int32)) else (f_X12_pour_74 h1 l0 l1 v13 (1 : Int32)))))))))
set_option maxRecDepth 20000 in
theorem w_X12_pour_167 : ∀ (n : Nat) (h : xH) (l0 : Nat) (l1 : Int32) (l2 : Int32) (l4 : Int32) (r : Int32 × xH), f_X12_pour_167 n h l0 l1 l2 l4 = some r → V 5 yX12_pour cX12_pour 5 (some .int) [] none 167 [(0, .ref l0), (1, .int l1), (2, .int l2), (4, .int l4)] [] h (oIh r) := by
  intro n
  induction n with
  | zero => intro h l0 l1 l2 l4 r hf; cases hf
  | succ n ih =>
    intro h l0 l1 l2 l4 r hf
    rw [f_X12_pour_167] at hf
    refine V.iload dX12_pour_167 3 rfl ?_
    refine V.iload_n dX12_pour_169 rfl 2 rfl ?_
    refine V.icmp_ge (tgt := 217) dX12_pour_170 (by decide) (fun c1 => ?_) (fun c1 => ?_)
    · rw [if_pos c1] at hf
      refine V.iload_n dX12_pour_217 rfl 2 rfl ?_
      obtain rfl := Option.some.inj hf
      exact V.iret dX12_pour_218
    · rw [if_neg c1] at hf
      refine V.aload_n dX12_pour_173 rfl 0 rfl ?_
      refine V.iload dX12_pour_174 3 rfl ?_
      refine V.aload_n dX12_pour_176 rfl 0 rfl ?_
      obtain ⟨v2, e1, hf⟩ := bS hf
      refine V.xgR dX12_pour_177 fl_RX12_67 e1 ?_
      refine V.bipush (v := (40 : Int32)) dX12_pour_180 (by decide) ?_
      refine V.iload_n dX12_pour_182 rfl 1 rfl ?_
      refine V.imul dX12_pour_183 ?_
      refine V.iconst (v := (2 : Int32)) dX12_pour_184 (by decide) ?_
      refine V.iload dX12_pour_185 3 rfl ?_
      refine V.imul dX12_pour_187 ?_
      refine V.iadd dX12_pour_188 ?_
      obtain ⟨v3, e2, hf⟩ := bS hf
      refine V.xldJ dX12_pour_189 e2 ?_
      refine V.l2i dX12_pour_190 ?_
      refine V.aload_n dX12_pour_191 rfl 0 rfl ?_
      obtain ⟨v4, e3, hf⟩ := bS hf
      refine V.xgR dX12_pour_192 fl_RX12_67 e3 ?_
      refine V.bipush (v := (40 : Int32)) dX12_pour_195 (by decide) ?_
      refine V.iload_n dX12_pour_197 rfl 1 rfl ?_
      refine V.imul dX12_pour_198 ?_
      refine V.iconst (v := (2 : Int32)) dX12_pour_199 (by decide) ?_
      refine V.iload dX12_pour_200 3 rfl ?_
      refine V.imul dX12_pour_202 ?_
      refine V.iadd dX12_pour_203 ?_
      refine V.iconst (v := (1 : Int32)) dX12_pour_204 (by decide) ?_
      refine V.iadd dX12_pour_205 ?_
      obtain ⟨v5, e4, hf⟩ := bS hf
      refine V.xldJ dX12_pour_206 e4 ?_
      refine V.l2i dX12_pour_207 ?_
      obtain ⟨q6, e5, hf⟩ := bS hf
      obtain ⟨r7, e6, hf⟩ := bS hf
      refine V.callV (As := [.int l4, .int (Int64.toInt32 v3), .int (Int64.toInt32 v5)]) (st := []) dX12_pour_208 cl_RX12_264 sw_yX12_hangs (by decide) rfl (Nat.le_of_ble_eq_true rfl) rfl (gO_some e5) rfl (w_X12_hangs _ _ _ _ _ _ e6) ?_
      refine V.iinc (v := (l4 + 1)) (lv' := [(4, .int (l4 + 1)), (0, .ref l0), (1, .int l1), (2, .int l2)]) dX12_pour_211 3 rfl rfl (Nat.le_of_ble_eq_true rfl) rfl ?_
      refine V.goto (tgt := 167) dX12_pour_214 (by decide) ?_
      refine V.sub [1, 2, 3, 0] rfl ?_
      exact ih _ _ _ _ _ _ hf

set_option maxRecDepth 20000 in
theorem w_X12_pour_81 : ∀ (n : Nat) (h : xH) (l0 : Nat) (l1 : Int32) (l2 : Int32) (l3 : Int32) (l4 : Int32) (r : Int32 × xH), f_X12_pour_81 n h l0 l1 l2 l3 l4 = some r → V 5 yX12_pour cX12_pour 5 (some .int) [] none 81 [(0, .ref l0), (1, .int l1), (2, .int l2), (3, .int l3), (4, .int l4)] [] h (oIh r) := by
  intro n
  induction n with
  | zero => intro h l0 l1 l2 l3 l4 r hf; cases hf
  | succ n ih =>
    intro h l0 l1 l2 l3 l4 r hf
    rw [f_X12_pour_81] at hf
    refine V.iload dX12_pour_81 4 rfl ?_
    refine V.bipush (v := (40 : Int32)) dX12_pour_83 (by decide) ?_
    refine V.iload_n dX12_pour_85 rfl 1 rfl ?_
    refine V.imul dX12_pour_86 ?_
    refine V.iconst (v := (2 : Int32)) dX12_pour_87 (by decide) ?_
    refine V.iload_n dX12_pour_88 rfl 2 rfl ?_
    refine V.imul dX12_pour_89 ?_
    refine V.iadd dX12_pour_90 ?_
    refine V.icmp_ge (tgt := 154) dX12_pour_91 (by decide) (fun c1 => ?_) (fun c1 => ?_)
    · rw [if_pos c1] at hf
      refine V.iload_n dX12_pour_154 rfl 3 rfl ?_
      refine V.if_ne (tgt := 164) dX12_pour_155 (by decide) (fun c2 => ?_) (fun c2 => ?_)
      · rw [if_neg c2] at hf
        refine V.iconst (v := (0 : Int32)) dX12_pour_164 (by decide) ?_
        refine V.istore (lv' := [(4, .int (0 : Int32)), (0, .ref l0), (1, .int l1), (2, .int l2), (3, .int l3)]) dX12_pour_165 (by decide) rfl ?_
        refine V.sub [1, 2, 3, 0] rfl ?_
        exact w_X12_pour_167 _ _ _ _ _ _ _ hf
      · rw [if_pos c2] at hf
        refine V.aload_n dX12_pour_158 rfl 0 rfl ?_
        refine V.iconst (v := (4 : Int32)) dX12_pour_159 (by decide) ?_
        obtain ⟨q3, e7, hf⟩ := bS hf
        obtain ⟨r4, e8, hf⟩ := bS hf
        refine V.callV (As := [.int (4 : Int32)]) (st := []) dX12_pour_160 cl_RX12_219 sw_yX12_fails (by decide) rfl (Nat.le_of_ble_eq_true rfl) rfl (gO_some e7) rfl (w_X12_fails _ _ _ _ e8) ?_
        obtain rfl := Option.some.inj hf
        exact V.iret dX12_pour_163
    · rw [if_neg c1] at hf
      refine V.iload_n dX12_pour_94 rfl 3 rfl ?_
      refine V.if_eq (tgt := 146) dX12_pour_95 (by decide) (fun c5 => ?_) (fun c5 => ?_)
      · rw [if_pos c5] at hf
        refine V.iconst (v := (0 : Int32)) dX12_pour_146 (by decide) ?_
        refine V.istore_n (lv' := [(3, .int (0 : Int32)), (0, .ref l0), (1, .int l1), (2, .int l2), (4, .int l4)]) dX12_pour_147 rfl (by decide) rfl ?_
        refine V.iinc (v := (l4 + 2)) (lv' := [(4, .int (l4 + 2)), (3, .int (0 : Int32)), (0, .ref l0), (1, .int l1), (2, .int l2)]) dX12_pour_148 4 rfl rfl (Nat.le_of_ble_eq_true rfl) rfl ?_
        refine V.goto (tgt := 81) dX12_pour_151 (by decide) ?_
        refine V.sub [2, 3, 4, 1, 0] rfl ?_
        exact ih _ _ _ _ _ _ _ hf
      · rw [if_neg c5] at hf
        refine V.aload_n dX12_pour_98 rfl 0 rfl ?_
        obtain ⟨v6, e9, hf⟩ := bS hf
        refine V.xgR dX12_pour_99 fl_RX12_67 e9 ?_
        refine V.iload dX12_pour_102 4 rfl ?_
        obtain ⟨v7, e10, hf⟩ := bS hf
        refine V.xldJ dX12_pour_104 e10 ?_
        refine V.ldc2 (v := (-1 : Int64)) dX12_pour_105 cj_RX12_365 ?_
        refine V.aload_n dX12_pour_108 rfl 0 rfl ?_
        obtain ⟨v8, e11, hf⟩ := bS hf
        refine V.xgR dX12_pour_109 fl_RX12_9 e11 ?_
        refine V.iconst (v := (3 : Int32)) dX12_pour_112 (by decide) ?_
        obtain ⟨v9, e12, hf⟩ := bS hf
        refine V.xldI dX12_pour_113 e12 ?_
        refine V.iconst (v := (1 : Int32)) dX12_pour_114 (by decide) ?_
        refine V.isub dX12_pour_115 ?_
        refine V.i2l dX12_pour_116 ?_
        obtain ⟨r10, e13, hf⟩ := bS hf
        refine V.callS (As := [.long v7, .long (-1 : Int64), .long (Int32.toInt64 (v9 - (1 : Int32)))]) (st := []) dX12_pour_117 cl_RX12_134 sw_yX12_within (by decide) rfl (Nat.le_of_ble_eq_true rfl) rfl (w_X12_within _ _ _ _ _ e13) ?_
        refine V.if_eq (tgt := 146) dX12_pour_120 (by decide) (fun c11 => ?_) (fun c11 => ?_)
        · rw [if_pos c11] at hf
          refine V.iconst (v := (0 : Int32)) dX12_pour_146 (by decide) ?_
          refine V.istore_n (lv' := [(3, .int (0 : Int32)), (0, .ref l0), (1, .int l1), (2, .int l2), (4, .int l4)]) dX12_pour_147 rfl (by decide) rfl ?_
          refine V.iinc (v := (l4 + 2)) (lv' := [(4, .int (l4 + 2)), (3, .int (0 : Int32)), (0, .ref l0), (1, .int l1), (2, .int l2)]) dX12_pour_148 4 rfl rfl (Nat.le_of_ble_eq_true rfl) rfl ?_
          refine V.goto (tgt := 81) dX12_pour_151 (by decide) ?_
          refine V.sub [2, 3, 4, 1, 0] rfl ?_
          exact ih _ _ _ _ _ _ _ hf
        · rw [if_neg c11] at hf
          refine V.aload_n dX12_pour_123 rfl 0 rfl ?_
          obtain ⟨v12, e14, hf⟩ := bS hf
          refine V.xgR dX12_pour_124 fl_RX12_67 e14 ?_
          refine V.iload dX12_pour_127 4 rfl ?_
          refine V.iconst (v := (1 : Int32)) dX12_pour_129 (by decide) ?_
          refine V.iadd dX12_pour_130 ?_
          obtain ⟨v13, e15, hf⟩ := bS hf
          refine V.xldJ dX12_pour_131 e15 ?_
          refine V.lconst (v := 0) dX12_pour_132 (by decide) ?_
          refine V.ldc2 (v := (16777215 : Int64)) dX12_pour_133 cj_RX12_262 ?_
          obtain ⟨r14, e16, hf⟩ := bS hf
          refine V.callS (As := [.long v13, .long (0 : Int64), .long (16777215 : Int64)]) (st := []) dX12_pour_136 cl_RX12_134 sw_yX12_within (by decide) rfl (Nat.le_of_ble_eq_true rfl) rfl (w_X12_within _ _ _ _ _ e16) ?_
          refine V.if_eq (tgt := 146) dX12_pour_139 (by decide) (fun c15 => ?_) (fun c15 => ?_)
          · rw [if_pos c15] at hf
            refine V.iconst (v := (0 : Int32)) dX12_pour_146 (by decide) ?_
            refine V.istore_n (lv' := [(3, .int (0 : Int32)), (0, .ref l0), (1, .int l1), (2, .int l2), (4, .int l4)]) dX12_pour_147 rfl (by decide) rfl ?_
            refine V.iinc (v := (l4 + 2)) (lv' := [(4, .int (l4 + 2)), (3, .int (0 : Int32)), (0, .ref l0), (1, .int l1), (2, .int l2)]) dX12_pour_148 4 rfl rfl (Nat.le_of_ble_eq_true rfl) rfl ?_
            refine V.goto (tgt := 81) dX12_pour_151 (by decide) ?_
            refine V.sub [2, 3, 4, 1, 0] rfl ?_
            exact ih _ _ _ _ _ _ _ hf
          · rw [if_neg c15] at hf
            refine V.iconst (v := (1 : Int32)) dX12_pour_142 (by decide) ?_
            refine V.goto (tgt := 147) dX12_pour_143 (by decide) ?_
            refine V.istore_n (lv' := [(3, .int (1 : Int32)), (0, .ref l0), (1, .int l1), (2, .int l2), (4, .int l4)]) dX12_pour_147 rfl (by decide) rfl ?_
            refine V.iinc (v := (l4 + 2)) (lv' := [(4, .int (l4 + 2)), (3, .int (1 : Int32)), (0, .ref l0), (1, .int l1), (2, .int l2)]) dX12_pour_148 4 rfl rfl (Nat.le_of_ble_eq_true rfl) rfl ?_
            refine V.goto (tgt := 81) dX12_pour_151 (by decide) ?_
            refine V.sub [2, 3, 4, 1, 0] rfl ?_
            exact ih _ _ _ _ _ _ _ hf

set_option maxRecDepth 20000 in
theorem w_X12_pour_74 (h : xH) (l0 : Nat) (l1 : Int32) (l2 : Int32) (s0 : Int32) (r : Int32 × xH) (hf : f_X12_pour_74 h l0 l1 l2 s0 = some r) : V 5 yX12_pour cX12_pour 5 (some .int) [] none 74 [(0, .ref l0), (1, .int l1), (2, .int l2)] [.int s0] h (oIh r) := by
  unfold f_X12_pour_74 at hf
  refine V.istore_n (lv' := [(3, .int s0), (0, .ref l0), (1, .int l1), (2, .int l2)]) dX12_pour_74 rfl (by decide) rfl ?_
  refine V.bipush (v := (40 : Int32)) dX12_pour_75 (by decide) ?_
  refine V.iload_n dX12_pour_77 rfl 2 rfl ?_
  refine V.imul dX12_pour_78 ?_
  refine V.istore (lv' := [(4, .int ((40 : Int32) * l1)), (3, .int s0), (0, .ref l0), (1, .int l1), (2, .int l2)]) dX12_pour_79 (by decide) rfl ?_
  refine V.sub [2, 3, 4, 1, 0] rfl ?_
  exact w_X12_pour_81 _ _ _ _ _ _ _ _ hf

set_option maxRecDepth 20000 in
theorem w_X12_pour (h : xH) (l0 : Nat) (l1 : Int32) (r : Int32 × xH) (hf : f_X12_pour h l0 l1 = some r) : Ev 5 yX12_pour cX12_pour 5 (some .int) [] [.ref l0, .int l1] h (oIh r) := by
  refine Ev.of (by decide +kernel) (Nat.le_of_ble_eq_true rfl) ?_
  unfold f_X12_pour at hf
  refine V.aload_n dX12_pour_0 rfl 0 rfl ?_
  refine V.iconst (v := (0 : Int32)) dX12_pour_1 (by decide) ?_
  obtain ⟨h1, e17, hf⟩ := bS hf
  refine V.xpF dX12_pour_2 fl_RX12_75 (fun h9 => nomatch h9) (fun _ => rfl) (fun _ => rfl) e17 ?_
  refine V.iload_n dX12_pour_5 rfl 1 rfl ?_
  obtain ⟨r2, e18, hf⟩ := bS hf
  refine V.callS (As := [.int l1]) (st := []) dX12_pour_6 cl_RX12_391 sw_yX12_isTray (by decide) rfl (Nat.le_of_ble_eq_true rfl) rfl (w_X12_isTray _ _ _ e18) ?_
  refine V.if_ne (tgt := 18) dX12_pour_9 (by decide) (fun c3 => ?_) (fun c3 => ?_)
  · rw [if_neg c3] at hf
    refine V.aload_n dX12_pour_18 rfl 0 rfl ?_
    obtain ⟨v4, e19, hf⟩ := bS hf
    refine V.xgR dX12_pour_19 fl_RX12_61 e19 ?_
    refine V.iload_n dX12_pour_22 rfl 1 rfl ?_
    obtain ⟨v5, e20, hf⟩ := bS hf
    refine V.xldI dX12_pour_23 e20 ?_
    refine V.iconst (v := (-1 : Int32)) dX12_pour_24 (by decide) ?_
    refine V.icmp_ne (tgt := 34) dX12_pour_25 (by decide) (fun c6 => ?_) (fun c6 => ?_)
    · rw [if_neg c6] at hf
      refine V.aload_n dX12_pour_34 rfl 0 rfl ?_
      obtain ⟨v7, e21, hf⟩ := bS hf
      refine V.xgR dX12_pour_35 fl_RX12_64 e21 ?_
      refine V.iload_n dX12_pour_38 rfl 1 rfl ?_
      obtain ⟨v8, e22, hf⟩ := bS hf
      refine V.xldI dX12_pour_39 e22 ?_
      refine V.iconst (v := (2 : Int32)) dX12_pour_40 (by decide) ?_
      obtain ⟨v9, e23, hf⟩ := bS hf
      refine V.xrmI dX12_pour_41 e23 ?_
      refine V.iconst (v := (1 : Int32)) dX12_pour_42 (by decide) ?_
      refine V.icmp_ne (tgt := 52) dX12_pour_43 (by decide) (fun c10 => ?_) (fun c10 => ?_)
      · rw [if_neg c10] at hf
        refine V.aload_n dX12_pour_52 rfl 0 rfl ?_
        obtain ⟨v11, e24, hf⟩ := bS hf
        refine V.xgR dX12_pour_53 fl_RX12_64 e24 ?_
        refine V.iload_n dX12_pour_56 rfl 1 rfl ?_
        obtain ⟨v12, e25, hf⟩ := bS hf
        refine V.xldI dX12_pour_57 e25 ?_
        refine V.iconst (v := (2 : Int32)) dX12_pour_58 (by decide) ?_
        obtain ⟨v13, e26, hf⟩ := bS hf
        refine V.xdvI dX12_pour_59 e26 ?_
        refine V.istore_n (lv' := [(2, .int v13), (0, .ref l0), (1, .int l1)]) dX12_pour_60 rfl (by decide) rfl ?_
        refine V.iload_n dX12_pour_61 rfl 0 rfl ?_
        refine V.aload_n dX12_pour_62 rfl 1 rfl ?_
        obtain ⟨q14, e27, hf⟩ := bS hf
        obtain ⟨r15, e28, hf⟩ := bS hf
        refine V.callV (As := []) (st := [.int v13]) dX12_pour_63 cl_RX12_228 sw_yX12_rooms (by decide) rfl (Nat.le_of_ble_eq_true rfl) rfl (gO_some e27) rfl (w_X12_rooms _ _ _ e28) ?_
        refine V.icmp_gt (tgt := 73) dX12_pour_66 (by decide) (fun c16 => ?_) (fun c16 => ?_)
        · rw [if_pos c16] at hf
          refine V.iconst (v := (0 : Int32)) dX12_pour_73 (by decide) ?_
          refine V.sub [1, 2, 0] rfl ?_
          exact w_X12_pour_74 _ _ _ _ _ _ hf
        · rw [if_neg c16] at hf
          refine V.iconst (v := (1 : Int32)) dX12_pour_69 (by decide) ?_
          refine V.goto (tgt := 74) dX12_pour_70 (by decide) ?_
          refine V.sub [1, 2, 0] rfl ?_
          exact w_X12_pour_74 _ _ _ _ _ _ hf
      · rw [if_pos c10] at hf
        refine V.aload_n dX12_pour_46 rfl 0 rfl ?_
        refine V.iconst (v := (3 : Int32)) dX12_pour_47 (by decide) ?_
        obtain ⟨q17, e29, hf⟩ := bS hf
        obtain ⟨r18, e30, hf⟩ := bS hf
        refine V.callV (As := [.int (3 : Int32)]) (st := []) dX12_pour_48 cl_RX12_219 sw_yX12_fails (by decide) rfl (Nat.le_of_ble_eq_true rfl) rfl (gO_some e29) rfl (w_X12_fails _ _ _ _ e30) ?_
        obtain rfl := Option.some.inj hf
        exact V.iret dX12_pour_51
    · rw [if_pos c6] at hf
      refine V.aload_n dX12_pour_28 rfl 0 rfl ?_
      refine V.iconst (v := (2 : Int32)) dX12_pour_29 (by decide) ?_
      obtain ⟨q19, e31, hf⟩ := bS hf
      obtain ⟨r20, e32, hf⟩ := bS hf
      refine V.callV (As := [.int (2 : Int32)]) (st := []) dX12_pour_30 cl_RX12_219 sw_yX12_fails (by decide) rfl (Nat.le_of_ble_eq_true rfl) rfl (gO_some e31) rfl (w_X12_fails _ _ _ _ e32) ?_
      obtain rfl := Option.some.inj hf
      exact V.iret dX12_pour_33
  · rw [if_pos c3] at hf
    refine V.aload_n dX12_pour_12 rfl 0 rfl ?_
    refine V.iconst (v := (1 : Int32)) dX12_pour_13 (by decide) ?_
    obtain ⟨q21, e33, hf⟩ := bS hf
    obtain ⟨r22, e34, hf⟩ := bS hf
    refine V.callV (As := [.int (1 : Int32)]) (st := []) dX12_pour_14 cl_RX12_219 sw_yX12_fails (by decide) rfl (Nat.le_of_ble_eq_true rfl) rfl (gO_some e33) rfl (w_X12_fails _ _ _ _ e34) ?_
    obtain rfl := Option.some.inj hf
    exact V.iret dX12_pour_17

def f_X12_restore_44 : Nat → xH → Nat → Int32 → Int32 → Option (xH)
  | 0, _, _, _, _ => none
  | n + 1, h, l0, l1, l2 => (if (480 : Int32) ≤ l2 then (some (h)) else ((gR h l0 12 0).bind fun v2 => (gR h l0 12 1).bind fun v3 => (ldI h .int v3 (((480 : Int32) * l1) + l2)).bind fun v4 => (stI h .int v2 l2 v4).bind fun h5 => f_X12_restore_44 n h5 l0 l1 (l2 + 1)))
def f_X12_restore_31 (h : xH) (l0 : Nat) (l1 : Int32) (s0 : Int32) (s1 : Nat) : Option (xH) := (pF h s1 12 4 (.int s0)).bind fun h1 => (gI h1 l0 12 4).bind fun v2 => (if v2 ≤ 0 then (f_X12_restore_44 xFU h1 l0 l1 (0 : Int32)) else (some (h1)))
def f_X12_restore (h : xH) (l0 : Nat) (l1 : Int32) : Option (xH) := (f_X12_within h (Int32.toInt64 l1) (0 : Int64) (2 : Int64)).bind fun r1 => (if r1 = 0 then (f_X12_restore_31 h l0 l1 (1 : Int32) l0) else ((gR h l0 12 3).bind fun v3 => (ldI h .boolean v3 l1).bind fun v4 => (if v4 = 0 then (f_X12_restore_31 h l0 l1 (2 : Int32) l0) else (f_X12_restore_31 h l0 l1 (0 : Int32) l0))))
set_option maxRecDepth 20000 in
theorem w_X12_restore_44 : ∀ (n : Nat) (h : xH) (l0 : Nat) (l1 : Int32) (l2 : Int32) (r : xH), f_X12_restore_44 n h l0 l1 l2 = some r → V 4 yX12_restore cX12_restore 3 none [] none 44 [(0, .ref l0), (1, .int l1), (2, .int l2)] [] h (oVh r) := by
  intro n
  induction n with
  | zero => intro h l0 l1 l2 r hf; cases hf
  | succ n ih =>
    intro h l0 l1 l2 r hf
    rw [f_X12_restore_44] at hf
    refine V.iload_n dX12_restore_44 rfl 2 rfl ?_
    refine V.sipush (v := (480 : Int32)) dX12_restore_45 (by decide) ?_
    refine V.icmp_ge (tgt := 75) dX12_restore_48 (by decide) (fun c1 => ?_) (fun c1 => ?_)
    · rw [if_pos c1] at hf
      obtain rfl := Option.some.inj hf
      exact V.vret dX12_restore_75
    · rw [if_neg c1] at hf
      refine V.aload_n dX12_restore_51 rfl 0 rfl ?_
      obtain ⟨v2, e1, hf⟩ := bS hf
      refine V.xgR dX12_restore_52 fl_RX12_9 e1 ?_
      refine V.iload_n dX12_restore_55 rfl 2 rfl ?_
      refine V.aload_n dX12_restore_56 rfl 0 rfl ?_
      obtain ⟨v3, e2, hf⟩ := bS hf
      refine V.xgR dX12_restore_57 fl_RX12_13 e2 ?_
      refine V.sipush (v := (480 : Int32)) dX12_restore_60 (by decide) ?_
      refine V.iload_n dX12_restore_63 rfl 1 rfl ?_
      refine V.imul dX12_restore_64 ?_
      refine V.iload_n dX12_restore_65 rfl 2 rfl ?_
      refine V.iadd dX12_restore_66 ?_
      obtain ⟨v4, e3, hf⟩ := bS hf
      refine V.xldI dX12_restore_67 e3 ?_
      obtain ⟨h5, e4, hf⟩ := bS hf
      refine V.xstI dX12_restore_68 e4 ?_
      refine V.iinc (v := (l2 + 1)) (lv' := [(2, .int (l2 + 1)), (0, .ref l0), (1, .int l1)]) dX12_restore_69 2 rfl rfl (Nat.le_of_ble_eq_true rfl) rfl ?_
      refine V.goto (tgt := 44) dX12_restore_72 (by decide) ?_
      refine V.sub [1, 2, 0] rfl ?_
      exact ih _ _ _ _ _ hf

set_option maxRecDepth 20000 in
theorem w_X12_restore_31 (h : xH) (l0 : Nat) (l1 : Int32) (s0 : Int32) (s1 : Nat) (r : xH) (hf : f_X12_restore_31 h l0 l1 s0 s1 = some r) : V 4 yX12_restore cX12_restore 3 none [] none 31 [(0, .ref l0), (1, .int l1)] [.int s0, .ref s1] h (oVh r) := by
  unfold f_X12_restore_31 at hf
  obtain ⟨h1, e5, hf⟩ := bS hf
  refine V.xpF dX12_restore_31 fl_RX12_75 (fun h9 => nomatch h9) (fun _ => rfl) (fun _ => rfl) e5 ?_
  refine V.aload_n dX12_restore_34 rfl 0 rfl ?_
  obtain ⟨v2, e6, hf⟩ := bS hf
  refine V.xgI dX12_restore_35 fl_RX12_75 e6 ?_
  refine V.if_le (tgt := 42) dX12_restore_38 (by decide) (fun c3 => ?_) (fun c3 => ?_)
  · rw [if_pos c3] at hf
    refine V.iconst (v := (0 : Int32)) dX12_restore_42 (by decide) ?_
    refine V.istore_n (lv' := [(2, .int (0 : Int32)), (0, .ref l0), (1, .int l1)]) dX12_restore_43 rfl (by decide) rfl ?_
    refine V.sub [1, 2, 0] rfl ?_
    exact w_X12_restore_44 _ _ _ _ _ _ hf
  · rw [if_neg c3] at hf
    obtain rfl := Option.some.inj hf
    exact V.vret dX12_restore_41

set_option maxRecDepth 20000 in
theorem w_X12_restore (h : xH) (l0 : Nat) (l1 : Int32) (r : xH) (hf : f_X12_restore h l0 l1 = some r) : Ev 4 yX12_restore cX12_restore 3 none [] [.ref l0, .int l1] h (oVh r) := by
  refine Ev.of (by decide +kernel) (Nat.le_of_ble_eq_true rfl) ?_
  unfold f_X12_restore at hf
  refine V.aload_n dX12_restore_0 rfl 0 rfl ?_
  refine V.iload_n dX12_restore_1 rfl 1 rfl ?_
  refine V.i2l dX12_restore_2 ?_
  refine V.lconst (v := 0) dX12_restore_3 (by decide) ?_
  refine V.ldc2 (v := (2 : Int64)) dX12_restore_4 cj_RX12_268 ?_
  obtain ⟨r1, e7, hf⟩ := bS hf
  refine V.callS (As := [.long (Int32.toInt64 l1), .long (0 : Int64), .long (2 : Int64)]) (st := [.ref l0]) dX12_restore_7 cl_RX12_134 sw_yX12_within (by decide) rfl (Nat.le_of_ble_eq_true rfl) rfl (w_X12_within _ _ _ _ _ e7) ?_
  refine V.if_ne (tgt := 17) dX12_restore_10 (by decide) (fun c2 => ?_) (fun c2 => ?_)
  · rw [if_neg c2] at hf
    refine V.aload_n dX12_restore_17 rfl 0 rfl ?_
    obtain ⟨v3, e8, hf⟩ := bS hf
    refine V.xgR dX12_restore_18 fl_RX12_19 e8 ?_
    refine V.iload_n dX12_restore_21 rfl 1 rfl ?_
    obtain ⟨v4, e9, hf⟩ := bS hf
    refine V.xldZ dX12_restore_22 e9 ?_
    refine V.if_ne (tgt := 30) dX12_restore_23 (by decide) (fun c5 => ?_) (fun c5 => ?_)
    · rw [if_neg c5] at hf
      refine V.iconst (v := (0 : Int32)) dX12_restore_30 (by decide) ?_
      exact w_X12_restore_31 _ _ _ _ _ _ hf
    · rw [if_pos c5] at hf
      refine V.iconst (v := (2 : Int32)) dX12_restore_26 (by decide) ?_
      refine V.goto (tgt := 31) dX12_restore_27 (by decide) ?_
      exact w_X12_restore_31 _ _ _ _ _ _ hf
  · rw [if_pos c2] at hf
    refine V.iconst (v := (1 : Int32)) dX12_restore_13 (by decide) ?_
    refine V.goto (tgt := 31) dX12_restore_14 (by decide) ?_
    exact w_X12_restore_31 _ _ _ _ _ _ hf

def f_X12_comes (h : xH) (l0 : Nat) (l1 : Int32) (l2 : Int32) (l3 : Int32) (l4 : Int32) : Option (Int32 × xH) := (f_X12_has h l2 l1).bind fun r1 => (if r1 = 0 then (some ((l4, h))) else ((gR h l0 12 26).bind fun v3 => (ldI h .int v3 (((4096 : Int32) * l1) + l2)).bind fun v4 => (if v4 = (-1 : Int32) then ((gR h l0 12 26).bind fun v6 => (stI h .int v6 (((4096 : Int32) * l1) + l2) l3).bind fun h7 => (gR h7 l0 12 27).bind fun v8 => (stI h7 .int v8 l4 (((4096 : Int32) * l1) + l2)).bind fun h9 => some (((l4 + (1 : Int32)), h9))) else (some ((l4, h))))))
set_option maxRecDepth 20000 in
theorem w_X12_comes (h : xH) (l0 : Nat) (l1 : Int32) (l2 : Int32) (l3 : Int32) (l4 : Int32) (r : Int32 × xH) (hf : f_X12_comes h l0 l1 l2 l3 l4 = some r) : Ev 4 yX12_comes cX12_comes 6 (some .int) [] [.ref l0, .int l1, .int l2, .int l3, .int l4] h (oIh r) := by
  refine Ev.of (by decide +kernel) (Nat.le_of_ble_eq_true rfl) ?_
  unfold f_X12_comes at hf
  refine V.sipush (v := (4096 : Int32)) dX12_comes_0 (by decide) ?_
  refine V.iload_n dX12_comes_3 rfl 1 rfl ?_
  refine V.imul dX12_comes_4 ?_
  refine V.iload_n dX12_comes_5 rfl 2 rfl ?_
  refine V.iadd dX12_comes_6 ?_
  refine V.istore (lv' := [(5, .int (((4096 : Int32) * l1) + l2)), (0, .ref l0), (1, .int l1), (2, .int l2), (3, .int l3), (4, .int l4)]) dX12_comes_7 (by decide) rfl ?_
  refine V.iload_n dX12_comes_9 rfl 3 rfl ?_
  refine V.iload_n dX12_comes_10 rfl 2 rfl ?_
  obtain ⟨r1, e1, hf⟩ := bS hf
  refine V.callS (As := [.int l2, .int l1]) (st := []) dX12_comes_11 cl_RX12_246 sw_yX12_has (by decide) rfl (Nat.le_of_ble_eq_true rfl) rfl (w_X12_has _ _ _ _ e1) ?_
  refine V.if_eq (tgt := 28) dX12_comes_14 (by decide) (fun c2 => ?_) (fun c2 => ?_)
  · rw [if_pos c2] at hf
    refine V.iload dX12_comes_28 5 rfl ?_
    obtain rfl := Option.some.inj hf
    exact V.iret dX12_comes_30
  · rw [if_neg c2] at hf
    refine V.aload_n dX12_comes_17 rfl 1 rfl ?_
    obtain ⟨v3, e2, hf⟩ := bS hf
    refine V.xgR dX12_comes_18 fl_RX12_55 e2 ?_
    refine V.iload dX12_comes_21 0 rfl ?_
    obtain ⟨v4, e3, hf⟩ := bS hf
    refine V.xldI dX12_comes_23 e3 ?_
    refine V.iconst (v := (-1 : Int32)) dX12_comes_24 (by decide) ?_
    refine V.icmp_eq (tgt := 31) dX12_comes_25 (by decide) (fun c5 => ?_) (fun c5 => ?_)
    · rw [if_pos c5] at hf
      refine V.aload_n dX12_comes_31 rfl 1 rfl ?_
      obtain ⟨v6, e4, hf⟩ := bS hf
      refine V.xgR dX12_comes_32 fl_RX12_55 e4 ?_
      refine V.iload dX12_comes_35 0 rfl ?_
      refine V.iload_n dX12_comes_37 rfl 4 rfl ?_
      obtain ⟨h7, e5, hf⟩ := bS hf
      refine V.xstI dX12_comes_38 e5 ?_
      refine V.aload_n dX12_comes_39 rfl 1 rfl ?_
      obtain ⟨v8, e6, hf⟩ := bS hf
      refine V.xgR dX12_comes_40 fl_RX12_58 e6 ?_
      refine V.iload dX12_comes_43 5 rfl ?_
      refine V.iload dX12_comes_45 0 rfl ?_
      obtain ⟨h9, e7, hf⟩ := bS hf
      refine V.xstI dX12_comes_47 e7 ?_
      refine V.iload dX12_comes_48 5 rfl ?_
      refine V.iconst (v := (1 : Int32)) dX12_comes_50 (by decide) ?_
      refine V.iadd dX12_comes_51 ?_
      obtain rfl := Option.some.inj hf
      exact V.iret dX12_comes_52
    · rw [if_neg c5] at hf
      refine V.iload dX12_comes_28 5 rfl ?_
      obtain rfl := Option.some.inj hf
      exact V.iret dX12_comes_30

def f_X12_layLeft_136 (k104 : xH → Nat → Int32 → Int32 → Option (xH)) : Nat → xH → Nat → Int32 → Int32 → Int32 → Int32 → Int32 → Option (xH)
  | 0, _, _, _, _, _, _, _ => none
  | n + 1, h, l0, l2, l3, l4, l5, l6 => (gO h l0 12).bind fun q1 => (f_X12_rooms h l0).bind fun r2 => (if r2 ≤ l6 then (k104 h l0 l2 (l3 + 1)) else ((gR h l0 12 21).bind fun v4 => (ldI h .int v4 (((16 : Int32) * l6) + l4)).bind fun v5 => (if v5 = (1 : Int32) then ((gR h l0 12 26).bind fun v7 => (gR h l0 12 27).bind fun v8 => (ldI h .int v8 l3).bind fun v9 => (ldI h .int v7 v9).bind fun v10 => (gO h l0 12).bind fun q11 => (f_X12_comes h l0 l6 l5 (v10 + (1 : Int32)) l2).bind fun r12 => (gR r12.2 l0 12 26).bind fun v13 => (gR r12.2 l0 12 27).bind fun v14 => (ldI r12.2 .int v14 l3).bind fun v15 => (ldI r12.2 .int v13 v15).bind fun v16 => (gO r12.2 l0 12).bind fun q17 => (f_X12_comes r12.2 l0 l6 (l5 &&& (((1 : Int32) <<< (l4 &&& 31)) ^^^ (-1 : Int32))) (v16 + (1 : Int32)) (r12.1)).bind fun r18 => f_X12_layLeft_136 k104 n r18.2 l0 (r18.1) l3 l4 l5 (l6 + 1)) else (f_X12_layLeft_136 k104 n h l0 l2 l3 l4 l5 (l6 + 1)))))
def f_X12_layLeft_104 : Nat → xH → Nat → Int32 → Int32 → Option (xH)
  | 0, _, _, _, _ => none
  | n + 1, h, l0, l2, l3 => (if l2 ≤ l3 then (some (h)) else ((gR h l0 12 27).bind fun v2 => (ldI h .int v2 l3).bind fun v3 => (dvI v3 (4096 : Int32)).bind fun v4 => (gR h l0 12 27).bind fun v5 => (ldI h .int v5 l3).bind fun v6 => (rmI v6 (4096 : Int32)).bind fun v7 => f_X12_layLeft_136 (f_X12_layLeft_104 n) xFU h l0 l2 l3 v4 v7 (0 : Int32)))
def f_X12_layLeft_36 : Nat → xH → Nat → Int32 → Int32 → Int32 → Option (xH)
  | 0, _, _, _, _, _ => none
  | n + 1, h, l0, l1, l2, l3 => (gO h l0 12).bind fun q1 => (f_X12_all h l0).bind fun r2 => (if r2 < l3 then (f_X12_layLeft_104 xFU h l0 l2 (0 : Int32)) else ((f_X12_has h l3 l1).bind fun r4 => (if r4 = 0 then (f_X12_layLeft_36 n h l0 l1 l2 (l3 + 1)) else ((gO h l0 12).bind fun q6 => (f_X12_all h l0).bind fun r7 => (gO h l0 12).bind fun q8 => (f_X12_isLit h l0 l3 r7).bind fun r9 => (if r9 = 0 then (f_X12_layLeft_36 n h l0 l1 l2 (l3 + 1)) else ((gR h l0 12 26).bind fun v11 => (stI h .int v11 (((4096 : Int32) * l1) + l3) (0 : Int32)).bind fun h12 => (gR h12 l0 12 27).bind fun v13 => (stI h12 .int v13 l2 (((4096 : Int32) * l1) + l3)).bind fun h14 => f_X12_layLeft_36 n h14 l0 l1 (l2 + 1) (l3 + 1)))))))
def f_X12_layLeft_12 : Nat → xH → Nat → Int32 → Int32 → Int32 → Option (xH)
  | 0, _, _, _, _, _ => none
  | n + 1, h, l0, l1, l2, l3 => (gR h l0 12 26).bind fun v1 => (aln h v1).bind fun v2 => (if v2 ≤ l3 then (f_X12_layLeft_36 xFU h l0 l1 l2 (0 : Int32)) else ((gR h l0 12 26).bind fun v4 => (stI h .int v4 l3 (-1 : Int32)).bind fun h5 => f_X12_layLeft_12 n h5 l0 l1 l2 (l3 + 1)))
def f_X12_layLeft (h : xH) (l0 : Nat) (l1 : Int32) : Option (xH) := (gO h l0 12).bind fun q1 => (f_X12_layWalks h l0).bind fun r2 => (gO r2 l0 12).bind fun q3 => (f_X12_layNexts r2 l0).bind fun r4 => f_X12_layLeft_12 xFU r4 l0 l1 (0 : Int32) (0 : Int32)
set_option maxRecDepth 20000 in
theorem w_X12_layLeft_136 {k104 : xH → Nat → Int32 → Int32 → Option (xH)} (hk104 : ∀ (h : xH) (l0 : Nat) (l2 : Int32) (l3 : Int32) (r : xH), k104 h l0 l2 l3 = some r → V 5 yX12_layLeft cX12_layLeft 7 none [] none 104 [(0, .ref l0), (2, .int l2), (3, .int l3)] [] h (oVh r)) : ∀ (n : Nat) (h : xH) (l0 : Nat) (l2 : Int32) (l3 : Int32) (l4 : Int32) (l5 : Int32) (l6 : Int32) (r : xH), f_X12_layLeft_136 k104 n h l0 l2 l3 l4 l5 l6 = some r → V 5 yX12_layLeft cX12_layLeft 7 none [] none 136 [(0, .ref l0), (2, .int l2), (3, .int l3), (4, .int l4), (5, .int l5), (6, .int l6)] [] h (oVh r) := by
  intro n
  induction n with
  | zero => intro h l0 l2 l3 l4 l5 l6 r hf; cases hf
  | succ n ih =>
    intro h l0 l2 l3 l4 l5 l6 r hf
    rw [f_X12_layLeft_136] at hf
    refine V.iload dX12_layLeft_136 5 rfl ?_
    refine V.aload_n dX12_layLeft_138 rfl 0 rfl ?_
    obtain ⟨q1, e1, hf⟩ := bS hf
    obtain ⟨r2, e2, hf⟩ := bS hf
    refine V.callV (As := []) (st := [.int l6]) dX12_layLeft_139 cl_RX12_228 sw_yX12_rooms (by decide) rfl (Nat.le_of_ble_eq_true rfl) rfl (gO_some e1) rfl (w_X12_rooms _ _ _ e2) ?_
    refine V.icmp_ge (tgt := 224) dX12_layLeft_142 (by decide) (fun c3 => ?_) (fun c3 => ?_)
    · rw [if_pos c3] at hf
      refine V.iinc (v := (l3 + 1)) (lv' := [(3, .int (l3 + 1)), (0, .ref l0), (2, .int l2), (4, .int l4), (5, .int l5), (6, .int l6)]) dX12_layLeft_224 2 rfl rfl (Nat.le_of_ble_eq_true rfl) rfl ?_
      refine V.goto (tgt := 104) dX12_layLeft_227 (by decide) ?_
      refine V.sub [1, 2, 0] rfl ?_
      exact hk104 _ _ _ _ _ hf
    · rw [if_neg c3] at hf
      refine V.aload_n dX12_layLeft_145 rfl 0 rfl ?_
      obtain ⟨v4, e3, hf⟩ := bS hf
      refine V.xgR dX12_layLeft_146 fl_RX12_45 e3 ?_
      refine V.bipush (v := (16 : Int32)) dX12_layLeft_149 (by decide) ?_
      refine V.iload dX12_layLeft_151 5 rfl ?_
      refine V.imul dX12_layLeft_153 ?_
      refine V.iload dX12_layLeft_154 3 rfl ?_
      refine V.iadd dX12_layLeft_156 ?_
      obtain ⟨v5, e4, hf⟩ := bS hf
      refine V.xldI dX12_layLeft_157 e4 ?_
      refine V.iconst (v := (1 : Int32)) dX12_layLeft_158 (by decide) ?_
      refine V.icmp_eq (tgt := 165) dX12_layLeft_159 (by decide) (fun c6 => ?_) (fun c6 => ?_)
      · rw [if_pos c6] at hf
        refine V.aload_n dX12_layLeft_165 rfl 0 rfl ?_
        refine V.iload dX12_layLeft_166 5 rfl ?_
        refine V.iload dX12_layLeft_168 4 rfl ?_
        refine V.aload_n dX12_layLeft_170 rfl 0 rfl ?_
        obtain ⟨v7, e5, hf⟩ := bS hf
        refine V.xgR dX12_layLeft_171 fl_RX12_55 e5 ?_
        refine V.aload_n dX12_layLeft_174 rfl 0 rfl ?_
        obtain ⟨v8, e6, hf⟩ := bS hf
        refine V.xgR dX12_layLeft_175 fl_RX12_58 e6 ?_
        refine V.iload_n dX12_layLeft_178 rfl 2 rfl ?_
        obtain ⟨v9, e7, hf⟩ := bS hf
        refine V.xldI dX12_layLeft_179 e7 ?_
        obtain ⟨v10, e8, hf⟩ := bS hf
        refine V.xldI dX12_layLeft_180 e8 ?_
        refine V.iconst (v := (1 : Int32)) dX12_layLeft_181 (by decide) ?_
        refine V.iadd dX12_layLeft_182 ?_
        refine V.iload_n dX12_layLeft_183 rfl 1 rfl ?_
        obtain ⟨q11, e9, hf⟩ := bS hf
        obtain ⟨r12, e10, hf⟩ := bS hf
        refine V.callV (As := [.int l6, .int l5, .int (v10 + (1 : Int32)), .int l2]) (st := []) dX12_layLeft_184 cl_RX12_398 sw_yX12_comes (by decide) rfl (Nat.le_of_ble_eq_true rfl) rfl (gO_some e9) rfl (w_X12_comes _ _ _ _ _ _ _ e10) ?_
        refine V.istore_n (lv' := [(2, .int r12.1), (0, .ref l0), (3, .int l3), (4, .int l4), (5, .int l5), (6, .int l6)]) dX12_layLeft_187 rfl (by decide) rfl ?_
        refine V.aload_n dX12_layLeft_188 rfl 1 rfl ?_
        refine V.iload dX12_layLeft_189 5 rfl ?_
        refine V.iload dX12_layLeft_191 4 rfl ?_
        refine V.iconst (v := (1 : Int32)) dX12_layLeft_193 (by decide) ?_
        refine V.iload dX12_layLeft_194 3 rfl ?_
        refine V.ishl dX12_layLeft_196 ?_
        refine V.iconst (v := (-1 : Int32)) dX12_layLeft_197 (by decide) ?_
        refine V.ixor dX12_layLeft_198 ?_
        refine V.iand dX12_layLeft_199 ?_
        refine V.aload_n dX12_layLeft_200 rfl 1 rfl ?_
        obtain ⟨v13, e11, hf⟩ := bS hf
        refine V.xgR dX12_layLeft_201 fl_RX12_55 e11 ?_
        refine V.aload_n dX12_layLeft_204 rfl 1 rfl ?_
        obtain ⟨v14, e12, hf⟩ := bS hf
        refine V.xgR dX12_layLeft_205 fl_RX12_58 e12 ?_
        refine V.iload_n dX12_layLeft_208 rfl 2 rfl ?_
        obtain ⟨v15, e13, hf⟩ := bS hf
        refine V.xldI dX12_layLeft_209 e13 ?_
        obtain ⟨v16, e14, hf⟩ := bS hf
        refine V.xldI dX12_layLeft_210 e14 ?_
        refine V.iconst (v := (1 : Int32)) dX12_layLeft_211 (by decide) ?_
        refine V.iadd dX12_layLeft_212 ?_
        refine V.iload_n dX12_layLeft_213 rfl 0 rfl ?_
        obtain ⟨q17, e15, hf⟩ := bS hf
        obtain ⟨r18, e16, hf⟩ := bS hf
        refine V.callV (As := [.int l6, .int (l5 &&& (((1 : Int32) <<< (l4 &&& 31)) ^^^ (-1 : Int32))), .int (v16 + (1 : Int32)), .int (r12.1)]) (st := []) dX12_layLeft_214 cl_RX12_398 sw_yX12_comes (by decide) rfl (Nat.le_of_ble_eq_true rfl) rfl (gO_some e15) rfl (w_X12_comes _ _ _ _ _ _ _ e16) ?_
        refine V.istore_n (lv' := [(2, .int r18.1), (0, .ref l0), (3, .int l3), (4, .int l4), (5, .int l5), (6, .int l6)]) dX12_layLeft_217 rfl (by decide) rfl ?_
        refine V.iinc (v := (l6 + 1)) (lv' := [(6, .int (l6 + 1)), (2, .int r18.1), (0, .ref l0), (3, .int l3), (4, .int l4), (5, .int l5)]) dX12_layLeft_218 5 rfl rfl (Nat.le_of_ble_eq_true rfl) rfl ?_
        refine V.goto (tgt := 136) dX12_layLeft_221 (by decide) ?_
        refine V.sub [2, 1, 3, 4, 5, 0] rfl ?_
        exact ih _ _ _ _ _ _ _ _ hf
      · rw [if_neg c6] at hf
        refine V.goto (tgt := 218) dX12_layLeft_162 (by decide) ?_
        refine V.iinc (v := (l6 + 1)) (lv' := [(6, .int (l6 + 1)), (0, .ref l0), (2, .int l2), (3, .int l3), (4, .int l4), (5, .int l5)]) dX12_layLeft_218 5 rfl rfl (Nat.le_of_ble_eq_true rfl) rfl ?_
        refine V.goto (tgt := 136) dX12_layLeft_221 (by decide) ?_
        refine V.sub [1, 2, 3, 4, 5, 0] rfl ?_
        exact ih _ _ _ _ _ _ _ _ hf

set_option maxRecDepth 20000 in
theorem w_X12_layLeft_104 : ∀ (n : Nat) (h : xH) (l0 : Nat) (l2 : Int32) (l3 : Int32) (r : xH), f_X12_layLeft_104 n h l0 l2 l3 = some r → V 5 yX12_layLeft cX12_layLeft 7 none [] none 104 [(0, .ref l0), (2, .int l2), (3, .int l3)] [] h (oVh r) := by
  intro n
  induction n with
  | zero => intro h l0 l2 l3 r hf; cases hf
  | succ n ih =>
    intro h l0 l2 l3 r hf
    rw [f_X12_layLeft_104] at hf
    refine V.iload_n dX12_layLeft_104 rfl 2 rfl ?_
    refine V.iload_n dX12_layLeft_105 rfl 1 rfl ?_
    refine V.icmp_ge (tgt := 230) dX12_layLeft_106 (by decide) (fun c1 => ?_) (fun c1 => ?_)
    · rw [if_pos c1] at hf
      obtain rfl := Option.some.inj hf
      exact V.vret dX12_layLeft_230
    · rw [if_neg c1] at hf
      refine V.aload_n dX12_layLeft_109 rfl 0 rfl ?_
      obtain ⟨v2, e17, hf⟩ := bS hf
      refine V.xgR dX12_layLeft_110 fl_RX12_58 e17 ?_
      refine V.iload_n dX12_layLeft_113 rfl 2 rfl ?_
      obtain ⟨v3, e18, hf⟩ := bS hf
      refine V.xldI dX12_layLeft_114 e18 ?_
      refine V.sipush (v := (4096 : Int32)) dX12_layLeft_115 (by decide) ?_
      obtain ⟨v4, e19, hf⟩ := bS hf
      refine V.xdvI dX12_layLeft_118 e19 ?_
      refine V.istore (lv' := [(4, .int v4), (0, .ref l0), (2, .int l2), (3, .int l3)]) dX12_layLeft_119 (by decide) rfl ?_
      refine V.aload_n dX12_layLeft_121 rfl 1 rfl ?_
      obtain ⟨v5, e20, hf⟩ := bS hf
      refine V.xgR dX12_layLeft_122 fl_RX12_58 e20 ?_
      refine V.iload_n dX12_layLeft_125 rfl 3 rfl ?_
      obtain ⟨v6, e21, hf⟩ := bS hf
      refine V.xldI dX12_layLeft_126 e21 ?_
      refine V.sipush (v := (4096 : Int32)) dX12_layLeft_127 (by decide) ?_
      obtain ⟨v7, e22, hf⟩ := bS hf
      refine V.xrmI dX12_layLeft_130 e22 ?_
      refine V.istore (lv' := [(5, .int v7), (4, .int v4), (0, .ref l0), (2, .int l2), (3, .int l3)]) dX12_layLeft_131 (by decide) rfl ?_
      refine V.iconst (v := (0 : Int32)) dX12_layLeft_133 (by decide) ?_
      refine V.istore (lv' := [(6, .int (0 : Int32)), (5, .int v7), (4, .int v4), (0, .ref l0), (2, .int l2), (3, .int l3)]) dX12_layLeft_134 (by decide) rfl ?_
      refine V.sub [3, 4, 5, 2, 1, 0] rfl ?_
      exact w_X12_layLeft_136 ih _ _ _ _ _ _ _ _ _ hf

set_option maxRecDepth 20000 in
theorem w_X12_layLeft_36 : ∀ (n : Nat) (h : xH) (l0 : Nat) (l1 : Int32) (l2 : Int32) (l3 : Int32) (r : xH), f_X12_layLeft_36 n h l0 l1 l2 l3 = some r → V 5 yX12_layLeft cX12_layLeft 7 none [] none 36 [(0, .ref l0), (1, .int l1), (2, .int l2), (3, .int l3)] [] h (oVh r) := by
  intro n
  induction n with
  | zero => intro h l0 l1 l2 l3 r hf; cases hf
  | succ n ih =>
    intro h l0 l1 l2 l3 r hf
    rw [f_X12_layLeft_36] at hf
    refine V.iload_n dX12_layLeft_36 rfl 3 rfl ?_
    refine V.aload_n dX12_layLeft_37 rfl 0 rfl ?_
    obtain ⟨q1, e23, hf⟩ := bS hf
    obtain ⟨r2, e24, hf⟩ := bS hf
    refine V.callV (As := []) (st := [.int l3]) dX12_layLeft_38 cl_RX12_230 sw_yX12_all (by decide) rfl (Nat.le_of_ble_eq_true rfl) rfl (gO_some e23) rfl (w_X12_all _ _ _ e24) ?_
    refine V.icmp_gt (tgt := 102) dX12_layLeft_41 (by decide) (fun c3 => ?_) (fun c3 => ?_)
    · rw [if_pos c3] at hf
      refine V.iconst (v := (0 : Int32)) dX12_layLeft_102 (by decide) ?_
      refine V.istore_n (lv' := [(3, .int (0 : Int32)), (0, .ref l0), (1, .int l1), (2, .int l2)]) dX12_layLeft_103 rfl (by decide) rfl ?_
      refine V.sub [1, 3, 0] rfl ?_
      exact w_X12_layLeft_104 _ _ _ _ _ _ hf
    · rw [if_neg c3] at hf
      refine V.iload_n dX12_layLeft_44 rfl 3 rfl ?_
      refine V.iload_n dX12_layLeft_45 rfl 1 rfl ?_
      obtain ⟨r4, e25, hf⟩ := bS hf
      refine V.callS (As := [.int l3, .int l1]) (st := []) dX12_layLeft_46 cl_RX12_246 sw_yX12_has (by decide) rfl (Nat.le_of_ble_eq_true rfl) rfl (w_X12_has _ _ _ _ e25) ?_
      refine V.if_eq (tgt := 96) dX12_layLeft_49 (by decide) (fun c5 => ?_) (fun c5 => ?_)
      · rw [if_pos c5] at hf
        refine V.iinc (v := (l3 + 1)) (lv' := [(3, .int (l3 + 1)), (0, .ref l0), (1, .int l1), (2, .int l2)]) dX12_layLeft_96 3 rfl rfl (Nat.le_of_ble_eq_true rfl) rfl ?_
        refine V.goto (tgt := 36) dX12_layLeft_99 (by decide) ?_
        refine V.sub [1, 2, 3, 0] rfl ?_
        exact ih _ _ _ _ _ _ hf
      · rw [if_neg c5] at hf
        refine V.aload_n dX12_layLeft_52 rfl 0 rfl ?_
        refine V.iload_n dX12_layLeft_53 rfl 3 rfl ?_
        refine V.aload_n dX12_layLeft_54 rfl 0 rfl ?_
        obtain ⟨q6, e26, hf⟩ := bS hf
        obtain ⟨r7, e27, hf⟩ := bS hf
        refine V.callV (As := []) (st := [.int l3, .ref l0]) dX12_layLeft_55 cl_RX12_230 sw_yX12_all (by decide) rfl (Nat.le_of_ble_eq_true rfl) rfl (gO_some e26) rfl (w_X12_all _ _ _ e27) ?_
        obtain ⟨q8, e28, hf⟩ := bS hf
        obtain ⟨r9, e29, hf⟩ := bS hf
        refine V.callV (As := [.int l3, .int r7]) (st := []) dX12_layLeft_58 cl_RX12_294 sw_yX12_isLit (by decide) rfl (Nat.le_of_ble_eq_true rfl) rfl (gO_some e28) rfl (w_X12_isLit _ _ _ _ _ e29) ?_
        refine V.if_ne (tgt := 67) dX12_layLeft_61 (by decide) (fun c10 => ?_) (fun c10 => ?_)
        · rw [if_neg c10] at hf
          refine V.aload_n dX12_layLeft_67 rfl 0 rfl ?_
          obtain ⟨v11, e30, hf⟩ := bS hf
          refine V.xgR dX12_layLeft_68 fl_RX12_55 e30 ?_
          refine V.sipush (v := (4096 : Int32)) dX12_layLeft_71 (by decide) ?_
          refine V.iload_n dX12_layLeft_74 rfl 1 rfl ?_
          refine V.imul dX12_layLeft_75 ?_
          refine V.iload_n dX12_layLeft_76 rfl 3 rfl ?_
          refine V.iadd dX12_layLeft_77 ?_
          refine V.iconst (v := (0 : Int32)) dX12_layLeft_78 (by decide) ?_
          obtain ⟨h12, e31, hf⟩ := bS hf
          refine V.xstI dX12_layLeft_79 e31 ?_
          refine V.aload_n dX12_layLeft_80 rfl 0 rfl ?_
          obtain ⟨v13, e32, hf⟩ := bS hf
          refine V.xgR dX12_layLeft_81 fl_RX12_58 e32 ?_
          refine V.iload_n dX12_layLeft_84 rfl 2 rfl ?_
          refine V.sipush (v := (4096 : Int32)) dX12_layLeft_85 (by decide) ?_
          refine V.iload_n dX12_layLeft_88 rfl 1 rfl ?_
          refine V.imul dX12_layLeft_89 ?_
          refine V.iload_n dX12_layLeft_90 rfl 3 rfl ?_
          refine V.iadd dX12_layLeft_91 ?_
          obtain ⟨h14, e33, hf⟩ := bS hf
          refine V.xstI dX12_layLeft_92 e33 ?_
          refine V.iinc (v := (l2 + 1)) (lv' := [(2, .int (l2 + 1)), (0, .ref l0), (1, .int l1), (3, .int l3)]) dX12_layLeft_93 2 rfl rfl (Nat.le_of_ble_eq_true rfl) rfl ?_
          refine V.iinc (v := (l3 + 1)) (lv' := [(3, .int (l3 + 1)), (2, .int (l2 + 1)), (0, .ref l0), (1, .int l1)]) dX12_layLeft_96 3 rfl rfl (Nat.le_of_ble_eq_true rfl) rfl ?_
          refine V.goto (tgt := 36) dX12_layLeft_99 (by decide) ?_
          refine V.sub [2, 3, 1, 0] rfl ?_
          exact ih _ _ _ _ _ _ hf
        · rw [if_pos c10] at hf
          refine V.goto (tgt := 96) dX12_layLeft_64 (by decide) ?_
          refine V.iinc (v := (l3 + 1)) (lv' := [(3, .int (l3 + 1)), (0, .ref l0), (1, .int l1), (2, .int l2)]) dX12_layLeft_96 3 rfl rfl (Nat.le_of_ble_eq_true rfl) rfl ?_
          refine V.goto (tgt := 36) dX12_layLeft_99 (by decide) ?_
          refine V.sub [1, 2, 3, 0] rfl ?_
          exact ih _ _ _ _ _ _ hf

set_option maxRecDepth 20000 in
theorem w_X12_layLeft_12 : ∀ (n : Nat) (h : xH) (l0 : Nat) (l1 : Int32) (l2 : Int32) (l3 : Int32) (r : xH), f_X12_layLeft_12 n h l0 l1 l2 l3 = some r → V 5 yX12_layLeft cX12_layLeft 7 none [] none 12 [(0, .ref l0), (1, .int l1), (2, .int l2), (3, .int l3)] [] h (oVh r) := by
  intro n
  induction n with
  | zero => intro h l0 l1 l2 l3 r hf; cases hf
  | succ n ih =>
    intro h l0 l1 l2 l3 r hf
    rw [f_X12_layLeft_12] at hf
    refine V.iload_n dX12_layLeft_12 rfl 3 rfl ?_
    refine V.aload_n dX12_layLeft_13 rfl 0 rfl ?_
    obtain ⟨v1, e34, hf⟩ := bS hf
    refine V.xgR dX12_layLeft_14 fl_RX12_55 e34 ?_
    obtain ⟨v2, e35, hf⟩ := bS hf
    refine V.xaln dX12_layLeft_17 e35 ?_
    refine V.icmp_ge (tgt := 34) dX12_layLeft_18 (by decide) (fun c3 => ?_) (fun c3 => ?_)
    · rw [if_pos c3] at hf
      refine V.iconst (v := (0 : Int32)) dX12_layLeft_34 (by decide) ?_
      refine V.istore_n (lv' := [(3, .int (0 : Int32)), (0, .ref l0), (1, .int l1), (2, .int l2)]) dX12_layLeft_35 rfl (by decide) rfl ?_
      refine V.sub [1, 2, 3, 0] rfl ?_
      exact w_X12_layLeft_36 _ _ _ _ _ _ _ hf
    · rw [if_neg c3] at hf
      refine V.aload_n dX12_layLeft_21 rfl 0 rfl ?_
      obtain ⟨v4, e36, hf⟩ := bS hf
      refine V.xgR dX12_layLeft_22 fl_RX12_55 e36 ?_
      refine V.iload_n dX12_layLeft_25 rfl 3 rfl ?_
      refine V.iconst (v := (-1 : Int32)) dX12_layLeft_26 (by decide) ?_
      obtain ⟨h5, e37, hf⟩ := bS hf
      refine V.xstI dX12_layLeft_27 e37 ?_
      refine V.iinc (v := (l3 + 1)) (lv' := [(3, .int (l3 + 1)), (0, .ref l0), (1, .int l1), (2, .int l2)]) dX12_layLeft_28 3 rfl rfl (Nat.le_of_ble_eq_true rfl) rfl ?_
      refine V.goto (tgt := 12) dX12_layLeft_31 (by decide) ?_
      refine V.sub [1, 2, 3, 0] rfl ?_
      exact ih _ _ _ _ _ _ hf

set_option maxRecDepth 20000 in
theorem w_X12_layLeft (h : xH) (l0 : Nat) (l1 : Int32) (r : xH) (hf : f_X12_layLeft h l0 l1 = some r) : Ev 5 yX12_layLeft cX12_layLeft 7 none [] [.ref l0, .int l1] h (oVh r) := by
  refine Ev.of (by decide +kernel) (Nat.le_of_ble_eq_true rfl) ?_
  unfold f_X12_layLeft at hf
  refine V.aload_n dX12_layLeft_0 rfl 0 rfl ?_
  obtain ⟨q1, e38, hf⟩ := bS hf
  obtain ⟨r2, e39, hf⟩ := bS hf
  refine V.callV (As := []) (st := []) dX12_layLeft_1 cl_RX12_347 sw_yX12_layWalks (by decide) rfl (Nat.le_of_ble_eq_true rfl) rfl (gO_some e38) rfl (w_X12_layWalks _ _ _ e39) ?_
  refine V.aload_n dX12_layLeft_4 rfl 0 rfl ?_
  obtain ⟨q3, e40, hf⟩ := bS hf
  obtain ⟨r4, e41, hf⟩ := bS hf
  refine V.callV (As := []) (st := []) dX12_layLeft_5 cl_RX12_291 sw_yX12_layNexts (by decide) rfl (Nat.le_of_ble_eq_true rfl) rfl (gO_some e40) rfl (w_X12_layNexts _ _ _ e41) ?_
  refine V.iconst (v := (0 : Int32)) dX12_layLeft_8 (by decide) ?_
  refine V.istore_n (lv' := [(2, .int (0 : Int32)), (0, .ref l0), (1, .int l1)]) dX12_layLeft_9 rfl (by decide) rfl ?_
  refine V.iconst (v := (0 : Int32)) dX12_layLeft_10 (by decide) ?_
  refine V.istore_n (lv' := [(3, .int (0 : Int32)), (2, .int (0 : Int32)), (0, .ref l0), (1, .int l1)]) dX12_layLeft_11 rfl (by decide) rfl ?_
  refine V.sub [2, 3, 1, 0] rfl ?_
  exact w_X12_layLeft_12 _ _ _ _ _ _ _ hf

def f_X12_round_88 (h : xH) (l2 : Int32) (l5 : Int32) : Option (Int32 × xH) := (if l2 = (-1 : Int32) then (some ((l5, h))) else (some (((-1 : Int32), h))))
def f_X12_round_112 (k103 : xH → Nat → Int32 → Int32 → Int32 → Int32 → Int32 → Option (Int32 × xH)) : Nat → xH → Nat → Int32 → Int32 → Int32 → Int32 → Int32 → Int32 → Option (Int32 × xH)
  | 0, _, _, _, _, _, _, _, _ => none
  | n + 1, h, l0, l2, l3, l4, l5, l6, l7 => (gR h l0 12 21).bind fun v1 => (ldI h .int v1 (((16 : Int32) * l3) + l7)).bind fun v2 => (if v2 = (1 : Int32) then ((gR h l0 12 26).bind fun v4 => (ldI h .int v4 (((4096 : Int32) * l7) + (l4 ||| ((1 : Int32) <<< (l7 &&& 31))))).bind fun v5 => (if v5 = ((l5 - l6) - (1 : Int32)) then (k103 h l0 l2 l7 (l4 ||| ((1 : Int32) <<< (l7 &&& 31))) l5 (l6 + 1)) else (f_X12_round_112 k103 n h l0 l2 l3 l4 l5 l6 (l7 + 1)))) else (f_X12_round_112 k103 n h l0 l2 l3 l4 l5 l6 (l7 + 1)))
def f_X12_round_103 : Nat → xH → Nat → Int32 → Int32 → Int32 → Int32 → Int32 → Option (Int32 × xH)
  | 0, _, _, _, _, _, _, _ => none
  | n + 1, h, l0, l2, l3, l4, l5, l6 => (if l2 ≤ l6 then (some ((l3, h))) else (f_X12_round_112 (f_X12_round_103 n) xFU h l0 l2 l3 l4 l5 l6 (0 : Int32)))
def f_X12_round_32 (h : xH) (l0 : Nat) (l1 : Int32) (l2 : Int32) (s0 : Int32) (s1 : Nat) : Option (Int32 × xH) := (pF h s1 12 4 (.int s0)).bind fun h1 => (gI h1 l0 12 4).bind fun v2 => (if v2 ≤ 0 then ((gO h1 l0 12).bind fun q4 => (f_X12_layLeft h1 l0 l1).bind fun r5 => (gR r5 l0 12 26).bind fun v6 => (ldI r5 .int v6 (((4096 : Int32) * l1) + ((1 : Int32) <<< (l1 &&& 31)))).bind fun v7 => (if l2 = (-1 : Int32) then (f_X12_round_88 r5 l2 v7) else ((if v7 = (-1 : Int32) then (f_X12_round_88 r5 l2 v7) else ((if l2 ≤ v7 then (f_X12_round_103 xFU r5 l0 l2 l1 ((1 : Int32) <<< (l1 &&& 31)) v7 (0 : Int32)) else (f_X12_round_88 r5 l2 v7))))))) else (some (((0 : Int32), h1))))
def f_X12_round_31 (h : xH) (l0 : Nat) (l1 : Int32) (l2 : Int32) (s0 : Nat) : Option (Int32 × xH) := f_X12_round_32 h l0 l1 l2 (2 : Int32) s0
def f_X12_round (h : xH) (l0 : Nat) (l1 : Int32) (l2 : Int32) : Option (Int32 × xH) := (gO h l0 12).bind fun q1 => (f_X12_isRoom h l0 l1).bind fun r2 => (if r2 = 0 then (f_X12_round_32 h l0 l1 l2 (1 : Int32) l0) else ((gO h l0 12).bind fun q4 => (f_X12_rooms h l0).bind fun r5 => (if (12 : Int32) < r5 then (f_X12_round_31 h l0 l1 l2 l0) else ((if l2 < (-1 : Int32) then (f_X12_round_31 h l0 l1 l2 l0) else (f_X12_round_32 h l0 l1 l2 (0 : Int32) l0))))))
set_option maxRecDepth 20000 in
theorem w_X12_round_88 (h : xH) (l2 : Int32) (l5 : Int32) (r : Int32 × xH) (hf : f_X12_round_88 h l2 l5 = some r) : V 6 yX12_round cX12_round 8 (some .int) [] none 88 [(2, .int l2), (5, .int l5)] [] h (oIh r) := by
  unfold f_X12_round_88 at hf
  refine V.iload_n dX12_round_88 rfl 0 rfl ?_
  refine V.iconst (v := (-1 : Int32)) dX12_round_89 (by decide) ?_
  refine V.icmp_ne (tgt := 98) dX12_round_90 (by decide) (fun c1 => ?_) (fun c1 => ?_)
  · rw [if_neg c1] at hf
    refine V.iconst (v := (-1 : Int32)) dX12_round_98 (by decide) ?_
    obtain rfl := Option.some.inj hf
    exact V.iret dX12_round_99
  · rw [if_pos c1] at hf
    refine V.iload dX12_round_93 1 rfl ?_
    refine V.goto (tgt := 99) dX12_round_95 (by decide) ?_
    obtain rfl := Option.some.inj hf
    exact V.iret dX12_round_99

set_option maxRecDepth 20000 in
theorem w_X12_round_112 {k103 : xH → Nat → Int32 → Int32 → Int32 → Int32 → Int32 → Option (Int32 × xH)} (hk103 : ∀ (h : xH) (l0 : Nat) (l2 : Int32) (l3 : Int32) (l4 : Int32) (l5 : Int32) (l6 : Int32) (r : Int32 × xH), k103 h l0 l2 l3 l4 l5 l6 = some r → V 6 yX12_round cX12_round 8 (some .int) [] none 103 [(0, .ref l0), (2, .int l2), (3, .int l3), (4, .int l4), (5, .int l5), (6, .int l6)] [] h (oIh r)) : ∀ (n : Nat) (h : xH) (l0 : Nat) (l2 : Int32) (l3 : Int32) (l4 : Int32) (l5 : Int32) (l6 : Int32) (l7 : Int32) (r : Int32 × xH), f_X12_round_112 k103 n h l0 l2 l3 l4 l5 l6 l7 = some r → V 6 yX12_round cX12_round 8 (some .int) [] none 112 [(0, .ref l0), (2, .int l2), (3, .int l3), (4, .int l4), (5, .int l5), (6, .int l6), (7, .int l7)] [] h (oIh r) := by
  intro n
  induction n with
  | zero => intro h l0 l2 l3 l4 l5 l6 l7 r hf; cases hf
  | succ n ih =>
    intro h l0 l2 l3 l4 l5 l6 l7 r hf
    rw [f_X12_round_112] at hf
    refine V.aload_n dX12_round_112 rfl 0 rfl ?_
    obtain ⟨v1, e1, hf⟩ := bS hf
    refine V.xgR dX12_round_113 fl_RX12_45 e1 ?_
    refine V.bipush (v := (16 : Int32)) dX12_round_116 (by decide) ?_
    refine V.iload_n dX12_round_118 rfl 2 rfl ?_
    refine V.imul dX12_round_119 ?_
    refine V.iload dX12_round_120 6 rfl ?_
    refine V.iadd dX12_round_122 ?_
    obtain ⟨v2, e2, hf⟩ := bS hf
    refine V.xldI dX12_round_123 e2 ?_
    refine V.iconst (v := (1 : Int32)) dX12_round_124 (by decide) ?_
    refine V.icmp_ne (tgt := 157) dX12_round_125 (by decide) (fun c3 => ?_) (fun c3 => ?_)
    · rw [if_neg c3] at hf
      refine V.iinc (v := (l7 + 1)) (lv' := [(7, .int (l7 + 1)), (0, .ref l0), (2, .int l2), (3, .int l3), (4, .int l4), (5, .int l5), (6, .int l6)]) dX12_round_157 6 rfl rfl (Nat.le_of_ble_eq_true rfl) rfl ?_
      refine V.goto (tgt := 112) dX12_round_160 (by decide) ?_
      refine V.sub [1, 2, 3, 4, 5, 6, 0] rfl ?_
      exact ih _ _ _ _ _ _ _ _ _ hf
    · rw [if_pos c3] at hf
      refine V.aload_n dX12_round_128 rfl 0 rfl ?_
      obtain ⟨v4, e3, hf⟩ := bS hf
      refine V.xgR dX12_round_129 fl_RX12_55 e3 ?_
      refine V.sipush (v := (4096 : Int32)) dX12_round_132 (by decide) ?_
      refine V.iload dX12_round_135 6 rfl ?_
      refine V.imul dX12_round_137 ?_
      refine V.iload dX12_round_138 3 rfl ?_
      refine V.iconst (v := (1 : Int32)) dX12_round_140 (by decide) ?_
      refine V.iload dX12_round_141 6 rfl ?_
      refine V.ishl dX12_round_143 ?_
      refine V.ior dX12_round_144 ?_
      refine V.iadd dX12_round_145 ?_
      obtain ⟨v5, e4, hf⟩ := bS hf
      refine V.xldI dX12_round_146 e4 ?_
      refine V.iload dX12_round_147 4 rfl ?_
      refine V.iload dX12_round_149 5 rfl ?_
      refine V.isub dX12_round_151 ?_
      refine V.iconst (v := (1 : Int32)) dX12_round_152 (by decide) ?_
      refine V.isub dX12_round_153 ?_
      refine V.icmp_eq (tgt := 163) dX12_round_154 (by decide) (fun c6 => ?_) (fun c6 => ?_)
      · rw [if_pos c6] at hf
        refine V.iload dX12_round_163 6 rfl ?_
        refine V.istore_n (lv' := [(3, .int l7), (0, .ref l0), (2, .int l2), (4, .int l4), (5, .int l5), (6, .int l6), (7, .int l7)]) dX12_round_165 rfl (by decide) rfl ?_
        refine V.iload dX12_round_166 3 rfl ?_
        refine V.iconst (v := (1 : Int32)) dX12_round_168 (by decide) ?_
        refine V.iload dX12_round_169 6 rfl ?_
        refine V.ishl dX12_round_171 ?_
        refine V.ior dX12_round_172 ?_
        refine V.istore (lv' := [(4, .int (l4 ||| ((1 : Int32) <<< (l7 &&& 31)))), (3, .int l7), (0, .ref l0), (2, .int l2), (5, .int l5), (6, .int l6), (7, .int l7)]) dX12_round_173 (by decide) rfl ?_
        refine V.iinc (v := (l6 + 1)) (lv' := [(6, .int (l6 + 1)), (4, .int (l4 ||| ((1 : Int32) <<< (l7 &&& 31)))), (3, .int l7), (0, .ref l0), (2, .int l2), (5, .int l5), (7, .int l7)]) dX12_round_175 5 rfl rfl (Nat.le_of_ble_eq_true rfl) rfl ?_
        refine V.goto (tgt := 103) dX12_round_178 (by decide) ?_
        refine V.sub [3, 4, 2, 1, 5, 0] rfl ?_
        exact hk103 _ _ _ _ _ _ _ _ hf
      · rw [if_neg c6] at hf
        refine V.iinc (v := (l7 + 1)) (lv' := [(7, .int (l7 + 1)), (0, .ref l0), (2, .int l2), (3, .int l3), (4, .int l4), (5, .int l5), (6, .int l6)]) dX12_round_157 6 rfl rfl (Nat.le_of_ble_eq_true rfl) rfl ?_
        refine V.goto (tgt := 112) dX12_round_160 (by decide) ?_
        refine V.sub [1, 2, 3, 4, 5, 6, 0] rfl ?_
        exact ih _ _ _ _ _ _ _ _ _ hf

set_option maxRecDepth 20000 in
theorem w_X12_round_103 : ∀ (n : Nat) (h : xH) (l0 : Nat) (l2 : Int32) (l3 : Int32) (l4 : Int32) (l5 : Int32) (l6 : Int32) (r : Int32 × xH), f_X12_round_103 n h l0 l2 l3 l4 l5 l6 = some r → V 6 yX12_round cX12_round 8 (some .int) [] none 103 [(0, .ref l0), (2, .int l2), (3, .int l3), (4, .int l4), (5, .int l5), (6, .int l6)] [] h (oIh r) := by
  intro n
  induction n with
  | zero => intro h l0 l2 l3 l4 l5 l6 r hf; cases hf
  | succ n ih =>
    intro h l0 l2 l3 l4 l5 l6 r hf
    rw [f_X12_round_103] at hf
    refine V.iload dX12_round_103 5 rfl ?_
    refine V.iload_n dX12_round_105 rfl 1 rfl ?_
    refine V.icmp_ge (tgt := 181) dX12_round_106 (by decide) (fun c1 => ?_) (fun c1 => ?_)
    · rw [if_pos c1] at hf
      refine V.iload_n dX12_round_181 rfl 2 rfl ?_
      obtain rfl := Option.some.inj hf
      exact V.iret dX12_round_182
    · rw [if_neg c1] at hf
      refine V.iconst (v := (0 : Int32)) dX12_round_109 (by decide) ?_
      refine V.istore (lv' := [(7, .int (0 : Int32)), (0, .ref l0), (2, .int l2), (3, .int l3), (4, .int l4), (5, .int l5), (6, .int l6)]) dX12_round_110 (by decide) rfl ?_
      refine V.sub [1, 2, 3, 4, 5, 6, 0] rfl ?_
      exact w_X12_round_112 ih _ _ _ _ _ _ _ _ _ _ hf

set_option maxRecDepth 20000 in
theorem w_X12_round_32 (h : xH) (l0 : Nat) (l1 : Int32) (l2 : Int32) (s0 : Int32) (s1 : Nat) (r : Int32 × xH) (hf : f_X12_round_32 h l0 l1 l2 s0 s1 = some r) : V 6 yX12_round cX12_round 8 (some .int) [] none 32 [(0, .ref l0), (1, .int l1), (2, .int l2)] [.int s0, .ref s1] h (oIh r) := by
  unfold f_X12_round_32 at hf
  obtain ⟨h1, e5, hf⟩ := bS hf
  refine V.xpF dX12_round_32 fl_RX12_75 (fun h9 => nomatch h9) (fun _ => rfl) (fun _ => rfl) e5 ?_
  refine V.aload_n dX12_round_35 rfl 0 rfl ?_
  obtain ⟨v2, e6, hf⟩ := bS hf
  refine V.xgI dX12_round_36 fl_RX12_75 e6 ?_
  refine V.if_le (tgt := 44) dX12_round_39 (by decide) (fun c3 => ?_) (fun c3 => ?_)
  · rw [if_pos c3] at hf
    refine V.aload_n dX12_round_44 rfl 0 rfl ?_
    refine V.iload_n dX12_round_45 rfl 1 rfl ?_
    obtain ⟨q4, e7, hf⟩ := bS hf
    obtain ⟨r5, e8, hf⟩ := bS hf
    refine V.callV (As := [.int l1]) (st := []) dX12_round_46 cl_RX12_402 sw_yX12_layLeft (by decide) rfl (Nat.le_of_ble_eq_true rfl) rfl (gO_some e7) rfl (w_X12_layLeft _ _ _ _ e8) ?_
    refine V.iload_n dX12_round_49 rfl 1 rfl ?_
    refine V.istore_n (lv' := [(3, .int l1), (0, .ref l0), (1, .int l1), (2, .int l2)]) dX12_round_50 rfl (by decide) rfl ?_
    refine V.iconst (v := (1 : Int32)) dX12_round_51 (by decide) ?_
    refine V.iload_n dX12_round_52 rfl 2 rfl ?_
    refine V.ishl dX12_round_53 ?_
    refine V.istore (lv' := [(4, .int ((1 : Int32) <<< (l1 &&& 31))), (3, .int l1), (0, .ref l0), (1, .int l1), (2, .int l2)]) dX12_round_54 (by decide) rfl ?_
    refine V.aload_n dX12_round_56 rfl 2 rfl ?_
    obtain ⟨v6, e9, hf⟩ := bS hf
    refine V.xgR dX12_round_57 fl_RX12_55 e9 ?_
    refine V.sipush (v := (4096 : Int32)) dX12_round_60 (by decide) ?_
    refine V.iload_n dX12_round_63 rfl 1 rfl ?_
    refine V.imul dX12_round_64 ?_
    refine V.iload dX12_round_65 0 rfl ?_
    refine V.iadd dX12_round_67 ?_
    obtain ⟨v7, e10, hf⟩ := bS hf
    refine V.xldI dX12_round_68 e10 ?_
    refine V.istore (lv' := [(5, .int v7), (4, .int ((1 : Int32) <<< (l1 &&& 31))), (3, .int l1), (0, .ref l0), (1, .int l1), (2, .int l2)]) dX12_round_69 (by decide) rfl ?_
    refine V.iload_n dX12_round_71 rfl 5 rfl ?_
    refine V.iconst (v := (-1 : Int32)) dX12_round_72 (by decide) ?_
    refine V.icmp_eq (tgt := 88) dX12_round_73 (by decide) (fun c8 => ?_) (fun c8 => ?_)
    · rw [if_pos c8] at hf
      refine V.sub [5, 0] rfl ?_
      exact w_X12_round_88 _ _ _ _ hf
    · rw [if_neg c8] at hf
      refine V.iload dX12_round_76 0 rfl ?_
      refine V.iconst (v := (-1 : Int32)) dX12_round_78 (by decide) ?_
      refine V.icmp_eq (tgt := 88) dX12_round_79 (by decide) (fun c9 => ?_) (fun c9 => ?_)
      · rw [if_pos c9] at hf
        refine V.sub [5, 0] rfl ?_
        exact w_X12_round_88 _ _ _ _ hf
      · rw [if_neg c9] at hf
        refine V.iload_n dX12_round_82 rfl 5 rfl ?_
        refine V.iload dX12_round_83 0 rfl ?_
        refine V.icmp_le (tgt := 100) dX12_round_85 (by decide) (fun c10 => ?_) (fun c10 => ?_)
        · rw [if_pos c10] at hf
          refine V.iconst (v := (0 : Int32)) dX12_round_100 (by decide) ?_
          refine V.istore (lv' := [(6, .int (0 : Int32)), (5, .int v7), (4, .int ((1 : Int32) <<< (l1 &&& 31))), (3, .int l1), (0, .ref l0), (1, .int l1), (2, .int l2)]) dX12_round_101 (by decide) rfl ?_
          refine V.sub [4, 6, 3, 2, 1, 0] rfl ?_
          exact w_X12_round_103 _ _ _ _ _ _ _ _ _ hf
        · rw [if_neg c10] at hf
          refine V.sub [5, 0] rfl ?_
          exact w_X12_round_88 _ _ _ _ hf
  · rw [if_neg c3] at hf
    refine V.iconst (v := (0 : Int32)) dX12_round_42 (by decide) ?_
    obtain rfl := Option.some.inj hf
    exact V.iret dX12_round_43

set_option maxRecDepth 20000 in
theorem w_X12_round_31 (h : xH) (l0 : Nat) (l1 : Int32) (l2 : Int32) (s0 : Nat) (r : Int32 × xH) (hf : f_X12_round_31 h l0 l1 l2 s0 = some r) : V 6 yX12_round cX12_round 8 (some .int) [] none 31 [(0, .ref l0), (1, .int l1), (2, .int l2)] [.ref s0] h (oIh r) := by
  unfold f_X12_round_31 at hf
  refine V.iconst (v := (2 : Int32)) dX12_round_31 (by decide) ?_
  exact w_X12_round_32 _ _ _ _ _ _ _ hf

set_option maxRecDepth 20000 in
theorem w_X12_round (h : xH) (l0 : Nat) (l1 : Int32) (l2 : Int32) (r : Int32 × xH) (hf : f_X12_round h l0 l1 l2 = some r) : Ev 6 yX12_round cX12_round 8 (some .int) [] [.ref l0, .int l1, .int l2] h (oIh r) := by
  refine Ev.of (by decide +kernel) (Nat.le_of_ble_eq_true rfl) ?_
  unfold f_X12_round at hf
  refine V.aload_n dX12_round_0 rfl 0 rfl ?_
  refine V.aload_n dX12_round_1 rfl 0 rfl ?_
  refine V.iload_n dX12_round_2 rfl 1 rfl ?_
  obtain ⟨q1, e11, hf⟩ := bS hf
  obtain ⟨r2, e12, hf⟩ := bS hf
  refine V.callV (As := [.int l1]) (st := [.ref l0]) dX12_round_3 cl_RX12_240 sw_yX12_isRoom (by decide) rfl (Nat.le_of_ble_eq_true rfl) rfl (gO_some e11) rfl (w_X12_isRoom _ _ _ _ e12) ?_
  refine V.if_ne (tgt := 13) dX12_round_6 (by decide) (fun c3 => ?_) (fun c3 => ?_)
  · rw [if_neg c3] at hf
    refine V.aload_n dX12_round_13 rfl 0 rfl ?_
    obtain ⟨q4, e13, hf⟩ := bS hf
    obtain ⟨r5, e14, hf⟩ := bS hf
    refine V.callV (As := []) (st := [.ref l0]) dX12_round_14 cl_RX12_228 sw_yX12_rooms (by decide) rfl (Nat.le_of_ble_eq_true rfl) rfl (gO_some e13) rfl (w_X12_rooms _ _ _ e14) ?_
    refine V.bipush (v := (12 : Int32)) dX12_round_17 (by decide) ?_
    refine V.icmp_gt (tgt := 31) dX12_round_19 (by decide) (fun c6 => ?_) (fun c6 => ?_)
    · rw [if_pos c6] at hf
      exact w_X12_round_31 _ _ _ _ _ _ hf
    · rw [if_neg c6] at hf
      refine V.iload_n dX12_round_22 rfl 2 rfl ?_
      refine V.iconst (v := (-1 : Int32)) dX12_round_23 (by decide) ?_
      refine V.icmp_lt (tgt := 31) dX12_round_24 (by decide) (fun c7 => ?_) (fun c7 => ?_)
      · rw [if_pos c7] at hf
        exact w_X12_round_31 _ _ _ _ _ _ hf
      · rw [if_neg c7] at hf
        refine V.iconst (v := (0 : Int32)) dX12_round_27 (by decide) ?_
        refine V.goto (tgt := 32) dX12_round_28 (by decide) ?_
        exact w_X12_round_32 _ _ _ _ _ _ _ hf
  · rw [if_pos c3] at hf
    refine V.iconst (v := (1 : Int32)) dX12_round_9 (by decide) ?_
    refine V.goto (tgt := 32) dX12_round_10 (by decide) ?_
    exact w_X12_round_32 _ _ _ _ _ _ _ hf

def f_X12_rule_42 (h : xH) (l0 : Nat) (l1 : Int32) (l2 : Int32) (l3 : Int32) (l4 : Int32) (s0 : Int32) (s1 : Nat) : Option (Int32 × xH) := (pF h s1 12 4 (.int s0)).bind fun h1 => (gI h1 l0 12 4).bind fun v2 => (if v2 ≤ 0 then ((f_X12_firstDark h1 l1 l2 l3 l4).bind fun r4 => some ((r4, h1))) else (some (((0 : Int32), h1))))
def f_X12_rule_41 (h : xH) (l0 : Nat) (l1 : Int32) (l2 : Int32) (l3 : Int32) (l4 : Int32) (s0 : Nat) : Option (Int32 × xH) := f_X12_rule_42 h l0 l1 l2 l3 l4 (1 : Int32) s0
def f_X12_rule (h : xH) (l0 : Nat) (l1 : Int32) (l2 : Int32) (l3 : Int32) (l4 : Int32) : Option (Int32 × xH) := (f_X12_isLong h l1 l2).bind fun r1 => (if r1 = 0 then (f_X12_rule_41 h l0 l1 l2 l3 l4 l0) else ((f_X12_within h (Int32.toInt64 l3) (1 : Int64) (8 : Int64)).bind fun r3 => (if r3 = 0 then (f_X12_rule_41 h l0 l1 l2 l3 l4 l0) else ((f_X12_within h (Int32.toInt64 l4) (0 : Int64) (Int32.toInt64 (((1 : Int32) <<< (l3 &&& 31)) - (1 : Int32)))).bind fun r5 => (if r5 = 0 then (f_X12_rule_41 h l0 l1 l2 l3 l4 l0) else (f_X12_rule_42 h l0 l1 l2 l3 l4 (0 : Int32) l0))))))
set_option maxRecDepth 20000 in
theorem w_X12_rule_42 (h : xH) (l0 : Nat) (l1 : Int32) (l2 : Int32) (l3 : Int32) (l4 : Int32) (s0 : Int32) (s1 : Nat) (r : Int32 × xH) (hf : f_X12_rule_42 h l0 l1 l2 l3 l4 s0 s1 = some r) : V 6 yX12_rule cX12_rule 5 (some .int) [] none 42 [(0, .ref l0), (1, .int l1), (2, .int l2), (3, .int l3), (4, .int l4)] [.int s0, .ref s1] h (oIh r) := by
  unfold f_X12_rule_42 at hf
  obtain ⟨h1, e1, hf⟩ := bS hf
  refine V.xpF dX12_rule_42 fl_RX12_75 (fun h9 => nomatch h9) (fun _ => rfl) (fun _ => rfl) e1 ?_
  refine V.aload_n dX12_rule_45 rfl 0 rfl ?_
  obtain ⟨v2, e2, hf⟩ := bS hf
  refine V.xgI dX12_rule_46 fl_RX12_75 e2 ?_
  refine V.if_le (tgt := 56) dX12_rule_49 (by decide) (fun c3 => ?_) (fun c3 => ?_)
  · rw [if_pos c3] at hf
    refine V.iload_n dX12_rule_56 rfl 1 rfl ?_
    refine V.iload_n dX12_rule_57 rfl 2 rfl ?_
    refine V.iload_n dX12_rule_58 rfl 3 rfl ?_
    refine V.iload dX12_rule_59 4 rfl ?_
    obtain ⟨r4, e3, hf⟩ := bS hf
    refine V.callS (As := [.int l1, .int l2, .int l3, .int l4]) (st := []) dX12_rule_61 cl_RX12_417 sw_yX12_firstDark (by decide) rfl (Nat.le_of_ble_eq_true rfl) rfl (w_X12_firstDark _ _ _ _ _ _ e3) ?_
    obtain rfl := Option.some.inj hf
    exact V.iret dX12_rule_64
  · rw [if_neg c3] at hf
    refine V.iconst (v := (0 : Int32)) dX12_rule_52 (by decide) ?_
    refine V.goto (tgt := 64) dX12_rule_53 (by decide) ?_
    obtain rfl := Option.some.inj hf
    exact V.iret dX12_rule_64

set_option maxRecDepth 20000 in
theorem w_X12_rule_41 (h : xH) (l0 : Nat) (l1 : Int32) (l2 : Int32) (l3 : Int32) (l4 : Int32) (s0 : Nat) (r : Int32 × xH) (hf : f_X12_rule_41 h l0 l1 l2 l3 l4 s0 = some r) : V 6 yX12_rule cX12_rule 5 (some .int) [] none 41 [(0, .ref l0), (1, .int l1), (2, .int l2), (3, .int l3), (4, .int l4)] [.ref s0] h (oIh r) := by
  unfold f_X12_rule_41 at hf
  refine V.iconst (v := (1 : Int32)) dX12_rule_41 (by decide) ?_
  exact w_X12_rule_42 _ _ _ _ _ _ _ _ _ hf

set_option maxRecDepth 20000 in
theorem w_X12_rule (h : xH) (l0 : Nat) (l1 : Int32) (l2 : Int32) (l3 : Int32) (l4 : Int32) (r : Int32 × xH) (hf : f_X12_rule h l0 l1 l2 l3 l4 = some r) : Ev 6 yX12_rule cX12_rule 5 (some .int) [] [.ref l0, .int l1, .int l2, .int l3, .int l4] h (oIh r) := by
  refine Ev.of (by decide +kernel) (Nat.le_of_ble_eq_true rfl) ?_
  unfold f_X12_rule at hf
  refine V.aload_n dX12_rule_0 rfl 0 rfl ?_
  refine V.iload_n dX12_rule_1 rfl 1 rfl ?_
  refine V.iload_n dX12_rule_2 rfl 2 rfl ?_
  obtain ⟨r1, e4, hf⟩ := bS hf
  refine V.callS (As := [.int l1, .int l2]) (st := [.ref l0]) dX12_rule_3 cl_RX12_411 sw_yX12_isLong (by decide) rfl (Nat.le_of_ble_eq_true rfl) rfl (w_X12_isLong _ _ _ _ e4) ?_
  refine V.if_eq (tgt := 41) dX12_rule_6 (by decide) (fun c2 => ?_) (fun c2 => ?_)
  · rw [if_pos c2] at hf
    exact w_X12_rule_41 _ _ _ _ _ _ _ _ hf
  · rw [if_neg c2] at hf
    refine V.iload_n dX12_rule_9 rfl 3 rfl ?_
    refine V.i2l dX12_rule_10 ?_
    refine V.lconst (v := 1) dX12_rule_11 (by decide) ?_
    refine V.ldc2 (v := (8 : Int64)) dX12_rule_12 cj_RX12_415 ?_
    obtain ⟨r3, e5, hf⟩ := bS hf
    refine V.callS (As := [.long (Int32.toInt64 l3), .long (1 : Int64), .long (8 : Int64)]) (st := [.ref l0]) dX12_rule_15 cl_RX12_134 sw_yX12_within (by decide) rfl (Nat.le_of_ble_eq_true rfl) rfl (w_X12_within _ _ _ _ _ e5) ?_
    refine V.if_eq (tgt := 41) dX12_rule_18 (by decide) (fun c4 => ?_) (fun c4 => ?_)
    · rw [if_pos c4] at hf
      exact w_X12_rule_41 _ _ _ _ _ _ _ _ hf
    · rw [if_neg c4] at hf
      refine V.iload dX12_rule_21 4 rfl ?_
      refine V.i2l dX12_rule_23 ?_
      refine V.lconst (v := 0) dX12_rule_24 (by decide) ?_
      refine V.iconst (v := (1 : Int32)) dX12_rule_25 (by decide) ?_
      refine V.iload_n dX12_rule_26 rfl 3 rfl ?_
      refine V.ishl dX12_rule_27 ?_
      refine V.iconst (v := (1 : Int32)) dX12_rule_28 (by decide) ?_
      refine V.isub dX12_rule_29 ?_
      refine V.i2l dX12_rule_30 ?_
      obtain ⟨r5, e6, hf⟩ := bS hf
      refine V.callS (As := [.long (Int32.toInt64 l4), .long (0 : Int64), .long (Int32.toInt64 (((1 : Int32) <<< (l3 &&& 31)) - (1 : Int32)))]) (st := [.ref l0]) dX12_rule_31 cl_RX12_134 sw_yX12_within (by decide) rfl (Nat.le_of_ble_eq_true rfl) rfl (w_X12_within _ _ _ _ _ e6) ?_
      refine V.if_eq (tgt := 41) dX12_rule_34 (by decide) (fun c6 => ?_) (fun c6 => ?_)
      · rw [if_pos c6] at hf
        exact w_X12_rule_41 _ _ _ _ _ _ _ _ hf
      · rw [if_neg c6] at hf
        refine V.iconst (v := (0 : Int32)) dX12_rule_37 (by decide) ?_
        refine V.goto (tgt := 42) dX12_rule_38 (by decide) ?_
        exact w_X12_rule_42 _ _ _ _ _ _ _ _ _ hf

def f_X12_sooner_183 (k133 : xH → Nat → Int32 → Int32 → Option (Int32 × xH)) (k147 : xH → Nat → Int32 → Int32 → Int64 → Int32 → Option (Int32 × xH)) (h : xH) (l0 : Nat) (l1 : Int32) (l3 : Int32) (l6 : Int32) (s0 : Int64) (s1 : Int64) : Option (Int32 × xH) := k147 h l0 l1 l3 (s1 + s0) (l6 + 1)
def f_X12_sooner_147 (k133 : xH → Nat → Int32 → Int32 → Option (Int32 × xH)) : Nat → xH → Nat → Int32 → Int32 → Int64 → Int32 → Option (Int32 × xH)
  | 0, _, _, _, _, _, _ => none
  | n + 1, h, l0, l1, l3, l4, l6 => (gO h l0 12).bind fun q1 => (f_X12_rooms h l0).bind fun r2 => (if r2 ≤ l6 then ((gR h l0 12 23).bind fun v4 => (ldI h .int v4 l3).bind fun v5 => (if (lg_cmp (Int32.toInt64 v5) l4) ≤ 0 then (k133 h l0 l1 (l3 + 1)) else (some ((l3, h))))) else ((f_X12_has h l3 l6).bind fun r7 => (if r7 = 0 then (f_X12_sooner_183 k133 (f_X12_sooner_147 k133 n) h l0 l1 l3 l6 (0 : Int64) l4) else ((gR h l0 12 31).bind fun v9 => (ldJ h v9 (((40 : Int32) * l1) + l6)).bind fun v10 => f_X12_sooner_183 k133 (f_X12_sooner_147 k133 n) h l0 l1 l3 l6 v10 l4))))
def f_X12_sooner_133 : Nat → xH → Nat → Int32 → Int32 → Option (Int32 × xH)
  | 0, _, _, _, _ => none
  | n + 1, h, l0, l1, l3 => (gO h l0 12).bind fun q1 => (f_X12_all h l0).bind fun r2 => (if r2 < l3 then (some (((-1 : Int32), h))) else (f_X12_sooner_147 (f_X12_sooner_133 n) xFU h l0 l1 l3 (0 : Int64) (0 : Int32)))
def f_X12_sooner_70 : Nat → xH → Nat → Int32 → Int32 → Int32 → Option (Int32 × xH)
  | 0, _, _, _, _, _ => none
  | n + 1, h, l0, l1, l2, l3 => (gO h l0 12).bind fun q1 => (f_X12_rooms h l0).bind fun r2 => (if r2 ≤ l3 then ((if l2 = 0 then ((gO h l0 12).bind fun q7 => (f_X12_fails h l0 (4 : Int32)).bind fun r8 => some ((r8.1, r8.2))) else ((gO h l0 12).bind fun q5 => (f_X12_laySavings h l0).bind fun r6 => f_X12_sooner_133 xFU r6 l0 l1 (1 : Int32)))) else ((if l2 = 0 then (f_X12_sooner_70 n h l0 l1 (0 : Int32) (l3 + 1)) else ((gR h l0 12 31).bind fun v10 => (ldJ h v10 (((40 : Int32) * l1) + l3)).bind fun v11 => (f_X12_within h v11 (-9999 : Int64) (9999 : Int64)).bind fun r12 => (if r12 = 0 then (f_X12_sooner_70 n h l0 l1 (0 : Int32) (l3 + 1)) else (f_X12_sooner_70 n h l0 l1 (1 : Int32) (l3 + 1)))))))
def f_X12_sooner_67 (h : xH) (l0 : Nat) (l1 : Int32) (s0 : Int32) : Option (Int32 × xH) := f_X12_sooner_70 xFU h l0 l1 s0 (0 : Int32)
def f_X12_sooner (h : xH) (l0 : Nat) (l1 : Int32) : Option (Int32 × xH) := (pF h l0 12 4 (.int (0 : Int32))).bind fun h1 => (f_X12_isTray h1 l1).bind fun r2 => (if r2 = 0 then ((gO h1 l0 12).bind fun q19 => (f_X12_fails h1 l0 (1 : Int32)).bind fun r20 => some ((r20.1, r20.2))) else ((gR h1 l0 12 29).bind fun v4 => (ldI h1 .int v4 l1).bind fun v5 => (if v5 = (-1 : Int32) then ((gO h1 l0 12).bind fun q17 => (f_X12_fails h1 l0 (2 : Int32)).bind fun r18 => some ((r18.1, r18.2))) else ((gR h1 l0 12 30).bind fun v7 => (ldI h1 .int v7 l1).bind fun v8 => (gO h1 l0 12).bind fun q9 => (f_X12_rooms h1 l0).bind fun r10 => (if r10 ≤ v8 then ((gO h1 l0 12).bind fun q12 => (f_X12_rooms h1 l0).bind fun r13 => (if (10 : Int32) < r13 then (f_X12_sooner_67 h1 l0 l1 (0 : Int32)) else (f_X12_sooner_67 h1 l0 l1 (1 : Int32)))) else ((gO h1 l0 12).bind fun q15 => (f_X12_fails h1 l0 (3 : Int32)).bind fun r16 => some ((r16.1, r16.2))))))))
set_option maxRecDepth 20000 in
theorem w_X12_sooner_183 (h : xH) {k133 : xH → Nat → Int32 → Int32 → Option (Int32 × xH)} (hk133 : ∀ (h : xH) (l0 : Nat) (l1 : Int32) (l3 : Int32) (r : Int32 × xH), k133 h l0 l1 l3 = some r → V 6 yX12_sooner cX12_sooner 7 (some .int) [] none 133 [(0, .ref l0), (1, .int l1), (3, .int l3)] [] h (oIh r)) {k147 : xH → Nat → Int32 → Int32 → Int64 → Int32 → Option (Int32 × xH)} (hk147 : ∀ (h : xH) (l0 : Nat) (l1 : Int32) (l3 : Int32) (l4 : Int64) (l6 : Int32) (r : Int32 × xH), k147 h l0 l1 l3 l4 l6 = some r → V 6 yX12_sooner cX12_sooner 7 (some .int) [] none 147 [(0, .ref l0), (1, .int l1), (3, .int l3), (4, .long l4), (6, .int l6)] [] h (oIh r)) (l0 : Nat) (l1 : Int32) (l3 : Int32) (l6 : Int32) (s0 : Int64) (s1 : Int64) (r : Int32 × xH) (hf : f_X12_sooner_183 k133 k147 h l0 l1 l3 l6 s0 s1 = some r) : V 6 yX12_sooner cX12_sooner 7 (some .int) [] none 183 [(0, .ref l0), (1, .int l1), (3, .int l3), (6, .int l6)] [.long s0, .long s1] h (oIh r) := by
  unfold f_X12_sooner_183 at hf
  refine V.ladd dX12_sooner_183 ?_
  refine V.lstore (lv' := [(4, .long (s1 + s0)), (0, .ref l0), (1, .int l1), (3, .int l3), (6, .int l6)]) dX12_sooner_184 (by decide) rfl ?_
  refine V.iinc (v := (l6 + 1)) (lv' := [(6, .int (l6 + 1)), (4, .long (s1 + s0)), (0, .ref l0), (1, .int l1), (3, .int l3)]) dX12_sooner_186 4 rfl rfl (Nat.le_of_ble_eq_true rfl) rfl ?_
  refine V.goto (tgt := 147) dX12_sooner_189 (by decide) ?_
  refine V.sub [2, 3, 4, 1, 0] rfl ?_
  exact hk147 _ _ _ _ _ _ _ hf

set_option maxRecDepth 20000 in
theorem w_X12_sooner_147 {k133 : xH → Nat → Int32 → Int32 → Option (Int32 × xH)} (hk133 : ∀ (h : xH) (l0 : Nat) (l1 : Int32) (l3 : Int32) (r : Int32 × xH), k133 h l0 l1 l3 = some r → V 6 yX12_sooner cX12_sooner 7 (some .int) [] none 133 [(0, .ref l0), (1, .int l1), (3, .int l3)] [] h (oIh r)) : ∀ (n : Nat) (h : xH) (l0 : Nat) (l1 : Int32) (l3 : Int32) (l4 : Int64) (l6 : Int32) (r : Int32 × xH), f_X12_sooner_147 k133 n h l0 l1 l3 l4 l6 = some r → V 6 yX12_sooner cX12_sooner 7 (some .int) [] none 147 [(0, .ref l0), (1, .int l1), (3, .int l3), (4, .long l4), (6, .int l6)] [] h (oIh r) := by
  intro n
  induction n with
  | zero => intro h l0 l1 l3 l4 l6 r hf; cases hf
  | succ n ih =>
    intro h l0 l1 l3 l4 l6 r hf
    rw [f_X12_sooner_147] at hf
    refine V.iload dX12_sooner_147 4 rfl ?_
    refine V.aload_n dX12_sooner_149 rfl 0 rfl ?_
    obtain ⟨q1, e1, hf⟩ := bS hf
    obtain ⟨r2, e2, hf⟩ := bS hf
    refine V.callV (As := []) (st := [.int l6]) dX12_sooner_150 cl_RX12_228 sw_yX12_rooms (by decide) rfl (Nat.le_of_ble_eq_true rfl) rfl (gO_some e1) rfl (w_X12_rooms _ _ _ e2) ?_
    refine V.icmp_ge (tgt := 192) dX12_sooner_153 (by decide) (fun c3 => ?_) (fun c3 => ?_)
    · rw [if_pos c3] at hf
      refine V.aload_n dX12_sooner_192 rfl 0 rfl ?_
      obtain ⟨v4, e3, hf⟩ := bS hf
      refine V.xgR dX12_sooner_193 fl_RX12_51 e3 ?_
      refine V.iload_n dX12_sooner_196 rfl 2 rfl ?_
      obtain ⟨v5, e4, hf⟩ := bS hf
      refine V.xldI dX12_sooner_197 e4 ?_
      refine V.i2l dX12_sooner_198 ?_
      refine V.lload dX12_sooner_199 3 rfl ?_
      refine V.lcmp dX12_sooner_201 ?_
      refine V.if_le (tgt := 207) dX12_sooner_202 (by decide) (fun c6 => ?_) (fun c6 => ?_)
      · rw [if_pos c6] at hf
        refine V.iinc (v := (l3 + 1)) (lv' := [(3, .int (l3 + 1)), (0, .ref l0), (1, .int l1), (4, .long l4), (6, .int l6)]) dX12_sooner_207 2 rfl rfl (Nat.le_of_ble_eq_true rfl) rfl ?_
        refine V.goto (tgt := 133) dX12_sooner_210 (by decide) ?_
        refine V.sub [1, 2, 0] rfl ?_
        exact hk133 _ _ _ _ _ hf
      · rw [if_neg c6] at hf
        refine V.iload_n dX12_sooner_205 rfl 2 rfl ?_
        obtain rfl := Option.some.inj hf
        exact V.iret dX12_sooner_206
    · rw [if_neg c3] at hf
      refine V.lload dX12_sooner_156 3 rfl ?_
      refine V.iload_n dX12_sooner_158 rfl 2 rfl ?_
      refine V.iload dX12_sooner_159 4 rfl ?_
      obtain ⟨r7, e5, hf⟩ := bS hf
      refine V.callS (As := [.int l3, .int l6]) (st := [.long l4]) dX12_sooner_161 cl_RX12_246 sw_yX12_has (by decide) rfl (Nat.le_of_ble_eq_true rfl) rfl (w_X12_has _ _ _ _ e5) ?_
      refine V.if_eq (tgt := 182) dX12_sooner_164 (by decide) (fun c8 => ?_) (fun c8 => ?_)
      · rw [if_pos c8] at hf
        refine V.lconst (v := 0) dX12_sooner_182 (by decide) ?_
        refine V.sub [0, 1, 2, 4] rfl ?_
        exact w_X12_sooner_183 _ hk133 ih _ _ _ _ _ _ _ hf
      · rw [if_neg c8] at hf
        refine V.aload_n dX12_sooner_167 rfl 0 rfl ?_
        obtain ⟨v9, e6, hf⟩ := bS hf
        refine V.xgR dX12_sooner_168 fl_RX12_67 e6 ?_
        refine V.bipush (v := (40 : Int32)) dX12_sooner_171 (by decide) ?_
        refine V.iload_n dX12_sooner_173 rfl 1 rfl ?_
        refine V.imul dX12_sooner_174 ?_
        refine V.iload dX12_sooner_175 4 rfl ?_
        refine V.iadd dX12_sooner_177 ?_
        obtain ⟨v10, e7, hf⟩ := bS hf
        refine V.xldJ dX12_sooner_178 e7 ?_
        refine V.goto (tgt := 183) dX12_sooner_179 (by decide) ?_
        refine V.sub [0, 1, 2, 4] rfl ?_
        exact w_X12_sooner_183 _ hk133 ih _ _ _ _ _ _ _ hf

set_option maxRecDepth 20000 in
theorem w_X12_sooner_133 : ∀ (n : Nat) (h : xH) (l0 : Nat) (l1 : Int32) (l3 : Int32) (r : Int32 × xH), f_X12_sooner_133 n h l0 l1 l3 = some r → V 6 yX12_sooner cX12_sooner 7 (some .int) [] none 133 [(0, .ref l0), (1, .int l1), (3, .int l3)] [] h (oIh r) := by
  intro n
  induction n with
  | zero => intro h l0 l1 l3 r hf; cases hf
  | succ n ih =>
    intro h l0 l1 l3 r hf
    rw [f_X12_sooner_133] at hf
    refine V.iload_n dX12_sooner_133 rfl 2 rfl ?_
    refine V.aload_n dX12_sooner_134 rfl 0 rfl ?_
    obtain ⟨q1, e8, hf⟩ := bS hf
    obtain ⟨r2, e9, hf⟩ := bS hf
    refine V.callV (As := []) (st := [.int l3]) dX12_sooner_135 cl_RX12_230 sw_yX12_all (by decide) rfl (Nat.le_of_ble_eq_true rfl) rfl (gO_some e8) rfl (w_X12_all _ _ _ e9) ?_
    refine V.icmp_gt (tgt := 213) dX12_sooner_138 (by decide) (fun c3 => ?_) (fun c3 => ?_)
    · rw [if_pos c3] at hf
      refine V.iconst (v := (-1 : Int32)) dX12_sooner_213 (by decide) ?_
      obtain rfl := Option.some.inj hf
      exact V.iret dX12_sooner_214
    · rw [if_neg c3] at hf
      refine V.lconst (v := 0) dX12_sooner_141 (by decide) ?_
      refine V.lstore (lv' := [(4, .long (0 : Int64)), (0, .ref l0), (1, .int l1), (3, .int l3)]) dX12_sooner_142 (by decide) rfl ?_
      refine V.iconst (v := (0 : Int32)) dX12_sooner_144 (by decide) ?_
      refine V.istore (lv' := [(6, .int (0 : Int32)), (4, .long (0 : Int64)), (0, .ref l0), (1, .int l1), (3, .int l3)]) dX12_sooner_145 (by decide) rfl ?_
      refine V.sub [2, 3, 4, 1, 0] rfl ?_
      exact w_X12_sooner_147 ih _ _ _ _ _ _ _ _ hf

set_option maxRecDepth 20000 in
theorem w_X12_sooner_70 : ∀ (n : Nat) (h : xH) (l0 : Nat) (l1 : Int32) (l2 : Int32) (l3 : Int32) (r : Int32 × xH), f_X12_sooner_70 n h l0 l1 l2 l3 = some r → V 6 yX12_sooner cX12_sooner 7 (some .int) [] none 70 [(0, .ref l0), (1, .int l1), (2, .int l2), (3, .int l3)] [] h (oIh r) := by
  intro n
  induction n with
  | zero => intro h l0 l1 l2 l3 r hf; cases hf
  | succ n ih =>
    intro h l0 l1 l2 l3 r hf
    rw [f_X12_sooner_70] at hf
    refine V.iload_n dX12_sooner_70 rfl 3 rfl ?_
    refine V.aload_n dX12_sooner_71 rfl 0 rfl ?_
    obtain ⟨q1, e10, hf⟩ := bS hf
    obtain ⟨r2, e11, hf⟩ := bS hf
    refine V.callV (As := []) (st := [.int l3]) dX12_sooner_72 cl_RX12_228 sw_yX12_rooms (by decide) rfl (Nat.le_of_ble_eq_true rfl) rfl (gO_some e10) rfl (w_X12_rooms _ _ _ e11) ?_
    refine V.icmp_ge (tgt := 117) dX12_sooner_75 (by decide) (fun c3 => ?_) (fun c3 => ?_)
    · rw [if_pos c3] at hf
      refine V.iload_n dX12_sooner_117 rfl 2 rfl ?_
      refine V.if_ne (tgt := 127) dX12_sooner_118 (by decide) (fun c4 => ?_) (fun c4 => ?_)
      · rw [if_neg c4] at hf
        refine V.aload_n dX12_sooner_127 rfl 0 rfl ?_
        obtain ⟨q5, e12, hf⟩ := bS hf
        obtain ⟨r6, e13, hf⟩ := bS hf
        refine V.callV (As := []) (st := []) dX12_sooner_128 cl_RX12_380 sw_yX12_laySavings (by decide) rfl (Nat.le_of_ble_eq_true rfl) rfl (gO_some e12) rfl (w_X12_laySavings _ _ _ e13) ?_
        refine V.iconst (v := (1 : Int32)) dX12_sooner_131 (by decide) ?_
        refine V.istore_n (lv' := [(3, .int (1 : Int32)), (0, .ref l0), (1, .int l1), (2, .int l2)]) dX12_sooner_132 rfl (by decide) rfl ?_
        refine V.sub [1, 2, 0] rfl ?_
        exact w_X12_sooner_133 _ _ _ _ _ _ hf
      · rw [if_pos c4] at hf
        refine V.aload_n dX12_sooner_121 rfl 0 rfl ?_
        refine V.iconst (v := (4 : Int32)) dX12_sooner_122 (by decide) ?_
        obtain ⟨q7, e14, hf⟩ := bS hf
        obtain ⟨r8, e15, hf⟩ := bS hf
        refine V.callV (As := [.int (4 : Int32)]) (st := []) dX12_sooner_123 cl_RX12_219 sw_yX12_fails (by decide) rfl (Nat.le_of_ble_eq_true rfl) rfl (gO_some e14) rfl (w_X12_fails _ _ _ _ e15) ?_
        obtain rfl := Option.some.inj hf
        exact V.iret dX12_sooner_126
    · rw [if_neg c3] at hf
      refine V.iload_n dX12_sooner_78 rfl 2 rfl ?_
      refine V.if_eq (tgt := 109) dX12_sooner_79 (by decide) (fun c9 => ?_) (fun c9 => ?_)
      · rw [if_pos c9] at hf
        refine V.iconst (v := (0 : Int32)) dX12_sooner_109 (by decide) ?_
        refine V.istore_n (lv' := [(2, .int (0 : Int32)), (0, .ref l0), (1, .int l1), (3, .int l3)]) dX12_sooner_110 rfl (by decide) rfl ?_
        refine V.iinc (v := (l3 + 1)) (lv' := [(3, .int (l3 + 1)), (2, .int (0 : Int32)), (0, .ref l0), (1, .int l1)]) dX12_sooner_111 3 rfl rfl (Nat.le_of_ble_eq_true rfl) rfl ?_
        refine V.goto (tgt := 70) dX12_sooner_114 (by decide) ?_
        refine V.sub [2, 3, 1, 0] rfl ?_
        exact ih _ _ _ _ _ _ hf
      · rw [if_neg c9] at hf
        refine V.aload_n dX12_sooner_82 rfl 0 rfl ?_
        obtain ⟨v10, e16, hf⟩ := bS hf
        refine V.xgR dX12_sooner_83 fl_RX12_67 e16 ?_
        refine V.bipush (v := (40 : Int32)) dX12_sooner_86 (by decide) ?_
        refine V.iload_n dX12_sooner_88 rfl 1 rfl ?_
        refine V.imul dX12_sooner_89 ?_
        refine V.iload_n dX12_sooner_90 rfl 3 rfl ?_
        refine V.iadd dX12_sooner_91 ?_
        obtain ⟨v11, e17, hf⟩ := bS hf
        refine V.xldJ dX12_sooner_92 e17 ?_
        refine V.ldc2 (v := (-9999 : Int64)) dX12_sooner_93 cj_RX12_394 ?_
        refine V.ldc2 (v := (9999 : Int64)) dX12_sooner_96 cj_RX12_396 ?_
        obtain ⟨r12, e18, hf⟩ := bS hf
        refine V.callS (As := [.long v11, .long (-9999 : Int64), .long (9999 : Int64)]) (st := []) dX12_sooner_99 cl_RX12_134 sw_yX12_within (by decide) rfl (Nat.le_of_ble_eq_true rfl) rfl (w_X12_within _ _ _ _ _ e18) ?_
        refine V.if_eq (tgt := 109) dX12_sooner_102 (by decide) (fun c13 => ?_) (fun c13 => ?_)
        · rw [if_pos c13] at hf
          refine V.iconst (v := (0 : Int32)) dX12_sooner_109 (by decide) ?_
          refine V.istore_n (lv' := [(2, .int (0 : Int32)), (0, .ref l0), (1, .int l1), (3, .int l3)]) dX12_sooner_110 rfl (by decide) rfl ?_
          refine V.iinc (v := (l3 + 1)) (lv' := [(3, .int (l3 + 1)), (2, .int (0 : Int32)), (0, .ref l0), (1, .int l1)]) dX12_sooner_111 3 rfl rfl (Nat.le_of_ble_eq_true rfl) rfl ?_
          refine V.goto (tgt := 70) dX12_sooner_114 (by decide) ?_
          refine V.sub [2, 3, 1, 0] rfl ?_
          exact ih _ _ _ _ _ _ hf
        · rw [if_neg c13] at hf
          refine V.iconst (v := (1 : Int32)) dX12_sooner_105 (by decide) ?_
          refine V.goto (tgt := 110) dX12_sooner_106 (by decide) ?_
          refine V.istore_n (lv' := [(2, .int (1 : Int32)), (0, .ref l0), (1, .int l1), (3, .int l3)]) dX12_sooner_110 rfl (by decide) rfl ?_
          refine V.iinc (v := (l3 + 1)) (lv' := [(3, .int (l3 + 1)), (2, .int (1 : Int32)), (0, .ref l0), (1, .int l1)]) dX12_sooner_111 3 rfl rfl (Nat.le_of_ble_eq_true rfl) rfl ?_
          refine V.goto (tgt := 70) dX12_sooner_114 (by decide) ?_
          refine V.sub [2, 3, 1, 0] rfl ?_
          exact ih _ _ _ _ _ _ hf

set_option maxRecDepth 20000 in
theorem w_X12_sooner_67 (h : xH) (l0 : Nat) (l1 : Int32) (s0 : Int32) (r : Int32 × xH) (hf : f_X12_sooner_67 h l0 l1 s0 = some r) : V 6 yX12_sooner cX12_sooner 7 (some .int) [] none 67 [(0, .ref l0), (1, .int l1)] [.int s0] h (oIh r) := by
  unfold f_X12_sooner_67 at hf
  refine V.istore_n (lv' := [(2, .int s0), (0, .ref l0), (1, .int l1)]) dX12_sooner_67 rfl (by decide) rfl ?_
  refine V.iconst (v := (0 : Int32)) dX12_sooner_68 (by decide) ?_
  refine V.istore_n (lv' := [(3, .int (0 : Int32)), (2, .int s0), (0, .ref l0), (1, .int l1)]) dX12_sooner_69 rfl (by decide) rfl ?_
  refine V.sub [2, 3, 1, 0] rfl ?_
  exact w_X12_sooner_70 _ _ _ _ _ _ _ hf

set_option maxRecDepth 20000 in
theorem w_X12_sooner (h : xH) (l0 : Nat) (l1 : Int32) (r : Int32 × xH) (hf : f_X12_sooner h l0 l1 = some r) : Ev 6 yX12_sooner cX12_sooner 7 (some .int) [] [.ref l0, .int l1] h (oIh r) := by
  refine Ev.of (by decide +kernel) (Nat.le_of_ble_eq_true rfl) ?_
  unfold f_X12_sooner at hf
  refine V.aload_n dX12_sooner_0 rfl 0 rfl ?_
  refine V.iconst (v := (0 : Int32)) dX12_sooner_1 (by decide) ?_
  obtain ⟨h1, e19, hf⟩ := bS hf
  refine V.xpF dX12_sooner_2 fl_RX12_75 (fun h9 => nomatch h9) (fun _ => rfl) (fun _ => rfl) e19 ?_
  refine V.iload_n dX12_sooner_5 rfl 1 rfl ?_
  obtain ⟨r2, e20, hf⟩ := bS hf
  refine V.callS (As := [.int l1]) (st := []) dX12_sooner_6 cl_RX12_391 sw_yX12_isTray (by decide) rfl (Nat.le_of_ble_eq_true rfl) rfl (w_X12_isTray _ _ _ e20) ?_
  refine V.if_ne (tgt := 18) dX12_sooner_9 (by decide) (fun c3 => ?_) (fun c3 => ?_)
  · rw [if_neg c3] at hf
    refine V.aload_n dX12_sooner_18 rfl 0 rfl ?_
    obtain ⟨v4, e21, hf⟩ := bS hf
    refine V.xgR dX12_sooner_19 fl_RX12_61 e21 ?_
    refine V.iload_n dX12_sooner_22 rfl 1 rfl ?_
    obtain ⟨v5, e22, hf⟩ := bS hf
    refine V.xldI dX12_sooner_23 e22 ?_
    refine V.iconst (v := (-1 : Int32)) dX12_sooner_24 (by decide) ?_
    refine V.icmp_ne (tgt := 34) dX12_sooner_25 (by decide) (fun c6 => ?_) (fun c6 => ?_)
    · rw [if_neg c6] at hf
      refine V.aload_n dX12_sooner_34 rfl 0 rfl ?_
      obtain ⟨v7, e23, hf⟩ := bS hf
      refine V.xgR dX12_sooner_35 fl_RX12_64 e23 ?_
      refine V.iload_n dX12_sooner_38 rfl 1 rfl ?_
      obtain ⟨v8, e24, hf⟩ := bS hf
      refine V.xldI dX12_sooner_39 e24 ?_
      refine V.aload_n dX12_sooner_40 rfl 0 rfl ?_
      obtain ⟨q9, e25, hf⟩ := bS hf
      obtain ⟨r10, e26, hf⟩ := bS hf
      refine V.callV (As := []) (st := [.int v8]) dX12_sooner_41 cl_RX12_228 sw_yX12_rooms (by decide) rfl (Nat.le_of_ble_eq_true rfl) rfl (gO_some e25) rfl (w_X12_rooms _ _ _ e26) ?_
      refine V.icmp_ge (tgt := 53) dX12_sooner_44 (by decide) (fun c11 => ?_) (fun c11 => ?_)
      · rw [if_pos c11] at hf
        refine V.aload_n dX12_sooner_53 rfl 0 rfl ?_
        obtain ⟨q12, e27, hf⟩ := bS hf
        obtain ⟨r13, e28, hf⟩ := bS hf
        refine V.callV (As := []) (st := []) dX12_sooner_54 cl_RX12_228 sw_yX12_rooms (by decide) rfl (Nat.le_of_ble_eq_true rfl) rfl (gO_some e27) rfl (w_X12_rooms _ _ _ e28) ?_
        refine V.bipush (v := (10 : Int32)) dX12_sooner_57 (by decide) ?_
        refine V.icmp_gt (tgt := 66) dX12_sooner_59 (by decide) (fun c14 => ?_) (fun c14 => ?_)
        · rw [if_pos c14] at hf
          refine V.iconst (v := (0 : Int32)) dX12_sooner_66 (by decide) ?_
          exact w_X12_sooner_67 _ _ _ _ _ hf
        · rw [if_neg c14] at hf
          refine V.iconst (v := (1 : Int32)) dX12_sooner_62 (by decide) ?_
          refine V.goto (tgt := 67) dX12_sooner_63 (by decide) ?_
          exact w_X12_sooner_67 _ _ _ _ _ hf
      · rw [if_neg c11] at hf
        refine V.aload_n dX12_sooner_47 rfl 0 rfl ?_
        refine V.iconst (v := (3 : Int32)) dX12_sooner_48 (by decide) ?_
        obtain ⟨q15, e29, hf⟩ := bS hf
        obtain ⟨r16, e30, hf⟩ := bS hf
        refine V.callV (As := [.int (3 : Int32)]) (st := []) dX12_sooner_49 cl_RX12_219 sw_yX12_fails (by decide) rfl (Nat.le_of_ble_eq_true rfl) rfl (gO_some e29) rfl (w_X12_fails _ _ _ _ e30) ?_
        obtain rfl := Option.some.inj hf
        exact V.iret dX12_sooner_52
    · rw [if_pos c6] at hf
      refine V.aload_n dX12_sooner_28 rfl 0 rfl ?_
      refine V.iconst (v := (2 : Int32)) dX12_sooner_29 (by decide) ?_
      obtain ⟨q17, e31, hf⟩ := bS hf
      obtain ⟨r18, e32, hf⟩ := bS hf
      refine V.callV (As := [.int (2 : Int32)]) (st := []) dX12_sooner_30 cl_RX12_219 sw_yX12_fails (by decide) rfl (Nat.le_of_ble_eq_true rfl) rfl (gO_some e31) rfl (w_X12_fails _ _ _ _ e32) ?_
      obtain rfl := Option.some.inj hf
      exact V.iret dX12_sooner_33
  · rw [if_pos c3] at hf
    refine V.aload_n dX12_sooner_12 rfl 0 rfl ?_
    refine V.iconst (v := (1 : Int32)) dX12_sooner_13 (by decide) ?_
    obtain ⟨q19, e33, hf⟩ := bS hf
    obtain ⟨r20, e34, hf⟩ := bS hf
    refine V.callV (As := [.int (1 : Int32)]) (st := []) dX12_sooner_14 cl_RX12_219 sw_yX12_fails (by decide) rfl (Nat.le_of_ble_eq_true rfl) rfl (gO_some e33) rfl (w_X12_fails _ _ _ _ e34) ?_
    obtain rfl := Option.some.inj hf
    exact V.iret dX12_sooner_17

def f_X12_spare_70 (k33 : xH → Nat → Int32 → Int32 → Int32 → Int32 → Option (Int32 × xH)) (h : xH) (l0 : Nat) (l1 : Int32) (l3 : Int32) (l4 : Int32) (s0 : Int32) (s1 : Int32) : Option (Int32 × xH) := k33 h l0 l1 (s1 ||| s0) l3 (l4 + 1)
def f_X12_spare_69 (k33 : xH → Nat → Int32 → Int32 → Int32 → Int32 → Option (Int32 × xH)) (h : xH) (l0 : Nat) (l1 : Int32) (l3 : Int32) (l4 : Int32) (s0 : Int32) : Option (Int32 × xH) := f_X12_spare_70 k33 h l0 l1 l3 l4 (0 : Int32) s0
def f_X12_spare_33 : Nat → xH → Nat → Int32 → Int32 → Int32 → Int32 → Option (Int32 × xH)
  | 0, _, _, _, _, _, _ => none
  | n + 1, h, l0, l1, l2, l3, l4 => (gO h l0 12).bind fun q1 => (f_X12_rooms h l0).bind fun r2 => (if r2 ≤ l4 then (some ((l2, h))) else ((f_X12_has h l3 l4).bind fun r4 => (if r4 = 0 then (f_X12_spare_69 (f_X12_spare_33 n) h l0 l1 l3 l4 l2) else ((gO h l0 12).bind fun q6 => (f_X12_outBy h l0 l4 l1).bind fun r7 => (if r7.1 = 0 then (f_X12_spare_70 (f_X12_spare_33 n) r7.2 l0 l1 l3 l4 ((1 : Int32) <<< (l4 &&& 31)) l2) else (f_X12_spare_69 (f_X12_spare_33 n) r7.2 l0 l1 l3 l4 l2))))))
def f_X12_spare (h : xH) (l0 : Nat) (l1 : Int32) : Option (Int32 × xH) := (pF h l0 12 4 (.int (0 : Int32))).bind fun h1 => (f_X12_isHour h1 l1).bind fun r2 => (if r2 = 0 then ((gO h1 l0 12).bind fun q8 => (f_X12_fails h1 l0 (1 : Int32)).bind fun r9 => some ((r9.1, r9.2))) else ((gO h1 l0 12).bind fun q4 => (f_X12_layShine h1 l0 l1).bind fun r5 => (gO r5 l0 12).bind fun q6 => (f_X12_shining r5 l0).bind fun r7 => f_X12_spare_33 xFU r5 l0 l1 (0 : Int32) r7 (0 : Int32)))
set_option maxRecDepth 20000 in
theorem w_X12_spare_70 (h : xH) {k33 : xH → Nat → Int32 → Int32 → Int32 → Int32 → Option (Int32 × xH)} (hk33 : ∀ (h : xH) (l0 : Nat) (l1 : Int32) (l2 : Int32) (l3 : Int32) (l4 : Int32) (r : Int32 × xH), k33 h l0 l1 l2 l3 l4 = some r → V 8 yX12_spare cX12_spare 5 (some .int) [] none 33 [(0, .ref l0), (1, .int l1), (2, .int l2), (3, .int l3), (4, .int l4)] [] h (oIh r)) (l0 : Nat) (l1 : Int32) (l3 : Int32) (l4 : Int32) (s0 : Int32) (s1 : Int32) (r : Int32 × xH) (hf : f_X12_spare_70 k33 h l0 l1 l3 l4 s0 s1 = some r) : V 8 yX12_spare cX12_spare 5 (some .int) [] none 70 [(0, .ref l0), (1, .int l1), (3, .int l3), (4, .int l4)] [.int s0, .int s1] h (oIh r) := by
  unfold f_X12_spare_70 at hf
  refine V.ior dX12_spare_70 ?_
  refine V.istore_n (lv' := [(2, .int (s1 ||| s0)), (0, .ref l0), (1, .int l1), (3, .int l3), (4, .int l4)]) dX12_spare_71 rfl (by decide) rfl ?_
  refine V.iinc (v := (l4 + 1)) (lv' := [(4, .int (l4 + 1)), (2, .int (s1 ||| s0)), (0, .ref l0), (1, .int l1), (3, .int l3)]) dX12_spare_72 4 rfl rfl (Nat.le_of_ble_eq_true rfl) rfl ?_
  refine V.goto (tgt := 33) dX12_spare_75 (by decide) ?_
  refine V.sub [2, 3, 1, 4, 0] rfl ?_
  exact hk33 _ _ _ _ _ _ _ hf

set_option maxRecDepth 20000 in
theorem w_X12_spare_69 (h : xH) {k33 : xH → Nat → Int32 → Int32 → Int32 → Int32 → Option (Int32 × xH)} (hk33 : ∀ (h : xH) (l0 : Nat) (l1 : Int32) (l2 : Int32) (l3 : Int32) (l4 : Int32) (r : Int32 × xH), k33 h l0 l1 l2 l3 l4 = some r → V 8 yX12_spare cX12_spare 5 (some .int) [] none 33 [(0, .ref l0), (1, .int l1), (2, .int l2), (3, .int l3), (4, .int l4)] [] h (oIh r)) (l0 : Nat) (l1 : Int32) (l3 : Int32) (l4 : Int32) (s0 : Int32) (r : Int32 × xH) (hf : f_X12_spare_69 k33 h l0 l1 l3 l4 s0 = some r) : V 8 yX12_spare cX12_spare 5 (some .int) [] none 69 [(0, .ref l0), (1, .int l1), (3, .int l3), (4, .int l4)] [.int s0] h (oIh r) := by
  unfold f_X12_spare_69 at hf
  refine V.iconst (v := (0 : Int32)) dX12_spare_69 (by decide) ?_
  exact w_X12_spare_70 _ hk33 _ _ _ _ _ _ _ hf

set_option maxRecDepth 20000 in
theorem w_X12_spare_33 : ∀ (n : Nat) (h : xH) (l0 : Nat) (l1 : Int32) (l2 : Int32) (l3 : Int32) (l4 : Int32) (r : Int32 × xH), f_X12_spare_33 n h l0 l1 l2 l3 l4 = some r → V 8 yX12_spare cX12_spare 5 (some .int) [] none 33 [(0, .ref l0), (1, .int l1), (2, .int l2), (3, .int l3), (4, .int l4)] [] h (oIh r) := by
  intro n
  induction n with
  | zero => intro h l0 l1 l2 l3 l4 r hf; cases hf
  | succ n ih =>
    intro h l0 l1 l2 l3 l4 r hf
    rw [f_X12_spare_33] at hf
    refine V.iload dX12_spare_33 4 rfl ?_
    refine V.aload_n dX12_spare_35 rfl 0 rfl ?_
    obtain ⟨q1, e1, hf⟩ := bS hf
    obtain ⟨r2, e2, hf⟩ := bS hf
    refine V.callV (As := []) (st := [.int l4]) dX12_spare_36 cl_RX12_228 sw_yX12_rooms (by decide) rfl (Nat.le_of_ble_eq_true rfl) rfl (gO_some e1) rfl (w_X12_rooms _ _ _ e2) ?_
    refine V.icmp_ge (tgt := 78) dX12_spare_39 (by decide) (fun c3 => ?_) (fun c3 => ?_)
    · rw [if_pos c3] at hf
      refine V.iload_n dX12_spare_78 rfl 2 rfl ?_
      obtain rfl := Option.some.inj hf
      exact V.iret dX12_spare_79
    · rw [if_neg c3] at hf
      refine V.iload_n dX12_spare_42 rfl 2 rfl ?_
      refine V.iload_n dX12_spare_43 rfl 3 rfl ?_
      refine V.iload dX12_spare_44 4 rfl ?_
      obtain ⟨r4, e3, hf⟩ := bS hf
      refine V.callS (As := [.int l3, .int l4]) (st := [.int l2]) dX12_spare_46 cl_RX12_246 sw_yX12_has (by decide) rfl (Nat.le_of_ble_eq_true rfl) rfl (w_X12_has _ _ _ _ e3) ?_
      refine V.if_eq (tgt := 69) dX12_spare_49 (by decide) (fun c5 => ?_) (fun c5 => ?_)
      · rw [if_pos c5] at hf
        refine V.sub [0, 1, 3, 4] rfl ?_
        exact w_X12_spare_69 _ ih _ _ _ _ _ _ hf
      · rw [if_neg c5] at hf
        refine V.aload_n dX12_spare_52 rfl 0 rfl ?_
        refine V.iload dX12_spare_53 4 rfl ?_
        refine V.iload_n dX12_spare_55 rfl 1 rfl ?_
        obtain ⟨q6, e4, hf⟩ := bS hf
        obtain ⟨r7, e5, hf⟩ := bS hf
        refine V.callV (As := [.int l4, .int l1]) (st := [.int l2]) dX12_spare_56 cl_RX12_282 sw_yX12_outBy (by decide) rfl (Nat.le_of_ble_eq_true rfl) rfl (gO_some e4) rfl (w_X12_outBy _ _ _ _ _ e5) ?_
        refine V.if_ne (tgt := 69) dX12_spare_59 (by decide) (fun c8 => ?_) (fun c8 => ?_)
        · rw [if_neg c8] at hf
          refine V.sub [0, 1, 3, 4] rfl ?_
          exact w_X12_spare_69 _ ih _ _ _ _ _ _ hf
        · rw [if_pos c8] at hf
          refine V.iconst (v := (1 : Int32)) dX12_spare_62 (by decide) ?_
          refine V.iload dX12_spare_63 4 rfl ?_
          refine V.ishl dX12_spare_65 ?_
          refine V.goto (tgt := 70) dX12_spare_66 (by decide) ?_
          refine V.sub [0, 1, 3, 4] rfl ?_
          exact w_X12_spare_70 _ ih _ _ _ _ _ _ _ hf

set_option maxRecDepth 20000 in
theorem w_X12_spare (h : xH) (l0 : Nat) (l1 : Int32) (r : Int32 × xH) (hf : f_X12_spare h l0 l1 = some r) : Ev 8 yX12_spare cX12_spare 5 (some .int) [] [.ref l0, .int l1] h (oIh r) := by
  refine Ev.of (by decide +kernel) (Nat.le_of_ble_eq_true rfl) ?_
  unfold f_X12_spare at hf
  refine V.aload_n dX12_spare_0 rfl 0 rfl ?_
  refine V.iconst (v := (0 : Int32)) dX12_spare_1 (by decide) ?_
  obtain ⟨h1, e6, hf⟩ := bS hf
  refine V.xpF dX12_spare_2 fl_RX12_75 (fun h9 => nomatch h9) (fun _ => rfl) (fun _ => rfl) e6 ?_
  refine V.iload_n dX12_spare_5 rfl 1 rfl ?_
  obtain ⟨r2, e7, hf⟩ := bS hf
  refine V.callS (As := [.int l1]) (st := []) dX12_spare_6 cl_RX12_270 sw_yX12_isHour (by decide) rfl (Nat.le_of_ble_eq_true rfl) rfl (w_X12_isHour _ _ _ e7) ?_
  refine V.if_ne (tgt := 18) dX12_spare_9 (by decide) (fun c3 => ?_) (fun c3 => ?_)
  · rw [if_neg c3] at hf
    refine V.iconst (v := (0 : Int32)) dX12_spare_18 (by decide) ?_
    refine V.istore_n (lv' := [(2, .int (0 : Int32)), (0, .ref l0), (1, .int l1)]) dX12_spare_19 rfl (by decide) rfl ?_
    refine V.aload_n dX12_spare_20 rfl 1 rfl ?_
    refine V.iload_n dX12_spare_21 rfl 2 rfl ?_
    obtain ⟨q4, e8, hf⟩ := bS hf
    obtain ⟨r5, e9, hf⟩ := bS hf
    refine V.callV (As := [.int l1]) (st := []) dX12_spare_22 cl_RX12_256 sw_yX12_layShine (by decide) rfl (Nat.le_of_ble_eq_true rfl) rfl (gO_some e8) rfl (w_X12_layShine _ _ _ _ e9) ?_
    refine V.aload_n dX12_spare_25 rfl 1 rfl ?_
    obtain ⟨q6, e10, hf⟩ := bS hf
    obtain ⟨r7, e11, hf⟩ := bS hf
    refine V.callV (As := []) (st := []) dX12_spare_26 cl_RX12_276 sw_yX12_shining (by decide) rfl (Nat.le_of_ble_eq_true rfl) rfl (gO_some e10) rfl (w_X12_shining _ _ _ e11) ?_
    refine V.istore_n (lv' := [(3, .int r7), (2, .int (0 : Int32)), (0, .ref l0), (1, .int l1)]) dX12_spare_29 rfl (by decide) rfl ?_
    refine V.iconst (v := (0 : Int32)) dX12_spare_30 (by decide) ?_
    refine V.istore (lv' := [(4, .int (0 : Int32)), (3, .int r7), (2, .int (0 : Int32)), (0, .ref l0), (1, .int l1)]) dX12_spare_31 (by decide) rfl ?_
    refine V.sub [3, 4, 2, 1, 0] rfl ?_
    exact w_X12_spare_33 _ _ _ _ _ _ _ _ hf
  · rw [if_pos c3] at hf
    refine V.aload_n dX12_spare_12 rfl 0 rfl ?_
    refine V.iconst (v := (1 : Int32)) dX12_spare_13 (by decide) ?_
    obtain ⟨q8, e12, hf⟩ := bS hf
    obtain ⟨r9, e13, hf⟩ := bS hf
    refine V.callV (As := [.int (1 : Int32)]) (st := []) dX12_spare_14 cl_RX12_219 sw_yX12_fails (by decide) rfl (Nat.le_of_ble_eq_true rfl) rfl (gO_some e12) rfl (w_X12_fails _ _ _ _ e13) ?_
    obtain rfl := Option.some.inj hf
    exact V.iret dX12_spare_17

def f_X12_thrown (h : xH) (l0 : Nat) : Option (Int32) := (gI h l0 12 4).bind fun v1 => some (v1)
set_option maxRecDepth 20000 in
theorem w_X12_thrown (h : xH) (l0 : Nat) (r : Int32) (hf : f_X12_thrown h l0 = some r) : Ev 3 yX12_thrown cX12_thrown 1 (some .int) [] [.ref l0] h (oI h r) := by
  refine Ev.of (by decide +kernel) (Nat.le_of_ble_eq_true rfl) ?_
  unfold f_X12_thrown at hf
  refine V.aload_n dX12_thrown_0 rfl 0 rfl ?_
  obtain ⟨v1, e1, hf⟩ := bS hf
  refine V.xgI dX12_thrown_1 fl_RX12_75 e1 ?_
  obtain rfl := Option.some.inj hf
  exact V.iret dX12_thrown_4

def f_X12_tray_69 : Nat → xH → Nat → Int32 → Int32 → Option (xH)
  | 0, _, _, _, _ => none
  | n + 1, h, l0, l1, l4 => (if (40 : Int32) ≤ l4 then (some (h)) else ((gR h l0 12 31).bind fun v2 => (stJ h v2 (((40 : Int32) * l1) + l4) (0 : Int64)).bind fun h3 => f_X12_tray_69 n h3 l0 l1 (l4 + 1)))
def f_X12_tray_41 (h : xH) (l0 : Nat) (l1 : Int32) (l2 : Int32) (l3 : Int32) (s0 : Int32) (s1 : Nat) : Option (xH) := (pF h s1 12 4 (.int s0)).bind fun h1 => (gI h1 l0 12 4).bind fun v2 => (if v2 ≤ 0 then ((gR h1 l0 12 29).bind fun v4 => (stI h1 .int v4 l1 l2).bind fun h5 => (gR h5 l0 12 30).bind fun v6 => (stI h5 .int v6 l1 l3).bind fun h7 => f_X12_tray_69 xFU h7 l0 l1 (0 : Int32)) else (some (h1)))
def f_X12_tray_36 (h : xH) (l0 : Nat) (l1 : Int32) (l2 : Int32) (l3 : Int32) (s0 : Nat) : Option (xH) := f_X12_tray_41 h l0 l1 l2 l3 (2 : Int32) s0
def f_X12_tray (h : xH) (l0 : Nat) (l1 : Int32) (l2 : Int32) (l3 : Int32) : Option (xH) := (f_X12_isTray h l1).bind fun r1 => (if r1 = 0 then (f_X12_tray_41 h l0 l1 l2 l3 (1 : Int32) l0) else ((f_X12_within h (Int32.toInt64 l2) (0 : Int64) (3 : Int64)).bind fun r3 => (if r3 = 0 then (f_X12_tray_36 h l0 l1 l2 l3 l0) else ((f_X12_within h (Int32.toInt64 l3) (0 : Int64) (40 : Int64)).bind fun r5 => (if r5 = 0 then (f_X12_tray_36 h l0 l1 l2 l3 l0) else (f_X12_tray_41 h l0 l1 l2 l3 (0 : Int32) l0))))))
set_option maxRecDepth 20000 in
theorem w_X12_tray_69 : ∀ (n : Nat) (h : xH) (l0 : Nat) (l1 : Int32) (l4 : Int32) (r : xH), f_X12_tray_69 n h l0 l1 l4 = some r → V 5 yX12_tray cX12_tray 5 none [] none 69 [(0, .ref l0), (1, .int l1), (4, .int l4)] [] h (oVh r) := by
  intro n
  induction n with
  | zero => intro h l0 l1 l4 r hf; cases hf
  | succ n ih =>
    intro h l0 l1 l4 r hf
    rw [f_X12_tray_69] at hf
    refine V.iload dX12_tray_69 2 rfl ?_
    refine V.bipush (v := (40 : Int32)) dX12_tray_71 (by decide) ?_
    refine V.icmp_ge (tgt := 95) dX12_tray_73 (by decide) (fun c1 => ?_) (fun c1 => ?_)
    · rw [if_pos c1] at hf
      obtain rfl := Option.some.inj hf
      exact V.vret dX12_tray_95
    · rw [if_neg c1] at hf
      refine V.aload_n dX12_tray_76 rfl 0 rfl ?_
      obtain ⟨v2, e1, hf⟩ := bS hf
      refine V.xgR dX12_tray_77 fl_RX12_67 e1 ?_
      refine V.bipush (v := (40 : Int32)) dX12_tray_80 (by decide) ?_
      refine V.iload_n dX12_tray_82 rfl 1 rfl ?_
      refine V.imul dX12_tray_83 ?_
      refine V.iload dX12_tray_84 2 rfl ?_
      refine V.iadd dX12_tray_86 ?_
      refine V.lconst (v := 0) dX12_tray_87 (by decide) ?_
      obtain ⟨h3, e2, hf⟩ := bS hf
      refine V.xstJ dX12_tray_88 e2 ?_
      refine V.iinc (v := (l4 + 1)) (lv' := [(4, .int (l4 + 1)), (0, .ref l0), (1, .int l1)]) dX12_tray_89 2 rfl rfl (Nat.le_of_ble_eq_true rfl) rfl ?_
      refine V.goto (tgt := 69) dX12_tray_92 (by decide) ?_
      refine V.sub [1, 2, 0] rfl ?_
      exact ih _ _ _ _ _ hf

set_option maxRecDepth 20000 in
theorem w_X12_tray_41 (h : xH) (l0 : Nat) (l1 : Int32) (l2 : Int32) (l3 : Int32) (s0 : Int32) (s1 : Nat) (r : xH) (hf : f_X12_tray_41 h l0 l1 l2 l3 s0 s1 = some r) : V 5 yX12_tray cX12_tray 5 none [] none 41 [(0, .ref l0), (1, .int l1), (2, .int l2), (3, .int l3)] [.int s0, .ref s1] h (oVh r) := by
  unfold f_X12_tray_41 at hf
  obtain ⟨h1, e3, hf⟩ := bS hf
  refine V.xpF dX12_tray_41 fl_RX12_75 (fun h9 => nomatch h9) (fun _ => rfl) (fun _ => rfl) e3 ?_
  refine V.aload_n dX12_tray_44 rfl 0 rfl ?_
  obtain ⟨v2, e4, hf⟩ := bS hf
  refine V.xgI dX12_tray_45 fl_RX12_75 e4 ?_
  refine V.if_le (tgt := 52) dX12_tray_48 (by decide) (fun c3 => ?_) (fun c3 => ?_)
  · rw [if_pos c3] at hf
    refine V.aload_n dX12_tray_52 rfl 0 rfl ?_
    obtain ⟨v4, e5, hf⟩ := bS hf
    refine V.xgR dX12_tray_53 fl_RX12_61 e5 ?_
    refine V.iload_n dX12_tray_56 rfl 1 rfl ?_
    refine V.iload_n dX12_tray_57 rfl 2 rfl ?_
    obtain ⟨h5, e6, hf⟩ := bS hf
    refine V.xstI dX12_tray_58 e6 ?_
    refine V.aload_n dX12_tray_59 rfl 0 rfl ?_
    obtain ⟨v6, e7, hf⟩ := bS hf
    refine V.xgR dX12_tray_60 fl_RX12_64 e7 ?_
    refine V.iload_n dX12_tray_63 rfl 1 rfl ?_
    refine V.iload_n dX12_tray_64 rfl 3 rfl ?_
    obtain ⟨h7, e8, hf⟩ := bS hf
    refine V.xstI dX12_tray_65 e8 ?_
    refine V.iconst (v := (0 : Int32)) dX12_tray_66 (by decide) ?_
    refine V.istore (lv' := [(4, .int (0 : Int32)), (0, .ref l0), (1, .int l1), (2, .int l2), (3, .int l3)]) dX12_tray_67 (by decide) rfl ?_
    refine V.sub [1, 2, 0] rfl ?_
    exact w_X12_tray_69 _ _ _ _ _ _ hf
  · rw [if_neg c3] at hf
    obtain rfl := Option.some.inj hf
    exact V.vret dX12_tray_51

set_option maxRecDepth 20000 in
theorem w_X12_tray_36 (h : xH) (l0 : Nat) (l1 : Int32) (l2 : Int32) (l3 : Int32) (s0 : Nat) (r : xH) (hf : f_X12_tray_36 h l0 l1 l2 l3 s0 = some r) : V 5 yX12_tray cX12_tray 5 none [] none 36 [(0, .ref l0), (1, .int l1), (2, .int l2), (3, .int l3)] [.ref s0] h (oVh r) := by
  unfold f_X12_tray_36 at hf
  refine V.iconst (v := (2 : Int32)) dX12_tray_36 (by decide) ?_
  refine V.goto (tgt := 41) dX12_tray_37 (by decide) ?_
  exact w_X12_tray_41 _ _ _ _ _ _ _ _ hf

set_option maxRecDepth 20000 in
theorem w_X12_tray (h : xH) (l0 : Nat) (l1 : Int32) (l2 : Int32) (l3 : Int32) (r : xH) (hf : f_X12_tray h l0 l1 l2 l3 = some r) : Ev 5 yX12_tray cX12_tray 5 none [] [.ref l0, .int l1, .int l2, .int l3] h (oVh r) := by
  refine Ev.of (by decide +kernel) (Nat.le_of_ble_eq_true rfl) ?_
  unfold f_X12_tray at hf
  refine V.aload_n dX12_tray_0 rfl 0 rfl ?_
  refine V.iload_n dX12_tray_1 rfl 1 rfl ?_
  obtain ⟨r1, e9, hf⟩ := bS hf
  refine V.callS (As := [.int l1]) (st := [.ref l0]) dX12_tray_2 cl_RX12_391 sw_yX12_isTray (by decide) rfl (Nat.le_of_ble_eq_true rfl) rfl (w_X12_isTray _ _ _ e9) ?_
  refine V.if_ne (tgt := 12) dX12_tray_5 (by decide) (fun c2 => ?_) (fun c2 => ?_)
  · rw [if_neg c2] at hf
    refine V.iload_n dX12_tray_12 rfl 2 rfl ?_
    refine V.i2l dX12_tray_13 ?_
    refine V.lconst (v := 0) dX12_tray_14 (by decide) ?_
    refine V.ldc2 (v := (3 : Int64)) dX12_tray_15 cj_RX12_235 ?_
    obtain ⟨r3, e10, hf⟩ := bS hf
    refine V.callS (As := [.long (Int32.toInt64 l2), .long (0 : Int64), .long (3 : Int64)]) (st := [.ref l0]) dX12_tray_18 cl_RX12_134 sw_yX12_within (by decide) rfl (Nat.le_of_ble_eq_true rfl) rfl (w_X12_within _ _ _ _ _ e10) ?_
    refine V.if_eq (tgt := 36) dX12_tray_21 (by decide) (fun c4 => ?_) (fun c4 => ?_)
    · rw [if_pos c4] at hf
      exact w_X12_tray_36 _ _ _ _ _ _ _ hf
    · rw [if_neg c4] at hf
      refine V.iload_n dX12_tray_24 rfl 3 rfl ?_
      refine V.i2l dX12_tray_25 ?_
      refine V.lconst (v := 0) dX12_tray_26 (by decide) ?_
      refine V.ldc2 (v := (40 : Int64)) dX12_tray_27 cj_RX12_409 ?_
      obtain ⟨r5, e11, hf⟩ := bS hf
      refine V.callS (As := [.long (Int32.toInt64 l3), .long (0 : Int64), .long (40 : Int64)]) (st := [.ref l0]) dX12_tray_30 cl_RX12_134 sw_yX12_within (by decide) rfl (Nat.le_of_ble_eq_true rfl) rfl (w_X12_within _ _ _ _ _ e11) ?_
      refine V.if_ne (tgt := 40) dX12_tray_33 (by decide) (fun c6 => ?_) (fun c6 => ?_)
      · rw [if_neg c6] at hf
        refine V.iconst (v := (0 : Int32)) dX12_tray_40 (by decide) ?_
        exact w_X12_tray_41 _ _ _ _ _ _ _ _ hf
      · rw [if_pos c6] at hf
        exact w_X12_tray_36 _ _ _ _ _ _ _ hf
  · rw [if_pos c2] at hf
    refine V.iconst (v := (1 : Int32)) dX12_tray_8 (by decide) ?_
    refine V.goto (tgt := 41) dX12_tray_9 (by decide) ?_
    exact w_X12_tray_41 _ _ _ _ _ _ _ _ hf

def f_X12_upper (h : xH) (l0 : Nat) : Option (Int64 × xH) := (pF h l0 12 4 (.int (0 : Int32))).bind fun h1 => (gJ h1 l0 12 24).bind fun v2 => some ((v2, h1))
set_option maxRecDepth 20000 in
theorem w_X12_upper (h : xH) (l0 : Nat) (r : Int64 × xH) (hf : f_X12_upper h l0 = some r) : Ev 3 yX12_upper cX12_upper 1 (some .long) [] [.ref l0] h (oJh r) := by
  refine Ev.of (by decide +kernel) (Nat.le_of_ble_eq_true rfl) ?_
  unfold f_X12_upper at hf
  refine V.aload_n dX12_upper_0 rfl 0 rfl ?_
  refine V.iconst (v := (0 : Int32)) dX12_upper_1 (by decide) ?_
  obtain ⟨h1, e1, hf⟩ := bS hf
  refine V.xpF dX12_upper_2 fl_RX12_75 (fun h9 => nomatch h9) (fun _ => rfl) (fun _ => rfl) e1 ?_
  refine V.aload_n dX12_upper_5 rfl 0 rfl ?_
  obtain ⟨v2, e2, hf⟩ := bS hf
  refine V.xgJ dX12_upper_6 fl_RX12_373 e2 ?_
  obtain rfl := Option.some.inj hf
  exact V.lret dX12_upper_9

def f_X12_walk_21 (h : xH) (l0 : Nat) : Option (Int32 × xH) := (gO h l0 12).bind fun q1 => (f_X12_fails h l0 (1 : Int32)).bind fun r2 => some ((r2.1, r2.2))
def f_X12_walk (h : xH) (l0 : Nat) (l1 : Int32) (l2 : Int32) : Option (Int32 × xH) := (pF h l0 12 4 (.int (0 : Int32))).bind fun h1 => (gO h1 l0 12).bind fun q2 => (f_X12_isRoom h1 l0 l1).bind fun r3 => (if r3 = 0 then (f_X12_walk_21 h1 l0) else ((gO h1 l0 12).bind fun q5 => (f_X12_isRoom h1 l0 l2).bind fun r6 => (if r6 = 0 then (f_X12_walk_21 h1 l0) else ((gO h1 l0 12).bind fun q8 => (f_X12_layWalks h1 l0).bind fun r9 => (gR r9 l0 12 21).bind fun v10 => (ldI r9 .int v10 (((16 : Int32) * l1) + l2)).bind fun v11 => (if v11 < (1000000 : Int32) then (some ((v11, r9))) else (some (((-1 : Int32), r9))))))))
set_option maxRecDepth 20000 in
theorem w_X12_walk_21 (h : xH) (l0 : Nat) (r : Int32 × xH) (hf : f_X12_walk_21 h l0 = some r) : V 5 yX12_walk cX12_walk 4 (some .int) [] none 21 [(0, .ref l0)] [] h (oIh r) := by
  unfold f_X12_walk_21 at hf
  refine V.aload_n dX12_walk_21 rfl 0 rfl ?_
  refine V.iconst (v := (1 : Int32)) dX12_walk_22 (by decide) ?_
  obtain ⟨q1, e1, hf⟩ := bS hf
  obtain ⟨r2, e2, hf⟩ := bS hf
  refine V.callV (As := [.int (1 : Int32)]) (st := []) dX12_walk_23 cl_RX12_219 sw_yX12_fails (by decide) rfl (Nat.le_of_ble_eq_true rfl) rfl (gO_some e1) rfl (w_X12_fails _ _ _ _ e2) ?_
  obtain rfl := Option.some.inj hf
  exact V.iret dX12_walk_26

set_option maxRecDepth 20000 in
theorem w_X12_walk (h : xH) (l0 : Nat) (l1 : Int32) (l2 : Int32) (r : Int32 × xH) (hf : f_X12_walk h l0 l1 l2 = some r) : Ev 5 yX12_walk cX12_walk 4 (some .int) [] [.ref l0, .int l1, .int l2] h (oIh r) := by
  refine Ev.of (by decide +kernel) (Nat.le_of_ble_eq_true rfl) ?_
  unfold f_X12_walk at hf
  refine V.aload_n dX12_walk_0 rfl 0 rfl ?_
  refine V.iconst (v := (0 : Int32)) dX12_walk_1 (by decide) ?_
  obtain ⟨h1, e3, hf⟩ := bS hf
  refine V.xpF dX12_walk_2 fl_RX12_75 (fun h9 => nomatch h9) (fun _ => rfl) (fun _ => rfl) e3 ?_
  refine V.aload_n dX12_walk_5 rfl 0 rfl ?_
  refine V.iload_n dX12_walk_6 rfl 1 rfl ?_
  obtain ⟨q2, e4, hf⟩ := bS hf
  obtain ⟨r3, e5, hf⟩ := bS hf
  refine V.callV (As := [.int l1]) (st := []) dX12_walk_7 cl_RX12_240 sw_yX12_isRoom (by decide) rfl (Nat.le_of_ble_eq_true rfl) rfl (gO_some e4) rfl (w_X12_isRoom _ _ _ _ e5) ?_
  refine V.if_eq (tgt := 21) dX12_walk_10 (by decide) (fun c4 => ?_) (fun c4 => ?_)
  · rw [if_pos c4] at hf
    refine V.sub [0] rfl ?_
    exact w_X12_walk_21 _ _ _ hf
  · rw [if_neg c4] at hf
    refine V.aload_n dX12_walk_13 rfl 0 rfl ?_
    refine V.iload_n dX12_walk_14 rfl 2 rfl ?_
    obtain ⟨q5, e6, hf⟩ := bS hf
    obtain ⟨r6, e7, hf⟩ := bS hf
    refine V.callV (As := [.int l2]) (st := []) dX12_walk_15 cl_RX12_240 sw_yX12_isRoom (by decide) rfl (Nat.le_of_ble_eq_true rfl) rfl (gO_some e6) rfl (w_X12_isRoom _ _ _ _ e7) ?_
    refine V.if_ne (tgt := 27) dX12_walk_18 (by decide) (fun c7 => ?_) (fun c7 => ?_)
    · rw [if_neg c7] at hf
      refine V.aload_n dX12_walk_27 rfl 0 rfl ?_
      obtain ⟨q8, e8, hf⟩ := bS hf
      obtain ⟨r9, e9, hf⟩ := bS hf
      refine V.callV (As := []) (st := []) dX12_walk_28 cl_RX12_347 sw_yX12_layWalks (by decide) rfl (Nat.le_of_ble_eq_true rfl) rfl (gO_some e8) rfl (w_X12_layWalks _ _ _ e9) ?_
      refine V.aload_n dX12_walk_31 rfl 0 rfl ?_
      obtain ⟨v10, e10, hf⟩ := bS hf
      refine V.xgR dX12_walk_32 fl_RX12_45 e10 ?_
      refine V.bipush (v := (16 : Int32)) dX12_walk_35 (by decide) ?_
      refine V.iload_n dX12_walk_37 rfl 1 rfl ?_
      refine V.imul dX12_walk_38 ?_
      refine V.iload_n dX12_walk_39 rfl 2 rfl ?_
      refine V.iadd dX12_walk_40 ?_
      obtain ⟨v11, e11, hf⟩ := bS hf
      refine V.xldI dX12_walk_41 e11 ?_
      refine V.istore_n (lv' := [(3, .int v11), (0, .ref l0), (1, .int l1), (2, .int l2)]) dX12_walk_42 rfl (by decide) rfl ?_
      refine V.iload_n dX12_walk_43 rfl 0 rfl ?_
      refine V.ldcw (v := 1000000) dX12_walk_44 co_RX12_343 ?_
      refine V.icmp_lt (tgt := 54) dX12_walk_47 (by decide) (fun c12 => ?_) (fun c12 => ?_)
      · rw [if_pos c12] at hf
        refine V.iload_n dX12_walk_54 rfl 0 rfl ?_
        obtain rfl := Option.some.inj hf
        exact V.iret dX12_walk_55
      · rw [if_neg c12] at hf
        refine V.iconst (v := (-1 : Int32)) dX12_walk_50 (by decide) ?_
        refine V.goto (tgt := 55) dX12_walk_51 (by decide) ?_
        obtain rfl := Option.some.inj hf
        exact V.iret dX12_walk_55
    · rw [if_pos c7] at hf
      refine V.sub [0] rfl ?_
      exact w_X12_walk_21 _ _ _ hf

def f_X12_which_91 (k11 : xH → Nat → Int32 → Int32 → Int32 → Option (Int32 × xH)) (h : xH) (l0 : Nat) (l3 : Int32) (l4 : Int32) : Option (Int32 × xH) := k11 h l0 l3 l4 (l3 + 1)
def f_X12_which_75 (k11 : xH → Nat → Int32 → Int32 → Int32 → Option (Int32 × xH)) (h : xH) (l0 : Nat) (l1 : Int32) (l2 : Int32) (l3 : Int32) (l4 : Int32) (s0 : Int32) : Option (Int32 × xH) := (if l2 < l4 then (f_X12_which_91 k11 h l0 l3 l4) else ((if s0 = 0 then (k11 h l0 l1 l2 (l3 + 1)) else (f_X12_which_91 k11 h l0 l3 l4))))
def f_X12_which_74 (k11 : xH → Nat → Int32 → Int32 → Int32 → Option (Int32 × xH)) (h : xH) (l0 : Nat) (l1 : Int32) (l2 : Int32) (l3 : Int32) (l4 : Int32) : Option (Int32 × xH) := f_X12_which_75 k11 h l0 l1 l2 l3 l4 (0 : Int32)
def f_X12_which_11 : Nat → xH → Nat → Int32 → Int32 → Int32 → Option (Int32 × xH)
  | 0, _, _, _, _, _ => none
  | n + 1, h, l0, l1, l2, l3 => (gR h l0 12 0).bind fun v1 => (ldI h .int v1 (5 : Int32)).bind fun v2 => (if v2 ≤ l3 then (some ((l1, h))) else ((gO h l0 12).bind fun q4 => (f_X12_savesOf h l0 l3).bind fun r5 => (if l1 = (-1 : Int32) then (f_X12_which_74 (f_X12_which_11 n) r5.2 l0 l1 l2 l3 (r5.1)) else ((if r5.1 = l2 then ((gR r5.2 l0 12 0).bind fun v8 => (ldI r5.2 .int v8 (((376 : Int32) + ((5 : Int32) * l3)) + (3 : Int32))).bind fun v9 => (gR r5.2 l0 12 0).bind fun v10 => (ldI r5.2 .int v10 (((376 : Int32) + ((5 : Int32) * l1)) + (3 : Int32))).bind fun v11 => (if v11 ≤ v9 then (f_X12_which_74 (f_X12_which_11 n) r5.2 l0 l1 l2 l3 (r5.1)) else (f_X12_which_75 (f_X12_which_11 n) r5.2 l0 l1 l2 l3 (r5.1) (1 : Int32)))) else (f_X12_which_74 (f_X12_which_11 n) r5.2 l0 l1 l2 l3 (r5.1)))))))
def f_X12_which (h : xH) (l0 : Nat) : Option (Int32 × xH) := (pF h l0 12 4 (.int (0 : Int32))).bind fun h1 => f_X12_which_11 xFU h1 l0 (-1 : Int32) (0 : Int32) (0 : Int32)
set_option maxRecDepth 20000 in
theorem w_X12_which_91 (h : xH) {k11 : xH → Nat → Int32 → Int32 → Int32 → Option (Int32 × xH)} (hk11 : ∀ (h : xH) (l0 : Nat) (l1 : Int32) (l2 : Int32) (l3 : Int32) (r : Int32 × xH), k11 h l0 l1 l2 l3 = some r → V 9 yX12_which cX12_which 6 (some .int) [] none 11 [(0, .ref l0), (1, .int l1), (2, .int l2), (3, .int l3)] [] h (oIh r)) (l0 : Nat) (l3 : Int32) (l4 : Int32) (r : Int32 × xH) (hf : f_X12_which_91 k11 h l0 l3 l4 = some r) : V 9 yX12_which cX12_which 6 (some .int) [] none 91 [(0, .ref l0), (3, .int l3), (4, .int l4)] [] h (oIh r) := by
  unfold f_X12_which_91 at hf
  refine V.iload_n dX12_which_91 rfl 1 rfl ?_
  refine V.istore_n (lv' := [(1, .int l3), (0, .ref l0), (3, .int l3), (4, .int l4)]) dX12_which_92 rfl (by decide) rfl ?_
  refine V.iload dX12_which_93 3 rfl ?_
  refine V.istore_n (lv' := [(2, .int l4), (1, .int l3), (0, .ref l0), (3, .int l3), (4, .int l4)]) dX12_which_95 rfl (by decide) rfl ?_
  refine V.iinc (v := (l3 + 1)) (lv' := [(3, .int (l3 + 1)), (2, .int l4), (1, .int l3), (0, .ref l0), (4, .int l4)]) dX12_which_96 3 rfl rfl (Nat.le_of_ble_eq_true rfl) rfl ?_
  refine V.goto (tgt := 11) dX12_which_99 (by decide) ?_
  refine V.sub [3, 2, 1, 0] rfl ?_
  exact hk11 _ _ _ _ _ _ hf

set_option maxRecDepth 20000 in
theorem w_X12_which_75 (h : xH) {k11 : xH → Nat → Int32 → Int32 → Int32 → Option (Int32 × xH)} (hk11 : ∀ (h : xH) (l0 : Nat) (l1 : Int32) (l2 : Int32) (l3 : Int32) (r : Int32 × xH), k11 h l0 l1 l2 l3 = some r → V 9 yX12_which cX12_which 6 (some .int) [] none 11 [(0, .ref l0), (1, .int l1), (2, .int l2), (3, .int l3)] [] h (oIh r)) (l0 : Nat) (l1 : Int32) (l2 : Int32) (l3 : Int32) (l4 : Int32) (s0 : Int32) (r : Int32 × xH) (hf : f_X12_which_75 k11 h l0 l1 l2 l3 l4 s0 = some r) : V 9 yX12_which cX12_which 6 (some .int) [] none 75 [(0, .ref l0), (1, .int l1), (2, .int l2), (3, .int l3), (4, .int l4)] [.int s0] h (oIh r) := by
  unfold f_X12_which_75 at hf
  refine V.istore (lv' := [(5, .int s0), (0, .ref l0), (1, .int l1), (2, .int l2), (3, .int l3), (4, .int l4)]) dX12_which_75 (by decide) rfl ?_
  refine V.iload dX12_which_77 5 rfl ?_
  refine V.iload_n dX12_which_79 rfl 3 rfl ?_
  refine V.icmp_gt (tgt := 91) dX12_which_80 (by decide) (fun c1 => ?_) (fun c1 => ?_)
  · rw [if_pos c1] at hf
    refine V.sub [1, 4, 5] rfl ?_
    exact w_X12_which_91 _ hk11 _ _ _ _ hf
  · rw [if_neg c1] at hf
    refine V.iload dX12_which_83 0 rfl ?_
    refine V.if_ne (tgt := 91) dX12_which_85 (by decide) (fun c2 => ?_) (fun c2 => ?_)
    · rw [if_neg c2] at hf
      refine V.sub [1, 4, 5] rfl ?_
      exact w_X12_which_91 _ hk11 _ _ _ _ hf
    · rw [if_pos c2] at hf
      refine V.goto (tgt := 96) dX12_which_88 (by decide) ?_
      refine V.iinc (v := (l3 + 1)) (lv' := [(3, .int (l3 + 1)), (5, .int s0), (0, .ref l0), (1, .int l1), (2, .int l2), (4, .int l4)]) dX12_which_96 4 rfl rfl (Nat.le_of_ble_eq_true rfl) rfl ?_
      refine V.goto (tgt := 11) dX12_which_99 (by decide) ?_
      refine V.sub [2, 3, 4, 0] rfl ?_
      exact hk11 _ _ _ _ _ _ hf

set_option maxRecDepth 20000 in
theorem w_X12_which_74 (h : xH) {k11 : xH → Nat → Int32 → Int32 → Int32 → Option (Int32 × xH)} (hk11 : ∀ (h : xH) (l0 : Nat) (l1 : Int32) (l2 : Int32) (l3 : Int32) (r : Int32 × xH), k11 h l0 l1 l2 l3 = some r → V 9 yX12_which cX12_which 6 (some .int) [] none 11 [(0, .ref l0), (1, .int l1), (2, .int l2), (3, .int l3)] [] h (oIh r)) (l0 : Nat) (l1 : Int32) (l2 : Int32) (l3 : Int32) (l4 : Int32) (r : Int32 × xH) (hf : f_X12_which_74 k11 h l0 l1 l2 l3 l4 = some r) : V 9 yX12_which cX12_which 6 (some .int) [] none 74 [(0, .ref l0), (1, .int l1), (2, .int l2), (3, .int l3), (4, .int l4)] [] h (oIh r) := by
  unfold f_X12_which_74 at hf
  refine V.iconst (v := (0 : Int32)) dX12_which_74 (by decide) ?_
  exact w_X12_which_75 _ hk11 _ _ _ _ _ _ _ hf

set_option maxRecDepth 20000 in
theorem w_X12_which_11 : ∀ (n : Nat) (h : xH) (l0 : Nat) (l1 : Int32) (l2 : Int32) (l3 : Int32) (r : Int32 × xH), f_X12_which_11 n h l0 l1 l2 l3 = some r → V 9 yX12_which cX12_which 6 (some .int) [] none 11 [(0, .ref l0), (1, .int l1), (2, .int l2), (3, .int l3)] [] h (oIh r) := by
  intro n
  induction n with
  | zero => intro h l0 l1 l2 l3 r hf; cases hf
  | succ n ih =>
    intro h l0 l1 l2 l3 r hf
    rw [f_X12_which_11] at hf
    refine V.iload_n dX12_which_11 rfl 3 rfl ?_
    refine V.aload_n dX12_which_12 rfl 0 rfl ?_
    obtain ⟨v1, e1, hf⟩ := bS hf
    refine V.xgR dX12_which_13 fl_RX12_9 e1 ?_
    refine V.iconst (v := (5 : Int32)) dX12_which_16 (by decide) ?_
    obtain ⟨v2, e2, hf⟩ := bS hf
    refine V.xldI dX12_which_17 e2 ?_
    refine V.icmp_ge (tgt := 102) dX12_which_18 (by decide) (fun c3 => ?_) (fun c3 => ?_)
    · rw [if_pos c3] at hf
      refine V.iload_n dX12_which_102 rfl 1 rfl ?_
      obtain rfl := Option.some.inj hf
      exact V.iret dX12_which_103
    · rw [if_neg c3] at hf
      refine V.aload_n dX12_which_21 rfl 0 rfl ?_
      refine V.iload_n dX12_which_22 rfl 3 rfl ?_
      obtain ⟨q4, e3, hf⟩ := bS hf
      obtain ⟨r5, e4, hf⟩ := bS hf
      refine V.callV (As := [.int l3]) (st := []) dX12_which_23 cl_RX12_340 sw_yX12_savesOf (by decide) rfl (Nat.le_of_ble_eq_true rfl) rfl (gO_some e3) rfl (w_X12_savesOf _ _ _ _ e4) ?_
      refine V.istore (lv' := [(4, .int r5.1), (0, .ref l0), (1, .int l1), (2, .int l2), (3, .int l3)]) dX12_which_26 (by decide) rfl ?_
      refine V.iload_n dX12_which_28 rfl 2 rfl ?_
      refine V.iconst (v := (-1 : Int32)) dX12_which_29 (by decide) ?_
      refine V.icmp_eq (tgt := 74) dX12_which_30 (by decide) (fun c6 => ?_) (fun c6 => ?_)
      · rw [if_pos c6] at hf
        refine V.sub [1, 2, 3, 4, 0] rfl ?_
        exact w_X12_which_74 _ ih _ _ _ _ _ _ hf
      · rw [if_neg c6] at hf
        refine V.iload dX12_which_33 0 rfl ?_
        refine V.iload_n dX12_which_35 rfl 3 rfl ?_
        refine V.icmp_ne (tgt := 74) dX12_which_36 (by decide) (fun c7 => ?_) (fun c7 => ?_)
        · rw [if_neg c7] at hf
          refine V.sub [1, 2, 3, 4, 0] rfl ?_
          exact w_X12_which_74 _ ih _ _ _ _ _ _ hf
        · rw [if_pos c7] at hf
          refine V.aload_n dX12_which_39 rfl 1 rfl ?_
          obtain ⟨v8, e5, hf⟩ := bS hf
          refine V.xgR dX12_which_40 fl_RX12_9 e5 ?_
          refine V.sipush (v := (376 : Int32)) dX12_which_43 (by decide) ?_
          refine V.iconst (v := (5 : Int32)) dX12_which_46 (by decide) ?_
          refine V.iload_n dX12_which_47 rfl 4 rfl ?_
          refine V.imul dX12_which_48 ?_
          refine V.iadd dX12_which_49 ?_
          refine V.iconst (v := (3 : Int32)) dX12_which_50 (by decide) ?_
          refine V.iadd dX12_which_51 ?_
          obtain ⟨v9, e6, hf⟩ := bS hf
          refine V.xldI dX12_which_52 e6 ?_
          refine V.aload_n dX12_which_53 rfl 1 rfl ?_
          obtain ⟨v10, e7, hf⟩ := bS hf
          refine V.xgR dX12_which_54 fl_RX12_9 e7 ?_
          refine V.sipush (v := (376 : Int32)) dX12_which_57 (by decide) ?_
          refine V.iconst (v := (5 : Int32)) dX12_which_60 (by decide) ?_
          refine V.iload_n dX12_which_61 rfl 2 rfl ?_
          refine V.imul dX12_which_62 ?_
          refine V.iadd dX12_which_63 ?_
          refine V.iconst (v := (3 : Int32)) dX12_which_64 (by decide) ?_
          refine V.iadd dX12_which_65 ?_
          obtain ⟨v11, e8, hf⟩ := bS hf
          refine V.xldI dX12_which_66 e8 ?_
          refine V.icmp_ge (tgt := 74) dX12_which_67 (by decide) (fun c12 => ?_) (fun c12 => ?_)
          · rw [if_pos c12] at hf
            refine V.sub [1, 2, 3, 4, 0] rfl ?_
            exact w_X12_which_74 _ ih _ _ _ _ _ _ hf
          · rw [if_neg c12] at hf
            refine V.iconst (v := (1 : Int32)) dX12_which_70 (by decide) ?_
            refine V.goto (tgt := 75) dX12_which_71 (by decide) ?_
            refine V.sub [1, 2, 3, 4, 0] rfl ?_
            exact w_X12_which_75 _ ih _ _ _ _ _ _ _ hf

set_option maxRecDepth 20000 in
theorem w_X12_which (h : xH) (l0 : Nat) (r : Int32 × xH) (hf : f_X12_which h l0 = some r) : Ev 9 yX12_which cX12_which 6 (some .int) [] [.ref l0] h (oIh r) := by
  refine Ev.of (by decide +kernel) (Nat.le_of_ble_eq_true rfl) ?_
  unfold f_X12_which at hf
  refine V.aload_n dX12_which_0 rfl 0 rfl ?_
  refine V.iconst (v := (0 : Int32)) dX12_which_1 (by decide) ?_
  obtain ⟨h1, e9, hf⟩ := bS hf
  refine V.xpF dX12_which_2 fl_RX12_75 (fun h9 => nomatch h9) (fun _ => rfl) (fun _ => rfl) e9 ?_
  refine V.iconst (v := (-1 : Int32)) dX12_which_5 (by decide) ?_
  refine V.istore_n (lv' := [(1, .int (-1 : Int32)), (0, .ref l0)]) dX12_which_6 rfl (by decide) rfl ?_
  refine V.iconst (v := (0 : Int32)) dX12_which_7 (by decide) ?_
  refine V.istore_n (lv' := [(2, .int (0 : Int32)), (1, .int (-1 : Int32)), (0, .ref l0)]) dX12_which_8 rfl (by decide) rfl ?_
  refine V.iconst (v := (0 : Int32)) dX12_which_9 (by decide) ?_
  refine V.istore_n (lv' := [(3, .int (0 : Int32)), (2, .int (0 : Int32)), (1, .int (-1 : Int32)), (0, .ref l0)]) dX12_which_10 rfl (by decide) rfl ?_
  refine V.sub [3, 2, 1, 0] rfl ?_
  exact w_X12_which_11 _ _ _ _ _ _ _ hf

def f_X12_write (h : xH) (l0 : Nat) (l1 : Int32) (l2 : Int32) (l3 : Int64) : Option (Int64 × xH) := (pF h l0 12 4 (.int (0 : Int32))).bind fun h1 => (f_X12_isTray h1 l1).bind fun r2 => (if r2 = 0 then ((gO h1 l0 12).bind fun q21 => (f_X12_fails h1 l0 (1 : Int32)).bind fun r22 => some (((Int32.toInt64 (r22.1)), r22.2))) else ((gR h1 l0 12 29).bind fun v4 => (ldI h1 .int v4 l1).bind fun v5 => (if v5 = (-1 : Int32) then ((gO h1 l0 12).bind fun q19 => (f_X12_fails h1 l0 (2 : Int32)).bind fun r20 => some (((Int32.toInt64 (r20.1)), r20.2))) else ((gR h1 l0 12 30).bind fun v7 => (ldI h1 .int v7 l1).bind fun v8 => (f_X12_within h1 (Int32.toInt64 l2) (0 : Int64) (Int32.toInt64 (v8 - (1 : Int32)))).bind fun r9 => (if r9 = 0 then ((gO h1 l0 12).bind fun q17 => (f_X12_fails h1 l0 (3 : Int32)).bind fun r18 => some (((Int32.toInt64 (r18.1)), r18.2))) else ((gR h1 l0 12 29).bind fun v11 => (ldI h1 .int v11 l1).bind fun v12 => (gR h1 l0 12 31).bind fun v13 => (stJ h1 v13 (((40 : Int32) * l1) + l2) ((l3 <<< (Int32.toInt64 ((64 : Int32) - ((8 : Int32) <<< (v12 &&& 31))) &&& 63)) >>> (Int32.toInt64 ((64 : Int32) - ((8 : Int32) <<< (v12 &&& 31))) &&& 63))).bind fun h14 => (gR h14 l0 12 31).bind fun v15 => (ldJ h14 v15 (((40 : Int32) * l1) + l2)).bind fun v16 => some ((v16, h14))))))))
set_option maxRecDepth 20000 in
theorem w_X12_write (h : xH) (l0 : Nat) (l1 : Int32) (l2 : Int32) (l3 : Int64) (r : Int64 × xH) (hf : f_X12_write h l0 l1 l2 l3 = some r) : Ev 5 yX12_write cX12_write 6 (some .long) [] [.ref l0, .int l1, .int l2, .long l3] h (oJh r) := by
  refine Ev.of (by decide +kernel) (Nat.le_of_ble_eq_true rfl) ?_
  unfold f_X12_write at hf
  refine V.aload_n dX12_write_0 rfl 0 rfl ?_
  refine V.iconst (v := (0 : Int32)) dX12_write_1 (by decide) ?_
  obtain ⟨h1, e1, hf⟩ := bS hf
  refine V.xpF dX12_write_2 fl_RX12_75 (fun h9 => nomatch h9) (fun _ => rfl) (fun _ => rfl) e1 ?_
  refine V.iload_n dX12_write_5 rfl 1 rfl ?_
  obtain ⟨r2, e2, hf⟩ := bS hf
  refine V.callS (As := [.int l1]) (st := []) dX12_write_6 cl_RX12_391 sw_yX12_isTray (by decide) rfl (Nat.le_of_ble_eq_true rfl) rfl (w_X12_isTray _ _ _ e2) ?_
  refine V.if_ne (tgt := 19) dX12_write_9 (by decide) (fun c3 => ?_) (fun c3 => ?_)
  · rw [if_neg c3] at hf
    refine V.aload_n dX12_write_19 rfl 0 rfl ?_
    obtain ⟨v4, e3, hf⟩ := bS hf
    refine V.xgR dX12_write_20 fl_RX12_61 e3 ?_
    refine V.iload_n dX12_write_23 rfl 1 rfl ?_
    obtain ⟨v5, e4, hf⟩ := bS hf
    refine V.xldI dX12_write_24 e4 ?_
    refine V.iconst (v := (-1 : Int32)) dX12_write_25 (by decide) ?_
    refine V.icmp_ne (tgt := 36) dX12_write_26 (by decide) (fun c6 => ?_) (fun c6 => ?_)
    · rw [if_neg c6] at hf
      refine V.iload_n dX12_write_36 rfl 2 rfl ?_
      refine V.i2l dX12_write_37 ?_
      refine V.lconst (v := 0) dX12_write_38 (by decide) ?_
      refine V.aload_n dX12_write_39 rfl 0 rfl ?_
      obtain ⟨v7, e5, hf⟩ := bS hf
      refine V.xgR dX12_write_40 fl_RX12_64 e5 ?_
      refine V.iload_n dX12_write_43 rfl 1 rfl ?_
      obtain ⟨v8, e6, hf⟩ := bS hf
      refine V.xldI dX12_write_44 e6 ?_
      refine V.iconst (v := (1 : Int32)) dX12_write_45 (by decide) ?_
      refine V.isub dX12_write_46 ?_
      refine V.i2l dX12_write_47 ?_
      obtain ⟨r9, e7, hf⟩ := bS hf
      refine V.callS (As := [.long (Int32.toInt64 l2), .long (0 : Int64), .long (Int32.toInt64 (v8 - (1 : Int32)))]) (st := []) dX12_write_48 cl_RX12_134 sw_yX12_within (by decide) rfl (Nat.le_of_ble_eq_true rfl) rfl (w_X12_within _ _ _ _ _ e7) ?_
      refine V.if_ne (tgt := 61) dX12_write_51 (by decide) (fun c10 => ?_) (fun c10 => ?_)
      · rw [if_neg c10] at hf
        refine V.bipush (v := (64 : Int32)) dX12_write_61 (by decide) ?_
        refine V.bipush (v := (8 : Int32)) dX12_write_63 (by decide) ?_
        refine V.aload_n dX12_write_65 rfl 0 rfl ?_
        obtain ⟨v11, e8, hf⟩ := bS hf
        refine V.xgR dX12_write_66 fl_RX12_61 e8 ?_
        refine V.iload_n dX12_write_69 rfl 1 rfl ?_
        obtain ⟨v12, e9, hf⟩ := bS hf
        refine V.xldI dX12_write_70 e9 ?_
        refine V.ishl dX12_write_71 ?_
        refine V.isub dX12_write_72 ?_
        refine V.istore (lv' := [(5, .int ((64 : Int32) - ((8 : Int32) <<< (v12 &&& 31)))), (0, .ref l0), (1, .int l1), (2, .int l2), (3, .long l3)]) dX12_write_73 (by decide) rfl ?_
        refine V.aload_n dX12_write_75 rfl 1 rfl ?_
        obtain ⟨v13, e10, hf⟩ := bS hf
        refine V.xgR dX12_write_76 fl_RX12_67 e10 ?_
        refine V.bipush (v := (40 : Int32)) dX12_write_79 (by decide) ?_
        refine V.iload_n dX12_write_81 rfl 2 rfl ?_
        refine V.imul dX12_write_82 ?_
        refine V.iload_n dX12_write_83 rfl 3 rfl ?_
        refine V.iadd dX12_write_84 ?_
        refine V.lload_n dX12_write_85 rfl 4 rfl ?_
        refine V.iload dX12_write_86 0 rfl ?_
        refine V.lshl dX12_write_88 ?_
        refine V.iload dX12_write_89 0 rfl ?_
        refine V.lshr dX12_write_91 ?_
        obtain ⟨h14, e11, hf⟩ := bS hf
        refine V.xstJ dX12_write_92 e11 ?_
        refine V.aload_n dX12_write_93 rfl 1 rfl ?_
        obtain ⟨v15, e12, hf⟩ := bS hf
        refine V.xgR dX12_write_94 fl_RX12_67 e12 ?_
        refine V.bipush (v := (40 : Int32)) dX12_write_97 (by decide) ?_
        refine V.iload_n dX12_write_99 rfl 2 rfl ?_
        refine V.imul dX12_write_100 ?_
        refine V.iload_n dX12_write_101 rfl 3 rfl ?_
        refine V.iadd dX12_write_102 ?_
        obtain ⟨v16, e13, hf⟩ := bS hf
        refine V.xldJ dX12_write_103 e13 ?_
        obtain rfl := Option.some.inj hf
        exact V.lret dX12_write_104
      · rw [if_pos c10] at hf
        refine V.aload_n dX12_write_54 rfl 0 rfl ?_
        refine V.iconst (v := (3 : Int32)) dX12_write_55 (by decide) ?_
        obtain ⟨q17, e14, hf⟩ := bS hf
        obtain ⟨r18, e15, hf⟩ := bS hf
        refine V.callV (As := [.int (3 : Int32)]) (st := []) dX12_write_56 cl_RX12_219 sw_yX12_fails (by decide) rfl (Nat.le_of_ble_eq_true rfl) rfl (gO_some e14) rfl (w_X12_fails _ _ _ _ e15) ?_
        refine V.i2l dX12_write_59 ?_
        obtain rfl := Option.some.inj hf
        exact V.lret dX12_write_60
    · rw [if_pos c6] at hf
      refine V.aload_n dX12_write_29 rfl 0 rfl ?_
      refine V.iconst (v := (2 : Int32)) dX12_write_30 (by decide) ?_
      obtain ⟨q19, e16, hf⟩ := bS hf
      obtain ⟨r20, e17, hf⟩ := bS hf
      refine V.callV (As := [.int (2 : Int32)]) (st := []) dX12_write_31 cl_RX12_219 sw_yX12_fails (by decide) rfl (Nat.le_of_ble_eq_true rfl) rfl (gO_some e16) rfl (w_X12_fails _ _ _ _ e17) ?_
      refine V.i2l dX12_write_34 ?_
      obtain rfl := Option.some.inj hf
      exact V.lret dX12_write_35
  · rw [if_pos c3] at hf
    refine V.aload_n dX12_write_12 rfl 0 rfl ?_
    refine V.iconst (v := (1 : Int32)) dX12_write_13 (by decide) ?_
    obtain ⟨q21, e18, hf⟩ := bS hf
    obtain ⟨r22, e19, hf⟩ := bS hf
    refine V.callV (As := [.int (1 : Int32)]) (st := []) dX12_write_14 cl_RX12_219 sw_yX12_fails (by decide) rfl (Nat.le_of_ble_eq_true rfl) rfl (gO_some e18) rfl (w_X12_fails _ _ _ _ e19) ?_
    refine V.i2l dX12_write_17 ?_
    obtain rfl := Option.some.inj hf
    exact V.lret dX12_write_18

