def f_X6_init (h : xH) (l0 : Nat) : Option (xH) := (pF h l0 6 0 (.int (0 : Int32))).bind fun h1 => (pF h1 l0 6 1 (.int (0 : Int32))).bind fun h2 => (mkI h2 .int (8 : Int32)).bind fun h3 => (pF h3 l0 6 2 (.ref (h2.1.length))).bind fun h4 => (pF h4 l0 6 3 (.null)).bind fun h5 => (pF h5 l0 6 4 (.int (0 : Int32))).bind fun h6 => (mkO h6 0 5 [.null, .null, .null, .null, .int 0]).bind fun h7 => (f_X0_init h7 (h6.1.length)).bind fun r8 => (pF r8 l0 6 5 (.ref (h6.1.length))).bind fun h9 => (pF h9 l0 6 6 (.int (0 : Int32))).bind fun h10 => (mkI h10 .int (8 : Int32)).bind fun h11 => (pF h11 l0 6 7 (.ref (h10.1.length))).bind fun h12 => (mkI h12 .int (512 : Int32)).bind fun h13 => (pF h13 l0 6 8 (.ref (h12.1.length))).bind fun h14 => (mkI h14 .int (144 : Int32)).bind fun h15 => (pF h15 l0 6 9 (.ref (h14.1.length))).bind fun h16 => some (h16)
set_option maxRecDepth 20000 in
theorem w_X6_init (h : xH) (l0 : Nat) (r : xH) (hf : f_X6_init h l0 = some r) : Ev 5 yX6_init cX6_init 1 none [] [.ref l0] h (oVh r) := by
  refine Ev.of (by decide +kernel) (Nat.le_of_ble_eq_true rfl) ?_
  unfold f_X6_init at hf
  refine V.aload_n dX6_init_0 rfl 0 rfl ?_
  refine V.objInit dX6_init_1 oi_RX6_3 oi_inst oi_code (Nat.le_of_ble_eq_true rfl) ?_
  refine V.aload_n dX6_init_4 rfl 0 rfl ?_
  refine V.iconst (v := (0 : Int32)) dX6_init_5 (by decide) ?_
  obtain ⟨h1, e1, hf⟩ := bS hf
  refine V.xpF dX6_init_6 fl_RX6_9 (fun h9 => nomatch h9) (fun _ => rfl) (fun _ => rfl) e1 ?_
  refine V.aload_n dX6_init_9 rfl 0 rfl ?_
  refine V.iconst (v := (0 : Int32)) dX6_init_10 (by decide) ?_
  obtain ⟨h2, e2, hf⟩ := bS hf
  refine V.xpF dX6_init_11 fl_RX6_15 (fun h9 => nomatch h9) (fun _ => rfl) (fun _ => rfl) e2 ?_
  refine V.aload_n dX6_init_14 rfl 0 rfl ?_
  refine V.bipush (v := (8 : Int32)) dX6_init_15 (by decide) ?_
  obtain ⟨h3, e3, hf⟩ := bS hf
  refine V.xmkI dX6_init_17 rfl rfl aw_int (by decide) e3 ?_
  obtain ⟨h4, e4, hf⟩ := bS hf
  refine V.xpF dX6_init_19 fl_RX6_18 (fun _ => rfl) (fun _ => rfl) (fun _ => rfl) e4 ?_
  refine V.aload_n dX6_init_22 rfl 0 rfl ?_
  refine V.anull dX6_init_23 ?_
  obtain ⟨h5, e5, hf⟩ := bS hf
  refine V.xpF dX6_init_24 fl_RX6_22 (fun h9 => nomatch h9) (fun _ => rfl) (fun _ => rfl) e5 ?_
  refine V.aload_n dX6_init_27 rfl 0 rfl ?_
  refine V.iconst (v := (0 : Int32)) dX6_init_28 (by decide) ?_
  obtain ⟨h6, e6, hf⟩ := bS hf
  refine V.xpF dX6_init_29 fl_RX6_26 (fun h9 => nomatch h9) (fun _ => rfl) (fun _ => rfl) e6 ?_
  refine V.aload_n dX6_init_32 rfl 0 rfl ?_
  obtain ⟨h7, e7, hf⟩ := bS hf
  refine V.xmkO dX6_init_33 nc_RX6_29 e7 ?_
  refine V.dup dX6_init_36 rfl ?_
  obtain ⟨r8, e8, hf⟩ := bS hf
  refine V.callIN (host := "LitNextDoor") (As := []) (st := [.ref (h6.1.length), .ref l0]) dX6_init_37 nl_RX6_31.1 nl_RX6_31.2 sw_yX0_init rfl (by decide) rfl (Nat.le_of_ble_eq_true rfl) rfl (w_X0_init _ _ _ e8) ?_
  obtain ⟨h9, e9, hf⟩ := bS hf
  refine V.xpF dX6_init_40 fl_RX6_32 (fun _ => rfl) (fun _ => rfl) (fun _ => rfl) e9 ?_
  refine V.aload_n dX6_init_43 rfl 0 rfl ?_
  refine V.iconst (v := (0 : Int32)) dX6_init_44 (by decide) ?_
  obtain ⟨h10, e10, hf⟩ := bS hf
  refine V.xpF dX6_init_45 fl_RX6_36 (fun h9 => nomatch h9) (fun _ => rfl) (fun _ => rfl) e10 ?_
  refine V.aload_n dX6_init_48 rfl 0 rfl ?_
  refine V.bipush (v := (8 : Int32)) dX6_init_49 (by decide) ?_
  obtain ⟨h11, e11, hf⟩ := bS hf
  refine V.xmkI dX6_init_51 rfl rfl aw_int (by decide) e11 ?_
  obtain ⟨h12, e12, hf⟩ := bS hf
  refine V.xpF dX6_init_53 fl_RX6_39 (fun _ => rfl) (fun _ => rfl) (fun _ => rfl) e12 ?_
  refine V.aload_n dX6_init_56 rfl 0 rfl ?_
  refine V.sipush (v := (512 : Int32)) dX6_init_57 (by decide) ?_
  obtain ⟨h13, e13, hf⟩ := bS hf
  refine V.xmkI dX6_init_60 rfl rfl aw_int (by decide) e13 ?_
  obtain ⟨h14, e14, hf⟩ := bS hf
  refine V.xpF dX6_init_62 fl_RX6_42 (fun _ => rfl) (fun _ => rfl) (fun _ => rfl) e14 ?_
  refine V.aload_n dX6_init_65 rfl 0 rfl ?_
  refine V.sipush (v := (144 : Int32)) dX6_init_66 (by decide) ?_
  obtain ⟨h15, e15, hf⟩ := bS hf
  refine V.xmkI dX6_init_69 rfl rfl aw_int (by decide) e15 ?_
  obtain ⟨h16, e16, hf⟩ := bS hf
  refine V.xpF dX6_init_71 fl_RX6_45 (fun _ => rfl) (fun _ => rfl) (fun _ => rfl) e16 ?_
  obtain rfl := Option.some.inj hf
  exact V.vret dX6_init_74

def f_X6_rowOf (h : xH) (l0 : Int32) (l1 : Int32) : Option (Int32) := some ((((l0 * (8 : Int32)) + l1) * (16 : Int32)))
set_option maxRecDepth 20000 in
theorem w_X6_rowOf (h : xH) (l0 : Int32) (l1 : Int32) (r : Int32) (hf : f_X6_rowOf h l0 l1 = some r) : Ev 3 yX6_rowOf cX6_rowOf 2 (some .int) [] [.int l0, .int l1] h (oI h r) := by
  refine Ev.of (by decide +kernel) (Nat.le_of_ble_eq_true rfl) ?_
  unfold f_X6_rowOf at hf
  refine V.iload_n dX6_rowOf_0 rfl 0 rfl ?_
  refine V.bipush (v := (8 : Int32)) dX6_rowOf_1 (by decide) ?_
  refine V.imul dX6_rowOf_3 ?_
  refine V.iload_n dX6_rowOf_4 rfl 1 rfl ?_
  refine V.iadd dX6_rowOf_5 ?_
  refine V.bipush (v := (16 : Int32)) dX6_rowOf_6 (by decide) ?_
  refine V.imul dX6_rowOf_8 ?_
  obtain rfl := Option.some.inj hf
  exact V.iret dX6_rowOf_9

def f_X6_brightest_6 (h : xH) : Nat → Nat → Int32 → Int32 → Int32 → Int32 → Int32 → Option (Int32)
  | 0, _, _, _, _, _, _ => none
  | n + 1, l0, l1, l2, l3, l4, l5 => (if l1 ≤ l5 then (some (l4)) else ((gR h l0 6 8).bind fun v2 => (f_X6_rowOf h l5 l2).bind fun r3 => (ldI h .int v2 (r3 + l3)).bind fun v4 => f_X6_brightest_6 h n l0 l1 l2 l3 (if l4 < v4 then v4 else l4) (l5 + 1)))
def f_X6_brightest (h : xH) (l0 : Nat) (l1 : Int32) (l2 : Int32) (l3 : Int32) : Option (Int32) := f_X6_brightest_6 h xFU l0 l1 l2 l3 (0 : Int32) (0 : Int32)
set_option maxRecDepth 20000 in
theorem w_X6_brightest_6 (h : xH) : ∀ (n : Nat) (l0 : Nat) (l1 : Int32) (l2 : Int32) (l3 : Int32) (l4 : Int32) (l5 : Int32) (r : Int32), f_X6_brightest_6 h n l0 l1 l2 l3 l4 l5 = some r → V 4 yX6_brightest cX6_brightest 6 (some .int) [] none 6 [(0, .ref l0), (1, .int l1), (2, .int l2), (3, .int l3), (4, .int l4), (5, .int l5)] [] h (oI h r) := by
  intro n
  induction n with
  | zero => intro l0 l1 l2 l3 l4 l5 r hf; cases hf
  | succ n ih =>
    intro l0 l1 l2 l3 l4 l5 r hf
    rw [f_X6_brightest_6] at hf
    refine V.iload dX6_brightest_6 5 rfl ?_
    refine V.iload_n dX6_brightest_8 rfl 1 rfl ?_
    refine V.icmp_ge (tgt := 38) dX6_brightest_9 (by decide) (fun c1 => ?_) (fun c1 => ?_)
    · rw [if_pos c1] at hf
      refine V.iload dX6_brightest_38 4 rfl ?_
      obtain rfl := Option.some.inj hf
      exact V.iret dX6_brightest_40
    · rw [if_neg c1] at hf
      refine V.iload dX6_brightest_12 4 rfl ?_
      refine V.aload_n dX6_brightest_14 rfl 0 rfl ?_
      obtain ⟨v2, e1, hf⟩ := bS hf
      refine V.xgR dX6_brightest_15 fl_RX6_42 e1 ?_
      refine V.iload dX6_brightest_18 5 rfl ?_
      refine V.iload_n dX6_brightest_20 rfl 2 rfl ?_
      obtain ⟨r3, e2, hf⟩ := bS hf
      refine V.callS (As := [.int l5, .int l2]) (st := [.ref v2, .int l4]) dX6_brightest_21 cl_RX6_100 sw_yX6_rowOf (by decide) rfl (Nat.le_of_ble_eq_true rfl) rfl (w_X6_rowOf _ _ _ _ e2) ?_
      refine V.iload_n dX6_brightest_24 rfl 3 rfl ?_
      refine V.iadd dX6_brightest_25 ?_
      obtain ⟨v4, e3, hf⟩ := bS hf
      refine V.xldI dX6_brightest_26 e3 ?_
      refine V.mmax dX6_brightest_27 ml_RX6_111 ms_max mi_ mc_max (Nat.le_of_ble_eq_true rfl) ?_
      refine V.istore (lv' := [(4, .int (if l4 < v4 then v4 else l4)), (0, .ref l0), (1, .int l1), (2, .int l2), (3, .int l3), (5, .int l5)]) dX6_brightest_30 (by decide) rfl ?_
      refine V.iinc (v := (l5 + 1)) (lv' := [(5, .int (l5 + 1)), (4, .int (if l4 < v4 then v4 else l4)), (0, .ref l0), (1, .int l1), (2, .int l2), (3, .int l3)]) dX6_brightest_32 5 rfl rfl (Nat.le_of_ble_eq_true rfl) rfl ?_
      refine V.goto (tgt := 6) dX6_brightest_35 (by decide) ?_
      refine V.sub [2, 3, 4, 5, 1, 0] rfl ?_
      exact ih _ _ _ _ _ _ _ hf

set_option maxRecDepth 20000 in
theorem w_X6_brightest (h : xH) (l0 : Nat) (l1 : Int32) (l2 : Int32) (l3 : Int32) (r : Int32) (hf : f_X6_brightest h l0 l1 l2 l3 = some r) : Ev 4 yX6_brightest cX6_brightest 6 (some .int) [] [.ref l0, .int l1, .int l2, .int l3] h (oI h r) := by
  refine Ev.of (by decide +kernel) (Nat.le_of_ble_eq_true rfl) ?_
  unfold f_X6_brightest at hf
  refine V.iconst (v := (0 : Int32)) dX6_brightest_0 (by decide) ?_
  refine V.istore (lv' := [(4, .int (0 : Int32)), (0, .ref l0), (1, .int l1), (2, .int l2), (3, .int l3)]) dX6_brightest_1 (by decide) rfl ?_
  refine V.iconst (v := (0 : Int32)) dX6_brightest_3 (by decide) ?_
  refine V.istore (lv' := [(5, .int (0 : Int32)), (4, .int (0 : Int32)), (0, .ref l0), (1, .int l1), (2, .int l2), (3, .int l3)]) dX6_brightest_4 (by decide) rfl ?_
  refine V.sub [2, 3, 4, 5, 1, 0] rfl ?_
  exact w_X6_brightest_6 h _ _ _ _ _ _ _ _ hf

def f_X6_lay_81 (k75 : xH → Nat → Nat → Int32 → Option (xH)) : Nat → xH → Nat → Nat → Int32 → Int32 → Option (xH)
  | 0, _, _, _, _, _ => none
  | n + 1, h, l0, l1, l2, l3 => (gI h l1 3 1).bind fun v1 => (if v1 ≤ l3 then (k75 h l0 l1 (l2 + (-1))) else ((gI h l1 3 4).bind fun v3 => (gO h l0 6).bind fun q4 => (f_X6_brightest h l0 v3 l2 l3).bind fun r5 => (gR h l0 6 9).bind fun v6 => (gR h l0 6 9).bind fun v7 => (ldI h .int v7 (((l2 + (1 : Int32)) * (16 : Int32)) + l3)).bind fun v8 => (stI h .int v6 ((l2 * (16 : Int32)) + l3) (v8 + r5)).bind fun h9 => f_X6_lay_81 k75 n h9 l0 l1 l2 (l3 + 1)))
def f_X6_lay_75 : Nat → xH → Nat → Nat → Int32 → Option (xH)
  | 0, _, _, _, _ => none
  | n + 1, h, l0, l1, l2 => (if l2 < 0 then (some (h)) else (f_X6_lay_81 (f_X6_lay_75 n) xFU h l0 l1 l2 (0 : Int32)))
def f_X6_lay_24 : Nat → xH → Nat → Nat → Int32 → Option (xH)
  | 0, _, _, _, _ => none
  | n + 1, h, l0, l1, l2 => (gI h l1 3 4).bind fun v1 => (if v1 ≤ l2 then ((gI h l1 3 1).bind fun v3 => f_X6_lay_75 xFU h l0 l1 (v3 - (1 : Int32))) else ((gI h l0 6 6).bind fun v4 => (gO h l1 3).bind fun q5 => (f_X3_oilOf h l1 l2).bind fun r6 => (pF h l0 6 6 (.int (if r6 < v4 then r6 else v4))).bind fun h7 => (gR h7 l0 6 8).bind fun v8 => (f_X6_rowOf h7 l2 (0 : Int32)).bind fun r9 => (gO h7 l1 3).bind fun q10 => (f_X3_shineOf h7 l1 l2 v8 r9).bind fun r11 => f_X6_lay_24 n r11 l0 l1 (l2 + 1)))
def f_X6_lay (h : xH) (l0 : Nat) (l1 : Nat) : Option (xH) := (pF h l0 6 6 (.int (99999 : Int32))).bind fun h1 => (gR h1 l0 6 8).bind fun v2 => (f_J7_fill_53178 h1 v2 (0 : Int32)).bind fun r3 => (gR r3 l0 6 9).bind fun v4 => (f_J7_fill_53178 r3 v4 (0 : Int32)).bind fun r5 => f_X6_lay_24 xFU r5 l0 l1 (0 : Int32)
set_option maxRecDepth 20000 in
theorem w_X6_lay_81 {k75 : xH → Nat → Nat → Int32 → Option (xH)} (hk75 : ∀ (h : xH) (l0 : Nat) (l1 : Nat) (l2 : Int32) (r : xH), k75 h l0 l1 l2 = some r → V 5 yX6_lay cX6_lay 5 none [] none 75 [(0, .ref l0), (1, .ref l1), (2, .int l2)] [] h (oVh r)) : ∀ (n : Nat) (h : xH) (l0 : Nat) (l1 : Nat) (l2 : Int32) (l3 : Int32) (r : xH), f_X6_lay_81 k75 n h l0 l1 l2 l3 = some r → V 5 yX6_lay cX6_lay 5 none [] none 81 [(0, .ref l0), (1, .ref l1), (2, .int l2), (3, .int l3)] [] h (oVh r) := by
  intro n
  induction n with
  | zero => intro h l0 l1 l2 l3 r hf; cases hf
  | succ n ih =>
    intro h l0 l1 l2 l3 r hf
    rw [f_X6_lay_81] at hf
    refine V.iload_n dX6_lay_81 rfl 3 rfl ?_
    refine V.aload_n dX6_lay_82 rfl 1 rfl ?_
    obtain ⟨v1, e1, hf⟩ := bS hf
    refine V.xgI dX6_lay_83 fl_RX6_59 e1 ?_
    refine V.icmp_ge (tgt := 134) dX6_lay_86 (by decide) (fun c2 => ?_) (fun c2 => ?_)
    · rw [if_pos c2] at hf
      refine V.iinc (v := (l2 + (-1))) (lv' := [(2, .int (l2 + (-1))), (0, .ref l0), (1, .ref l1), (3, .int l3)]) dX6_lay_134 2 rfl rfl (Nat.le_of_ble_eq_true rfl) rfl ?_
      refine V.goto (tgt := 75) dX6_lay_137 (by decide) ?_
      refine V.sub [1, 2, 0] rfl ?_
      exact hk75 _ _ _ _ _ hf
    · rw [if_neg c2] at hf
      refine V.aload_n dX6_lay_89 rfl 0 rfl ?_
      refine V.aload_n dX6_lay_90 rfl 1 rfl ?_
      obtain ⟨v3, e2, hf⟩ := bS hf
      refine V.xgI dX6_lay_91 fl_RX6_88 e2 ?_
      refine V.iload_n dX6_lay_94 rfl 2 rfl ?_
      refine V.iload_n dX6_lay_95 rfl 3 rfl ?_
      obtain ⟨q4, e3, hf⟩ := bS hf
      obtain ⟨r5, e4, hf⟩ := bS hf
      refine V.callV (As := [.int v3, .int l2, .int l3]) (st := []) dX6_lay_96 cl_RX6_107 sw_yX6_brightest (by decide) rfl (Nat.le_of_ble_eq_true rfl) rfl (gO_some e3) rfl (w_X6_brightest _ _ _ _ _ _ e4) ?_
      refine V.istore (lv' := [(4, .int r5), (0, .ref l0), (1, .ref l1), (2, .int l2), (3, .int l3)]) dX6_lay_99 (by decide) rfl ?_
      refine V.aload_n dX6_lay_101 rfl 1 rfl ?_
      obtain ⟨v6, e5, hf⟩ := bS hf
      refine V.xgR dX6_lay_102 fl_RX6_45 e5 ?_
      refine V.iload_n dX6_lay_105 rfl 3 rfl ?_
      refine V.bipush (v := (16 : Int32)) dX6_lay_106 (by decide) ?_
      refine V.imul dX6_lay_108 ?_
      refine V.iload_n dX6_lay_109 rfl 4 rfl ?_
      refine V.iadd dX6_lay_110 ?_
      refine V.aload_n dX6_lay_111 rfl 1 rfl ?_
      obtain ⟨v7, e6, hf⟩ := bS hf
      refine V.xgR dX6_lay_112 fl_RX6_45 e6 ?_
      refine V.iload_n dX6_lay_115 rfl 3 rfl ?_
      refine V.iconst (v := (1 : Int32)) dX6_lay_116 (by decide) ?_
      refine V.iadd dX6_lay_117 ?_
      refine V.bipush (v := (16 : Int32)) dX6_lay_118 (by decide) ?_
      refine V.imul dX6_lay_120 ?_
      refine V.iload_n dX6_lay_121 rfl 4 rfl ?_
      refine V.iadd dX6_lay_122 ?_
      obtain ⟨v8, e7, hf⟩ := bS hf
      refine V.xldI dX6_lay_123 e7 ?_
      refine V.iload dX6_lay_124 0 rfl ?_
      refine V.iadd dX6_lay_126 ?_
      obtain ⟨h9, e8, hf⟩ := bS hf
      refine V.xstI dX6_lay_127 e8 ?_
      refine V.iinc (v := (l3 + 1)) (lv' := [(3, .int (l3 + 1)), (4, .int r5), (0, .ref l0), (1, .ref l1), (2, .int l2)]) dX6_lay_128 4 rfl rfl (Nat.le_of_ble_eq_true rfl) rfl ?_
      refine V.goto (tgt := 81) dX6_lay_131 (by decide) ?_
      refine V.sub [2, 3, 4, 0] rfl ?_
      exact ih _ _ _ _ _ _ hf

set_option maxRecDepth 20000 in
theorem w_X6_lay_75 : ∀ (n : Nat) (h : xH) (l0 : Nat) (l1 : Nat) (l2 : Int32) (r : xH), f_X6_lay_75 n h l0 l1 l2 = some r → V 5 yX6_lay cX6_lay 5 none [] none 75 [(0, .ref l0), (1, .ref l1), (2, .int l2)] [] h (oVh r) := by
  intro n
  induction n with
  | zero => intro h l0 l1 l2 r hf; cases hf
  | succ n ih =>
    intro h l0 l1 l2 r hf
    rw [f_X6_lay_75] at hf
    refine V.iload_n dX6_lay_75 rfl 2 rfl ?_
    refine V.if_lt (tgt := 140) dX6_lay_76 (by decide) (fun c1 => ?_) (fun c1 => ?_)
    · rw [if_pos c1] at hf
      obtain rfl := Option.some.inj hf
      exact V.vret dX6_lay_140
    · rw [if_neg c1] at hf
      refine V.iconst (v := (0 : Int32)) dX6_lay_79 (by decide) ?_
      refine V.istore_n (lv' := [(3, .int (0 : Int32)), (0, .ref l0), (1, .ref l1), (2, .int l2)]) dX6_lay_80 rfl (by decide) rfl ?_
      refine V.sub [1, 2, 3, 0] rfl ?_
      exact w_X6_lay_81 ih _ _ _ _ _ _ _ hf

set_option maxRecDepth 20000 in
theorem w_X6_lay_24 : ∀ (n : Nat) (h : xH) (l0 : Nat) (l1 : Nat) (l2 : Int32) (r : xH), f_X6_lay_24 n h l0 l1 l2 = some r → V 5 yX6_lay cX6_lay 5 none [] none 24 [(0, .ref l0), (1, .ref l1), (2, .int l2)] [] h (oVh r) := by
  intro n
  induction n with
  | zero => intro h l0 l1 l2 r hf; cases hf
  | succ n ih =>
    intro h l0 l1 l2 r hf
    rw [f_X6_lay_24] at hf
    refine V.iload_n dX6_lay_24 rfl 2 rfl ?_
    refine V.aload_n dX6_lay_25 rfl 1 rfl ?_
    obtain ⟨v1, e9, hf⟩ := bS hf
    refine V.xgI dX6_lay_26 fl_RX6_88 e9 ?_
    refine V.icmp_ge (tgt := 68) dX6_lay_29 (by decide) (fun c2 => ?_) (fun c2 => ?_)
    · rw [if_pos c2] at hf
      refine V.aload_n dX6_lay_68 rfl 1 rfl ?_
      obtain ⟨v3, e10, hf⟩ := bS hf
      refine V.xgI dX6_lay_69 fl_RX6_59 e10 ?_
      refine V.iconst (v := (1 : Int32)) dX6_lay_72 (by decide) ?_
      refine V.isub dX6_lay_73 ?_
      refine V.istore_n (lv' := [(2, .int (v3 - (1 : Int32))), (0, .ref l0), (1, .ref l1)]) dX6_lay_74 rfl (by decide) rfl ?_
      refine V.sub [1, 2, 0] rfl ?_
      exact w_X6_lay_75 _ _ _ _ _ _ hf
    · rw [if_neg c2] at hf
      refine V.aload_n dX6_lay_32 rfl 0 rfl ?_
      refine V.aload_n dX6_lay_33 rfl 0 rfl ?_
      obtain ⟨v4, e11, hf⟩ := bS hf
      refine V.xgI dX6_lay_34 fl_RX6_36 e11 ?_
      refine V.aload_n dX6_lay_37 rfl 1 rfl ?_
      refine V.iload_n dX6_lay_38 rfl 2 rfl ?_
      obtain ⟨q5, e12, hf⟩ := bS hf
      obtain ⟨r6, e13, hf⟩ := bS hf
      refine V.callV (As := [.int l2]) (st := [.int v4, .ref l0]) dX6_lay_39 cl_RX6_91 sw_yX3_oilOf (by decide) rfl (Nat.le_of_ble_eq_true rfl) rfl (gO_some e12) rfl (w_X3_oilOf _ _ _ _ e13) ?_
      refine V.mmin dX6_lay_42 ml_RX6_94 ms_min mi_ mc_min (Nat.le_of_ble_eq_true rfl) ?_
      obtain ⟨h7, e14, hf⟩ := bS hf
      refine V.xpF dX6_lay_45 fl_RX6_36 (fun h9 => nomatch h9) (fun _ => rfl) (fun _ => rfl) e14 ?_
      refine V.aload_n dX6_lay_48 rfl 1 rfl ?_
      refine V.iload_n dX6_lay_49 rfl 2 rfl ?_
      refine V.aload_n dX6_lay_50 rfl 0 rfl ?_
      obtain ⟨v8, e15, hf⟩ := bS hf
      refine V.xgR dX6_lay_51 fl_RX6_42 e15 ?_
      refine V.iload_n dX6_lay_54 rfl 2 rfl ?_
      refine V.iconst (v := (0 : Int32)) dX6_lay_55 (by decide) ?_
      obtain ⟨r9, e16, hf⟩ := bS hf
      refine V.callS (As := [.int l2, .int (0 : Int32)]) (st := [.ref v8, .int l2, .ref l1]) dX6_lay_56 cl_RX6_100 sw_yX6_rowOf (by decide) rfl (Nat.le_of_ble_eq_true rfl) rfl (w_X6_rowOf _ _ _ _ e16) ?_
      obtain ⟨q10, e17, hf⟩ := bS hf
      obtain ⟨r11, e18, hf⟩ := bS hf
      refine V.callV (As := [.int l2, .ref v8, .int r9]) (st := []) dX6_lay_59 cl_RX6_103 sw_yX3_shineOf (by decide) rfl (Nat.le_of_ble_eq_true rfl) rfl (gO_some e17) rfl (w_X3_shineOf _ _ _ _ _ _ e18) ?_
      refine V.iinc (v := (l2 + 1)) (lv' := [(2, .int (l2 + 1)), (0, .ref l0), (1, .ref l1)]) dX6_lay_62 2 rfl rfl (Nat.le_of_ble_eq_true rfl) rfl ?_
      refine V.goto (tgt := 24) dX6_lay_65 (by decide) ?_
      refine V.sub [1, 2, 0] rfl ?_
      exact ih _ _ _ _ _ hf

set_option maxRecDepth 20000 in
theorem w_X6_lay (h : xH) (l0 : Nat) (l1 : Nat) (r : xH) (hf : f_X6_lay h l0 l1 = some r) : Ev 5 yX6_lay cX6_lay 5 none [] [.ref l0, .ref l1] h (oVh r) := by
  refine Ev.of (by decide +kernel) (Nat.le_of_ble_eq_true rfl) ?_
  unfold f_X6_lay at hf
  refine V.aload_n dX6_lay_0 rfl 0 rfl ?_
  refine V.ldc (v := 99999) dX6_lay_1 co_RX6_58 ?_
  obtain ⟨h1, e19, hf⟩ := bS hf
  refine V.xpF dX6_lay_3 fl_RX6_36 (fun h9 => nomatch h9) (fun _ => rfl) (fun _ => rfl) e19 ?_
  refine V.aload_n dX6_lay_6 rfl 0 rfl ?_
  obtain ⟨v2, e20, hf⟩ := bS hf
  refine V.xgR dX6_lay_7 fl_RX6_42 e20 ?_
  refine V.iconst (v := (0 : Int32)) dX6_lay_10 (by decide) ?_
  obtain ⟨r3, e21, hf⟩ := bS hf
  refine V.callS (As := [.ref v2, .int (0 : Int32)]) (st := []) dX6_lay_11 cl_RX6_82 sw_yJ7_fill_53178 (by decide) rfl (Nat.le_of_ble_eq_true rfl) rfl (w_J7_fill_53178 _ _ _ _ e21) ?_
  refine V.aload_n dX6_lay_14 rfl 0 rfl ?_
  obtain ⟨v4, e22, hf⟩ := bS hf
  refine V.xgR dX6_lay_15 fl_RX6_45 e22 ?_
  refine V.iconst (v := (0 : Int32)) dX6_lay_18 (by decide) ?_
  obtain ⟨r5, e23, hf⟩ := bS hf
  refine V.callS (As := [.ref v4, .int (0 : Int32)]) (st := []) dX6_lay_19 cl_RX6_82 sw_yJ7_fill_53178 (by decide) rfl (Nat.le_of_ble_eq_true rfl) rfl (w_J7_fill_53178 _ _ _ _ e23) ?_
  refine V.iconst (v := (0 : Int32)) dX6_lay_22 (by decide) ?_
  refine V.istore_n (lv' := [(2, .int (0 : Int32)), (0, .ref l0), (1, .ref l1)]) dX6_lay_23 rfl (by decide) rfl ?_
  refine V.sub [1, 2, 0] rfl ?_
  exact w_X6_lay_24 _ _ _ _ _ _ hf

def f_X6_isBetter (h : xH) (l0 : Nat) (l1 : Int32) (l2 : Int32) : Option (Int32) := (gI h l0 6 0).bind fun v1 => (if l1 < v1 then (some ((1 : Int32))) else ((gI h l0 6 0).bind fun v3 => (if l1 = v3 then ((gI h l0 6 1).bind fun v5 => (if v5 ≤ l2 then (some ((0 : Int32))) else (some ((1 : Int32))))) else (some ((0 : Int32))))))
set_option maxRecDepth 20000 in
theorem w_X6_isBetter (h : xH) (l0 : Nat) (l1 : Int32) (l2 : Int32) (r : Int32) (hf : f_X6_isBetter h l0 l1 l2 = some r) : Ev 3 yX6_isBetter cX6_isBetter 3 (some .boolean) [] [.ref l0, .int l1, .int l2] h (oI h r) := by
  refine Ev.of (by decide +kernel) (Nat.le_of_ble_eq_true rfl) ?_
  unfold f_X6_isBetter at hf
  refine V.iload_n dX6_isBetter_0 rfl 1 rfl ?_
  refine V.aload_n dX6_isBetter_1 rfl 0 rfl ?_
  obtain ⟨v1, e1, hf⟩ := bS hf
  refine V.xgI dX6_isBetter_2 fl_RX6_9 e1 ?_
  refine V.icmp_lt (tgt := 24) dX6_isBetter_5 (by decide) (fun c2 => ?_) (fun c2 => ?_)
  · rw [if_pos c2] at hf
    refine V.iconst (v := (1 : Int32)) dX6_isBetter_24 (by decide) ?_
    refine V.goto (tgt := 29) dX6_isBetter_25 (by decide) ?_
    obtain rfl := Option.some.inj hf
    exact V.zret dX6_isBetter_29 (by first | rfl | assumption)
  · rw [if_neg c2] at hf
    refine V.iload_n dX6_isBetter_8 rfl 1 rfl ?_
    refine V.aload_n dX6_isBetter_9 rfl 0 rfl ?_
    obtain ⟨v3, e2, hf⟩ := bS hf
    refine V.xgI dX6_isBetter_10 fl_RX6_9 e2 ?_
    refine V.icmp_ne (tgt := 28) dX6_isBetter_13 (by decide) (fun c4 => ?_) (fun c4 => ?_)
    · rw [if_neg c4] at hf
      refine V.iconst (v := (0 : Int32)) dX6_isBetter_28 (by decide) ?_
      obtain rfl := Option.some.inj hf
      exact V.zret dX6_isBetter_29 (by first | rfl | assumption)
    · rw [if_pos c4] at hf
      refine V.iload_n dX6_isBetter_16 rfl 2 rfl ?_
      refine V.aload_n dX6_isBetter_17 rfl 0 rfl ?_
      obtain ⟨v5, e3, hf⟩ := bS hf
      refine V.xgI dX6_isBetter_18 fl_RX6_15 e3 ?_
      refine V.icmp_ge (tgt := 28) dX6_isBetter_21 (by decide) (fun c6 => ?_) (fun c6 => ?_)
      · rw [if_pos c6] at hf
        refine V.iconst (v := (0 : Int32)) dX6_isBetter_28 (by decide) ?_
        obtain rfl := Option.some.inj hf
        exact V.zret dX6_isBetter_29 (by first | rfl | assumption)
      · rw [if_neg c6] at hf
        refine V.iconst (v := (1 : Int32)) dX6_isBetter_24 (by decide) ?_
        refine V.goto (tgt := 29) dX6_isBetter_25 (by decide) ?_
        obtain rfl := Option.some.inj hf
        exact V.zret dX6_isBetter_29 (by first | rfl | assumption)

def f_X6_keep_43 (k13 : xH → Nat → Int32 → Int32 → Option (xH)) (h : xH) (l0 : Nat) (l1 : Int32) (l4 : Int32) (s0 : Int32) (s1 : Int32) (s2 : Nat) : Option (xH) := (stI h .int s2 s1 s0).bind fun h1 => k13 h1 l0 l1 (l4 + 1)
def f_X6_keep_13 : Nat → xH → Nat → Int32 → Int32 → Option (xH)
  | 0, _, _, _, _ => none
  | n + 1, h, l0, l1, l4 => (if (8 : Int32) ≤ l4 then (some (h)) else ((gR h l0 6 2).bind fun v2 => (if l1 ≤ l4 then (f_X6_keep_43 (f_X6_keep_13 n) h l0 l1 l4 (-1 : Int32) l4 v2) else ((gR h l0 6 7).bind fun v4 => (ldI h .int v4 l4).bind fun v5 => f_X6_keep_43 (f_X6_keep_13 n) h l0 l1 l4 v5 l4 v2))))
def f_X6_keep (h : xH) (l0 : Nat) (l1 : Int32) (l2 : Int32) (l3 : Int32) : Option (xH) := (pF h l0 6 0 (.int l2)).bind fun h1 => (pF h1 l0 6 1 (.int l3)).bind fun h2 => f_X6_keep_13 xFU h2 l0 l1 (0 : Int32)
set_option maxRecDepth 20000 in
theorem w_X6_keep_43 (h : xH) {k13 : xH → Nat → Int32 → Int32 → Option (xH)} (hk13 : ∀ (h : xH) (l0 : Nat) (l1 : Int32) (l4 : Int32) (r : xH), k13 h l0 l1 l4 = some r → V 3 yX6_keep cX6_keep 5 none [] none 13 [(0, .ref l0), (1, .int l1), (4, .int l4)] [] h (oVh r)) (l0 : Nat) (l1 : Int32) (l4 : Int32) (s0 : Int32) (s1 : Int32) (s2 : Nat) (r : xH) (hf : f_X6_keep_43 k13 h l0 l1 l4 s0 s1 s2 = some r) : V 3 yX6_keep cX6_keep 5 none [] none 43 [(0, .ref l0), (1, .int l1), (4, .int l4)] [.int s0, .int s1, .ref s2] h (oVh r) := by
  unfold f_X6_keep_43 at hf
  obtain ⟨h1, e1, hf⟩ := bS hf
  refine V.xstI dX6_keep_43 e1 ?_
  refine V.iinc (v := (l4 + 1)) (lv' := [(4, .int (l4 + 1)), (0, .ref l0), (1, .int l1)]) dX6_keep_44 2 rfl rfl (Nat.le_of_ble_eq_true rfl) rfl ?_
  refine V.goto (tgt := 13) dX6_keep_47 (by decide) ?_
  refine V.sub [1, 2, 0] rfl ?_
  exact hk13 _ _ _ _ _ hf

set_option maxRecDepth 20000 in
theorem w_X6_keep_13 : ∀ (n : Nat) (h : xH) (l0 : Nat) (l1 : Int32) (l4 : Int32) (r : xH), f_X6_keep_13 n h l0 l1 l4 = some r → V 3 yX6_keep cX6_keep 5 none [] none 13 [(0, .ref l0), (1, .int l1), (4, .int l4)] [] h (oVh r) := by
  intro n
  induction n with
  | zero => intro h l0 l1 l4 r hf; cases hf
  | succ n ih =>
    intro h l0 l1 l4 r hf
    rw [f_X6_keep_13] at hf
    refine V.iload dX6_keep_13 2 rfl ?_
    refine V.bipush (v := (8 : Int32)) dX6_keep_15 (by decide) ?_
    refine V.icmp_ge (tgt := 50) dX6_keep_17 (by decide) (fun c1 => ?_) (fun c1 => ?_)
    · rw [if_pos c1] at hf
      obtain rfl := Option.some.inj hf
      exact V.vret dX6_keep_50
    · rw [if_neg c1] at hf
      refine V.aload_n dX6_keep_20 rfl 0 rfl ?_
      obtain ⟨v2, e2, hf⟩ := bS hf
      refine V.xgR dX6_keep_21 fl_RX6_18 e2 ?_
      refine V.iload dX6_keep_24 2 rfl ?_
      refine V.iload dX6_keep_26 2 rfl ?_
      refine V.iload_n dX6_keep_28 rfl 1 rfl ?_
      refine V.icmp_ge (tgt := 42) dX6_keep_29 (by decide) (fun c3 => ?_) (fun c3 => ?_)
      · rw [if_pos c3] at hf
        refine V.iconst (v := (-1 : Int32)) dX6_keep_42 (by decide) ?_
        exact w_X6_keep_43 _ ih _ _ _ _ _ _ _ hf
      · rw [if_neg c3] at hf
        refine V.aload_n dX6_keep_32 rfl 0 rfl ?_
        obtain ⟨v4, e3, hf⟩ := bS hf
        refine V.xgR dX6_keep_33 fl_RX6_39 e3 ?_
        refine V.iload dX6_keep_36 2 rfl ?_
        obtain ⟨v5, e4, hf⟩ := bS hf
        refine V.xldI dX6_keep_38 e4 ?_
        refine V.goto (tgt := 43) dX6_keep_39 (by decide) ?_
        exact w_X6_keep_43 _ ih _ _ _ _ _ _ _ hf

set_option maxRecDepth 20000 in
theorem w_X6_keep (h : xH) (l0 : Nat) (l1 : Int32) (l2 : Int32) (l3 : Int32) (r : xH) (hf : f_X6_keep h l0 l1 l2 l3 = some r) : Ev 3 yX6_keep cX6_keep 5 none [] [.ref l0, .int l1, .int l2, .int l3] h (oVh r) := by
  refine Ev.of (by decide +kernel) (Nat.le_of_ble_eq_true rfl) ?_
  unfold f_X6_keep at hf
  refine V.aload_n dX6_keep_0 rfl 0 rfl ?_
  refine V.iload_n dX6_keep_1 rfl 2 rfl ?_
  obtain ⟨h1, e5, hf⟩ := bS hf
  refine V.xpF dX6_keep_2 fl_RX6_9 (fun h9 => nomatch h9) (fun _ => rfl) (fun _ => rfl) e5 ?_
  refine V.aload_n dX6_keep_5 rfl 0 rfl ?_
  refine V.iload_n dX6_keep_6 rfl 3 rfl ?_
  obtain ⟨h2, e6, hf⟩ := bS hf
  refine V.xpF dX6_keep_7 fl_RX6_15 (fun h9 => nomatch h9) (fun _ => rfl) (fun _ => rfl) e6 ?_
  refine V.iconst (v := (0 : Int32)) dX6_keep_10 (by decide) ?_
  refine V.istore (lv' := [(4, .int (0 : Int32)), (0, .ref l0), (1, .int l1), (2, .int l2), (3, .int l3)]) dX6_keep_11 (by decide) rfl ?_
  refine V.sub [1, 2, 0] rfl ?_
  exact w_X6_keep_13 _ _ _ _ _ _ hf

def f_X6_seek_205 (ks : xH → Nat → Nat → Int32 → Int32 → Int32 → Int32 → Option (xH)) (k106 : xH → Nat → Nat → Int32 → Int32 → Int32 → Int32 → Int32 → Option (xH)) (h : xH) (l0 : Nat) (l1 : Nat) (l2 : Int32) (l3 : Int32) (l4 : Int32) (l6 : Int32) (l7 : Int32) : Option (xH) := (gR h l0 6 5).bind fun v1 => (gR h l0 6 8).bind fun v2 => (f_X6_rowOf h l7 l2).bind fun r3 => (gO h v1 0).bind fun q4 => (f_X0_add h v1 v2 r3 (-1 : Int32)).bind fun r5 => k106 r5 l0 l1 l2 l3 l4 l6 (l7 + 1)
def f_X6_seek_106 (ks : xH → Nat → Nat → Int32 → Int32 → Int32 → Int32 → Option (xH)) : Nat → xH → Nat → Nat → Int32 → Int32 → Int32 → Int32 → Int32 → Option (xH)
  | 0, _, _, _, _, _, _, _, _ => none
  | n + 1, h, l0, l1, l2, l3, l4, l6, l7 => (gI h l1 3 4).bind fun v1 => (if v1 ≤ l7 then (some (h)) else ((if l6 = 0 then (some (h)) else ((gR h l0 6 5).bind fun v4 => (gR h l0 6 8).bind fun v5 => (f_X6_rowOf h l7 l2).bind fun r6 => (gO h v4 0).bind fun q7 => (f_X0_add h v4 v5 r6 (1 : Int32)).bind fun r8 => (gR r8 l0 6 7).bind fun v9 => (stI r8 .int v9 l2 l7).bind fun h10 => (gR h10 l0 6 5).bind fun v11 => (gO h10 v11 0).bind fun q12 => (f_X0_isBearable h10 v11).bind fun r13 => (if r13 = 0 then (f_X6_seek_205 ks (f_X6_seek_106 ks n) h10 l0 l1 l2 l3 l4 l6 l7) else ((gR h10 l0 6 5).bind fun v15 => (gR h10 l0 6 9).bind fun v16 => (gO h10 v15 0).bind fun q17 => (f_X0_enoughWith h10 v15 v16 ((l2 + (1 : Int32)) * (16 : Int32)) l6).bind fun r18 => (if r18 = 0 then (f_X6_seek_205 ks (f_X6_seek_106 ks n) h10 l0 l1 l2 l3 l4 l6 l7) else ((gO h10 l1 3).bind fun q20 => (f_X3_oilOf h10 l1 l7).bind fun r21 => (gR h10 l0 6 5).bind fun v22 => (gO h10 v22 0).bind fun q23 => (f_X0_lacking h10 v22).bind fun r24 => (ks h10 l0 l1 (l2 + (1 : Int32)) (l3 + r21) (l4 + (1 : Int32)) r24).bind fun r25 => f_X6_seek_205 ks (f_X6_seek_106 ks n) r25 l0 l1 l2 l3 l4 l6 l7))))))))
def f_X6_seek_103 (ks : xH → Nat → Nat → Int32 → Int32 → Int32 → Int32 → Option (xH)) (h : xH) (l0 : Nat) (l1 : Nat) (l2 : Int32) (l3 : Int32) (l4 : Int32) (l6 : Int32) : Option (xH) := f_X6_seek_106 ks xFU h l0 l1 l2 l3 l4 l6 (0 : Int32)
def f_X6_seek : Nat → xH → Nat → Nat → Int32 → Int32 → Int32 → Int32 → Option (xH)
  | 0, _, _, _, _, _, _, _ => none
  | n + 1, h, l0, l1, l2, l3, l4, l5 => (if l5 = 0 then ((gO h l0 6).bind fun q18 => (f_X6_isBetter h l0 l3 l4).bind fun r19 => (if r19 = 0 then (some (h)) else ((gO h l0 6).bind fun q21 => (f_X6_keep h l0 l2 l3 l4).bind fun r22 => some (r22)))) else ((gI h l1 3 1).bind fun v2 => (if v2 ≤ l2 then (some (h)) else ((gI h l0 6 6).bind fun v4 => (gO h l0 6).bind fun q5 => (f_X6_isBetter h l0 (l3 + v4) (l4 + (1 : Int32))).bind fun r6 => (if r6 = 0 then (some (h)) else ((gR h l1 3 14).bind fun v8 => (ldI h .int v8 l2).bind fun v9 => (gR h l0 6 7).bind fun v10 => (stI h .int v10 l2 (-1 : Int32)).bind fun h11 => (gR h11 l0 6 5).bind fun v12 => (gR h11 l0 6 9).bind fun v13 => (gO h11 v12 0).bind fun q14 => (f_X0_enoughWith h11 v12 v13 ((l2 + (1 : Int32)) * (16 : Int32)) (l5 &&& v9)).bind fun r15 => (if r15 = 0 then (f_X6_seek_103 (f_X6_seek n) h11 l0 l1 l2 l3 l4 (l5 &&& v9)) else ((f_X6_seek n h11 l0 l1 (l2 + (1 : Int32)) l3 l4 l5).bind fun r17 => f_X6_seek_103 (f_X6_seek n) r17 l0 l1 l2 l3 l4 (l5 &&& v9)))))))))
set_option maxRecDepth 20000 in
theorem w_X6_seek_205 (h : xH) {d' : Nat} (hd' : 4 ≤ d') {ks : xH → Nat → Nat → Int32 → Int32 → Int32 → Int32 → Option (xH)} (hks : ∀ (h : xH) (a0 : Nat) (a1 : Nat) (a2 : Int32) (a3 : Int32) (a4 : Int32) (a5 : Int32) (r : xH), ks h a0 a1 a2 a3 a4 a5 = some r → Ev d' yX6_seek cX6_seek 8 none [] [.ref a0, .ref a1, .int a2, .int a3, .int a4, .int a5] h (oVh r)) {k106 : xH → Nat → Nat → Int32 → Int32 → Int32 → Int32 → Int32 → Option (xH)} (hk106 : ∀ (h : xH) (l0 : Nat) (l1 : Nat) (l2 : Int32) (l3 : Int32) (l4 : Int32) (l6 : Int32) (l7 : Int32) (r : xH), k106 h l0 l1 l2 l3 l4 l6 l7 = some r → V (d' + 1) yX6_seek cX6_seek 8 none [] none 106 [(0, .ref l0), (1, .ref l1), (2, .int l2), (3, .int l3), (4, .int l4), (6, .int l6), (7, .int l7)] [] h (oVh r)) (l0 : Nat) (l1 : Nat) (l2 : Int32) (l3 : Int32) (l4 : Int32) (l6 : Int32) (l7 : Int32) (r : xH) (hf : f_X6_seek_205 ks k106 h l0 l1 l2 l3 l4 l6 l7 = some r) : V (d' + 1) yX6_seek cX6_seek 8 none [] none 205 [(0, .ref l0), (1, .ref l1), (2, .int l2), (3, .int l3), (4, .int l4), (6, .int l6), (7, .int l7)] [] h (oVh r) := by
  unfold f_X6_seek_205 at hf
  refine V.aload_n dX6_seek_205 rfl 0 rfl ?_
  obtain ⟨v1, e1, hf⟩ := bS hf
  refine V.xgR dX6_seek_206 fl_RX6_32 e1 ?_
  refine V.aload_n dX6_seek_209 rfl 0 rfl ?_
  obtain ⟨v2, e2, hf⟩ := bS hf
  refine V.xgR dX6_seek_210 fl_RX6_42 e2 ?_
  refine V.iload dX6_seek_213 6 rfl ?_
  refine V.iload_n dX6_seek_215 rfl 2 rfl ?_
  obtain ⟨r3, e3, hf⟩ := bS hf
  refine V.callS (As := [.int l7, .int l2]) (st := [.ref v2, .ref v1]) dX6_seek_216 cl_RX6_100 sw_yX6_rowOf (by omega) rfl (Nat.le_of_ble_eq_true rfl) rfl (w_X6_rowOf _ _ _ _ e3) ?_
  refine V.iconst (v := (-1 : Int32)) dX6_seek_219 (by decide) ?_
  obtain ⟨q4, e4, hf⟩ := bS hf
  obtain ⟨r5, e5, hf⟩ := bS hf
  refine V.callV (As := [.ref v2, .int r3, .int (-1 : Int32)]) (st := []) dX6_seek_220 cl_RX6_125 sw_yX0_add (by omega) rfl (Nat.le_of_ble_eq_true rfl) rfl (gO_some e4) rfl (w_X0_add _ _ _ _ _ _ e5) ?_
  refine V.iinc (v := (l7 + 1)) (lv' := [(7, .int (l7 + 1)), (0, .ref l0), (1, .ref l1), (2, .int l2), (3, .int l3), (4, .int l4), (6, .int l6)]) dX6_seek_223 6 rfl rfl (Nat.le_of_ble_eq_true rfl) rfl ?_
  refine V.goto (tgt := 106) dX6_seek_226 (by decide) ?_
  refine V.sub [1, 2, 3, 4, 5, 6, 0] rfl ?_
  exact hk106 _ _ _ _ _ _ _ _ _ hf

set_option maxRecDepth 20000 in
theorem w_X6_seek_106 {d' : Nat} (hd' : 4 ≤ d') {ks : xH → Nat → Nat → Int32 → Int32 → Int32 → Int32 → Option (xH)} (hks : ∀ (h : xH) (a0 : Nat) (a1 : Nat) (a2 : Int32) (a3 : Int32) (a4 : Int32) (a5 : Int32) (r : xH), ks h a0 a1 a2 a3 a4 a5 = some r → Ev d' yX6_seek cX6_seek 8 none [] [.ref a0, .ref a1, .int a2, .int a3, .int a4, .int a5] h (oVh r)) : ∀ (n : Nat) (h : xH) (l0 : Nat) (l1 : Nat) (l2 : Int32) (l3 : Int32) (l4 : Int32) (l6 : Int32) (l7 : Int32) (r : xH), f_X6_seek_106 ks n h l0 l1 l2 l3 l4 l6 l7 = some r → V (d' + 1) yX6_seek cX6_seek 8 none [] none 106 [(0, .ref l0), (1, .ref l1), (2, .int l2), (3, .int l3), (4, .int l4), (6, .int l6), (7, .int l7)] [] h (oVh r) := by
  intro n
  induction n with
  | zero => intro h l0 l1 l2 l3 l4 l6 l7 r hf; cases hf
  | succ n ih =>
    intro h l0 l1 l2 l3 l4 l6 l7 r hf
    rw [f_X6_seek_106] at hf
    refine V.iload dX6_seek_106 6 rfl ?_
    refine V.aload_n dX6_seek_108 rfl 1 rfl ?_
    obtain ⟨v1, e6, hf⟩ := bS hf
    refine V.xgI dX6_seek_109 fl_RX6_88 e6 ?_
    refine V.icmp_ge (tgt := 229) dX6_seek_112 (by decide) (fun c2 => ?_) (fun c2 => ?_)
    · rw [if_pos c2] at hf
      obtain rfl := Option.some.inj hf
      exact V.vret dX6_seek_229
    · rw [if_neg c2] at hf
      refine V.iload dX6_seek_115 5 rfl ?_
      refine V.if_eq (tgt := 229) dX6_seek_117 (by decide) (fun c3 => ?_) (fun c3 => ?_)
      · rw [if_pos c3] at hf
        obtain rfl := Option.some.inj hf
        exact V.vret dX6_seek_229
      · rw [if_neg c3] at hf
        refine V.aload_n dX6_seek_120 rfl 0 rfl ?_
        obtain ⟨v4, e7, hf⟩ := bS hf
        refine V.xgR dX6_seek_121 fl_RX6_32 e7 ?_
        refine V.aload_n dX6_seek_124 rfl 0 rfl ?_
        obtain ⟨v5, e8, hf⟩ := bS hf
        refine V.xgR dX6_seek_125 fl_RX6_42 e8 ?_
        refine V.iload dX6_seek_128 6 rfl ?_
        refine V.iload_n dX6_seek_130 rfl 2 rfl ?_
        obtain ⟨r6, e9, hf⟩ := bS hf
        refine V.callS (As := [.int l7, .int l2]) (st := [.ref v5, .ref v4]) dX6_seek_131 cl_RX6_100 sw_yX6_rowOf (by omega) rfl (Nat.le_of_ble_eq_true rfl) rfl (w_X6_rowOf _ _ _ _ e9) ?_
        refine V.iconst (v := (1 : Int32)) dX6_seek_134 (by decide) ?_
        obtain ⟨q7, e10, hf⟩ := bS hf
        obtain ⟨r8, e11, hf⟩ := bS hf
        refine V.callV (As := [.ref v5, .int r6, .int (1 : Int32)]) (st := []) dX6_seek_135 cl_RX6_125 sw_yX0_add (by omega) rfl (Nat.le_of_ble_eq_true rfl) rfl (gO_some e10) rfl (w_X0_add _ _ _ _ _ _ e11) ?_
        refine V.aload_n dX6_seek_138 rfl 0 rfl ?_
        obtain ⟨v9, e12, hf⟩ := bS hf
        refine V.xgR dX6_seek_139 fl_RX6_39 e12 ?_
        refine V.iload_n dX6_seek_142 rfl 2 rfl ?_
        refine V.iload dX6_seek_143 6 rfl ?_
        obtain ⟨h10, e13, hf⟩ := bS hf
        refine V.xstI dX6_seek_145 e13 ?_
        refine V.aload_n dX6_seek_146 rfl 0 rfl ?_
        obtain ⟨v11, e14, hf⟩ := bS hf
        refine V.xgR dX6_seek_147 fl_RX6_32 e14 ?_
        obtain ⟨q12, e15, hf⟩ := bS hf
        obtain ⟨r13, e16, hf⟩ := bS hf
        refine V.callV (As := []) (st := []) dX6_seek_150 cl_RX6_129 sw_yX0_isBearable (by omega) rfl (Nat.le_of_ble_eq_true rfl) rfl (gO_some e15) rfl (w_X0_isBearable _ _ _ e16) ?_
        refine V.if_eq (tgt := 205) dX6_seek_153 (by decide) (fun c14 => ?_) (fun c14 => ?_)
        · rw [if_pos c14] at hf
          exact w_X6_seek_205 _ hd' hks ih _ _ _ _ _ _ _ _ hf
        · rw [if_neg c14] at hf
          refine V.aload_n dX6_seek_156 rfl 0 rfl ?_
          obtain ⟨v15, e17, hf⟩ := bS hf
          refine V.xgR dX6_seek_157 fl_RX6_32 e17 ?_
          refine V.aload_n dX6_seek_160 rfl 0 rfl ?_
          obtain ⟨v16, e18, hf⟩ := bS hf
          refine V.xgR dX6_seek_161 fl_RX6_45 e18 ?_
          refine V.iload_n dX6_seek_164 rfl 2 rfl ?_
          refine V.iconst (v := (1 : Int32)) dX6_seek_165 (by decide) ?_
          refine V.iadd dX6_seek_166 ?_
          refine V.bipush (v := (16 : Int32)) dX6_seek_167 (by decide) ?_
          refine V.imul dX6_seek_169 ?_
          refine V.iload dX6_seek_170 5 rfl ?_
          obtain ⟨q17, e19, hf⟩ := bS hf
          obtain ⟨r18, e20, hf⟩ := bS hf
          refine V.callV (As := [.ref v16, .int ((l2 + (1 : Int32)) * (16 : Int32)), .int l6]) (st := []) dX6_seek_172 cl_RX6_74 sw_yX0_enoughWith (by omega) rfl (Nat.le_of_ble_eq_true rfl) rfl (gO_some e19) rfl (w_X0_enoughWith _ _ _ _ _ _ e20) ?_
          refine V.if_eq (tgt := 205) dX6_seek_175 (by decide) (fun c19 => ?_) (fun c19 => ?_)
          · rw [if_pos c19] at hf
            exact w_X6_seek_205 _ hd' hks ih _ _ _ _ _ _ _ _ hf
          · rw [if_neg c19] at hf
            refine V.aload_n dX6_seek_178 rfl 0 rfl ?_
            refine V.aload_n dX6_seek_179 rfl 1 rfl ?_
            refine V.iload_n dX6_seek_180 rfl 2 rfl ?_
            refine V.iconst (v := (1 : Int32)) dX6_seek_181 (by decide) ?_
            refine V.iadd dX6_seek_182 ?_
            refine V.iload_n dX6_seek_183 rfl 3 rfl ?_
            refine V.aload_n dX6_seek_184 rfl 1 rfl ?_
            refine V.iload dX6_seek_185 6 rfl ?_
            obtain ⟨q20, e21, hf⟩ := bS hf
            obtain ⟨r21, e22, hf⟩ := bS hf
            refine V.callV (As := [.int l7]) (st := [.int l3, .int (l2 + (1 : Int32)), .ref l1, .ref l0]) dX6_seek_187 cl_RX6_91 sw_yX3_oilOf (by omega) rfl (Nat.le_of_ble_eq_true rfl) rfl (gO_some e21) rfl (w_X3_oilOf _ _ _ _ e22) ?_
            refine V.iadd dX6_seek_190 ?_
            refine V.iload dX6_seek_191 4 rfl ?_
            refine V.iconst (v := (1 : Int32)) dX6_seek_193 (by decide) ?_
            refine V.iadd dX6_seek_194 ?_
            refine V.aload_n dX6_seek_195 rfl 0 rfl ?_
            obtain ⟨v22, e23, hf⟩ := bS hf
            refine V.xgR dX6_seek_196 fl_RX6_32 e23 ?_
            obtain ⟨q23, e24, hf⟩ := bS hf
            obtain ⟨r24, e25, hf⟩ := bS hf
            refine V.callV (As := []) (st := [.int (l4 + (1 : Int32)), .int (l3 + r21), .int (l2 + (1 : Int32)), .ref l1, .ref l0]) dX6_seek_199 cl_RX6_70 sw_yX0_lacking (by omega) rfl (Nat.le_of_ble_eq_true rfl) rfl (gO_some e24) rfl (w_X0_lacking _ _ _ e25) ?_
            obtain ⟨r25, e26, hf⟩ := bS hf
            refine V.callS (As := [.ref l0, .ref l1, .int (l2 + (1 : Int32)), .int (l3 + r21), .int (l4 + (1 : Int32)), .int r24]) (st := []) dX6_seek_202 cl_RX6_78 sw_yX6_seek (Nat.le_refl _) rfl (Nat.le_of_ble_eq_true rfl) rfl (hks _ _ _ _ _ _ _ _ e26) ?_
            exact w_X6_seek_205 _ hd' hks ih _ _ _ _ _ _ _ _ hf

set_option maxRecDepth 20000 in
theorem w_X6_seek_103 (h : xH) {d' : Nat} (hd' : 4 ≤ d') {ks : xH → Nat → Nat → Int32 → Int32 → Int32 → Int32 → Option (xH)} (hks : ∀ (h : xH) (a0 : Nat) (a1 : Nat) (a2 : Int32) (a3 : Int32) (a4 : Int32) (a5 : Int32) (r : xH), ks h a0 a1 a2 a3 a4 a5 = some r → Ev d' yX6_seek cX6_seek 8 none [] [.ref a0, .ref a1, .int a2, .int a3, .int a4, .int a5] h (oVh r)) (l0 : Nat) (l1 : Nat) (l2 : Int32) (l3 : Int32) (l4 : Int32) (l6 : Int32) (r : xH) (hf : f_X6_seek_103 ks h l0 l1 l2 l3 l4 l6 = some r) : V (d' + 1) yX6_seek cX6_seek 8 none [] none 103 [(0, .ref l0), (1, .ref l1), (2, .int l2), (3, .int l3), (4, .int l4), (6, .int l6)] [] h (oVh r) := by
  unfold f_X6_seek_103 at hf
  refine V.iconst (v := (0 : Int32)) dX6_seek_103 (by decide) ?_
  refine V.istore (lv' := [(7, .int (0 : Int32)), (0, .ref l0), (1, .ref l1), (2, .int l2), (3, .int l3), (4, .int l4), (6, .int l6)]) dX6_seek_104 (by decide) rfl ?_
  refine V.sub [1, 2, 3, 4, 5, 6, 0] rfl ?_
  exact w_X6_seek_106 hd' hks _ _ _ _ _ _ _ _ _ _ hf

set_option maxRecDepth 20000 in
theorem w_X6_seek : ∀ (n : Nat) (h : xH) (l0 : Nat) (l1 : Nat) (l2 : Int32) (l3 : Int32) (l4 : Int32) (l5 : Int32) (r : xH), f_X6_seek n h l0 l1 l2 l3 l4 l5 = some r → Ev (n + 4) yX6_seek cX6_seek 8 none [] [.ref l0, .ref l1, .int l2, .int l3, .int l4, .int l5] h (oVh r) := by
  intro n
  induction n with
  | zero => intro h l0 l1 l2 l3 l4 l5 r hf; cases hf
  | succ n ih =>
    intro h l0 l1 l2 l3 l4 l5 r hf
    rw [f_X6_seek] at hf
    have hd' : 4 ≤ n + 4 := Nat.le_add_left _ _
    have hks := ih
    rw [Nat.succ_add n 4]
    refine Ev.of (by decide +kernel) (Nat.le_of_ble_eq_true rfl) ?_
    refine V.iload dX6_seek_0 5 rfl ?_
    refine V.if_ne (tgt := 24) dX6_seek_2 (by decide) (fun c1 => ?_) (fun c1 => ?_)
    · rw [if_neg c1] at hf
      refine V.iload_n dX6_seek_24 rfl 2 rfl ?_
      refine V.aload_n dX6_seek_25 rfl 1 rfl ?_
      obtain ⟨v2, e27, hf⟩ := bS hf
      refine V.xgI dX6_seek_26 fl_RX6_59 e27 ?_
      refine V.icmp_ge (tgt := 49) dX6_seek_29 (by decide) (fun c3 => ?_) (fun c3 => ?_)
      · rw [if_pos c3] at hf
        obtain rfl := Option.some.inj hf
        exact V.vret dX6_seek_49
      · rw [if_neg c3] at hf
        refine V.aload_n dX6_seek_32 rfl 0 rfl ?_
        refine V.iload_n dX6_seek_33 rfl 3 rfl ?_
        refine V.aload_n dX6_seek_34 rfl 0 rfl ?_
        obtain ⟨v4, e28, hf⟩ := bS hf
        refine V.xgI dX6_seek_35 fl_RX6_36 e28 ?_
        refine V.iadd dX6_seek_38 ?_
        refine V.iload dX6_seek_39 4 rfl ?_
        refine V.iconst (v := (1 : Int32)) dX6_seek_41 (by decide) ?_
        refine V.iadd dX6_seek_42 ?_
        obtain ⟨q5, e29, hf⟩ := bS hf
        obtain ⟨r6, e30, hf⟩ := bS hf
        refine V.callV (As := [.int (l3 + v4), .int (l4 + (1 : Int32))]) (st := []) dX6_seek_43 cl_RX6_114 sw_yX6_isBetter (by omega) rfl (Nat.le_of_ble_eq_true rfl) rfl (gO_some e29) rfl (w_X6_isBetter _ _ _ _ _ e30) ?_
        refine V.if_ne (tgt := 50) dX6_seek_46 (by decide) (fun c7 => ?_) (fun c7 => ?_)
        · rw [if_neg c7] at hf
          refine V.iload dX6_seek_50 5 rfl ?_
          refine V.aload_n dX6_seek_52 rfl 1 rfl ?_
          obtain ⟨v8, e31, hf⟩ := bS hf
          refine V.rgR dX6_seek_53 fl_RX6_122 e31 ?_
          refine V.iload_n dX6_seek_56 rfl 2 rfl ?_
          obtain ⟨v9, e32, hf⟩ := bS hf
          refine V.xldI dX6_seek_57 e32 ?_
          refine V.iand dX6_seek_58 ?_
          refine V.istore (lv' := [(6, .int (l5 &&& v9)), (0, .ref l0), (1, .ref l1), (2, .int l2), (3, .int l3), (4, .int l4), (5, .int l5)]) dX6_seek_59 (by decide) rfl ?_
          refine V.aload_n dX6_seek_61 rfl 1 rfl ?_
          obtain ⟨v10, e33, hf⟩ := bS hf
          refine V.xgR dX6_seek_62 fl_RX6_39 e33 ?_
          refine V.iload_n dX6_seek_65 rfl 3 rfl ?_
          refine V.iconst (v := (-1 : Int32)) dX6_seek_66 (by decide) ?_
          obtain ⟨h11, e34, hf⟩ := bS hf
          refine V.xstI dX6_seek_67 e34 ?_
          refine V.aload_n dX6_seek_68 rfl 1 rfl ?_
          obtain ⟨v12, e35, hf⟩ := bS hf
          refine V.xgR dX6_seek_69 fl_RX6_32 e35 ?_
          refine V.aload_n dX6_seek_72 rfl 1 rfl ?_
          obtain ⟨v13, e36, hf⟩ := bS hf
          refine V.xgR dX6_seek_73 fl_RX6_45 e36 ?_
          refine V.iload_n dX6_seek_76 rfl 3 rfl ?_
          refine V.iconst (v := (1 : Int32)) dX6_seek_77 (by decide) ?_
          refine V.iadd dX6_seek_78 ?_
          refine V.bipush (v := (16 : Int32)) dX6_seek_79 (by decide) ?_
          refine V.imul dX6_seek_81 ?_
          refine V.iload dX6_seek_82 0 rfl ?_
          obtain ⟨q14, e37, hf⟩ := bS hf
          obtain ⟨r15, e38, hf⟩ := bS hf
          refine V.callV (As := [.ref v13, .int ((l2 + (1 : Int32)) * (16 : Int32)), .int (l5 &&& v9)]) (st := []) dX6_seek_84 cl_RX6_74 sw_yX0_enoughWith (by omega) rfl (Nat.le_of_ble_eq_true rfl) rfl (gO_some e37) rfl (w_X0_enoughWith _ _ _ _ _ _ e38) ?_
          refine V.if_eq (tgt := 103) dX6_seek_87 (by decide) (fun c16 => ?_) (fun c16 => ?_)
          · rw [if_pos c16] at hf
            refine V.sub [1, 2, 3, 4, 5, 0] rfl ?_
            exact w_X6_seek_103 _ hd' hks _ _ _ _ _ _ _ hf
          · rw [if_neg c16] at hf
            refine V.aload_n dX6_seek_90 rfl 1 rfl ?_
            refine V.aload_n dX6_seek_91 rfl 2 rfl ?_
            refine V.iload_n dX6_seek_92 rfl 3 rfl ?_
            refine V.iconst (v := (1 : Int32)) dX6_seek_93 (by decide) ?_
            refine V.iadd dX6_seek_94 ?_
            refine V.iload_n dX6_seek_95 rfl 4 rfl ?_
            refine V.iload dX6_seek_96 5 rfl ?_
            refine V.iload dX6_seek_98 6 rfl ?_
            obtain ⟨r17, e39, hf⟩ := bS hf
            refine V.callS (As := [.ref l0, .ref l1, .int (l2 + (1 : Int32)), .int l3, .int l4, .int l5]) (st := []) dX6_seek_100 cl_RX6_78 sw_yX6_seek (Nat.le_refl _) rfl (Nat.le_of_ble_eq_true rfl) rfl (hks _ _ _ _ _ _ _ _ e39) ?_
            refine V.sub [1, 2, 3, 4, 5, 0] rfl ?_
            exact w_X6_seek_103 _ hd' hks _ _ _ _ _ _ _ hf
        · rw [if_pos c7] at hf
          obtain rfl := Option.some.inj hf
          exact V.vret dX6_seek_49
    · rw [if_pos c1] at hf
      refine V.aload_n dX6_seek_5 rfl 0 rfl ?_
      refine V.iload_n dX6_seek_6 rfl 3 rfl ?_
      refine V.iload dX6_seek_7 4 rfl ?_
      obtain ⟨q18, e40, hf⟩ := bS hf
      obtain ⟨r19, e41, hf⟩ := bS hf
      refine V.callV (As := [.int l3, .int l4]) (st := []) dX6_seek_9 cl_RX6_114 sw_yX6_isBetter (by omega) rfl (Nat.le_of_ble_eq_true rfl) rfl (gO_some e40) rfl (w_X6_isBetter _ _ _ _ _ e41) ?_
      refine V.if_eq (tgt := 23) dX6_seek_12 (by decide) (fun c20 => ?_) (fun c20 => ?_)
      · rw [if_pos c20] at hf
        obtain rfl := Option.some.inj hf
        exact V.vret dX6_seek_23
      · rw [if_neg c20] at hf
        refine V.aload_n dX6_seek_15 rfl 0 rfl ?_
        refine V.iload_n dX6_seek_16 rfl 2 rfl ?_
        refine V.iload_n dX6_seek_17 rfl 3 rfl ?_
        refine V.iload dX6_seek_18 4 rfl ?_
        obtain ⟨q21, e42, hf⟩ := bS hf
        obtain ⟨r22, e43, hf⟩ := bS hf
        refine V.callV (As := [.int l2, .int l3, .int l4]) (st := []) dX6_seek_20 cl_RX6_118 sw_yX6_keep (by omega) rfl (Nat.le_of_ble_eq_true rfl) rfl (gO_some e42) rfl (w_X6_keep _ _ _ _ _ _ e43) ?_
        obtain rfl := Option.some.inj hf
        exact V.vret dX6_seek_23

def f_X6_search (h : xH) (l0 : Nat) (l1 : Nat) (l2 : Int32) : Option (xH) := (pF h l0 6 0 (.int (99999 : Int32))).bind fun h1 => (pF h1 l0 6 1 (.int (0 : Int32))).bind fun h2 => (gI h2 l1 3 1).bind fun v3 => (if (8 : Int32) < v3 then (some (h2)) else ((gR h2 l0 6 5).bind fun v5 => (gO h2 v5 0).bind fun q6 => (f_X0_begin h2 v5 l1 l2).bind fun r7 => (if r7.1 = 0 then (some (r7.2)) else ((gO r7.2 l0 6).bind fun q9 => (f_X6_lay r7.2 l0 l1).bind fun r10 => (gR r10 l0 6 5).bind fun v11 => (gO r10 v11 0).bind fun q12 => (f_X0_lacking r10 v11).bind fun r13 => (gR r10 l0 6 5).bind fun v14 => (gR r10 l0 6 9).bind fun v15 => (gO r10 v14 0).bind fun q16 => (f_X0_enoughWith r10 v14 v15 (0 : Int32) r13).bind fun r17 => (if r17 = 0 then (some (r10)) else ((f_X6_seek  40 r10 l0 l1 (0 : Int32) (0 : Int32) (0 : Int32) r13).bind fun r19 => some (r19)))))))
set_option maxRecDepth 20000 in
theorem w_X6_search (h : xH) (l0 : Nat) (l1 : Nat) (l2 : Int32) (r : xH) (hf : f_X6_search h l0 l1 l2 = some r) : Ev 46 yX6_search cX6_search 4 none [] [.ref l0, .ref l1, .int l2] h (oVh r) := by
  refine Ev.of (by decide +kernel) (Nat.le_of_ble_eq_true rfl) ?_
  unfold f_X6_search at hf
  refine V.aload_n dX6_search_0 rfl 0 rfl ?_
  refine V.ldc (v := 99999) dX6_search_1 co_RX6_58 ?_
  obtain ⟨h1, e1, hf⟩ := bS hf
  refine V.xpF dX6_search_3 fl_RX6_9 (fun h9 => nomatch h9) (fun _ => rfl) (fun _ => rfl) e1 ?_
  refine V.aload_n dX6_search_6 rfl 0 rfl ?_
  refine V.iconst (v := (0 : Int32)) dX6_search_7 (by decide) ?_
  obtain ⟨h2, e2, hf⟩ := bS hf
  refine V.xpF dX6_search_8 fl_RX6_15 (fun h9 => nomatch h9) (fun _ => rfl) (fun _ => rfl) e2 ?_
  refine V.aload_n dX6_search_11 rfl 1 rfl ?_
  obtain ⟨v3, e3, hf⟩ := bS hf
  refine V.xgI dX6_search_12 fl_RX6_59 e3 ?_
  refine V.bipush (v := (8 : Int32)) dX6_search_15 (by decide) ?_
  refine V.icmp_gt (tgt := 32) dX6_search_17 (by decide) (fun c4 => ?_) (fun c4 => ?_)
  · rw [if_pos c4] at hf
    obtain rfl := Option.some.inj hf
    exact V.vret dX6_search_32
  · rw [if_neg c4] at hf
    refine V.aload_n dX6_search_20 rfl 0 rfl ?_
    obtain ⟨v5, e4, hf⟩ := bS hf
    refine V.xgR dX6_search_21 fl_RX6_32 e4 ?_
    refine V.aload_n dX6_search_24 rfl 1 rfl ?_
    refine V.iload_n dX6_search_25 rfl 2 rfl ?_
    obtain ⟨q6, e5, hf⟩ := bS hf
    obtain ⟨r7, e6, hf⟩ := bS hf
    refine V.callV (As := [.ref l1, .int l2]) (st := []) dX6_search_26 cl_RX6_62 sw_yX0_begin (by decide) rfl (Nat.le_of_ble_eq_true rfl) rfl (gO_some e5) rfl (w_X0_begin _ _ _ _ _ e6) ?_
    refine V.if_ne (tgt := 33) dX6_search_29 (by decide) (fun c8 => ?_) (fun c8 => ?_)
    · rw [if_neg c8] at hf
      refine V.aload_n dX6_search_33 rfl 0 rfl ?_
      refine V.aload_n dX6_search_34 rfl 1 rfl ?_
      obtain ⟨q9, e7, hf⟩ := bS hf
      obtain ⟨r10, e8, hf⟩ := bS hf
      refine V.callV (As := [.ref l1]) (st := []) dX6_search_35 cl_RX6_66 sw_yX6_lay (by decide) rfl (Nat.le_of_ble_eq_true rfl) rfl (gO_some e7) rfl (w_X6_lay _ _ _ _ e8) ?_
      refine V.aload_n dX6_search_38 rfl 0 rfl ?_
      obtain ⟨v11, e9, hf⟩ := bS hf
      refine V.xgR dX6_search_39 fl_RX6_32 e9 ?_
      obtain ⟨q12, e10, hf⟩ := bS hf
      obtain ⟨r13, e11, hf⟩ := bS hf
      refine V.callV (As := []) (st := []) dX6_search_42 cl_RX6_70 sw_yX0_lacking (by decide) rfl (Nat.le_of_ble_eq_true rfl) rfl (gO_some e10) rfl (w_X0_lacking _ _ _ e11) ?_
      refine V.istore_n (lv' := [(3, .int r13), (0, .ref l0), (1, .ref l1), (2, .int l2)]) dX6_search_45 rfl (by decide) rfl ?_
      refine V.aload_n dX6_search_46 rfl 1 rfl ?_
      obtain ⟨v14, e12, hf⟩ := bS hf
      refine V.xgR dX6_search_47 fl_RX6_32 e12 ?_
      refine V.aload_n dX6_search_50 rfl 1 rfl ?_
      obtain ⟨v15, e13, hf⟩ := bS hf
      refine V.xgR dX6_search_51 fl_RX6_45 e13 ?_
      refine V.iconst (v := (0 : Int32)) dX6_search_54 (by decide) ?_
      refine V.iload_n dX6_search_55 rfl 0 rfl ?_
      obtain ⟨q16, e14, hf⟩ := bS hf
      obtain ⟨r17, e15, hf⟩ := bS hf
      refine V.callV (As := [.ref v15, .int (0 : Int32), .int r13]) (st := []) dX6_search_56 cl_RX6_74 sw_yX0_enoughWith (by decide) rfl (Nat.le_of_ble_eq_true rfl) rfl (gO_some e14) rfl (w_X0_enoughWith _ _ _ _ _ _ e15) ?_
      refine V.if_eq (tgt := 71) dX6_search_59 (by decide) (fun c18 => ?_) (fun c18 => ?_)
      · rw [if_pos c18] at hf
        obtain rfl := Option.some.inj hf
        exact V.vret dX6_search_71
      · rw [if_neg c18] at hf
        refine V.aload_n dX6_search_62 rfl 1 rfl ?_
        refine V.aload_n dX6_search_63 rfl 2 rfl ?_
        refine V.iconst (v := (0 : Int32)) dX6_search_64 (by decide) ?_
        refine V.iconst (v := (0 : Int32)) dX6_search_65 (by decide) ?_
        refine V.iconst (v := (0 : Int32)) dX6_search_66 (by decide) ?_
        refine V.iload_n dX6_search_67 rfl 0 rfl ?_
        obtain ⟨r19, e16, hf⟩ := bS hf
        refine V.callS (As := [.ref l0, .ref l1, .int (0 : Int32), .int (0 : Int32), .int (0 : Int32), .int r13]) (st := []) dX6_search_68 cl_RX6_78 sw_yX6_seek (by decide) rfl (Nat.le_of_ble_eq_true rfl) rfl ((w_X6_seek 40 _ _ _ _ _ _ _ _ e16)) ?_
        obtain rfl := Option.some.inj hf
        exact V.vret dX6_search_71
    · rw [if_pos c8] at hf
      obtain rfl := Option.some.inj hf
      exact V.vret dX6_search_32

def f_X6_find_38 (h : xH) (l0 : Nat) : Option (Int32 × xH) := (gI h l0 6 0).bind fun v1 => (if (99999 : Int32) ≤ v1 then (some (((0 : Int32), h))) else (some (((1 : Int32), h))))
def f_X6_find_22 (h : xH) (l0 : Nat) (l1 : Nat) (l2 : Int32) (l3 : Int32) : Option (Int32 × xH) := (pF h l0 6 3 (.ref l1)).bind fun h1 => (pF h1 l0 6 4 (.int l3)).bind fun h2 => (gO h2 l0 6).bind fun q3 => (f_X6_search h2 l0 l1 l2).bind fun r4 => f_X6_find_38 r4 l0
def f_X6_find (h : xH) (l0 : Nat) (l1 : Nat) (l2 : Int32) : Option (Int32 × xH) := (gO h l1 3).bind fun q1 => (f_X3_wantsAt h l1 l2).bind fun r2 => (gN h l0 6 3).bind fun v3 => (match v3 with | none => (f_X6_find_22 h l0 l1 l2 r2) | some v4 => ((lt2 h v4 l1).bind fun v6 => (if v4 = l1 then ((gI h l0 6 4).bind fun v7 => (if v7 = r2 then (f_X6_find_38 h l0) else (f_X6_find_22 h l0 l1 l2 r2))) else (f_X6_find_22 h l0 l1 l2 r2))))
set_option maxRecDepth 20000 in
theorem w_X6_find_38 (h : xH) (l0 : Nat) (r : Int32 × xH) (hf : f_X6_find_38 h l0 = some r) : V 47 yX6_find cX6_find 4 (some .boolean) [] none 38 [(0, .ref l0)] [] h (oIh r) := by
  unfold f_X6_find_38 at hf
  refine V.aload_n dX6_find_38 rfl 0 rfl ?_
  obtain ⟨v1, e1, hf⟩ := bS hf
  refine V.xgI dX6_find_39 fl_RX6_9 e1 ?_
  refine V.ldc (v := 99999) dX6_find_42 co_RX6_58 ?_
  refine V.icmp_ge (tgt := 51) dX6_find_44 (by decide) (fun c2 => ?_) (fun c2 => ?_)
  · rw [if_pos c2] at hf
    refine V.iconst (v := (0 : Int32)) dX6_find_51 (by decide) ?_
    obtain rfl := Option.some.inj hf
    exact V.zret dX6_find_52 (by first | rfl | assumption)
  · rw [if_neg c2] at hf
    refine V.iconst (v := (1 : Int32)) dX6_find_47 (by decide) ?_
    refine V.goto (tgt := 52) dX6_find_48 (by decide) ?_
    obtain rfl := Option.some.inj hf
    exact V.zret dX6_find_52 (by first | rfl | assumption)

set_option maxRecDepth 20000 in
theorem w_X6_find_22 (h : xH) (l0 : Nat) (l1 : Nat) (l2 : Int32) (l3 : Int32) (r : Int32 × xH) (hf : f_X6_find_22 h l0 l1 l2 l3 = some r) : V 47 yX6_find cX6_find 4 (some .boolean) [] none 22 [(0, .ref l0), (1, .ref l1), (2, .int l2), (3, .int l3)] [] h (oIh r) := by
  unfold f_X6_find_22 at hf
  refine V.aload_n dX6_find_22 rfl 0 rfl ?_
  refine V.aload_n dX6_find_23 rfl 1 rfl ?_
  obtain ⟨h1, e2, hf⟩ := bS hf
  refine V.xpF dX6_find_24 fl_RX6_22 (fun h9 => nomatch h9) (fun _ => rfl) (fun _ => rfl) e2 ?_
  refine V.aload_n dX6_find_27 rfl 0 rfl ?_
  refine V.iload_n dX6_find_28 rfl 3 rfl ?_
  obtain ⟨h2, e3, hf⟩ := bS hf
  refine V.xpF dX6_find_29 fl_RX6_26 (fun h9 => nomatch h9) (fun _ => rfl) (fun _ => rfl) e3 ?_
  refine V.aload_n dX6_find_32 rfl 0 rfl ?_
  refine V.aload_n dX6_find_33 rfl 1 rfl ?_
  refine V.iload_n dX6_find_34 rfl 2 rfl ?_
  obtain ⟨q3, e4, hf⟩ := bS hf
  obtain ⟨r4, e5, hf⟩ := bS hf
  refine V.callV (As := [.ref l1, .int l2]) (st := []) dX6_find_35 cl_RX6_54 sw_yX6_search (by decide) rfl (Nat.le_of_ble_eq_true rfl) rfl (gO_some e4) rfl (w_X6_search _ _ _ _ _ e5) ?_
  refine V.sub [0] rfl ?_
  exact w_X6_find_38 _ _ _ hf

set_option maxRecDepth 20000 in
theorem w_X6_find (h : xH) (l0 : Nat) (l1 : Nat) (l2 : Int32) (r : Int32 × xH) (hf : f_X6_find h l0 l1 l2 = some r) : Ev 47 yX6_find cX6_find 4 (some .boolean) [] [.ref l0, .ref l1, .int l2] h (oIh r) := by
  refine Ev.of (by decide +kernel) (Nat.le_of_ble_eq_true rfl) ?_
  unfold f_X6_find at hf
  refine V.aload_n dX6_find_0 rfl 1 rfl ?_
  refine V.iload_n dX6_find_1 rfl 2 rfl ?_
  obtain ⟨q1, e6, hf⟩ := bS hf
  obtain ⟨r2, e7, hf⟩ := bS hf
  refine V.callV (As := [.int l2]) (st := []) dX6_find_2 cl_RX6_48 sw_yX3_wantsAt (by decide) rfl (Nat.le_of_ble_eq_true rfl) rfl (gO_some e6) rfl (w_X3_wantsAt _ _ _ _ e7) ?_
  refine V.istore_n (lv' := [(3, .int r2), (0, .ref l0), (1, .ref l1), (2, .int l2)]) dX6_find_5 rfl (by decide) rfl ?_
  refine V.aload_n dX6_find_6 rfl 1 rfl ?_
  obtain ⟨v3, e8, hf⟩ := bS hf
  rcases v3 with _ | v4
  · refine V.xgN0 dX6_find_7 fl_RX6_22 e8 ?_
    refine V.aload_n dX6_find_10 rfl 2 rfl ?_
    refine V.acmp_neN (tgt := 22) dX6_find_11 (by decide) ?_
    refine V.sub [1, 2, 3, 0] rfl ?_
    exact w_X6_find_22 _ _ _ _ _ _ hf
  · refine V.xgN dX6_find_7 fl_RX6_22 e8 ?_
    refine V.aload_n dX6_find_10 rfl 2 rfl ?_
    obtain ⟨v6, e9, hf⟩ := bS hf
    refine V.acmp_ne (tgt := 22) dX6_find_11 (by decide) (lt2_l e9) (lt2_r e9) (fun c5 => ?_) (fun c5 => ?_)
    · rw [if_neg c5] at hf
      refine V.sub [1, 2, 3, 0] rfl ?_
      exact w_X6_find_22 _ _ _ _ _ _ hf
    · rw [if_pos c5] at hf
      refine V.aload_n dX6_find_14 rfl 1 rfl ?_
      obtain ⟨v7, e10, hf⟩ := bS hf
      refine V.xgI dX6_find_15 fl_RX6_26 e10 ?_
      refine V.iload_n dX6_find_18 rfl 0 rfl ?_
      refine V.icmp_eq (tgt := 38) dX6_find_19 (by decide) (fun c8 => ?_) (fun c8 => ?_)
      · rw [if_pos c8] at hf
        refine V.sub [1] rfl ?_
        exact w_X6_find_38 _ _ _ hf
      · rw [if_neg c8] at hf
        refine V.sub [1, 2, 3, 0] rfl ?_
        exact w_X6_find_22 _ _ _ _ _ _ hf

