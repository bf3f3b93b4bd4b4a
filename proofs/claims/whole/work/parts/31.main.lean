def f_X11_init (h : xH) (l0 : Nat) : Option (xH) := (mkI h .byte (800 : Int32)).bind fun h1 => (pF h1 l0 11 0 (.ref (h.1.length))).bind fun h2 => (pF h2 l0 11 1 (.int (0 : Int32))).bind fun h3 => (pF h3 l0 11 2 (.int (0 : Int32))).bind fun h4 => (pF h4 l0 11 3 (.int (-1 : Int32))).bind fun h5 => (mkO h5 3 16 [.int 0, .int 0, .int 0, .int 0, .int 0, .int 0, .int 0, .null, .null, .null, .null, .null, .null, .null, .null, .null]).bind fun h6 => (f_X3_init h6 (h5.1.length)).bind fun r7 => (pF r7 l0 11 4 (.ref (h5.1.length))).bind fun h8 => (mkO h8 5 2 [.null, .null]).bind fun h9 => (f_X5_init h9 (h8.1.length)).bind fun r10 => (pF r10 l0 11 5 (.ref (h8.1.length))).bind fun h11 => (mkN h11 "LitNextDoor$House" (3 : Int32)).bind fun h12 => (pF h12 l0 11 6 (.ref (h11.1.length))).bind fun h13 => (mkN h13 "LitNextDoor$Lamps" (3 : Int32)).bind fun h14 => (pF h14 l0 11 7 (.ref (h13.1.length))).bind fun h15 => (pF h15 l0 11 8 (.long (0 : Int64))).bind fun h16 => (pF h16 l0 11 9 (.long (0 : Int64))).bind fun h17 => (mkO h17 10 3 [.null, .null, .null]).bind fun h18 => (f_X10_init h18 (h17.1.length)).bind fun r19 => (pF r19 l0 11 10 (.ref (h17.1.length))).bind fun h20 => (mkI h20 .int (16 : Int32)).bind fun h21 => (pF h21 l0 11 11 (.ref (h20.1.length))).bind fun h22 => (mkO h22 2 6 [.int 0, .null, .null, .null, .null, .null]).bind fun h23 => (f_X2_init h23 (h22.1.length)).bind fun r24 => (pF r24 l0 11 12 (.ref (h22.1.length))).bind fun h25 => (mkO h25 4 8 [.null, .null, .null, .null, .null, .null, .int 0, .int 0]).bind fun h26 => (f_X4_init h26 (h25.1.length)).bind fun r27 => (pF r27 l0 11 13 (.ref (h25.1.length))).bind fun h28 => (mkO h28 6 10 [.int 0, .int 0, .null, .null, .int 0, .null, .int 0, .null, .null, .null]).bind fun h29 => (f_X6_init h29 (h28.1.length)).bind fun r30 => (pF r30 l0 11 14 (.ref (h28.1.length))).bind fun h31 => (mkO h31 1 10 [.null, .int 0, .int 0, .int 0, .int 0, .int 0, .int 0, .null, .null, .null]).bind fun h32 => (f_X1_init h32 (h31.1.length)).bind fun r33 => (pF r33 l0 11 15 (.ref (h31.1.length))).bind fun h34 => (mkO h34 9 5 [.null, .null, .int 0, .null, .null]).bind fun h35 => (f_X9_init h35 (h34.1.length)).bind fun r36 => (pF r36 l0 11 16 (.ref (h34.1.length))).bind fun h37 => (pF h37 l0 11 17 (.null)).bind fun h38 => some (h38)
set_option maxRecDepth 20000 in
theorem w_X11_init (h : xH) (l0 : Nat) (r : xH) (hf : f_X11_init h l0 = some r) : Ev 6 yX11_init cX11_init 1 none [] [.ref l0] h (oVh r) := by
  refine Ev.of (by decide +kernel) (Nat.le_of_ble_eq_true rfl) ?_
  unfold f_X11_init at hf
  refine V.aload_n dX11_init_0 rfl 0 rfl ?_
  refine V.objInit dX11_init_1 oi_RX11_3 oi_inst oi_code (Nat.le_of_ble_eq_true rfl) ?_
  refine V.aload_n dX11_init_4 rfl 0 rfl ?_
  refine V.sipush (v := (800 : Int32)) dX11_init_5 (by decide) ?_
  obtain ⟨h1, e1, hf⟩ := bS hf
  refine V.xmkI dX11_init_8 rfl rfl aw_byte (by decide) e1 ?_
  obtain ⟨h2, e2, hf⟩ := bS hf
  refine V.xpF dX11_init_10 fl_RX11_9 (fun _ => rfl) (fun _ => rfl) (fun _ => rfl) e2 ?_
  refine V.aload_n dX11_init_13 rfl 0 rfl ?_
  refine V.iconst (v := (0 : Int32)) dX11_init_14 (by decide) ?_
  obtain ⟨h3, e3, hf⟩ := bS hf
  refine V.xpF dX11_init_15 fl_RX11_13 (fun h9 => nomatch h9) (fun _ => rfl) (fun _ => rfl) e3 ?_
  refine V.aload_n dX11_init_18 rfl 0 rfl ?_
  refine V.iconst (v := (0 : Int32)) dX11_init_19 (by decide) ?_
  obtain ⟨h4, e4, hf⟩ := bS hf
  refine V.xpF dX11_init_20 fl_RX11_17 (fun h9 => nomatch h9) (fun _ => rfl) (fun _ => rfl) e4 ?_
  refine V.aload_n dX11_init_23 rfl 0 rfl ?_
  refine V.iconst (v := (-1 : Int32)) dX11_init_24 (by decide) ?_
  obtain ⟨h5, e5, hf⟩ := bS hf
  refine V.xpF dX11_init_25 fl_RX11_20 (fun h9 => nomatch h9) (fun _ => rfl) (fun _ => rfl) e5 ?_
  refine V.aload_n dX11_init_28 rfl 0 rfl ?_
  obtain ⟨h6, e6, hf⟩ := bS hf
  refine V.xmkO dX11_init_29 nc_RX11_23 e6 ?_
  refine V.dup dX11_init_32 rfl ?_
  obtain ⟨r7, e7, hf⟩ := bS hf
  refine V.callI (As := []) (st := [.ref (h5.1.length), .ref l0]) dX11_init_33 cl_RX11_25 sw_yX3_init rfl (by decide) rfl (Nat.le_of_ble_eq_true rfl) rfl (w_X3_init _ _ _ e7) ?_
  obtain ⟨h8, e8, hf⟩ := bS hf
  refine V.xpF dX11_init_36 fl_RX11_26 (fun h9 => nomatch h9) (fun _ => rfl) (fun _ => rfl) e8 ?_
  refine V.aload_n dX11_init_39 rfl 0 rfl ?_
  obtain ⟨h9, e9, hf⟩ := bS hf
  refine V.xmkO dX11_init_40 nc_RX11_30 e9 ?_
  refine V.dup dX11_init_43 rfl ?_
  obtain ⟨r10, e10, hf⟩ := bS hf
  refine V.callI (As := []) (st := [.ref (h8.1.length), .ref l0]) dX11_init_44 cl_RX11_32 sw_yX5_init rfl (by decide) rfl (Nat.le_of_ble_eq_true rfl) rfl (w_X5_init _ _ _ e10) ?_
  obtain ⟨h11, e11, hf⟩ := bS hf
  refine V.xpF dX11_init_47 fl_RX11_33 (fun _ => rfl) (fun _ => rfl) (fun _ => rfl) e11 ?_
  refine V.aload_n dX11_init_50 rfl 0 rfl ?_
  refine V.iconst (v := (3 : Int32)) dX11_init_51 (by decide) ?_
  obtain ⟨h12, e12, hf⟩ := bS hf
  refine V.xmkN dX11_init_52 ncl_RX11_23 (by decide) e12 ?_
  obtain ⟨h13, e13, hf⟩ := bS hf
  refine V.xpF dX11_init_55 fl_RX11_37 (fun _ => rfl) (fun _ => rfl) (fun _ => rfl) e13 ?_
  refine V.aload_n dX11_init_58 rfl 0 rfl ?_
  refine V.iconst (v := (3 : Int32)) dX11_init_59 (by decide) ?_
  obtain ⟨h14, e14, hf⟩ := bS hf
  refine V.xmkN dX11_init_60 ncl_RX11_30 (by decide) e14 ?_
  obtain ⟨h15, e15, hf⟩ := bS hf
  refine V.xpF dX11_init_63 fl_RX11_41 (fun _ => rfl) (fun _ => rfl) (fun _ => rfl) e15 ?_
  refine V.aload_n dX11_init_66 rfl 0 rfl ?_
  refine V.lconst (v := 0) dX11_init_67 (by decide) ?_
  obtain ⟨h16, e16, hf⟩ := bS hf
  refine V.xpF dX11_init_68 fl_RX11_45 (fun h9 => nomatch h9) (fun _ => rfl) (fun _ => rfl) e16 ?_
  refine V.aload_n dX11_init_71 rfl 0 rfl ?_
  refine V.lconst (v := 0) dX11_init_72 (by decide) ?_
  obtain ⟨h17, e17, hf⟩ := bS hf
  refine V.xpF dX11_init_73 fl_RX11_49 (fun h9 => nomatch h9) (fun _ => rfl) (fun _ => rfl) e17 ?_
  refine V.aload_n dX11_init_76 rfl 0 rfl ?_
  obtain ⟨h18, e18, hf⟩ := bS hf
  refine V.xmkO dX11_init_77 nc_RX11_52 e18 ?_
  refine V.dup dX11_init_80 rfl ?_
  obtain ⟨r19, e19, hf⟩ := bS hf
  refine V.callI (As := []) (st := [.ref (h17.1.length), .ref l0]) dX11_init_81 cl_RX11_54 sw_yX10_init rfl (by decide) rfl (Nat.le_of_ble_eq_true rfl) rfl (w_X10_init _ _ _ e19) ?_
  obtain ⟨h20, e20, hf⟩ := bS hf
  refine V.xpF dX11_init_84 fl_RX11_55 (fun _ => rfl) (fun _ => rfl) (fun _ => rfl) e20 ?_
  refine V.aload_n dX11_init_87 rfl 0 rfl ?_
  refine V.bipush (v := (16 : Int32)) dX11_init_88 (by decide) ?_
  obtain ⟨h21, e21, hf⟩ := bS hf
  refine V.xmkI dX11_init_90 rfl rfl aw_int (by decide) e21 ?_
  obtain ⟨h22, e22, hf⟩ := bS hf
  refine V.xpF dX11_init_92 fl_RX11_59 (fun _ => rfl) (fun _ => rfl) (fun _ => rfl) e22 ?_
  refine V.aload_n dX11_init_95 rfl 0 rfl ?_
  obtain ⟨h23, e23, hf⟩ := bS hf
  refine V.xmkO dX11_init_96 nc_RX11_63 e23 ?_
  refine V.dup dX11_init_99 rfl ?_
  obtain ⟨r24, e24, hf⟩ := bS hf
  refine V.callIN (host := "LitNextDoor") (As := []) (st := [.ref (h22.1.length), .ref l0]) dX11_init_100 nl_RX11_65.1 nl_RX11_65.2 sw_yX2_init rfl (by decide) rfl (Nat.le_of_ble_eq_true rfl) rfl (w_X2_init _ _ _ e24) ?_
  obtain ⟨h25, e25, hf⟩ := bS hf
  refine V.xpF dX11_init_103 fl_RX11_66 (fun _ => rfl) (fun _ => rfl) (fun _ => rfl) e25 ?_
  refine V.aload_n dX11_init_106 rfl 0 rfl ?_
  obtain ⟨h26, e26, hf⟩ := bS hf
  refine V.xmkO dX11_init_107 nc_RX11_70 e26 ?_
  refine V.dup dX11_init_110 rfl ?_
  obtain ⟨r27, e27, hf⟩ := bS hf
  refine V.callIN (host := "LitNextDoor") (As := []) (st := [.ref (h25.1.length), .ref l0]) dX11_init_111 nl_RX11_72.1 nl_RX11_72.2 sw_yX4_init rfl (by decide) rfl (Nat.le_of_ble_eq_true rfl) rfl (w_X4_init _ _ _ e27) ?_
  obtain ⟨h28, e28, hf⟩ := bS hf
  refine V.xpF dX11_init_114 fl_RX11_73 (fun _ => rfl) (fun _ => rfl) (fun _ => rfl) e28 ?_
  refine V.aload_n dX11_init_117 rfl 0 rfl ?_
  obtain ⟨h29, e29, hf⟩ := bS hf
  refine V.xmkO dX11_init_118 nc_RX11_77 e29 ?_
  refine V.dup dX11_init_121 rfl ?_
  obtain ⟨r30, e30, hf⟩ := bS hf
  refine V.callIN (host := "LitNextDoor") (As := []) (st := [.ref (h28.1.length), .ref l0]) dX11_init_122 nl_RX11_79.1 nl_RX11_79.2 sw_yX6_init rfl (by decide) rfl (Nat.le_of_ble_eq_true rfl) rfl (w_X6_init _ _ _ e30) ?_
  obtain ⟨h31, e31, hf⟩ := bS hf
  refine V.xpF dX11_init_125 fl_RX11_80 (fun _ => rfl) (fun _ => rfl) (fun _ => rfl) e31 ?_
  refine V.aload_n dX11_init_128 rfl 0 rfl ?_
  obtain ⟨h32, e32, hf⟩ := bS hf
  refine V.xmkO dX11_init_129 nc_RX11_84 e32 ?_
  refine V.dup dX11_init_132 rfl ?_
  obtain ⟨r33, e33, hf⟩ := bS hf
  refine V.callIN (host := "LitNextDoor") (As := []) (st := [.ref (h31.1.length), .ref l0]) dX11_init_133 nl_RX11_86.1 nl_RX11_86.2 sw_yX1_init rfl (by decide) rfl (Nat.le_of_ble_eq_true rfl) rfl (w_X1_init _ _ _ e33) ?_
  obtain ⟨h34, e34, hf⟩ := bS hf
  refine V.xpF dX11_init_136 fl_RX11_87 (fun _ => rfl) (fun _ => rfl) (fun _ => rfl) e34 ?_
  refine V.aload_n dX11_init_139 rfl 0 rfl ?_
  obtain ⟨h35, e35, hf⟩ := bS hf
  refine V.xmkO dX11_init_140 nc_RX11_91 e35 ?_
  refine V.dup dX11_init_143 rfl ?_
  obtain ⟨r36, e36, hf⟩ := bS hf
  refine V.callIN (host := "LitNextDoor") (As := []) (st := [.ref (h34.1.length), .ref l0]) dX11_init_144 nl_RX11_93.1 nl_RX11_93.2 sw_yX9_init rfl (by decide) rfl (Nat.le_of_ble_eq_true rfl) rfl (w_X9_init _ _ _ e36) ?_
  obtain ⟨h37, e37, hf⟩ := bS hf
  refine V.xpF dX11_init_147 fl_RX11_94 (fun _ => rfl) (fun _ => rfl) (fun _ => rfl) e37 ?_
  refine V.aload_n dX11_init_150 rfl 0 rfl ?_
  refine V.anull dX11_init_151 ?_
  obtain ⟨h38, e38, hf⟩ := bS hf
  refine V.xpF dX11_init_152 fl_RX11_98 (fun h9 => nomatch h9) (fun _ => rfl) (fun _ => rfl) e38 ?_
  obtain rfl := Option.some.inj hf
  exact V.vret dX11_init_155

def f_X11_fewestOf (h : xH) (l0 : Nat) (l1 : Int32) : Option (Int32 × xH) := (gR h l0 11 12).bind fun v1 => (gR h l0 11 4).bind fun v2 => (gI h v2 3 1).bind fun v3 => (gR h l0 11 4).bind fun v4 => (gR h v4 3 14).bind fun v5 => (gO h v1 2).bind fun q6 => (f_X2_lay h v1 v3 v5 l1).bind fun r7 => (gR r7 l0 11 12).bind fun v8 => (gR r7 l0 11 4).bind fun v9 => (gO r7 v9 3).bind fun q10 => (f_X3_allRooms r7 v9).bind fun r11 => (gO r7 v8 2).bind fun q12 => (f_X2_fewest r7 v8 r11 (0 : Int32)).bind fun r13 => some ((r13, r7))
set_option maxRecDepth 20000 in
theorem w_X11_fewestOf (h : xH) (l0 : Nat) (l1 : Int32) (r : Int32 × xH) (hf : f_X11_fewestOf h l0 l1 = some r) : Ev 47 yX11_fewestOf cX11_fewestOf 2 (some .int) [] [.ref l0, .int l1] h (oIh r) := by
  refine Ev.of (by decide +kernel) (Nat.le_of_ble_eq_true rfl) ?_
  unfold f_X11_fewestOf at hf
  refine V.aload_n dX11_fewestOf_0 rfl 0 rfl ?_
  obtain ⟨v1, e1, hf⟩ := bS hf
  refine V.xgR dX11_fewestOf_1 fl_RX11_66 e1 ?_
  refine V.aload_n dX11_fewestOf_4 rfl 0 rfl ?_
  obtain ⟨v2, e2, hf⟩ := bS hf
  refine V.xgR dX11_fewestOf_5 fl_RX11_26 e2 ?_
  obtain ⟨v3, e3, hf⟩ := bS hf
  refine V.xgI dX11_fewestOf_8 fl_RX11_162 e3 ?_
  refine V.aload_n dX11_fewestOf_11 rfl 0 rfl ?_
  obtain ⟨v4, e4, hf⟩ := bS hf
  refine V.xgR dX11_fewestOf_12 fl_RX11_26 e4 ?_
  obtain ⟨v5, e5, hf⟩ := bS hf
  refine V.rgR dX11_fewestOf_15 fl_RX11_224 e5 ?_
  refine V.iload_n dX11_fewestOf_18 rfl 1 rfl ?_
  obtain ⟨q6, e6, hf⟩ := bS hf
  obtain ⟨r7, e7, hf⟩ := bS hf
  refine V.callV (As := [.int v3, .ref v5, .int l1]) (st := []) dX11_fewestOf_19 cl_RX11_230 sw_yX2_lay (by decide) rfl (Nat.le_of_ble_eq_true rfl) rfl (gO_some e6) rfl (w_X2_lay _ _ _ _ _ _ e7) ?_
  refine V.aload_n dX11_fewestOf_22 rfl 0 rfl ?_
  obtain ⟨v8, e8, hf⟩ := bS hf
  refine V.xgR dX11_fewestOf_23 fl_RX11_66 e8 ?_
  refine V.aload_n dX11_fewestOf_26 rfl 0 rfl ?_
  obtain ⟨v9, e9, hf⟩ := bS hf
  refine V.xgR dX11_fewestOf_27 fl_RX11_26 e9 ?_
  obtain ⟨q10, e10, hf⟩ := bS hf
  obtain ⟨r11, e11, hf⟩ := bS hf
  refine V.callV (As := []) (st := [.ref v8]) dX11_fewestOf_30 cl_RX11_216 sw_yX3_allRooms (by decide) rfl (Nat.le_of_ble_eq_true rfl) rfl (gO_some e10) rfl (w_X3_allRooms _ _ _ e11) ?_
  refine V.iconst (v := (0 : Int32)) dX11_fewestOf_33 (by decide) ?_
  obtain ⟨q12, e12, hf⟩ := bS hf
  obtain ⟨r13, e13, hf⟩ := bS hf
  refine V.callV (As := [.int r11, .int (0 : Int32)]) (st := []) dX11_fewestOf_34 cl_RX11_234 sw_yX2_fewest (by decide) rfl (Nat.le_of_ble_eq_true rfl) rfl (gO_some e12) rfl (w_X2_fewest _ _ _ _ _ e13) ?_
  obtain rfl := Option.some.inj hf
  exact V.iret dX11_fewestOf_37

def f_X11_always_26 : Nat → xH → Nat → Int32 → Int32 → Int32 → Int32 → Option (Int32 × xH)
  | 0, _, _, _, _, _, _ => none
  | n + 1, h, l0, l1, l2, l3, l4 => (gR h l0 11 4).bind fun v1 => (gI h v1 3 1).bind fun v2 => (if v2 ≤ l4 then (some ((l3, h))) else ((gR h l0 11 12).bind fun v4 => (gR h l0 11 4).bind fun v5 => (gI h v5 3 1).bind fun v6 => (gR h l0 11 4).bind fun v7 => (gR h v7 3 14).bind fun v8 => (gO h v4 2).bind fun q9 => (f_X2_lay h v4 v6 v8 (l1 &&& (((1 : Int32) <<< (l4 &&& 31)) ^^^ (-1 : Int32)))).bind fun r10 => (gR r10 l0 11 12).bind fun v11 => (f_J6_bitCount_0f7a4 r10 l2).bind fun r12 => (gO r10 v11 2).bind fun q13 => (f_X2_suffice r10 v11 l1 r12).bind fun r14 => (if r14 = 0 then (f_X11_always_26 n r10 l0 l1 l2 (l3 ||| ((1 : Int32) <<< (l4 &&& 31))) (l4 + 1)) else (f_X11_always_26 n r10 l0 l1 l2 l3 (l4 + 1)))))
def f_X11_always (h : xH) (l0 : Nat) : Option (Int32 × xH) := (gR h l0 11 4).bind fun v1 => (gO h v1 3).bind fun q2 => (f_X3_allRooms h v1).bind fun r3 => (gO h l0 11).bind fun q4 => (f_X11_fewestOf h l0 r3).bind fun r5 => (if r5.1 = (-1 : Int32) then (some (((0 : Int32), r5.2))) else (f_X11_always_26 xFU r5.2 l0 r3 (r5.1) (0 : Int32) (0 : Int32)))
set_option maxRecDepth 20000 in
theorem w_X11_always_26 : ∀ (n : Nat) (h : xH) (l0 : Nat) (l1 : Int32) (l2 : Int32) (l3 : Int32) (l4 : Int32) (r : Int32 × xH), f_X11_always_26 n h l0 l1 l2 l3 l4 = some r → V 48 yX11_always cX11_always 5 (some .int) [] none 26 [(0, .ref l0), (1, .int l1), (2, .int l2), (3, .int l3), (4, .int l4)] [] h (oIh r) := by
  intro n
  induction n with
  | zero => intro h l0 l1 l2 l3 l4 r hf; cases hf
  | succ n ih =>
    intro h l0 l1 l2 l3 l4 r hf
    rw [f_X11_always_26] at hf
    refine V.iload dX11_always_26 4 rfl ?_
    refine V.aload_n dX11_always_28 rfl 0 rfl ?_
    obtain ⟨v1, e1, hf⟩ := bS hf
    refine V.xgR dX11_always_29 fl_RX11_26 e1 ?_
    obtain ⟨v2, e2, hf⟩ := bS hf
    refine V.xgI dX11_always_32 fl_RX11_162 e2 ?_
    refine V.icmp_ge (tgt := 95) dX11_always_35 (by decide) (fun c3 => ?_) (fun c3 => ?_)
    · rw [if_pos c3] at hf
      refine V.iload_n dX11_always_95 rfl 3 rfl ?_
      obtain rfl := Option.some.inj hf
      exact V.iret dX11_always_96
    · rw [if_neg c3] at hf
      refine V.aload_n dX11_always_38 rfl 0 rfl ?_
      obtain ⟨v4, e3, hf⟩ := bS hf
      refine V.xgR dX11_always_39 fl_RX11_66 e3 ?_
      refine V.aload_n dX11_always_42 rfl 0 rfl ?_
      obtain ⟨v5, e4, hf⟩ := bS hf
      refine V.xgR dX11_always_43 fl_RX11_26 e4 ?_
      obtain ⟨v6, e5, hf⟩ := bS hf
      refine V.xgI dX11_always_46 fl_RX11_162 e5 ?_
      refine V.aload_n dX11_always_49 rfl 0 rfl ?_
      obtain ⟨v7, e6, hf⟩ := bS hf
      refine V.xgR dX11_always_50 fl_RX11_26 e6 ?_
      obtain ⟨v8, e7, hf⟩ := bS hf
      refine V.rgR dX11_always_53 fl_RX11_224 e7 ?_
      refine V.iload_n dX11_always_56 rfl 1 rfl ?_
      refine V.iconst (v := (1 : Int32)) dX11_always_57 (by decide) ?_
      refine V.iload dX11_always_58 4 rfl ?_
      refine V.ishl dX11_always_60 ?_
      refine V.iconst (v := (-1 : Int32)) dX11_always_61 (by decide) ?_
      refine V.ixor dX11_always_62 ?_
      refine V.iand dX11_always_63 ?_
      obtain ⟨q9, e8, hf⟩ := bS hf
      obtain ⟨r10, e9, hf⟩ := bS hf
      refine V.callV (As := [.int v6, .ref v8, .int (l1 &&& (((1 : Int32) <<< (l4 &&& 31)) ^^^ (-1 : Int32)))]) (st := []) dX11_always_64 cl_RX11_230 sw_yX2_lay (by decide) rfl (Nat.le_of_ble_eq_true rfl) rfl (gO_some e8) rfl (w_X2_lay _ _ _ _ _ _ e9) ?_
      refine V.aload_n dX11_always_67 rfl 0 rfl ?_
      obtain ⟨v11, e10, hf⟩ := bS hf
      refine V.xgR dX11_always_68 fl_RX11_66 e10 ?_
      refine V.iload_n dX11_always_71 rfl 1 rfl ?_
      refine V.iload_n dX11_always_72 rfl 2 rfl ?_
      obtain ⟨r12, e11, hf⟩ := bS hf
      refine V.callS (As := [.int l2]) (st := [.int l1, .ref v11]) dX11_always_73 cl_RX11_205 sw_yJ6_bitCount_0f7a4 (by decide) rfl (Nat.le_of_ble_eq_true rfl) rfl (w_J6_bitCount_0f7a4 _ _ _ e11) ?_
      obtain ⟨q13, e12, hf⟩ := bS hf
      obtain ⟨r14, e13, hf⟩ := bS hf
      refine V.callV (As := [.int l1, .int r12]) (st := []) dX11_always_76 cl_RX11_243 sw_yX2_suffice (by decide) rfl (Nat.le_of_ble_eq_true rfl) rfl (gO_some e12) rfl (w_X2_suffice _ _ _ _ _ e13) ?_
      refine V.if_ne (tgt := 89) dX11_always_79 (by decide) (fun c15 => ?_) (fun c15 => ?_)
      · rw [if_neg c15] at hf
        refine V.iinc (v := (l4 + 1)) (lv' := [(4, .int (l4 + 1)), (0, .ref l0), (1, .int l1), (2, .int l2), (3, .int l3)]) dX11_always_89 4 rfl rfl (Nat.le_of_ble_eq_true rfl) rfl ?_
        refine V.goto (tgt := 26) dX11_always_92 (by decide) ?_
        refine V.sub [1, 2, 3, 4, 0] rfl ?_
        exact ih _ _ _ _ _ _ _ hf
      · rw [if_pos c15] at hf
        refine V.iload_n dX11_always_82 rfl 3 rfl ?_
        refine V.iconst (v := (1 : Int32)) dX11_always_83 (by decide) ?_
        refine V.iload dX11_always_84 4 rfl ?_
        refine V.ishl dX11_always_86 ?_
        refine V.ior dX11_always_87 ?_
        refine V.istore_n (lv' := [(3, .int (l3 ||| ((1 : Int32) <<< (l4 &&& 31)))), (0, .ref l0), (1, .int l1), (2, .int l2), (4, .int l4)]) dX11_always_88 rfl (by decide) rfl ?_
        refine V.iinc (v := (l4 + 1)) (lv' := [(4, .int (l4 + 1)), (3, .int (l3 ||| ((1 : Int32) <<< (l4 &&& 31)))), (0, .ref l0), (1, .int l1), (2, .int l2)]) dX11_always_89 4 rfl rfl (Nat.le_of_ble_eq_true rfl) rfl ?_
        refine V.goto (tgt := 26) dX11_always_92 (by decide) ?_
        refine V.sub [2, 3, 4, 1, 0] rfl ?_
        exact ih _ _ _ _ _ _ _ hf

set_option maxRecDepth 20000 in
theorem w_X11_always (h : xH) (l0 : Nat) (r : Int32 × xH) (hf : f_X11_always h l0 = some r) : Ev 48 yX11_always cX11_always 5 (some .int) [] [.ref l0] h (oIh r) := by
  refine Ev.of (by decide +kernel) (Nat.le_of_ble_eq_true rfl) ?_
  unfold f_X11_always at hf
  refine V.aload_n dX11_always_0 rfl 0 rfl ?_
  obtain ⟨v1, e14, hf⟩ := bS hf
  refine V.xgR dX11_always_1 fl_RX11_26 e14 ?_
  obtain ⟨q2, e15, hf⟩ := bS hf
  obtain ⟨r3, e16, hf⟩ := bS hf
  refine V.callV (As := []) (st := []) dX11_always_4 cl_RX11_216 sw_yX3_allRooms (by decide) rfl (Nat.le_of_ble_eq_true rfl) rfl (gO_some e15) rfl (w_X3_allRooms _ _ _ e16) ?_
  refine V.istore_n (lv' := [(1, .int r3), (0, .ref l0)]) dX11_always_7 rfl (by decide) rfl ?_
  refine V.aload_n dX11_always_8 rfl 1 rfl ?_
  refine V.iload_n dX11_always_9 rfl 0 rfl ?_
  obtain ⟨q4, e17, hf⟩ := bS hf
  obtain ⟨r5, e18, hf⟩ := bS hf
  refine V.callV (As := [.int r3]) (st := []) dX11_always_10 cl_RX11_237 sw_yX11_fewestOf (by decide) rfl (Nat.le_of_ble_eq_true rfl) rfl (gO_some e17) rfl (w_X11_fewestOf _ _ _ _ e18) ?_
  refine V.istore_n (lv' := [(2, .int r5.1), (1, .int r3), (0, .ref l0)]) dX11_always_13 rfl (by decide) rfl ?_
  refine V.iload_n dX11_always_14 rfl 0 rfl ?_
  refine V.iconst (v := (-1 : Int32)) dX11_always_15 (by decide) ?_
  refine V.icmp_ne (tgt := 21) dX11_always_16 (by decide) (fun c6 => ?_) (fun c6 => ?_)
  · rw [if_neg c6] at hf
    refine V.iconst (v := (0 : Int32)) dX11_always_21 (by decide) ?_
    refine V.istore_n (lv' := [(3, .int (0 : Int32)), (2, .int r5.1), (1, .int r3), (0, .ref l0)]) dX11_always_22 rfl (by decide) rfl ?_
    refine V.iconst (v := (0 : Int32)) dX11_always_23 (by decide) ?_
    refine V.istore (lv' := [(4, .int (0 : Int32)), (3, .int (0 : Int32)), (2, .int r5.1), (1, .int r3), (0, .ref l0)]) dX11_always_24 (by decide) rfl ?_
    refine V.sub [4, 3, 2, 1, 0] rfl ?_
    exact w_X11_always_26 _ _ _ _ _ _ _ _ hf
  · rw [if_pos c6] at hf
    refine V.iconst (v := (0 : Int32)) dX11_always_19 (by decide) ?_
    obtain rfl := Option.some.inj hf
    exact V.iret dX11_always_20

def f_X11_checkHour_10 (h : xH) : Option ((String × xH) ⊕ (Unit)) := some (.inl ("java/lang/IllegalArgumentException", thr h))
def f_X11_checkHour (h : xH) (l0 : Int32) : Option ((String × xH) ⊕ (Unit)) := (if l0 < 0 then (f_X11_checkHour_10 h) else ((if l0 < (24 : Int32) then (some (.inr ())) else (f_X11_checkHour_10 h))))
set_option maxRecDepth 20000 in
theorem w_X11_checkHour_10 (h : xH) (r : (String × xH) ⊕ (Unit)) (hf : f_X11_checkHour_10 h = some r) : V 4 yX11_checkHour cX11_checkHour 1 none [] none 10 [] [] h (oTV h r) := by
  unfold f_X11_checkHour_10 at hf
  obtain rfl := Option.some.inj hf
  exact V.throwSW (i := 24) th_110 (by decide) dX11_checkHour_10 dX11_checkHour_13 dX11_checkHour_14 dX11_checkHour_17 dX11_checkHour_20 (by decide) (Nat.le_of_ble_eq_true rfl)

set_option maxRecDepth 20000 in
theorem w_X11_checkHour (h : xH) (l0 : Int32) (r : (String × xH) ⊕ (Unit)) (hf : f_X11_checkHour h l0 = some r) : Ev 4 yX11_checkHour cX11_checkHour 1 none [] [.int l0] h (oTV h r) := by
  refine Ev.of (by decide +kernel) (Nat.le_of_ble_eq_true rfl) ?_
  unfold f_X11_checkHour at hf
  refine V.iload_n dX11_checkHour_0 rfl 0 rfl ?_
  refine V.if_lt (tgt := 10) dX11_checkHour_1 (by decide) (fun c1 => ?_) (fun c1 => ?_)
  · rw [if_pos c1] at hf
    refine V.sub [] rfl ?_
    exact w_X11_checkHour_10 _ _ hf
  · rw [if_neg c1] at hf
    refine V.iload_n dX11_checkHour_4 rfl 0 rfl ?_
    refine V.bipush (v := (24 : Int32)) dX11_checkHour_5 (by decide) ?_
    refine V.icmp_lt (tgt := 21) dX11_checkHour_7 (by decide) (fun c2 => ?_) (fun c2 => ?_)
    · rw [if_pos c2] at hf
      obtain rfl := Option.some.inj hf
      exact V.vret dX11_checkHour_21
    · rw [if_neg c2] at hf
      refine V.sub [] rfl ?_
      exact w_X11_checkHour_10 _ _ hf

def f_X11_angry_18 (h : xH) : Nat → Nat → Int32 → Int32 → Int32 → Option ((String × xH) ⊕ (Int32))
  | 0, _, _, _, _ => none
  | n + 1, l0, l2, l3, l4 => (gR h l0 11 4).bind fun v1 => (gI h v1 3 1).bind fun v2 => (if v2 ≤ l4 then (some (.inr l3)) else ((gR h l0 11 4).bind fun v4 => (gR h v4 3 13).bind fun v5 => (ldI h .int v5 l4).bind fun v6 => (gR h l0 11 4).bind fun v7 => (gR h v7 3 12).bind fun v8 => (ldI h .int v8 l4).bind fun v9 => (if ((l2 &&& v6) &&& v9) = 0 then (f_X11_angry_18 h n l0 l2 l3 (l4 + 1)) else (f_X11_angry_18 h n l0 l2 (l3 ||| ((1 : Int32) <<< (l4 &&& 31))) (l4 + 1)))))
def f_X11_angry (h : xH) (l0 : Nat) (l1 : Int32) : Option ((String × xH) ⊕ (Int32)) := (f_X11_checkHour h l1).bind fun r1 => (match r1 with | .inl E2 => (some (.inl E2)) | .inr v3 => ((gR h l0 11 5).bind fun v4 => (gO h v4 5).bind fun q5 => (f_X5_burning h v4 l1).bind fun r6 => f_X11_angry_18 h xFU l0 r6 (0 : Int32) (0 : Int32)))
set_option maxRecDepth 20000 in
theorem w_X11_angry_18 (h : xH) : ∀ (n : Nat) (l0 : Nat) (l2 : Int32) (l3 : Int32) (l4 : Int32) (r : (String × xH) ⊕ (Int32)), f_X11_angry_18 h n l0 l2 l3 l4 = some r → V 5 yX11_angry cX11_angry 5 (some .int) [] none 18 [(0, .ref l0), (2, .int l2), (3, .int l3), (4, .int l4)] [] h (oTI h r) := by
  intro n
  induction n with
  | zero => intro l0 l2 l3 l4 r hf; cases hf
  | succ n ih =>
    intro l0 l2 l3 l4 r hf
    rw [f_X11_angry_18] at hf
    refine V.iload dX11_angry_18 3 rfl ?_
    refine V.aload_n dX11_angry_20 rfl 0 rfl ?_
    obtain ⟨v1, e1, hf⟩ := bS hf
    refine V.xgR dX11_angry_21 fl_RX11_26 e1 ?_
    obtain ⟨v2, e2, hf⟩ := bS hf
    refine V.xgI dX11_angry_24 fl_RX11_162 e2 ?_
    refine V.icmp_ge (tgt := 69) dX11_angry_27 (by decide) (fun c3 => ?_) (fun c3 => ?_)
    · rw [if_pos c3] at hf
      refine V.iload_n dX11_angry_69 rfl 2 rfl ?_
      obtain rfl := Option.some.inj hf
      exact V.iret dX11_angry_70
    · rw [if_neg c3] at hf
      refine V.iload_n dX11_angry_30 rfl 1 rfl ?_
      refine V.aload_n dX11_angry_31 rfl 0 rfl ?_
      obtain ⟨v4, e3, hf⟩ := bS hf
      refine V.xgR dX11_angry_32 fl_RX11_26 e3 ?_
      obtain ⟨v5, e4, hf⟩ := bS hf
      refine V.rgR dX11_angry_35 fl_RX11_156 e4 ?_
      refine V.iload dX11_angry_38 3 rfl ?_
      obtain ⟨v6, e5, hf⟩ := bS hf
      refine V.xldI dX11_angry_40 e5 ?_
      refine V.iand dX11_angry_41 ?_
      refine V.aload_n dX11_angry_42 rfl 0 rfl ?_
      obtain ⟨v7, e6, hf⟩ := bS hf
      refine V.xgR dX11_angry_43 fl_RX11_26 e6 ?_
      obtain ⟨v8, e7, hf⟩ := bS hf
      refine V.rgR dX11_angry_46 fl_RX11_159 e7 ?_
      refine V.iload dX11_angry_49 3 rfl ?_
      obtain ⟨v9, e8, hf⟩ := bS hf
      refine V.xldI dX11_angry_51 e8 ?_
      refine V.iand dX11_angry_52 ?_
      refine V.if_eq (tgt := 63) dX11_angry_53 (by decide) (fun c10 => ?_) (fun c10 => ?_)
      · rw [if_pos c10] at hf
        refine V.iinc (v := (l4 + 1)) (lv' := [(4, .int (l4 + 1)), (0, .ref l0), (2, .int l2), (3, .int l3)]) dX11_angry_63 3 rfl rfl (Nat.le_of_ble_eq_true rfl) rfl ?_
        refine V.goto (tgt := 18) dX11_angry_66 (by decide) ?_
        refine V.sub [1, 2, 3, 0] rfl ?_
        exact ih _ _ _ _ _ hf
      · rw [if_neg c10] at hf
        refine V.iload_n dX11_angry_56 rfl 2 rfl ?_
        refine V.iconst (v := (1 : Int32)) dX11_angry_57 (by decide) ?_
        refine V.iload dX11_angry_58 3 rfl ?_
        refine V.ishl dX11_angry_60 ?_
        refine V.ior dX11_angry_61 ?_
        refine V.istore_n (lv' := [(3, .int (l3 ||| ((1 : Int32) <<< (l4 &&& 31)))), (0, .ref l0), (2, .int l2), (4, .int l4)]) dX11_angry_62 rfl (by decide) rfl ?_
        refine V.iinc (v := (l4 + 1)) (lv' := [(4, .int (l4 + 1)), (3, .int (l3 ||| ((1 : Int32) <<< (l4 &&& 31)))), (0, .ref l0), (2, .int l2)]) dX11_angry_63 3 rfl rfl (Nat.le_of_ble_eq_true rfl) rfl ?_
        refine V.goto (tgt := 18) dX11_angry_66 (by decide) ?_
        refine V.sub [2, 3, 1, 0] rfl ?_
        exact ih _ _ _ _ _ hf

set_option maxRecDepth 20000 in
theorem w_X11_angry (h : xH) (l0 : Nat) (l1 : Int32) (r : (String × xH) ⊕ (Int32)) (hf : f_X11_angry h l0 l1 = some r) : Ev 5 yX11_angry cX11_angry 5 (some .int) [] [.ref l0, .int l1] h (oTI h r) := by
  refine Ev.of (by decide +kernel) (Nat.le_of_ble_eq_true rfl) ?_
  unfold f_X11_angry at hf
  refine V.iload_n dX11_angry_0 rfl 1 rfl ?_
  obtain ⟨r1, e9, hf⟩ := bS hf
  rcases r1 with E2 | v3
  · obtain rfl := Option.some.inj hf
    exact V.callST (As := [.int l1]) (st := []) dX11_angry_1 cl_RX11_181 sw_yX11_checkHour (by decide) rfl (Nat.le_of_ble_eq_true rfl) rfl (by decide) (w_X11_checkHour _ _ _ e9)
  · refine V.callS (As := [.int l1]) (st := []) dX11_angry_1 cl_RX11_181 sw_yX11_checkHour (by decide) rfl (Nat.le_of_ble_eq_true rfl) rfl (w_X11_checkHour _ _ _ e9) ?_
    refine V.aload_n dX11_angry_4 rfl 0 rfl ?_
    obtain ⟨v4, e10, hf⟩ := bS hf
    refine V.xgR dX11_angry_5 fl_RX11_33 e10 ?_
    refine V.iload_n dX11_angry_8 rfl 1 rfl ?_
    obtain ⟨q5, e11, hf⟩ := bS hf
    obtain ⟨r6, e12, hf⟩ := bS hf
    refine V.callV (As := [.int l1]) (st := []) dX11_angry_9 cl_RX11_184 sw_yX5_burning (by decide) rfl (Nat.le_of_ble_eq_true rfl) rfl (gO_some e11) rfl (w_X5_burning _ _ _ _ e12) ?_
    refine V.istore_n (lv' := [(2, .int r6), (0, .ref l0), (1, .int l1)]) dX11_angry_12 rfl (by decide) rfl ?_
    refine V.iconst (v := (0 : Int32)) dX11_angry_13 (by decide) ?_
    refine V.istore_n (lv' := [(3, .int (0 : Int32)), (2, .int r6), (0, .ref l0), (1, .int l1)]) dX11_angry_14 rfl (by decide) rfl ?_
    refine V.iconst (v := (0 : Int32)) dX11_angry_15 (by decide) ?_
    refine V.istore (lv' := [(4, .int (0 : Int32)), (3, .int (0 : Int32)), (2, .int r6), (0, .ref l0), (1, .int l1)]) dX11_angry_16 (by decide) rfl ?_
    refine V.sub [3, 2, 1, 0] rfl ?_
    exact w_X11_angry_18 h _ _ _ _ _ _ hf

def f_X11_areHours (h : xH) (l0 : Int64) : Option (Int32) := (if (lg_cmp l0 (0 : Int64)) < 0 then (some ((0 : Int32))) else ((if 0 < (lg_cmp l0 (16777215 : Int64)) then (some ((0 : Int32))) else (some ((1 : Int32))))))
set_option maxRecDepth 20000 in
theorem w_X11_areHours (h : xH) (l0 : Int64) (r : Int32) (hf : f_X11_areHours h l0 = some r) : Ev 3 yX11_areHours cX11_areHours 2 (some .boolean) [] [.long l0] h (oI h r) := by
  refine Ev.of (by decide +kernel) (Nat.le_of_ble_eq_true rfl) ?_
  unfold f_X11_areHours at hf
  refine V.lload_n dX11_areHours_0 rfl 0 rfl ?_
  refine V.lconst (v := 0) dX11_areHours_1 (by decide) ?_
  refine V.lcmp dX11_areHours_2 ?_
  refine V.if_lt (tgt := 18) dX11_areHours_3 (by decide) (fun c1 => ?_) (fun c1 => ?_)
  · rw [if_pos c1] at hf
    refine V.iconst (v := (0 : Int32)) dX11_areHours_18 (by decide) ?_
    obtain rfl := Option.some.inj hf
    exact V.zret dX11_areHours_19 (by first | rfl | assumption)
  · rw [if_neg c1] at hf
    refine V.lload_n dX11_areHours_6 rfl 0 rfl ?_
    refine V.ldc2 (v := (16777215 : Int64)) dX11_areHours_7 cj_RX11_435 ?_
    refine V.lcmp dX11_areHours_10 ?_
    refine V.if_gt (tgt := 18) dX11_areHours_11 (by decide) (fun c2 => ?_) (fun c2 => ?_)
    · rw [if_pos c2] at hf
      refine V.iconst (v := (0 : Int32)) dX11_areHours_18 (by decide) ?_
      obtain rfl := Option.some.inj hf
      exact V.zret dX11_areHours_19 (by first | rfl | assumption)
    · rw [if_neg c2] at hf
      refine V.iconst (v := (1 : Int32)) dX11_areHours_14 (by decide) ?_
      refine V.goto (tgt := 19) dX11_areHours_15 (by decide) ?_
      obtain rfl := Option.some.inj hf
      exact V.zret dX11_areHours_19 (by first | rfl | assumption)

def f_X11_checkRoom_15 (h : xH) : Option ((String × xH) ⊕ (Unit)) := some (.inl ("java/util/NoSuchElementException", thr h))
def f_X11_checkRoom (h : xH) (l0 : Nat) (l1 : Int32) : Option ((String × xH) ⊕ (Unit)) := (if l1 < 0 then (f_X11_checkRoom_15 h) else ((gR h l0 11 4).bind fun v2 => (gI h v2 3 1).bind fun v3 => (if l1 < v3 then (some (.inr ())) else (f_X11_checkRoom_15 h))))
set_option maxRecDepth 20000 in
theorem w_X11_checkRoom_15 (h : xH) (r : (String × xH) ⊕ (Unit)) (hf : f_X11_checkRoom_15 h = some r) : V 4 yX11_checkRoom cX11_checkRoom 2 none [] none 15 [] [] h (oTV h r) := by
  unfold f_X11_checkRoom_15 at hf
  obtain rfl := Option.some.inj hf
  exact V.throwNSW (i := 22) th_139 (by decide) dX11_checkRoom_15 dX11_checkRoom_18 dX11_checkRoom_19 dX11_checkRoom_22 dX11_checkRoom_25 (by decide) (Nat.le_of_ble_eq_true rfl)

set_option maxRecDepth 20000 in
theorem w_X11_checkRoom (h : xH) (l0 : Nat) (l1 : Int32) (r : (String × xH) ⊕ (Unit)) (hf : f_X11_checkRoom h l0 l1 = some r) : Ev 4 yX11_checkRoom cX11_checkRoom 2 none [] [.ref l0, .int l1] h (oTV h r) := by
  refine Ev.of (by decide +kernel) (Nat.le_of_ble_eq_true rfl) ?_
  unfold f_X11_checkRoom at hf
  refine V.iload_n dX11_checkRoom_0 rfl 1 rfl ?_
  refine V.if_lt (tgt := 15) dX11_checkRoom_1 (by decide) (fun c1 => ?_) (fun c1 => ?_)
  · rw [if_pos c1] at hf
    refine V.sub [] rfl ?_
    exact w_X11_checkRoom_15 _ _ hf
  · rw [if_neg c1] at hf
    refine V.iload_n dX11_checkRoom_4 rfl 1 rfl ?_
    refine V.aload_n dX11_checkRoom_5 rfl 0 rfl ?_
    obtain ⟨v2, e1, hf⟩ := bS hf
    refine V.xgR dX11_checkRoom_6 fl_RX11_26 e1 ?_
    obtain ⟨v3, e2, hf⟩ := bS hf
    refine V.xgI dX11_checkRoom_9 fl_RX11_162 e2 ?_
    refine V.icmp_lt (tgt := 26) dX11_checkRoom_12 (by decide) (fun c4 => ?_) (fun c4 => ?_)
    · rw [if_pos c4] at hf
      obtain rfl := Option.some.inj hf
      exact V.vret dX11_checkRoom_26
    · rw [if_neg c4] at hf
      refine V.sub [] rfl ?_
      exact w_X11_checkRoom_15 _ _ hf

def f_X11_barred (h : xH) (l0 : Nat) (l1 : Int32) : Option ((String × xH) ⊕ (Int32 × xH)) := (gO h l0 11).bind fun q1 => (f_X11_checkRoom h l0 l1).bind fun r2 => (match r2 with | .inl E3 => (some (.inl E3)) | .inr v4 => ((gR h l0 11 4).bind fun v5 => (gO h v5 3).bind fun q6 => (f_X3_allRooms h v5).bind fun r7 => (gO h l0 11).bind fun q8 => (f_X11_fewestOf h l0 (r7 &&& (((1 : Int32) <<< (l1 &&& 31)) ^^^ (-1 : Int32)))).bind fun r9 => (if r9.1 = (-1 : Int32) then (some (.inr ((-1 : Int32), r9.2))) else ((f_J6_bitCount_0f7a4 r9.2 (r9.1)).bind fun r11 => some (.inr (r11, r9.2))))))
set_option maxRecDepth 20000 in
theorem w_X11_barred (h : xH) (l0 : Nat) (l1 : Int32) (r : (String × xH) ⊕ (Int32 × xH)) (hf : f_X11_barred h l0 l1 = some r) : Ev 48 yX11_barred cX11_barred 3 (some .int) [] [.ref l0, .int l1] h (oTIh r) := by
  refine Ev.of (by decide +kernel) (Nat.le_of_ble_eq_true rfl) ?_
  unfold f_X11_barred at hf
  refine V.aload_n dX11_barred_0 rfl 0 rfl ?_
  refine V.iload_n dX11_barred_1 rfl 1 rfl ?_
  obtain ⟨q1, e1, hf⟩ := bS hf
  obtain ⟨r2, e2, hf⟩ := bS hf
  rcases r2 with E3 | v4
  · obtain rfl := Option.some.inj hf
    exact V.callVT (As := [.int l1]) (st := []) dX11_barred_2 cl_RX11_153 sw_yX11_checkRoom (by decide) rfl (Nat.le_of_ble_eq_true rfl) rfl (gO_some e1) rfl (by decide) (w_X11_checkRoom _ _ _ _ e2)
  · refine V.callV (As := [.int l1]) (st := []) dX11_barred_2 cl_RX11_153 sw_yX11_checkRoom (by decide) rfl (Nat.le_of_ble_eq_true rfl) rfl (gO_some e1) rfl (w_X11_checkRoom _ _ _ _ e2) ?_
    refine V.aload_n dX11_barred_5 rfl 0 rfl ?_
    refine V.aload_n dX11_barred_6 rfl 0 rfl ?_
    obtain ⟨v5, e3, hf⟩ := bS hf
    refine V.xgR dX11_barred_7 fl_RX11_26 e3 ?_
    obtain ⟨q6, e4, hf⟩ := bS hf
    obtain ⟨r7, e5, hf⟩ := bS hf
    refine V.callV (As := []) (st := [.ref l0]) dX11_barred_10 cl_RX11_216 sw_yX3_allRooms (by decide) rfl (Nat.le_of_ble_eq_true rfl) rfl (gO_some e4) rfl (w_X3_allRooms _ _ _ e5) ?_
    refine V.iconst (v := (1 : Int32)) dX11_barred_13 (by decide) ?_
    refine V.iload_n dX11_barred_14 rfl 1 rfl ?_
    refine V.ishl dX11_barred_15 ?_
    refine V.iconst (v := (-1 : Int32)) dX11_barred_16 (by decide) ?_
    refine V.ixor dX11_barred_17 ?_
    refine V.iand dX11_barred_18 ?_
    obtain ⟨q8, e6, hf⟩ := bS hf
    obtain ⟨r9, e7, hf⟩ := bS hf
    refine V.callV (As := [.int (r7 &&& (((1 : Int32) <<< (l1 &&& 31)) ^^^ (-1 : Int32)))]) (st := []) dX11_barred_19 cl_RX11_237 sw_yX11_fewestOf (by decide) rfl (Nat.le_of_ble_eq_true rfl) rfl (gO_some e6) rfl (w_X11_fewestOf _ _ _ _ e7) ?_
    refine V.istore_n (lv' := [(2, .int r9.1), (0, .ref l0), (1, .int l1)]) dX11_barred_22 rfl (by decide) rfl ?_
    refine V.iload_n dX11_barred_23 rfl 0 rfl ?_
    refine V.iconst (v := (-1 : Int32)) dX11_barred_24 (by decide) ?_
    refine V.icmp_ne (tgt := 32) dX11_barred_25 (by decide) (fun c10 => ?_) (fun c10 => ?_)
    · rw [if_neg c10] at hf
      refine V.iload_n dX11_barred_32 rfl 0 rfl ?_
      obtain ⟨r11, e8, hf⟩ := bS hf
      refine V.callS (As := [.int (r9.1)]) (st := []) dX11_barred_33 cl_RX11_205 sw_yJ6_bitCount_0f7a4 (by decide) rfl (Nat.le_of_ble_eq_true rfl) rfl (w_J6_bitCount_0f7a4 _ _ _ e8) ?_
      obtain rfl := Option.some.inj hf
      exact V.iret dX11_barred_36
    · rw [if_pos c10] at hf
      refine V.iconst (v := (-1 : Int32)) dX11_barred_28 (by decide) ?_
      refine V.goto (tgt := 36) dX11_barred_29 (by decide) ?_
      obtain rfl := Option.some.inj hf
      exact V.iret dX11_barred_36

def f_X11_checkWhat_10 (h : xH) : Option ((String × xH) ⊕ (Unit)) := some (.inl ("java/lang/IllegalArgumentException", thr h))
def f_X11_checkWhat (h : xH) (l0 : Int32) (l1 : Int32) (l2 : Int32) : Option ((String × xH) ⊕ (Unit)) := (if l0 < l1 then (f_X11_checkWhat_10 h) else ((if l0 ≤ l2 then (some (.inr ())) else (f_X11_checkWhat_10 h))))
set_option maxRecDepth 20000 in
theorem w_X11_checkWhat_10 (h : xH) (r : (String × xH) ⊕ (Unit)) (hf : f_X11_checkWhat_10 h = some r) : V 4 yX11_checkWhat cX11_checkWhat 3 none [] none 10 [] [] h (oTV h r) := by
  unfold f_X11_checkWhat_10 at hf
  obtain rfl := Option.some.inj hf
  exact V.throwSW (i := 20) th_110 (by decide) dX11_checkWhat_10 dX11_checkWhat_13 dX11_checkWhat_14 dX11_checkWhat_17 dX11_checkWhat_20 (by decide) (Nat.le_of_ble_eq_true rfl)

set_option maxRecDepth 20000 in
theorem w_X11_checkWhat (h : xH) (l0 : Int32) (l1 : Int32) (l2 : Int32) (r : (String × xH) ⊕ (Unit)) (hf : f_X11_checkWhat h l0 l1 l2 = some r) : Ev 4 yX11_checkWhat cX11_checkWhat 3 none [] [.int l0, .int l1, .int l2] h (oTV h r) := by
  refine Ev.of (by decide +kernel) (Nat.le_of_ble_eq_true rfl) ?_
  unfold f_X11_checkWhat at hf
  refine V.iload_n dX11_checkWhat_0 rfl 0 rfl ?_
  refine V.iload_n dX11_checkWhat_1 rfl 1 rfl ?_
  refine V.icmp_lt (tgt := 10) dX11_checkWhat_2 (by decide) (fun c1 => ?_) (fun c1 => ?_)
  · rw [if_pos c1] at hf
    refine V.sub [] rfl ?_
    exact w_X11_checkWhat_10 _ _ hf
  · rw [if_neg c1] at hf
    refine V.iload_n dX11_checkWhat_5 rfl 0 rfl ?_
    refine V.iload_n dX11_checkWhat_6 rfl 2 rfl ?_
    refine V.icmp_le (tgt := 21) dX11_checkWhat_7 (by decide) (fun c2 => ?_) (fun c2 => ?_)
    · rw [if_pos c2] at hf
      obtain rfl := Option.some.inj hf
      exact V.vret dX11_checkWhat_21
    · rw [if_neg c2] at hf
      refine V.sub [] rfl ?_
      exact w_X11_checkWhat_10 _ _ hf

def f_X11_best (h : xH) (l0 : Nat) (l1 : Int32) : Option ((String × xH) ⊕ (Int32 × xH)) := (f_X11_checkWhat h l1 (0 : Int32) (3 : Int32)).bind fun r1 => (match r1 with | .inl E2 => (some (.inl E2)) | .inr v3 => ((gR h l0 11 4).bind fun v4 => (gO h v4 3).bind fun q5 => (f_X3_allRooms h v4).bind fun r6 => (if l1 = (3 : Int32) then ((gR h l0 11 12).bind fun v36 => (gR h l0 11 4).bind fun v37 => (gI h v37 3 1).bind fun v38 => (gR h l0 11 4).bind fun v39 => (gR h v39 3 13).bind fun v40 => (gO h v36 2).bind fun q41 => (f_X2_lone h v36 v38 v40).bind fun r42 => some (.inr (r42.1, r42.2))) else ((if l1 = (2 : Int32) then ((gR h l0 11 12).bind fun v23 => (gR h l0 11 4).bind fun v24 => (gI h v24 3 1).bind fun v25 => (gR h l0 11 4).bind fun v26 => (gR h v26 3 14).bind fun v27 => (gR h l0 11 4).bind fun v28 => (gO h v28 3).bind fun q29 => (f_X3_unbearable h v28).bind fun r30 => (gO h v23 2).bind fun q31 => (f_X2_lay h v23 v25 v27 (r6 &&& (r30 ^^^ (-1 : Int32)))).bind fun r32 => (gR r32 l0 11 12).bind fun v33 => (gO r32 v33 2).bind fun q34 => (f_X2_fewest r32 v33 r6 (0 : Int32)).bind fun r35 => some (.inr (r35, r32))) else ((gR h l0 11 12).bind fun v9 => (gR h l0 11 4).bind fun v10 => (gI h v10 3 1).bind fun v11 => (gR h l0 11 4).bind fun v12 => (gR h v12 3 14).bind fun v13 => (gO h v9 2).bind fun q14 => (f_X2_lay h v9 v11 v13 r6).bind fun r15 => (if l1 = 0 then ((gR r15 l0 11 12).bind fun v20 => (gO r15 v20 2).bind fun q21 => (f_X2_fewest r15 v20 r6 (0 : Int32)).bind fun r22 => some (.inr (r22, r15))) else ((gR r15 l0 11 12).bind fun v17 => (gO r15 v17 2).bind fun q18 => (f_X2_fewest r15 v17 (0 : Int32) r6).bind fun r19 => some (.inr (r19, r15))))))))))
set_option maxRecDepth 20000 in
theorem w_X11_best (h : xH) (l0 : Nat) (l1 : Int32) (r : (String × xH) ⊕ (Int32 × xH)) (hf : f_X11_best h l0 l1 = some r) : Ev 47 yX11_best cX11_best 3 (some .int) [] [.ref l0, .int l1] h (oTIh r) := by
  refine Ev.of (by decide +kernel) (Nat.le_of_ble_eq_true rfl) ?_
  unfold f_X11_best at hf
  refine V.iload_n dX11_best_0 rfl 1 rfl ?_
  refine V.iconst (v := (0 : Int32)) dX11_best_1 (by decide) ?_
  refine V.iconst (v := (3 : Int32)) dX11_best_2 (by decide) ?_
  obtain ⟨r1, e1, hf⟩ := bS hf
  rcases r1 with E2 | v3
  · obtain rfl := Option.some.inj hf
    exact V.callST (As := [.int l1, .int (0 : Int32), .int (3 : Int32)]) (st := []) dX11_best_3 cl_RX11_140 sw_yX11_checkWhat (by decide) rfl (Nat.le_of_ble_eq_true rfl) rfl (by decide) (w_X11_checkWhat _ _ _ _ _ e1)
  · refine V.callS (As := [.int l1, .int (0 : Int32), .int (3 : Int32)]) (st := []) dX11_best_3 cl_RX11_140 sw_yX11_checkWhat (by decide) rfl (Nat.le_of_ble_eq_true rfl) rfl (w_X11_checkWhat _ _ _ _ _ e1) ?_
    refine V.aload_n dX11_best_6 rfl 0 rfl ?_
    obtain ⟨v4, e2, hf⟩ := bS hf
    refine V.xgR dX11_best_7 fl_RX11_26 e2 ?_
    obtain ⟨q5, e3, hf⟩ := bS hf
    obtain ⟨r6, e4, hf⟩ := bS hf
    refine V.callV (As := []) (st := []) dX11_best_10 cl_RX11_216 sw_yX3_allRooms (by decide) rfl (Nat.le_of_ble_eq_true rfl) rfl (gO_some e3) rfl (w_X3_allRooms _ _ _ e4) ?_
    refine V.istore_n (lv' := [(2, .int r6), (0, .ref l0), (1, .int l1)]) dX11_best_13 rfl (by decide) rfl ?_
    refine V.iload_n dX11_best_14 rfl 2 rfl ?_
    refine V.iconst (v := (3 : Int32)) dX11_best_15 (by decide) ?_
    refine V.icmp_ne (tgt := 41) dX11_best_16 (by decide) (fun c7 => ?_) (fun c7 => ?_)
    · rw [if_neg c7] at hf
      refine V.iload_n dX11_best_41 rfl 2 rfl ?_
      refine V.iconst (v := (2 : Int32)) dX11_best_42 (by decide) ?_
      refine V.icmp_ne (tgt := 88) dX11_best_43 (by decide) (fun c8 => ?_) (fun c8 => ?_)
      · rw [if_neg c8] at hf
        refine V.aload_n dX11_best_88 rfl 1 rfl ?_
        obtain ⟨v9, e5, hf⟩ := bS hf
        refine V.xgR dX11_best_89 fl_RX11_66 e5 ?_
        refine V.aload_n dX11_best_92 rfl 1 rfl ?_
        obtain ⟨v10, e6, hf⟩ := bS hf
        refine V.xgR dX11_best_93 fl_RX11_26 e6 ?_
        obtain ⟨v11, e7, hf⟩ := bS hf
        refine V.xgI dX11_best_96 fl_RX11_162 e7 ?_
        refine V.aload_n dX11_best_99 rfl 1 rfl ?_
        obtain ⟨v12, e8, hf⟩ := bS hf
        refine V.xgR dX11_best_100 fl_RX11_26 e8 ?_
        obtain ⟨v13, e9, hf⟩ := bS hf
        refine V.rgR dX11_best_103 fl_RX11_224 e9 ?_
        refine V.iload_n dX11_best_106 rfl 0 rfl ?_
        obtain ⟨q14, e10, hf⟩ := bS hf
        obtain ⟨r15, e11, hf⟩ := bS hf
        refine V.callV (As := [.int v11, .ref v13, .int r6]) (st := []) dX11_best_107 cl_RX11_230 sw_yX2_lay (by decide) rfl (Nat.le_of_ble_eq_true rfl) rfl (gO_some e10) rfl (w_X2_lay _ _ _ _ _ _ e11) ?_
        refine V.iload_n dX11_best_110 rfl 2 rfl ?_
        refine V.if_ne (tgt := 126) dX11_best_111 (by decide) (fun c16 => ?_) (fun c16 => ?_)
        · rw [if_neg c16] at hf
          refine V.aload_n dX11_best_126 rfl 1 rfl ?_
          obtain ⟨v17, e12, hf⟩ := bS hf
          refine V.xgR dX11_best_127 fl_RX11_66 e12 ?_
          refine V.iconst (v := (0 : Int32)) dX11_best_130 (by decide) ?_
          refine V.iload_n dX11_best_131 rfl 0 rfl ?_
          obtain ⟨q18, e13, hf⟩ := bS hf
          obtain ⟨r19, e14, hf⟩ := bS hf
          refine V.callV (As := [.int (0 : Int32), .int r6]) (st := []) dX11_best_132 cl_RX11_234 sw_yX2_fewest (by decide) rfl (Nat.le_of_ble_eq_true rfl) rfl (gO_some e13) rfl (w_X2_fewest _ _ _ _ _ e14) ?_
          obtain rfl := Option.some.inj hf
          exact V.iret dX11_best_135
        · rw [if_pos c16] at hf
          refine V.aload_n dX11_best_114 rfl 1 rfl ?_
          obtain ⟨v20, e15, hf⟩ := bS hf
          refine V.xgR dX11_best_115 fl_RX11_66 e15 ?_
          refine V.iload_n dX11_best_118 rfl 0 rfl ?_
          refine V.iconst (v := (0 : Int32)) dX11_best_119 (by decide) ?_
          obtain ⟨q21, e16, hf⟩ := bS hf
          obtain ⟨r22, e17, hf⟩ := bS hf
          refine V.callV (As := [.int r6, .int (0 : Int32)]) (st := []) dX11_best_120 cl_RX11_234 sw_yX2_fewest (by decide) rfl (Nat.le_of_ble_eq_true rfl) rfl (gO_some e16) rfl (w_X2_fewest _ _ _ _ _ e17) ?_
          refine V.goto (tgt := 135) dX11_best_123 (by decide) ?_
          obtain rfl := Option.some.inj hf
          exact V.iret dX11_best_135
      · rw [if_pos c8] at hf
        refine V.aload_n dX11_best_46 rfl 1 rfl ?_
        obtain ⟨v23, e18, hf⟩ := bS hf
        refine V.xgR dX11_best_47 fl_RX11_66 e18 ?_
        refine V.aload_n dX11_best_50 rfl 1 rfl ?_
        obtain ⟨v24, e19, hf⟩ := bS hf
        refine V.xgR dX11_best_51 fl_RX11_26 e19 ?_
        obtain ⟨v25, e20, hf⟩ := bS hf
        refine V.xgI dX11_best_54 fl_RX11_162 e20 ?_
        refine V.aload_n dX11_best_57 rfl 1 rfl ?_
        obtain ⟨v26, e21, hf⟩ := bS hf
        refine V.xgR dX11_best_58 fl_RX11_26 e21 ?_
        obtain ⟨v27, e22, hf⟩ := bS hf
        refine V.rgR dX11_best_61 fl_RX11_224 e22 ?_
        refine V.iload_n dX11_best_64 rfl 0 rfl ?_
        refine V.aload_n dX11_best_65 rfl 1 rfl ?_
        obtain ⟨v28, e23, hf⟩ := bS hf
        refine V.xgR dX11_best_66 fl_RX11_26 e23 ?_
        obtain ⟨q29, e24, hf⟩ := bS hf
        obtain ⟨r30, e25, hf⟩ := bS hf
        refine V.callV (As := []) (st := [.int r6, .ref v27, .int v25, .ref v23]) dX11_best_69 cl_RX11_227 sw_yX3_unbearable (by decide) rfl (Nat.le_of_ble_eq_true rfl) rfl (gO_some e24) rfl (w_X3_unbearable _ _ _ e25) ?_
        refine V.iconst (v := (-1 : Int32)) dX11_best_72 (by decide) ?_
        refine V.ixor dX11_best_73 ?_
        refine V.iand dX11_best_74 ?_
        obtain ⟨q31, e26, hf⟩ := bS hf
        obtain ⟨r32, e27, hf⟩ := bS hf
        refine V.callV (As := [.int v25, .ref v27, .int (r6 &&& (r30 ^^^ (-1 : Int32)))]) (st := []) dX11_best_75 cl_RX11_230 sw_yX2_lay (by decide) rfl (Nat.le_of_ble_eq_true rfl) rfl (gO_some e26) rfl (w_X2_lay _ _ _ _ _ _ e27) ?_
        refine V.aload_n dX11_best_78 rfl 1 rfl ?_
        obtain ⟨v33, e28, hf⟩ := bS hf
        refine V.xgR dX11_best_79 fl_RX11_66 e28 ?_
        refine V.iload_n dX11_best_82 rfl 0 rfl ?_
        refine V.iconst (v := (0 : Int32)) dX11_best_83 (by decide) ?_
        obtain ⟨q34, e29, hf⟩ := bS hf
        obtain ⟨r35, e30, hf⟩ := bS hf
        refine V.callV (As := [.int r6, .int (0 : Int32)]) (st := []) dX11_best_84 cl_RX11_234 sw_yX2_fewest (by decide) rfl (Nat.le_of_ble_eq_true rfl) rfl (gO_some e29) rfl (w_X2_fewest _ _ _ _ _ e30) ?_
        obtain rfl := Option.some.inj hf
        exact V.iret dX11_best_87
    · rw [if_pos c7] at hf
      refine V.aload_n dX11_best_19 rfl 1 rfl ?_
      obtain ⟨v36, e31, hf⟩ := bS hf
      refine V.xgR dX11_best_20 fl_RX11_66 e31 ?_
      refine V.aload_n dX11_best_23 rfl 1 rfl ?_
      obtain ⟨v37, e32, hf⟩ := bS hf
      refine V.xgR dX11_best_24 fl_RX11_26 e32 ?_
      obtain ⟨v38, e33, hf⟩ := bS hf
      refine V.xgI dX11_best_27 fl_RX11_162 e33 ?_
      refine V.aload_n dX11_best_30 rfl 1 rfl ?_
      obtain ⟨v39, e34, hf⟩ := bS hf
      refine V.xgR dX11_best_31 fl_RX11_26 e34 ?_
      obtain ⟨v40, e35, hf⟩ := bS hf
      refine V.rgR dX11_best_34 fl_RX11_156 e35 ?_
      obtain ⟨q41, e36, hf⟩ := bS hf
      obtain ⟨r42, e37, hf⟩ := bS hf
      refine V.callV (As := [.int v38, .ref v40]) (st := []) dX11_best_37 cl_RX11_220 sw_yX2_lone (by decide) rfl (Nat.le_of_ble_eq_true rfl) rfl (gO_some e36) rfl (w_X2_lone _ _ _ _ _ e37) ?_
      obtain rfl := Option.some.inj hf
      exact V.iret dX11_best_40

def f_X11_checkKind_15 (h : xH) : Option ((String × xH) ⊕ (Unit)) := some (.inl ("java/util/NoSuchElementException", thr h))
def f_X11_checkKind (h : xH) (l0 : Nat) (l1 : Int32) : Option ((String × xH) ⊕ (Unit)) := (if l1 < 0 then (f_X11_checkKind_15 h) else ((gR h l0 11 4).bind fun v2 => (gI h v2 3 4).bind fun v3 => (if l1 < v3 then (some (.inr ())) else (f_X11_checkKind_15 h))))
set_option maxRecDepth 20000 in
theorem w_X11_checkKind_15 (h : xH) (r : (String × xH) ⊕ (Unit)) (hf : f_X11_checkKind_15 h = some r) : V 4 yX11_checkKind cX11_checkKind 2 none [] none 15 [] [] h (oTV h r) := by
  unfold f_X11_checkKind_15 at hf
  obtain rfl := Option.some.inj hf
  exact V.throwNSW (i := 21) th_139 (by decide) dX11_checkKind_15 dX11_checkKind_18 dX11_checkKind_19 dX11_checkKind_22 dX11_checkKind_25 (by decide) (Nat.le_of_ble_eq_true rfl)

set_option maxRecDepth 20000 in
theorem w_X11_checkKind (h : xH) (l0 : Nat) (l1 : Int32) (r : (String × xH) ⊕ (Unit)) (hf : f_X11_checkKind h l0 l1 = some r) : Ev 4 yX11_checkKind cX11_checkKind 2 none [] [.ref l0, .int l1] h (oTV h r) := by
  refine Ev.of (by decide +kernel) (Nat.le_of_ble_eq_true rfl) ?_
  unfold f_X11_checkKind at hf
  refine V.iload_n dX11_checkKind_0 rfl 1 rfl ?_
  refine V.if_lt (tgt := 15) dX11_checkKind_1 (by decide) (fun c1 => ?_) (fun c1 => ?_)
  · rw [if_pos c1] at hf
    refine V.sub [] rfl ?_
    exact w_X11_checkKind_15 _ _ hf
  · rw [if_neg c1] at hf
    refine V.iload_n dX11_checkKind_4 rfl 1 rfl ?_
    refine V.aload_n dX11_checkKind_5 rfl 0 rfl ?_
    obtain ⟨v2, e1, hf⟩ := bS hf
    refine V.xgR dX11_checkKind_6 fl_RX11_26 e1 ?_
    obtain ⟨v3, e2, hf⟩ := bS hf
    refine V.xgI dX11_checkKind_9 fl_RX11_396 e2 ?_
    refine V.icmp_lt (tgt := 26) dX11_checkKind_12 (by decide) (fun c4 => ?_) (fun c4 => ?_)
    · rw [if_pos c4] at hf
      obtain rfl := Option.some.inj hf
      exact V.vret dX11_checkKind_26
    · rw [if_neg c4] at hf
      refine V.sub [] rfl ?_
      exact w_X11_checkKind_15 _ _ hf

def f_X11_bright (h : xH) (l0 : Nat) (l1 : Int32) (l2 : Int32) : Option ((String × xH) ⊕ (Int32 × xH)) := (gO h l0 11).bind fun q1 => (f_X11_checkKind h l0 l1).bind fun r2 => (match r2 with | .inl E3 => (some (.inl E3)) | .inr v4 => ((f_X11_checkHour h l2).bind fun r5 => (match r5 with | .inl E6 => (some (.inl E6)) | .inr v7 => ((gR h l0 11 13).bind fun v8 => (gR h l0 11 4).bind fun v9 => (gO h v8 4).bind fun q10 => (f_X4_fewest h v8 v9 l1 l2).bind fun r11 => some (.inr (r11.1, r11.2))))))
set_option maxRecDepth 20000 in
theorem w_X11_bright (h : xH) (l0 : Nat) (l1 : Int32) (l2 : Int32) (r : (String × xH) ⊕ (Int32 × xH)) (hf : f_X11_bright h l0 l1 l2 = some r) : Ev 47 yX11_bright cX11_bright 3 (some .int) [] [.ref l0, .int l1, .int l2] h (oTIh r) := by
  refine Ev.of (by decide +kernel) (Nat.le_of_ble_eq_true rfl) ?_
  unfold f_X11_bright at hf
  refine V.aload_n dX11_bright_0 rfl 0 rfl ?_
  refine V.iload_n dX11_bright_1 rfl 1 rfl ?_
  obtain ⟨q1, e1, hf⟩ := bS hf
  obtain ⟨r2, e2, hf⟩ := bS hf
  rcases r2 with E3 | v4
  · obtain rfl := Option.some.inj hf
    exact V.callVT (As := [.int l1]) (st := []) dX11_bright_2 cl_RX11_147 sw_yX11_checkKind (by decide) rfl (Nat.le_of_ble_eq_true rfl) rfl (gO_some e1) rfl (by decide) (w_X11_checkKind _ _ _ _ e2)
  · refine V.callV (As := [.int l1]) (st := []) dX11_bright_2 cl_RX11_147 sw_yX11_checkKind (by decide) rfl (Nat.le_of_ble_eq_true rfl) rfl (gO_some e1) rfl (w_X11_checkKind _ _ _ _ e2) ?_
    refine V.iload_n dX11_bright_5 rfl 2 rfl ?_
    obtain ⟨r5, e3, hf⟩ := bS hf
    rcases r5 with E6 | v7
    · obtain rfl := Option.some.inj hf
      exact V.callST (As := [.int l2]) (st := []) dX11_bright_6 cl_RX11_181 sw_yX11_checkHour (by decide) rfl (Nat.le_of_ble_eq_true rfl) rfl (by decide) (w_X11_checkHour _ _ _ e3)
    · refine V.callS (As := [.int l2]) (st := []) dX11_bright_6 cl_RX11_181 sw_yX11_checkHour (by decide) rfl (Nat.le_of_ble_eq_true rfl) rfl (w_X11_checkHour _ _ _ e3) ?_
      refine V.aload_n dX11_bright_9 rfl 0 rfl ?_
      obtain ⟨v8, e4, hf⟩ := bS hf
      refine V.xgR dX11_bright_10 fl_RX11_73 e4 ?_
      refine V.aload_n dX11_bright_13 rfl 0 rfl ?_
      obtain ⟨v9, e5, hf⟩ := bS hf
      refine V.xgR dX11_bright_14 fl_RX11_26 e5 ?_
      refine V.iload_n dX11_bright_17 rfl 1 rfl ?_
      refine V.iload_n dX11_bright_18 rfl 2 rfl ?_
      obtain ⟨q10, e6, hf⟩ := bS hf
      obtain ⟨r11, e7, hf⟩ := bS hf
      refine V.callV (As := [.ref v9, .int l1, .int l2]) (st := []) dX11_bright_19 cl_RX11_240 sw_yX4_fewest (by decide) rfl (Nat.le_of_ble_eq_true rfl) rfl (gO_some e6) rfl (w_X4_fewest _ _ _ _ _ _ e7) ?_
      obtain rfl := Option.some.inj hf
      exact V.iret dX11_bright_22

def f_X11_by (h : xH) (l0 : Nat) (l1 : Int32) (l2 : Int32) : Option ((String × xH) ⊕ (Int32)) := (gO h l0 11).bind fun q1 => (f_X11_checkRoom h l0 l1).bind fun r2 => (match r2 with | .inl E3 => (some (.inl E3)) | .inr v4 => ((f_X11_checkHour h l2).bind fun r5 => (match r5 with | .inl E6 => (some (.inl E6)) | .inr v7 => ((gR h l0 11 4).bind fun v8 => (gR h v8 3 13).bind fun v9 => (ldI h .int v9 l1).bind fun v10 => (gR h l0 11 5).bind fun v11 => (gO h v11 5).bind fun q12 => (f_X5_burning h v11 l2).bind fun r13 => some (.inr (v10 &&& r13))))))
set_option maxRecDepth 20000 in
theorem w_X11_by (h : xH) (l0 : Nat) (l1 : Int32) (l2 : Int32) (r : (String × xH) ⊕ (Int32)) (hf : f_X11_by h l0 l1 l2 = some r) : Ev 5 yX11_by cX11_by 3 (some .int) [] [.ref l0, .int l1, .int l2] h (oTI h r) := by
  refine Ev.of (by decide +kernel) (Nat.le_of_ble_eq_true rfl) ?_
  unfold f_X11_by at hf
  refine V.aload_n dX11_by_0 rfl 0 rfl ?_
  refine V.iload_n dX11_by_1 rfl 1 rfl ?_
  obtain ⟨q1, e1, hf⟩ := bS hf
  obtain ⟨r2, e2, hf⟩ := bS hf
  rcases r2 with E3 | v4
  · obtain rfl := Option.some.inj hf
    exact V.callVT (As := [.int l1]) (st := []) dX11_by_2 cl_RX11_153 sw_yX11_checkRoom (by decide) rfl (Nat.le_of_ble_eq_true rfl) rfl (gO_some e1) rfl (by decide) (w_X11_checkRoom _ _ _ _ e2)
  · refine V.callV (As := [.int l1]) (st := []) dX11_by_2 cl_RX11_153 sw_yX11_checkRoom (by decide) rfl (Nat.le_of_ble_eq_true rfl) rfl (gO_some e1) rfl (w_X11_checkRoom _ _ _ _ e2) ?_
    refine V.iload_n dX11_by_5 rfl 2 rfl ?_
    obtain ⟨r5, e3, hf⟩ := bS hf
    rcases r5 with E6 | v7
    · obtain rfl := Option.some.inj hf
      exact V.callST (As := [.int l2]) (st := []) dX11_by_6 cl_RX11_181 sw_yX11_checkHour (by decide) rfl (Nat.le_of_ble_eq_true rfl) rfl (by decide) (w_X11_checkHour _ _ _ e3)
    · refine V.callS (As := [.int l2]) (st := []) dX11_by_6 cl_RX11_181 sw_yX11_checkHour (by decide) rfl (Nat.le_of_ble_eq_true rfl) rfl (w_X11_checkHour _ _ _ e3) ?_
      refine V.aload_n dX11_by_9 rfl 0 rfl ?_
      obtain ⟨v8, e4, hf⟩ := bS hf
      refine V.xgR dX11_by_10 fl_RX11_26 e4 ?_
      obtain ⟨v9, e5, hf⟩ := bS hf
      refine V.rgR dX11_by_13 fl_RX11_156 e5 ?_
      refine V.iload_n dX11_by_16 rfl 1 rfl ?_
      obtain ⟨v10, e6, hf⟩ := bS hf
      refine V.xldI dX11_by_17 e6 ?_
      refine V.aload_n dX11_by_18 rfl 0 rfl ?_
      obtain ⟨v11, e7, hf⟩ := bS hf
      refine V.xgR dX11_by_19 fl_RX11_33 e7 ?_
      refine V.iload_n dX11_by_22 rfl 2 rfl ?_
      obtain ⟨q12, e8, hf⟩ := bS hf
      obtain ⟨r13, e9, hf⟩ := bS hf
      refine V.callV (As := [.int l2]) (st := [.int v10]) dX11_by_23 cl_RX11_184 sw_yX5_burning (by decide) rfl (Nat.le_of_ble_eq_true rfl) rfl (gO_some e8) rfl (w_X5_burning _ _ _ _ e9) ?_
      refine V.iand dX11_by_26 ?_
      obtain rfl := Option.some.inj hf
      exact V.iret dX11_by_27

def f_X11_carry_10 (h : xH) : Option ((String × xH) ⊕ (Int32 × xH)) := some (.inl ("java/lang/IllegalArgumentException", thr h))
def f_X11_carry (h : xH) (l0 : Nat) (l1 : Int32) (l2 : Int32) (l3 : Int32) (l4 : Int32) : Option ((String × xH) ⊕ (Int32 × xH)) := (if l1 < (1 : Int32) then (f_X11_carry_10 h) else ((if l1 ≤ (2 : Int32) then ((f_X11_checkHour h l2).bind fun r3 => (match r3 with | .inl E4 => (some (.inl E4)) | .inr v5 => ((f_X11_checkHour h l3).bind fun r6 => (match r6 with | .inl E7 => (some (.inl E7)) | .inr v8 => ((if l2 ≤ l3 then ((f_X11_checkWhat h l4 (-1 : Int32) ((l1 * ((l3 - l2) + (1 : Int32))) - (1 : Int32))).bind fun r10 => (match r10 with | .inl E11 => (some (.inl E11)) | .inr v12 => ((gR h l0 11 15).bind fun v13 => (gR h l0 11 4).bind fun v14 => (gO h v13 1).bind fun q15 => (f_X1_plan h v13 v14 l1 l2 l3).bind fun r16 => (if r16.1 = (-1 : Int32) then (some (.inr (r16.1, r16.2))) else ((if l4 = (-1 : Int32) then (some (.inr (r16.1, r16.2))) else ((gR r16.2 l0 11 15).bind fun v19 => (rmI l4 l1).bind fun v20 => (dvI l4 l1).bind fun v21 => (gO r16.2 v19 1).bind fun q22 => (f_X1_placeOf r16.2 v19 v20 (l2 + v21)).bind fun r23 => some (.inr (r23, r16.2))))))))) else (some (.inl ("java/lang/IllegalArgumentException", thr h))))))))) else (f_X11_carry_10 h))))
set_option maxRecDepth 20000 in
theorem w_X11_carry_10 (h : xH) (r : (String × xH) ⊕ (Int32 × xH)) (hf : f_X11_carry_10 h = some r) : V 8 yX11_carry cX11_carry 6 (some .int) [] none 10 [] [] h (oTIh r) := by
  unfold f_X11_carry_10 at hf
  obtain rfl := Option.some.inj hf
  exact V.throwSW (i := 29) th_110 (by decide) dX11_carry_10 dX11_carry_13 dX11_carry_14 dX11_carry_17 dX11_carry_20 (by decide) (Nat.le_of_ble_eq_true rfl)

set_option maxRecDepth 20000 in
theorem w_X11_carry (h : xH) (l0 : Nat) (l1 : Int32) (l2 : Int32) (l3 : Int32) (l4 : Int32) (r : (String × xH) ⊕ (Int32 × xH)) (hf : f_X11_carry h l0 l1 l2 l3 l4 = some r) : Ev 8 yX11_carry cX11_carry 6 (some .int) [] [.ref l0, .int l1, .int l2, .int l3, .int l4] h (oTIh r) := by
  refine Ev.of (by decide +kernel) (Nat.le_of_ble_eq_true rfl) ?_
  unfold f_X11_carry at hf
  refine V.iload_n dX11_carry_0 rfl 1 rfl ?_
  refine V.iconst (v := (1 : Int32)) dX11_carry_1 (by decide) ?_
  refine V.icmp_lt (tgt := 10) dX11_carry_2 (by decide) (fun c1 => ?_) (fun c1 => ?_)
  · rw [if_pos c1] at hf
    refine V.sub [] rfl ?_
    exact w_X11_carry_10 _ _ hf
  · rw [if_neg c1] at hf
    refine V.iload_n dX11_carry_5 rfl 1 rfl ?_
    refine V.iconst (v := (2 : Int32)) dX11_carry_6 (by decide) ?_
    refine V.icmp_le (tgt := 21) dX11_carry_7 (by decide) (fun c2 => ?_) (fun c2 => ?_)
    · rw [if_pos c2] at hf
      refine V.iload_n dX11_carry_21 rfl 2 rfl ?_
      obtain ⟨r3, e1, hf⟩ := bS hf
      rcases r3 with E4 | v5
      · obtain rfl := Option.some.inj hf
        exact V.callST (As := [.int l2]) (st := []) dX11_carry_22 cl_RX11_181 sw_yX11_checkHour (by decide) rfl (Nat.le_of_ble_eq_true rfl) rfl (by decide) (w_X11_checkHour _ _ _ e1)
      · refine V.callS (As := [.int l2]) (st := []) dX11_carry_22 cl_RX11_181 sw_yX11_checkHour (by decide) rfl (Nat.le_of_ble_eq_true rfl) rfl (w_X11_checkHour _ _ _ e1) ?_
        refine V.iload_n dX11_carry_25 rfl 3 rfl ?_
        obtain ⟨r6, e2, hf⟩ := bS hf
        rcases r6 with E7 | v8
        · obtain rfl := Option.some.inj hf
          exact V.callST (As := [.int l3]) (st := []) dX11_carry_26 cl_RX11_181 sw_yX11_checkHour (by decide) rfl (Nat.le_of_ble_eq_true rfl) rfl (by decide) (w_X11_checkHour _ _ _ e2)
        · refine V.callS (As := [.int l3]) (st := []) dX11_carry_26 cl_RX11_181 sw_yX11_checkHour (by decide) rfl (Nat.le_of_ble_eq_true rfl) rfl (w_X11_checkHour _ _ _ e2) ?_
          refine V.iload_n dX11_carry_29 rfl 3 rfl ?_
          refine V.iload_n dX11_carry_30 rfl 2 rfl ?_
          refine V.icmp_ge (tgt := 45) dX11_carry_31 (by decide) (fun c9 => ?_) (fun c9 => ?_)
          · rw [if_pos c9] at hf
            refine V.iload dX11_carry_45 4 rfl ?_
            refine V.iconst (v := (-1 : Int32)) dX11_carry_47 (by decide) ?_
            refine V.iload_n dX11_carry_48 rfl 1 rfl ?_
            refine V.iload_n dX11_carry_49 rfl 3 rfl ?_
            refine V.iload_n dX11_carry_50 rfl 2 rfl ?_
            refine V.isub dX11_carry_51 ?_
            refine V.iconst (v := (1 : Int32)) dX11_carry_52 (by decide) ?_
            refine V.iadd dX11_carry_53 ?_
            refine V.imul dX11_carry_54 ?_
            refine V.iconst (v := (1 : Int32)) dX11_carry_55 (by decide) ?_
            refine V.isub dX11_carry_56 ?_
            obtain ⟨r10, e3, hf⟩ := bS hf
            rcases r10 with E11 | v12
            · obtain rfl := Option.some.inj hf
              exact V.callST (As := [.int l4, .int (-1 : Int32), .int ((l1 * ((l3 - l2) + (1 : Int32))) - (1 : Int32))]) (st := []) dX11_carry_57 cl_RX11_140 sw_yX11_checkWhat (by decide) rfl (Nat.le_of_ble_eq_true rfl) rfl (by decide) (w_X11_checkWhat _ _ _ _ _ e3)
            · refine V.callS (As := [.int l4, .int (-1 : Int32), .int ((l1 * ((l3 - l2) + (1 : Int32))) - (1 : Int32))]) (st := []) dX11_carry_57 cl_RX11_140 sw_yX11_checkWhat (by decide) rfl (Nat.le_of_ble_eq_true rfl) rfl (w_X11_checkWhat _ _ _ _ _ e3) ?_
              refine V.aload_n dX11_carry_60 rfl 0 rfl ?_
              obtain ⟨v13, e4, hf⟩ := bS hf
              refine V.xgR dX11_carry_61 fl_RX11_87 e4 ?_
              refine V.aload_n dX11_carry_64 rfl 0 rfl ?_
              obtain ⟨v14, e5, hf⟩ := bS hf
              refine V.xgR dX11_carry_65 fl_RX11_26 e5 ?_
              refine V.iload_n dX11_carry_68 rfl 1 rfl ?_
              refine V.iload_n dX11_carry_69 rfl 2 rfl ?_
              refine V.iload_n dX11_carry_70 rfl 3 rfl ?_
              obtain ⟨q15, e6, hf⟩ := bS hf
              obtain ⟨r16, e7, hf⟩ := bS hf
              refine V.callV (As := [.ref v14, .int l1, .int l2, .int l3]) (st := []) dX11_carry_71 cl_RX11_289 sw_yX1_plan (by decide) rfl (Nat.le_of_ble_eq_true rfl) rfl (gO_some e6) rfl (w_X1_plan _ _ _ _ _ _ _ e7) ?_
              refine V.istore (lv' := [(5, .int r16.1), (0, .ref l0), (1, .int l1), (2, .int l2), (3, .int l3), (4, .int l4)]) dX11_carry_74 (by decide) rfl ?_
              refine V.iload dX11_carry_76 0 rfl ?_
              refine V.iconst (v := (-1 : Int32)) dX11_carry_78 (by decide) ?_
              refine V.icmp_eq (tgt := 88) dX11_carry_79 (by decide) (fun c17 => ?_) (fun c17 => ?_)
              · rw [if_pos c17] at hf
                refine V.iload dX11_carry_88 0 rfl ?_
                obtain rfl := Option.some.inj hf
                exact V.iret dX11_carry_90
              · rw [if_neg c17] at hf
                refine V.iload dX11_carry_82 5 rfl ?_
                refine V.iconst (v := (-1 : Int32)) dX11_carry_84 (by decide) ?_
                refine V.icmp_ne (tgt := 91) dX11_carry_85 (by decide) (fun c18 => ?_) (fun c18 => ?_)
                · rw [if_neg c18] at hf
                  refine V.aload_n dX11_carry_91 rfl 1 rfl ?_
                  obtain ⟨v19, e8, hf⟩ := bS hf
                  refine V.xgR dX11_carry_92 fl_RX11_87 e8 ?_
                  refine V.iload dX11_carry_95 5 rfl ?_
                  refine V.iload_n dX11_carry_97 rfl 2 rfl ?_
                  obtain ⟨v20, e9, hf⟩ := bS hf
                  refine V.xrmI dX11_carry_98 e9 ?_
                  refine V.iload_n dX11_carry_99 rfl 3 rfl ?_
                  refine V.iload dX11_carry_100 5 rfl ?_
                  refine V.iload_n dX11_carry_102 rfl 2 rfl ?_
                  obtain ⟨v21, e10, hf⟩ := bS hf
                  refine V.xdvI dX11_carry_103 e10 ?_
                  refine V.iadd dX11_carry_104 ?_
                  obtain ⟨q22, e11, hf⟩ := bS hf
                  obtain ⟨r23, e12, hf⟩ := bS hf
                  refine V.callV (As := [.int v20, .int (l2 + v21)]) (st := []) dX11_carry_105 cl_RX11_293 sw_yX1_placeOf (by decide) rfl (Nat.le_of_ble_eq_true rfl) rfl (gO_some e11) rfl (w_X1_placeOf _ _ _ _ _ e12) ?_
                  obtain rfl := Option.some.inj hf
                  exact V.iret dX11_carry_108
                · rw [if_pos c18] at hf
                  refine V.iload dX11_carry_88 0 rfl ?_
                  obtain rfl := Option.some.inj hf
                  exact V.iret dX11_carry_90
          · rw [if_neg c9] at hf
            obtain rfl := Option.some.inj hf
            exact V.throwSW (i := 30) th_110 (by decide) dX11_carry_34 dX11_carry_37 dX11_carry_38 dX11_carry_41 dX11_carry_44 (by decide) (Nat.le_of_ble_eq_true rfl)
    · rw [if_neg c2] at hf
      refine V.sub [] rfl ?_
      exact w_X11_carry_10 _ _ hf

def f_X11_checkImage_9 (h : xH) : Option ((String × xH) ⊕ (Unit)) := some (.inl ("java/util/NoSuchElementException", thr h))
def f_X11_checkImage (h : xH) (l0 : Int32) : Option ((String × xH) ⊕ (Unit)) := (if l0 < 0 then (f_X11_checkImage_9 h) else ((if l0 < (3 : Int32) then (some (.inr ())) else (f_X11_checkImage_9 h))))
set_option maxRecDepth 20000 in
theorem w_X11_checkImage_9 (h : xH) (r : (String × xH) ⊕ (Unit)) (hf : f_X11_checkImage_9 h = some r) : V 4 yX11_checkImage cX11_checkImage 1 none [] none 9 [] [] h (oTV h r) := by
  unfold f_X11_checkImage_9 at hf
  obtain rfl := Option.some.inj hf
  exact V.throwNSW (i := 45) th_139 (by decide) dX11_checkImage_9 dX11_checkImage_12 dX11_checkImage_13 dX11_checkImage_16 dX11_checkImage_19 (by decide) (Nat.le_of_ble_eq_true rfl)

set_option maxRecDepth 20000 in
theorem w_X11_checkImage (h : xH) (l0 : Int32) (r : (String × xH) ⊕ (Unit)) (hf : f_X11_checkImage h l0 = some r) : Ev 4 yX11_checkImage cX11_checkImage 1 none [] [.int l0] h (oTV h r) := by
  refine Ev.of (by decide +kernel) (Nat.le_of_ble_eq_true rfl) ?_
  unfold f_X11_checkImage at hf
  refine V.iload_n dX11_checkImage_0 rfl 0 rfl ?_
  refine V.if_lt (tgt := 9) dX11_checkImage_1 (by decide) (fun c1 => ?_) (fun c1 => ?_)
  · rw [if_pos c1] at hf
    refine V.sub [] rfl ?_
    exact w_X11_checkImage_9 _ _ hf
  · rw [if_neg c1] at hf
    refine V.iload_n dX11_checkImage_4 rfl 0 rfl ?_
    refine V.iconst (v := (3 : Int32)) dX11_checkImage_5 (by decide) ?_
    refine V.icmp_lt (tgt := 20) dX11_checkImage_6 (by decide) (fun c2 => ?_) (fun c2 => ?_)
    · rw [if_pos c2] at hf
      obtain rfl := Option.some.inj hf
      exact V.vret dX11_checkImage_20
    · rw [if_neg c2] at hf
      refine V.sub [] rfl ?_
      exact w_X11_checkImage_9 _ _ hf

def f_X11_checkRow_19 (h : xH) : Option ((String × xH) ⊕ (Unit)) := some (.inl ("java/lang/IllegalArgumentException", thr h))
def f_X11_checkRow_10 (h : xH) (l0 : Int32) (s0 : Int32) (s1 : Int32) : Option ((String × xH) ⊕ (Unit)) := (if s1 < s0 then (f_X11_checkRow_19 h) else ((if l0 ≤ (40 : Int32) then (some (.inr ())) else (f_X11_checkRow_19 h))))
def f_X11_checkRow (h : xH) (l0 : Int32) (l1 : Int32) : Option ((String × xH) ⊕ (Unit)) := (if l1 = 0 then (f_X11_checkRow_10 h l0 (1 : Int32) l0) else (f_X11_checkRow_10 h l0 (3 : Int32) l0))
set_option maxRecDepth 20000 in
theorem w_X11_checkRow_19 (h : xH) (r : (String × xH) ⊕ (Unit)) (hf : f_X11_checkRow_19 h = some r) : V 4 yX11_checkRow cX11_checkRow 2 none [] none 19 [] [] h (oTV h r) := by
  unfold f_X11_checkRow_19 at hf
  obtain rfl := Option.some.inj hf
  exact V.throwSW (i := 37) th_110 (by decide) dX11_checkRow_19 dX11_checkRow_22 dX11_checkRow_23 dX11_checkRow_26 dX11_checkRow_29 (by decide) (Nat.le_of_ble_eq_true rfl)

set_option maxRecDepth 20000 in
theorem w_X11_checkRow_10 (h : xH) (l0 : Int32) (s0 : Int32) (s1 : Int32) (r : (String × xH) ⊕ (Unit)) (hf : f_X11_checkRow_10 h l0 s0 s1 = some r) : V 4 yX11_checkRow cX11_checkRow 2 none [] none 10 [(0, .int l0)] [.int s0, .int s1] h (oTV h r) := by
  unfold f_X11_checkRow_10 at hf
  refine V.icmp_lt (tgt := 19) dX11_checkRow_10 (by decide) (fun c1 => ?_) (fun c1 => ?_)
  · rw [if_pos c1] at hf
    refine V.sub [] rfl ?_
    exact w_X11_checkRow_19 _ _ hf
  · rw [if_neg c1] at hf
    refine V.iload_n dX11_checkRow_13 rfl 0 rfl ?_
    refine V.bipush (v := (40 : Int32)) dX11_checkRow_14 (by decide) ?_
    refine V.icmp_le (tgt := 30) dX11_checkRow_16 (by decide) (fun c2 => ?_) (fun c2 => ?_)
    · rw [if_pos c2] at hf
      obtain rfl := Option.some.inj hf
      exact V.vret dX11_checkRow_30
    · rw [if_neg c2] at hf
      refine V.sub [] rfl ?_
      exact w_X11_checkRow_19 _ _ hf

set_option maxRecDepth 20000 in
theorem w_X11_checkRow (h : xH) (l0 : Int32) (l1 : Int32) (r : (String × xH) ⊕ (Unit)) (hf : f_X11_checkRow h l0 l1 = some r) : Ev 4 yX11_checkRow cX11_checkRow 2 none [] [.int l0, .int l1] h (oTV h r) := by
  refine Ev.of (by decide +kernel) (Nat.le_of_ble_eq_true rfl) ?_
  unfold f_X11_checkRow at hf
  refine V.iload_n dX11_checkRow_0 rfl 0 rfl ?_
  refine V.iload_n dX11_checkRow_1 rfl 1 rfl ?_
  refine V.if_eq (tgt := 9) dX11_checkRow_2 (by decide) (fun c1 => ?_) (fun c1 => ?_)
  · rw [if_pos c1] at hf
    refine V.iconst (v := (1 : Int32)) dX11_checkRow_9 (by decide) ?_
    refine V.sub [0] rfl ?_
    exact w_X11_checkRow_10 _ _ _ _ _ hf
  · rw [if_neg c1] at hf
    refine V.iconst (v := (3 : Int32)) dX11_checkRow_5 (by decide) ?_
    refine V.goto (tgt := 10) dX11_checkRow_6 (by decide) ?_
    refine V.sub [0] rfl ?_
    exact w_X11_checkRow_10 _ _ _ _ _ hf

def f_X11_checkSet (h : xH) (l0 : Nat) (l1 : Int32) : Option ((String × xH) ⊕ (Unit)) := (gR h l0 11 4).bind fun v1 => (gO h v1 3).bind fun q2 => (f_X3_allRooms h v1).bind fun r3 => (if (l1 &&& (r3 ^^^ (-1 : Int32))) = 0 then (some (.inr ())) else (some (.inl ("java/lang/IllegalArgumentException", thr h))))
set_option maxRecDepth 20000 in
theorem w_X11_checkSet (h : xH) (l0 : Nat) (l1 : Int32) (r : (String × xH) ⊕ (Unit)) (hf : f_X11_checkSet h l0 l1 = some r) : Ev 4 yX11_checkSet cX11_checkSet 2 none [] [.ref l0, .int l1] h (oTV h r) := by
  refine Ev.of (by decide +kernel) (Nat.le_of_ble_eq_true rfl) ?_
  unfold f_X11_checkSet at hf
  refine V.iload_n dX11_checkSet_0 rfl 1 rfl ?_
  refine V.aload_n dX11_checkSet_1 rfl 0 rfl ?_
  obtain ⟨v1, e1, hf⟩ := bS hf
  refine V.xgR dX11_checkSet_2 fl_RX11_26 e1 ?_
  obtain ⟨q2, e2, hf⟩ := bS hf
  obtain ⟨r3, e3, hf⟩ := bS hf
  refine V.callV (As := []) (st := [.int l1]) dX11_checkSet_5 cl_RX11_216 sw_yX3_allRooms (by decide) rfl (Nat.le_of_ble_eq_true rfl) rfl (gO_some e2) rfl (w_X3_allRooms _ _ _ e3) ?_
  refine V.iconst (v := (-1 : Int32)) dX11_checkSet_8 (by decide) ?_
  refine V.ixor dX11_checkSet_9 ?_
  refine V.iand dX11_checkSet_10 ?_
  refine V.if_eq (tgt := 25) dX11_checkSet_11 (by decide) (fun c4 => ?_) (fun c4 => ?_)
  · rw [if_pos c4] at hf
    obtain rfl := Option.some.inj hf
    exact V.vret dX11_checkSet_25
  · rw [if_neg c4] at hf
    obtain rfl := Option.some.inj hf
    exact V.throwSW (i := 25) th_110 (by decide) dX11_checkSet_14 dX11_checkSet_17 dX11_checkSet_18 dX11_checkSet_21 dX11_checkSet_24 (by decide) (Nat.le_of_ble_eq_true rfl)

def f_X11_checkTray_9 (h : xH) : Option ((String × xH) ⊕ (Unit)) := some (.inl ("java/util/NoSuchElementException", thr h))
def f_X11_checkTray (h : xH) (l0 : Int32) : Option ((String × xH) ⊕ (Unit)) := (if l0 < 0 then (f_X11_checkTray_9 h) else ((if l0 < (4 : Int32) then (some (.inr ())) else (f_X11_checkTray_9 h))))
set_option maxRecDepth 20000 in
theorem w_X11_checkTray_9 (h : xH) (r : (String × xH) ⊕ (Unit)) (hf : f_X11_checkTray_9 h = some r) : V 4 yX11_checkTray cX11_checkTray 1 none [] none 9 [] [] h (oTV h r) := by
  unfold f_X11_checkTray_9 at hf
  obtain rfl := Option.some.inj hf
  exact V.throwNSW (i := 31) th_139 (by decide) dX11_checkTray_9 dX11_checkTray_12 dX11_checkTray_13 dX11_checkTray_16 dX11_checkTray_19 (by decide) (Nat.le_of_ble_eq_true rfl)

set_option maxRecDepth 20000 in
theorem w_X11_checkTray (h : xH) (l0 : Int32) (r : (String × xH) ⊕ (Unit)) (hf : f_X11_checkTray h l0 = some r) : Ev 4 yX11_checkTray cX11_checkTray 1 none [] [.int l0] h (oTV h r) := by
  refine Ev.of (by decide +kernel) (Nat.le_of_ble_eq_true rfl) ?_
  unfold f_X11_checkTray at hf
  refine V.iload_n dX11_checkTray_0 rfl 0 rfl ?_
  refine V.if_lt (tgt := 9) dX11_checkTray_1 (by decide) (fun c1 => ?_) (fun c1 => ?_)
  · rw [if_pos c1] at hf
    refine V.sub [] rfl ?_
    exact w_X11_checkTray_9 _ _ hf
  · rw [if_neg c1] at hf
    refine V.iload_n dX11_checkTray_4 rfl 0 rfl ?_
    refine V.iconst (v := (4 : Int32)) dX11_checkTray_5 (by decide) ?_
    refine V.icmp_lt (tgt := 20) dX11_checkTray_6 (by decide) (fun c2 => ?_) (fun c2 => ?_)
    · rw [if_pos c2] at hf
      obtain rfl := Option.some.inj hf
      exact V.vret dX11_checkTray_20
    · rw [if_neg c2] at hf
      refine V.sub [] rfl ?_
      exact w_X11_checkTray_9 _ _ hf

def f_X11_checkTrayThere (h : xH) (l0 : Nat) (l1 : Int32) : Option ((String × xH) ⊕ (Unit)) := (f_X11_checkTray h l1).bind fun r1 => (match r1 with | .inl E2 => (some (.inl E2)) | .inr v3 => ((gR h l0 11 10).bind fun v4 => (gR h v4 10 1).bind fun v5 => (ldI h .int v5 l1).bind fun v6 => (if v6 = (-1 : Int32) then (some (.inl ("java/lang/IllegalStateException", thr h))) else (some (.inr ())))))
set_option maxRecDepth 20000 in
theorem w_X11_checkTrayThere (h : xH) (l0 : Nat) (l1 : Int32) (r : (String × xH) ⊕ (Unit)) (hf : f_X11_checkTrayThere h l0 l1 = some r) : Ev 5 yX11_checkTrayThere cX11_checkTrayThere 2 none [] [.ref l0, .int l1] h (oTV h r) := by
  refine Ev.of (by decide +kernel) (Nat.le_of_ble_eq_true rfl) ?_
  unfold f_X11_checkTrayThere at hf
  refine V.iload_n dX11_checkTrayThere_0 rfl 1 rfl ?_
  obtain ⟨r1, e1, hf⟩ := bS hf
  rcases r1 with E2 | v3
  · obtain rfl := Option.some.inj hf
    exact V.callST (As := [.int l1]) (st := []) dX11_checkTrayThere_1 cl_RX11_378 sw_yX11_checkTray (by decide) rfl (Nat.le_of_ble_eq_true rfl) rfl (by decide) (w_X11_checkTray _ _ _ e1)
  · refine V.callS (As := [.int l1]) (st := []) dX11_checkTrayThere_1 cl_RX11_378 sw_yX11_checkTray (by decide) rfl (Nat.le_of_ble_eq_true rfl) rfl (w_X11_checkTray _ _ _ e1) ?_
    refine V.aload_n dX11_checkTrayThere_4 rfl 0 rfl ?_
    obtain ⟨v4, e2, hf⟩ := bS hf
    refine V.xgR dX11_checkTrayThere_5 fl_RX11_55 e2 ?_
    obtain ⟨v5, e3, hf⟩ := bS hf
    refine V.rgR dX11_checkTrayThere_8 fl_RX11_317 e3 ?_
    refine V.iload_n dX11_checkTrayThere_11 rfl 1 rfl ?_
    obtain ⟨v6, e4, hf⟩ := bS hf
    refine V.xldI dX11_checkTrayThere_12 e4 ?_
    refine V.iconst (v := (-1 : Int32)) dX11_checkTrayThere_13 (by decide) ?_
    refine V.icmp_ne (tgt := 28) dX11_checkTrayThere_14 (by decide) (fun c7 => ?_) (fun c7 => ?_)
    · rw [if_neg c7] at hf
      obtain rfl := Option.some.inj hf
      exact V.vret dX11_checkTrayThere_28
    · rw [if_pos c7] at hf
      obtain rfl := Option.some.inj hf
      exact V.throwSW (i := 32) th_412 (by decide) dX11_checkTrayThere_17 dX11_checkTrayThere_20 dX11_checkTrayThere_21 dX11_checkTrayThere_24 dX11_checkTrayThere_27 (by decide) (Nat.le_of_ble_eq_true rfl)

def f_X11_commonDivisor_9 (h : xH) : Nat → Int64 → Int64 → Int32 → Option (Int64)
  | 0, _, _, _ => none
  | n + 1, l4, l6, l8 => (if (100 : Int32) ≤ l8 then (some (l4)) else ((if (lg_cmp l6 (0 : Int64)) = 0 then (some (l4)) else ((rmJ l4 l6).bind fun v3 => f_X11_commonDivisor_9 h n l6 v3 (l8 + 1)))))
def f_X11_commonDivisor (h : xH) (l0 : Int64) (l2 : Int64) : Option (Int64) := f_X11_commonDivisor_9 h xFU l0 l2 (0 : Int32)
set_option maxRecDepth 20000 in
theorem w_X11_commonDivisor_9 (h : xH) : ∀ (n : Nat) (l4 : Int64) (l6 : Int64) (l8 : Int32) (r : Int64), f_X11_commonDivisor_9 h n l4 l6 l8 = some r → V 3 yX11_commonDivisor cX11_commonDivisor 11 (some .long) [] none 9 [(4, .long l4), (6, .long l6), (8, .int l8)] [] h (oJ h r) := by
  intro n
  induction n with
  | zero => intro l4 l6 l8 r hf; cases hf
  | succ n ih =>
    intro l4 l6 l8 r hf
    rw [f_X11_commonDivisor_9] at hf
    refine V.iload dX11_commonDivisor_9 2 rfl ?_
    refine V.bipush (v := (100 : Int32)) dX11_commonDivisor_11 (by decide) ?_
    refine V.icmp_ge (tgt := 44) dX11_commonDivisor_13 (by decide) (fun c1 => ?_) (fun c1 => ?_)
    · rw [if_pos c1] at hf
      refine V.lload dX11_commonDivisor_44 0 rfl ?_
      obtain rfl := Option.some.inj hf
      exact V.lret dX11_commonDivisor_46
    · rw [if_neg c1] at hf
      refine V.lload dX11_commonDivisor_16 1 rfl ?_
      refine V.lconst (v := 0) dX11_commonDivisor_18 (by decide) ?_
      refine V.lcmp dX11_commonDivisor_19 ?_
      refine V.if_eq (tgt := 44) dX11_commonDivisor_20 (by decide) (fun c2 => ?_) (fun c2 => ?_)
      · rw [if_pos c2] at hf
        refine V.lload dX11_commonDivisor_44 0 rfl ?_
        obtain rfl := Option.some.inj hf
        exact V.lret dX11_commonDivisor_46
      · rw [if_neg c2] at hf
        refine V.lload dX11_commonDivisor_23 0 rfl ?_
        refine V.lload dX11_commonDivisor_25 1 rfl ?_
        obtain ⟨v3, e1, hf⟩ := bS hf
        refine V.xrmJ dX11_commonDivisor_27 e1 ?_
        refine V.lstore (lv' := [(9, .long v3), (4, .long l4), (6, .long l6), (8, .int l8)]) dX11_commonDivisor_28 (by decide) rfl ?_
        refine V.lload dX11_commonDivisor_30 2 rfl ?_
        refine V.lstore (lv' := [(4, .long l6), (9, .long v3), (6, .long l6), (8, .int l8)]) dX11_commonDivisor_32 (by decide) rfl ?_
        refine V.lload dX11_commonDivisor_34 1 rfl ?_
        refine V.lstore (lv' := [(6, .long v3), (4, .long l6), (9, .long v3), (8, .int l8)]) dX11_commonDivisor_36 (by decide) rfl ?_
        refine V.iinc (v := (l8 + 1)) (lv' := [(8, .int (l8 + 1)), (6, .long v3), (4, .long l6), (9, .long v3)]) dX11_commonDivisor_38 3 rfl rfl (Nat.le_of_ble_eq_true rfl) rfl ?_
        refine V.goto (tgt := 9) dX11_commonDivisor_41 (by decide) ?_
        refine V.sub [2, 1, 0] rfl ?_
        exact ih _ _ _ _ hf

set_option maxRecDepth 20000 in
theorem w_X11_commonDivisor (h : xH) (l0 : Int64) (l2 : Int64) (r : Int64) (hf : f_X11_commonDivisor h l0 l2 = some r) : Ev 3 yX11_commonDivisor cX11_commonDivisor 11 (some .long) [] [.long l0, .long l2] h (oJ h r) := by
  refine Ev.of (by decide +kernel) (Nat.le_of_ble_eq_true rfl) ?_
  unfold f_X11_commonDivisor at hf
  refine V.lload_n dX11_commonDivisor_0 rfl 0 rfl ?_
  refine V.lstore (lv' := [(4, .long l0), (0, .long l0), (2, .long l2)]) dX11_commonDivisor_1 (by decide) rfl ?_
  refine V.lload_n dX11_commonDivisor_3 rfl 2 rfl ?_
  refine V.lstore (lv' := [(6, .long l2), (4, .long l0), (0, .long l0), (2, .long l2)]) dX11_commonDivisor_4 (by decide) rfl ?_
  refine V.iconst (v := (0 : Int32)) dX11_commonDivisor_6 (by decide) ?_
  refine V.istore (lv' := [(8, .int (0 : Int32)), (6, .long l2), (4, .long l0), (0, .long l0), (2, .long l2)]) dX11_commonDivisor_7 (by decide) rfl ?_
  refine V.sub [2, 1, 0] rfl ?_
  exact w_X11_commonDivisor_9 h _ _ _ _ _ hf

def f_X11_cost (h : xH) (l0 : Nat) (l1 : Int32) : Option ((String × xH) ⊕ (Int32 × xH)) := (gO h l0 11).bind fun q1 => (f_X11_checkSet h l0 l1).bind fun r2 => (match r2 with | .inl E3 => (some (.inl E3)) | .inr v4 => ((gR h l0 11 4).bind fun v5 => (gI h v5 3 2).bind fun v6 => (f_J6_bitCount_0f7a4 h l1).bind fun r7 => (gR h l0 11 16).bind fun v8 => (gR h l0 11 4).bind fun v9 => (gO h v8 9).bind fun q10 => (f_X9_savingOf h v8 v9 l1).bind fun r11 => some (.inr (((v6 * r7) - (r11.1)), r11.2))))
set_option maxRecDepth 20000 in
theorem w_X11_cost (h : xH) (l0 : Nat) (l1 : Int32) (r : (String × xH) ⊕ (Int32 × xH)) (hf : f_X11_cost h l0 l1 = some r) : Ev 47 yX11_cost cX11_cost 2 (some .int) [] [.ref l0, .int l1] h (oTIh r) := by
  refine Ev.of (by decide +kernel) (Nat.le_of_ble_eq_true rfl) ?_
  unfold f_X11_cost at hf
  refine V.aload_n dX11_cost_0 rfl 0 rfl ?_
  refine V.iload_n dX11_cost_1 rfl 1 rfl ?_
  obtain ⟨q1, e1, hf⟩ := bS hf
  obtain ⟨r2, e2, hf⟩ := bS hf
  rcases r2 with E3 | v4
  · obtain rfl := Option.some.inj hf
    exact V.callVT (As := [.int l1]) (st := []) dX11_cost_2 cl_RX11_210 sw_yX11_checkSet (by decide) rfl (Nat.le_of_ble_eq_true rfl) rfl (gO_some e1) rfl (by decide) (w_X11_checkSet _ _ _ _ e2)
  · refine V.callV (As := [.int l1]) (st := []) dX11_cost_2 cl_RX11_210 sw_yX11_checkSet (by decide) rfl (Nat.le_of_ble_eq_true rfl) rfl (gO_some e1) rfl (w_X11_checkSet _ _ _ _ e2) ?_
    refine V.aload_n dX11_cost_5 rfl 0 rfl ?_
    obtain ⟨v5, e3, hf⟩ := bS hf
    refine V.xgR dX11_cost_6 fl_RX11_26 e3 ?_
    obtain ⟨v6, e4, hf⟩ := bS hf
    refine V.xgI dX11_cost_9 fl_RX11_296 e4 ?_
    refine V.iload_n dX11_cost_12 rfl 1 rfl ?_
    obtain ⟨r7, e5, hf⟩ := bS hf
    refine V.callS (As := [.int l1]) (st := [.int v6]) dX11_cost_13 cl_RX11_205 sw_yJ6_bitCount_0f7a4 (by decide) rfl (Nat.le_of_ble_eq_true rfl) rfl (w_J6_bitCount_0f7a4 _ _ _ e5) ?_
    refine V.imul dX11_cost_16 ?_
    refine V.aload_n dX11_cost_17 rfl 0 rfl ?_
    obtain ⟨v8, e6, hf⟩ := bS hf
    refine V.xgR dX11_cost_18 fl_RX11_94 e6 ?_
    refine V.aload_n dX11_cost_21 rfl 0 rfl ?_
    obtain ⟨v9, e7, hf⟩ := bS hf
    refine V.xgR dX11_cost_22 fl_RX11_26 e7 ?_
    refine V.iload_n dX11_cost_25 rfl 1 rfl ?_
    obtain ⟨q10, e8, hf⟩ := bS hf
    obtain ⟨r11, e9, hf⟩ := bS hf
    refine V.callV (As := [.ref v9, .int l1]) (st := [.int (v6 * r7)]) dX11_cost_26 cl_RX11_299 sw_yX9_savingOf (by decide) rfl (Nat.le_of_ble_eq_true rfl) rfl (gO_some e8) rfl (w_X9_savingOf _ _ _ _ _ e9) ?_
    refine V.isub dX11_cost_29 ?_
    obtain rfl := Option.some.inj hf
    exact V.iret dX11_cost_30

def f_X11_count (h : xH) (l0 : Nat) (l1 : Int32) : Option (Int32) := (if Int32.toInt l1 < 0 ∨ 8 < Int32.toInt l1 then (some ((-1 : Int32))) else (if l1 = 0 then ((gR h l0 11 4).bind fun v3 => (gI h v3 3 0).bind fun v4 => some (v4)) else (if l1 = 1 then ((gR h l0 11 4).bind fun v6 => (gI h v6 3 1).bind fun v7 => some (v7)) else (if l1 = 2 then ((gR h l0 11 4).bind fun v9 => (gI h v9 3 3).bind fun v10 => some (v10)) else (if l1 = 3 then ((gR h l0 11 4).bind fun v12 => (gI h v12 3 4).bind fun v13 => some (v13)) else (if l1 = 4 then ((gR h l0 11 4).bind fun v15 => (gI h v15 3 5).bind fun v16 => some (v16)) else (if l1 = 5 then ((gR h l0 11 4).bind fun v18 => (gI h v18 3 6).bind fun v19 => some (v19)) else (if l1 = 6 then ((gR h l0 11 4).bind fun v21 => (gI h v21 3 2).bind fun v22 => some (v22)) else (if l1 = 7 then ((gR h l0 11 5).bind fun v24 => (gO h v24 5).bind fun q25 => (f_X5_hanging h v24).bind fun r26 => some (r26)) else (if l1 = 8 then ((gI h l0 11 1).bind fun v28 => some (v28)) else none))))))))))
set_option maxRecDepth 20000 in
theorem w_X11_count (h : xH) (l0 : Nat) (l1 : Int32) (r : Int32) (hf : f_X11_count h l0 l1 = some r) : Ev 4 yX11_count cX11_count 2 (some .int) [] [.ref l0, .int l1] h (oI h r) := by
  refine Ev.of (by decide +kernel) (Nat.le_of_ble_eq_true rfl) ?_
  unfold f_X11_count at hf
  refine V.iload_n dX11_count_0 rfl 1 rfl ?_
  by_cases c1 : Int32.toInt l1 < 0 ∨ 8 < Int32.toInt l1
  · rw [if_pos c1] at hf
    refine V.tableOut (tgt := 121) dX11_count_1 c1 (by decide) ?_
    refine V.iconst (v := (-1 : Int32)) dX11_count_121 (by decide) ?_
    obtain rfl := Option.some.inj hf
    exact V.iret dX11_count_122
  · rw [if_neg c1] at hf
    by_cases c2 : l1 = 0
    · rw [if_pos c2] at hf
      refine V.tableIn (off := 51) (tgt := 52) dX11_count_1 (by rw [c2]; decide) (by rw [c2]; decide) (by rw [c2]; rfl) (by decide) ?_
      refine V.aload_n dX11_count_52 rfl 0 rfl ?_
      obtain ⟨v3, e1, hf⟩ := bS hf
      refine V.xgR dX11_count_53 fl_RX11_26 e1 ?_
      obtain ⟨v4, e2, hf⟩ := bS hf
      refine V.xgI dX11_count_56 fl_RX11_129 e2 ?_
      obtain rfl := Option.some.inj hf
      exact V.iret dX11_count_59
    · rw [if_neg c2] at hf
      by_cases c5 : l1 = 1
      · rw [if_pos c5] at hf
        refine V.tableIn (off := 59) (tgt := 60) dX11_count_1 (by rw [c5]; decide) (by rw [c5]; decide) (by rw [c5]; rfl) (by decide) ?_
        refine V.aload_n dX11_count_60 rfl 0 rfl ?_
        obtain ⟨v6, e3, hf⟩ := bS hf
        refine V.xgR dX11_count_61 fl_RX11_26 e3 ?_
        obtain ⟨v7, e4, hf⟩ := bS hf
        refine V.xgI dX11_count_64 fl_RX11_162 e4 ?_
        obtain rfl := Option.some.inj hf
        exact V.iret dX11_count_67
      · rw [if_neg c5] at hf
        by_cases c8 : l1 = 2
        · rw [if_pos c8] at hf
          refine V.tableIn (off := 67) (tgt := 68) dX11_count_1 (by rw [c8]; decide) (by rw [c8]; decide) (by rw [c8]; rfl) (by decide) ?_
          refine V.aload_n dX11_count_68 rfl 0 rfl ?_
          obtain ⟨v9, e5, hf⟩ := bS hf
          refine V.xgR dX11_count_69 fl_RX11_26 e5 ?_
          obtain ⟨v10, e6, hf⟩ := bS hf
          refine V.xgI dX11_count_72 fl_RX11_132 e6 ?_
          obtain rfl := Option.some.inj hf
          exact V.iret dX11_count_75
        · rw [if_neg c8] at hf
          by_cases c11 : l1 = 3
          · rw [if_pos c11] at hf
            refine V.tableIn (off := 75) (tgt := 76) dX11_count_1 (by rw [c11]; decide) (by rw [c11]; decide) (by rw [c11]; rfl) (by decide) ?_
            refine V.aload_n dX11_count_76 rfl 0 rfl ?_
            obtain ⟨v12, e7, hf⟩ := bS hf
            refine V.xgR dX11_count_77 fl_RX11_26 e7 ?_
            obtain ⟨v13, e8, hf⟩ := bS hf
            refine V.xgI dX11_count_80 fl_RX11_396 e8 ?_
            obtain rfl := Option.some.inj hf
            exact V.iret dX11_count_83
          · rw [if_neg c11] at hf
            by_cases c14 : l1 = 4
            · rw [if_pos c14] at hf
              refine V.tableIn (off := 83) (tgt := 84) dX11_count_1 (by rw [c14]; decide) (by rw [c14]; decide) (by rw [c14]; rfl) (by decide) ?_
              refine V.aload_n dX11_count_84 rfl 0 rfl ?_
              obtain ⟨v15, e9, hf⟩ := bS hf
              refine V.xgR dX11_count_85 fl_RX11_26 e9 ?_
              obtain ⟨v16, e10, hf⟩ := bS hf
              refine V.xgI dX11_count_88 fl_RX11_413 e10 ?_
              obtain rfl := Option.some.inj hf
              exact V.iret dX11_count_91
            · rw [if_neg c14] at hf
              by_cases c17 : l1 = 5
              · rw [if_pos c17] at hf
                refine V.tableIn (off := 91) (tgt := 92) dX11_count_1 (by rw [c17]; decide) (by rw [c17]; decide) (by rw [c17]; rfl) (by decide) ?_
                refine V.aload_n dX11_count_92 rfl 0 rfl ?_
                obtain ⟨v18, e11, hf⟩ := bS hf
                refine V.xgR dX11_count_93 fl_RX11_26 e11 ?_
                obtain ⟨v19, e12, hf⟩ := bS hf
                refine V.xgI dX11_count_96 fl_RX11_268 e12 ?_
                obtain rfl := Option.some.inj hf
                exact V.iret dX11_count_99
              · rw [if_neg c17] at hf
                by_cases c20 : l1 = 6
                · rw [if_pos c20] at hf
                  refine V.tableIn (off := 99) (tgt := 100) dX11_count_1 (by rw [c20]; decide) (by rw [c20]; decide) (by rw [c20]; rfl) (by decide) ?_
                  refine V.aload_n dX11_count_100 rfl 0 rfl ?_
                  obtain ⟨v21, e13, hf⟩ := bS hf
                  refine V.xgR dX11_count_101 fl_RX11_26 e13 ?_
                  obtain ⟨v22, e14, hf⟩ := bS hf
                  refine V.xgI dX11_count_104 fl_RX11_296 e14 ?_
                  obtain rfl := Option.some.inj hf
                  exact V.iret dX11_count_107
                · rw [if_neg c20] at hf
                  by_cases c23 : l1 = 7
                  · rw [if_pos c23] at hf
                    refine V.tableIn (off := 107) (tgt := 108) dX11_count_1 (by rw [c23]; decide) (by rw [c23]; decide) (by rw [c23]; rfl) (by decide) ?_
                    refine V.aload_n dX11_count_108 rfl 0 rfl ?_
                    obtain ⟨v24, e15, hf⟩ := bS hf
                    refine V.xgR dX11_count_109 fl_RX11_33 e15 ?_
                    obtain ⟨q25, e16, hf⟩ := bS hf
                    obtain ⟨r26, e17, hf⟩ := bS hf
                    refine V.callV (As := []) (st := []) dX11_count_112 cl_RX11_416 sw_yX5_hanging (by decide) rfl (Nat.le_of_ble_eq_true rfl) rfl (gO_some e16) rfl (w_X5_hanging _ _ _ e17) ?_
                    obtain rfl := Option.some.inj hf
                    exact V.iret dX11_count_115
                  · rw [if_neg c23] at hf
                    by_cases c27 : l1 = 8
                    · rw [if_pos c27] at hf
                      refine V.tableIn (off := 115) (tgt := 116) dX11_count_1 (by rw [c27]; decide) (by rw [c27]; decide) (by rw [c27]; rfl) (by decide) ?_
                      refine V.aload_n dX11_count_116 rfl 0 rfl ?_
                      obtain ⟨v28, e18, hf⟩ := bS hf
                      refine V.xgI dX11_count_117 fl_RX11_13 e18 ?_
                      obtain rfl := Option.some.inj hf
                      exact V.iret dX11_count_120
                    · rw [if_neg c27] at hf
                      cases hf

def f_X11_darkRooms (h : xH) (l0 : Nat) (l1 : Int32) (l2 : Int32) : Option (Int32 × xH) := (gR h l0 11 4).bind fun v1 => (gR h l0 11 11).bind fun v2 => (gR h l0 11 5).bind fun v3 => (gR h v3 5 0).bind fun v4 => (gO h v1 3).bind fun q5 => (f_X3_shineInto h v1 v2 v4 l2).bind fun r6 => (gR r6 l0 11 4).bind fun v7 => (gR r6 l0 11 11).bind fun v8 => (gO r6 v7 3).bind fun q9 => (f_X3_notRight r6 v7 l1 v8).bind fun r10 => some ((r10, r6))
set_option maxRecDepth 20000 in
theorem w_X11_darkRooms (h : xH) (l0 : Nat) (l1 : Int32) (l2 : Int32) (r : Int32 × xH) (hf : f_X11_darkRooms h l0 l1 l2 = some r) : Ev 5 yX11_darkRooms cX11_darkRooms 3 (some .int) [] [.ref l0, .int l1, .int l2] h (oIh r) := by
  refine Ev.of (by decide +kernel) (Nat.le_of_ble_eq_true rfl) ?_
  unfold f_X11_darkRooms at hf
  refine V.aload_n dX11_darkRooms_0 rfl 0 rfl ?_
  obtain ⟨v1, e1, hf⟩ := bS hf
  refine V.xgR dX11_darkRooms_1 fl_RX11_26 e1 ?_
  refine V.aload_n dX11_darkRooms_4 rfl 0 rfl ?_
  obtain ⟨v2, e2, hf⟩ := bS hf
  refine V.xgR dX11_darkRooms_5 fl_RX11_59 e2 ?_
  refine V.aload_n dX11_darkRooms_8 rfl 0 rfl ?_
  obtain ⟨v3, e3, hf⟩ := bS hf
  refine V.xgR dX11_darkRooms_9 fl_RX11_33 e3 ?_
  obtain ⟨v4, e4, hf⟩ := bS hf
  refine V.rgR dX11_darkRooms_12 fl_RX11_171 e4 ?_
  refine V.iload_n dX11_darkRooms_15 rfl 2 rfl ?_
  obtain ⟨q5, e5, hf⟩ := bS hf
  obtain ⟨r6, e6, hf⟩ := bS hf
  refine V.callV (As := [.ref v2, .ref v4, .int l2]) (st := []) dX11_darkRooms_16 cl_RX11_188 sw_yX3_shineInto (by decide) rfl (Nat.le_of_ble_eq_true rfl) rfl (gO_some e5) rfl (w_X3_shineInto _ _ _ _ _ _ e6) ?_
  refine V.aload_n dX11_darkRooms_19 rfl 0 rfl ?_
  obtain ⟨v7, e7, hf⟩ := bS hf
  refine V.xgR dX11_darkRooms_20 fl_RX11_26 e7 ?_
  refine V.iload_n dX11_darkRooms_23 rfl 1 rfl ?_
  refine V.aload_n dX11_darkRooms_24 rfl 0 rfl ?_
  obtain ⟨v8, e8, hf⟩ := bS hf
  refine V.xgR dX11_darkRooms_25 fl_RX11_59 e8 ?_
  obtain ⟨q9, e9, hf⟩ := bS hf
  obtain ⟨r10, e10, hf⟩ := bS hf
  refine V.callV (As := [.int l1, .ref v8]) (st := []) dX11_darkRooms_28 cl_RX11_437 sw_yX3_notRight (by decide) rfl (Nat.le_of_ble_eq_true rfl) rfl (gO_some e9) rfl (w_X3_notRight _ _ _ _ _ e10) ?_
  obtain rfl := Option.some.inj hf
  exact V.iret dX11_darkRooms_31

def f_X11_dark (h : xH) (l0 : Nat) (l1 : Int32) : Option ((String × xH) ⊕ (Int32 × xH)) := (f_X11_checkHour h l1).bind fun r1 => (match r1 with | .inl E2 => (some (.inl E2)) | .inr v3 => ((gR h l0 11 5).bind fun v4 => (gO h v4 5).bind fun q5 => (f_X5_burning h v4 l1).bind fun r6 => (gO h l0 11).bind fun q7 => (f_X11_darkRooms h l0 l1 r6).bind fun r8 => some (.inr (r8.1, r8.2))))
set_option maxRecDepth 20000 in
theorem w_X11_dark (h : xH) (l0 : Nat) (l1 : Int32) (r : (String × xH) ⊕ (Int32 × xH)) (hf : f_X11_dark h l0 l1 = some r) : Ev 6 yX11_dark cX11_dark 2 (some .int) [] [.ref l0, .int l1] h (oTIh r) := by
  refine Ev.of (by decide +kernel) (Nat.le_of_ble_eq_true rfl) ?_
  unfold f_X11_dark at hf
  refine V.iload_n dX11_dark_0 rfl 1 rfl ?_
  obtain ⟨r1, e1, hf⟩ := bS hf
  rcases r1 with E2 | v3
  · obtain rfl := Option.some.inj hf
    exact V.callST (As := [.int l1]) (st := []) dX11_dark_1 cl_RX11_181 sw_yX11_checkHour (by decide) rfl (Nat.le_of_ble_eq_true rfl) rfl (by decide) (w_X11_checkHour _ _ _ e1)
  · refine V.callS (As := [.int l1]) (st := []) dX11_dark_1 cl_RX11_181 sw_yX11_checkHour (by decide) rfl (Nat.le_of_ble_eq_true rfl) rfl (w_X11_checkHour _ _ _ e1) ?_
    refine V.aload_n dX11_dark_4 rfl 0 rfl ?_
    refine V.iload_n dX11_dark_5 rfl 1 rfl ?_
    refine V.aload_n dX11_dark_6 rfl 0 rfl ?_
    obtain ⟨v4, e2, hf⟩ := bS hf
    refine V.xgR dX11_dark_7 fl_RX11_33 e2 ?_
    refine V.iload_n dX11_dark_10 rfl 1 rfl ?_
    obtain ⟨q5, e3, hf⟩ := bS hf
    obtain ⟨r6, e4, hf⟩ := bS hf
    refine V.callV (As := [.int l1]) (st := [.int l1, .ref l0]) dX11_dark_11 cl_RX11_184 sw_yX5_burning (by decide) rfl (Nat.le_of_ble_eq_true rfl) rfl (gO_some e3) rfl (w_X5_burning _ _ _ _ e4) ?_
    obtain ⟨q7, e5, hf⟩ := bS hf
    obtain ⟨r8, e6, hf⟩ := bS hf
    refine V.callV (As := [.int l1, .int r6]) (st := []) dX11_dark_14 cl_RX11_192 sw_yX11_darkRooms (by decide) rfl (Nat.le_of_ble_eq_true rfl) rfl (gO_some e5) rfl (w_X11_darkRooms _ _ _ _ _ e6) ?_
    obtain rfl := Option.some.inj hf
    exact V.iret dX11_dark_17

def f_X11_darkenedBy (h : xH) (l0 : Nat) (l1 : Int32) (l2 : Int32) : Option (Int32 × xH) := (gR h l0 11 5).bind fun v1 => (gO h v1 5).bind fun q2 => (f_X5_burning h v1 l2).bind fun r3 => (if (r3 &&& l1) = 0 then (some (((0 : Int32), h))) else ((gO h l0 11).bind fun q5 => (f_X11_darkRooms h l0 l2 (r3 &&& (l1 ^^^ (-1 : Int32)))).bind fun r6 => (gO r6.2 l0 11).bind fun q7 => (f_X11_darkRooms r6.2 l0 l2 r3).bind fun r8 => some ((((r6.1) &&& ((r8.1) ^^^ (-1 : Int32))), r8.2))))
set_option maxRecDepth 20000 in
theorem w_X11_darkenedBy (h : xH) (l0 : Nat) (l1 : Int32) (l2 : Int32) (r : Int32 × xH) (hf : f_X11_darkenedBy h l0 l1 l2 = some r) : Ev 6 yX11_darkenedBy cX11_darkenedBy 4 (some .int) [] [.ref l0, .int l1, .int l2] h (oIh r) := by
  refine Ev.of (by decide +kernel) (Nat.le_of_ble_eq_true rfl) ?_
  unfold f_X11_darkenedBy at hf
  refine V.aload_n dX11_darkenedBy_0 rfl 0 rfl ?_
  obtain ⟨v1, e1, hf⟩ := bS hf
  refine V.xgR dX11_darkenedBy_1 fl_RX11_33 e1 ?_
  refine V.iload_n dX11_darkenedBy_4 rfl 2 rfl ?_
  obtain ⟨q2, e2, hf⟩ := bS hf
  obtain ⟨r3, e3, hf⟩ := bS hf
  refine V.callV (As := [.int l2]) (st := []) dX11_darkenedBy_5 cl_RX11_184 sw_yX5_burning (by decide) rfl (Nat.le_of_ble_eq_true rfl) rfl (gO_some e2) rfl (w_X5_burning _ _ _ _ e3) ?_
  refine V.istore_n (lv' := [(3, .int r3), (0, .ref l0), (1, .int l1), (2, .int l2)]) dX11_darkenedBy_8 rfl (by decide) rfl ?_
  refine V.iload_n dX11_darkenedBy_9 rfl 0 rfl ?_
  refine V.iload_n dX11_darkenedBy_10 rfl 2 rfl ?_
  refine V.iand dX11_darkenedBy_11 ?_
  refine V.if_ne (tgt := 17) dX11_darkenedBy_12 (by decide) (fun c4 => ?_) (fun c4 => ?_)
  · rw [if_neg c4] at hf
    refine V.aload_n dX11_darkenedBy_17 rfl 1 rfl ?_
    refine V.iload_n dX11_darkenedBy_18 rfl 3 rfl ?_
    refine V.iload_n dX11_darkenedBy_19 rfl 0 rfl ?_
    refine V.iload_n dX11_darkenedBy_20 rfl 2 rfl ?_
    refine V.iconst (v := (-1 : Int32)) dX11_darkenedBy_21 (by decide) ?_
    refine V.ixor dX11_darkenedBy_22 ?_
    refine V.iand dX11_darkenedBy_23 ?_
    obtain ⟨q5, e4, hf⟩ := bS hf
    obtain ⟨r6, e5, hf⟩ := bS hf
    refine V.callV (As := [.int l2, .int (r3 &&& (l1 ^^^ (-1 : Int32)))]) (st := []) dX11_darkenedBy_24 cl_RX11_192 sw_yX11_darkRooms (by decide) rfl (Nat.le_of_ble_eq_true rfl) rfl (gO_some e4) rfl (w_X11_darkRooms _ _ _ _ _ e5) ?_
    refine V.aload_n dX11_darkenedBy_27 rfl 1 rfl ?_
    refine V.iload_n dX11_darkenedBy_28 rfl 3 rfl ?_
    refine V.iload_n dX11_darkenedBy_29 rfl 0 rfl ?_
    obtain ⟨q7, e6, hf⟩ := bS hf
    obtain ⟨r8, e7, hf⟩ := bS hf
    refine V.callV (As := [.int l2, .int r3]) (st := [.int (r6.1)]) dX11_darkenedBy_30 cl_RX11_192 sw_yX11_darkRooms (by decide) rfl (Nat.le_of_ble_eq_true rfl) rfl (gO_some e6) rfl (w_X11_darkRooms _ _ _ _ _ e7) ?_
    refine V.iconst (v := (-1 : Int32)) dX11_darkenedBy_33 (by decide) ?_
    refine V.ixor dX11_darkenedBy_34 ?_
    refine V.iand dX11_darkenedBy_35 ?_
    obtain rfl := Option.some.inj hf
    exact V.iret dX11_darkenedBy_36
  · rw [if_pos c4] at hf
    refine V.iconst (v := (0 : Int32)) dX11_darkenedBy_15 (by decide) ?_
    obtain rfl := Option.some.inj hf
    exact V.iret dX11_darkenedBy_16

def f_X11_day (h : xH) (l0 : Nat) (l1 : Int32) : Option ((String × xH) ⊕ (Int32 × xH)) := (gO h l0 11).bind fun q1 => (f_X11_checkKind h l0 l1).bind fun r2 => (match r2 with | .inl E3 => (some (.inl E3)) | .inr v4 => ((gR h l0 11 13).bind fun v5 => (gR h l0 11 4).bind fun v6 => (gO h v5 4).bind fun q7 => (f_X4_lampsOfDay h v5 v6 l1).bind fun r8 => (if r8.1 = (-1 : Int32) then (some (.inr ((-1 : Int32), r8.2))) else ((gR r8.2 l0 11 4).bind fun v10 => (gO r8.2 v10 3).bind fun q11 => (f_X3_oilOf r8.2 v10 l1).bind fun r12 => some (.inr (((r8.1) * r12), r8.2))))))
set_option maxRecDepth 20000 in
theorem w_X11_day (h : xH) (l0 : Nat) (l1 : Int32) (r : (String × xH) ⊕ (Int32 × xH)) (hf : f_X11_day h l0 l1 = some r) : Ev 48 yX11_day cX11_day 3 (some .int) [] [.ref l0, .int l1] h (oTIh r) := by
  refine Ev.of (by decide +kernel) (Nat.le_of_ble_eq_true rfl) ?_
  unfold f_X11_day at hf
  refine V.aload_n dX11_day_0 rfl 0 rfl ?_
  refine V.iload_n dX11_day_1 rfl 1 rfl ?_
  obtain ⟨q1, e1, hf⟩ := bS hf
  obtain ⟨r2, e2, hf⟩ := bS hf
  rcases r2 with E3 | v4
  · obtain rfl := Option.some.inj hf
    exact V.callVT (As := [.int l1]) (st := []) dX11_day_2 cl_RX11_147 sw_yX11_checkKind (by decide) rfl (Nat.le_of_ble_eq_true rfl) rfl (gO_some e1) rfl (by decide) (w_X11_checkKind _ _ _ _ e2)
  · refine V.callV (As := [.int l1]) (st := []) dX11_day_2 cl_RX11_147 sw_yX11_checkKind (by decide) rfl (Nat.le_of_ble_eq_true rfl) rfl (gO_some e1) rfl (w_X11_checkKind _ _ _ _ e2) ?_
    refine V.aload_n dX11_day_5 rfl 0 rfl ?_
    obtain ⟨v5, e3, hf⟩ := bS hf
    refine V.xgR dX11_day_6 fl_RX11_73 e3 ?_
    refine V.aload_n dX11_day_9 rfl 0 rfl ?_
    obtain ⟨v6, e4, hf⟩ := bS hf
    refine V.xgR dX11_day_10 fl_RX11_26 e4 ?_
    refine V.iload_n dX11_day_13 rfl 1 rfl ?_
    obtain ⟨q7, e5, hf⟩ := bS hf
    obtain ⟨r8, e6, hf⟩ := bS hf
    refine V.callV (As := [.ref v6, .int l1]) (st := []) dX11_day_14 cl_RX11_247 sw_yX4_lampsOfDay (by decide) rfl (Nat.le_of_ble_eq_true rfl) rfl (gO_some e5) rfl (w_X4_lampsOfDay _ _ _ _ _ e6) ?_
    refine V.istore_n (lv' := [(2, .int r8.1), (0, .ref l0), (1, .int l1)]) dX11_day_17 rfl (by decide) rfl ?_
    refine V.iload_n dX11_day_18 rfl 0 rfl ?_
    refine V.iconst (v := (-1 : Int32)) dX11_day_19 (by decide) ?_
    refine V.icmp_ne (tgt := 27) dX11_day_20 (by decide) (fun c9 => ?_) (fun c9 => ?_)
    · rw [if_neg c9] at hf
      refine V.iload_n dX11_day_27 rfl 0 rfl ?_
      refine V.aload_n dX11_day_28 rfl 1 rfl ?_
      obtain ⟨v10, e7, hf⟩ := bS hf
      refine V.xgR dX11_day_29 fl_RX11_26 e7 ?_
      refine V.iload_n dX11_day_32 rfl 2 rfl ?_
      obtain ⟨q11, e8, hf⟩ := bS hf
      obtain ⟨r12, e9, hf⟩ := bS hf
      refine V.callV (As := [.int l1]) (st := [.int (r8.1)]) dX11_day_33 cl_RX11_202 sw_yX3_oilOf (by decide) rfl (Nat.le_of_ble_eq_true rfl) rfl (gO_some e8) rfl (w_X3_oilOf _ _ _ _ e9) ?_
      refine V.imul dX11_day_36 ?_
      obtain rfl := Option.some.inj hf
      exact V.iret dX11_day_37
    · rw [if_pos c9] at hf
      refine V.iconst (v := (-1 : Int32)) dX11_day_23 (by decide) ?_
      refine V.goto (tgt := 37) dX11_day_24 (by decide) ?_
      obtain rfl := Option.some.inj hf
      exact V.iret dX11_day_37

def f_X11_ever_26 : Nat → xH → Nat → Int32 → Int32 → Int32 → Int32 → Option (Int32 × xH)
  | 0, _, _, _, _, _, _ => none
  | n + 1, h, l0, l1, l2, l3, l4 => (gR h l0 11 4).bind fun v1 => (gI h v1 3 1).bind fun v2 => (if v2 ≤ l4 then (some ((l3, h))) else ((gR h l0 11 12).bind fun v4 => (gR h l0 11 4).bind fun v5 => (gR h v5 3 14).bind fun v6 => (ldI h .int v6 l4).bind fun v7 => (f_J6_bitCount_0f7a4 h l2).bind fun r8 => (gO h v4 2).bind fun q9 => (f_X2_suffice h v4 (l1 &&& (v7 ^^^ (-1 : Int32))) (r8 - (1 : Int32))).bind fun r10 => (if r10 = 0 then (f_X11_ever_26 n h l0 l1 l2 l3 (l4 + 1)) else (f_X11_ever_26 n h l0 l1 l2 (l3 ||| ((1 : Int32) <<< (l4 &&& 31))) (l4 + 1)))))
def f_X11_ever (h : xH) (l0 : Nat) : Option (Int32 × xH) := (gR h l0 11 4).bind fun v1 => (gO h v1 3).bind fun q2 => (f_X3_allRooms h v1).bind fun r3 => (gO h l0 11).bind fun q4 => (f_X11_fewestOf h l0 r3).bind fun r5 => (if r5.1 = (-1 : Int32) then (some (((0 : Int32), r5.2))) else (f_X11_ever_26 xFU r5.2 l0 r3 (r5.1) (0 : Int32) (0 : Int32)))
set_option maxRecDepth 20000 in
theorem w_X11_ever_26 : ∀ (n : Nat) (h : xH) (l0 : Nat) (l1 : Int32) (l2 : Int32) (l3 : Int32) (l4 : Int32) (r : Int32 × xH), f_X11_ever_26 n h l0 l1 l2 l3 l4 = some r → V 48 yX11_ever cX11_ever 5 (some .int) [] none 26 [(0, .ref l0), (1, .int l1), (2, .int l2), (3, .int l3), (4, .int l4)] [] h (oIh r) := by
  intro n
  induction n with
  | zero => intro h l0 l1 l2 l3 l4 r hf; cases hf
  | succ n ih =>
    intro h l0 l1 l2 l3 l4 r hf
    rw [f_X11_ever_26] at hf
    refine V.iload dX11_ever_26 4 rfl ?_
    refine V.aload_n dX11_ever_28 rfl 0 rfl ?_
    obtain ⟨v1, e1, hf⟩ := bS hf
    refine V.xgR dX11_ever_29 fl_RX11_26 e1 ?_
    obtain ⟨v2, e2, hf⟩ := bS hf
    refine V.xgI dX11_ever_32 fl_RX11_162 e2 ?_
    refine V.icmp_ge (tgt := 81) dX11_ever_35 (by decide) (fun c3 => ?_) (fun c3 => ?_)
    · rw [if_pos c3] at hf
      refine V.iload_n dX11_ever_81 rfl 3 rfl ?_
      obtain rfl := Option.some.inj hf
      exact V.iret dX11_ever_82
    · rw [if_neg c3] at hf
      refine V.aload_n dX11_ever_38 rfl 0 rfl ?_
      obtain ⟨v4, e3, hf⟩ := bS hf
      refine V.xgR dX11_ever_39 fl_RX11_66 e3 ?_
      refine V.iload_n dX11_ever_42 rfl 1 rfl ?_
      refine V.aload_n dX11_ever_43 rfl 0 rfl ?_
      obtain ⟨v5, e4, hf⟩ := bS hf
      refine V.xgR dX11_ever_44 fl_RX11_26 e4 ?_
      obtain ⟨v6, e5, hf⟩ := bS hf
      refine V.rgR dX11_ever_47 fl_RX11_224 e5 ?_
      refine V.iload dX11_ever_50 4 rfl ?_
      obtain ⟨v7, e6, hf⟩ := bS hf
      refine V.xldI dX11_ever_52 e6 ?_
      refine V.iconst (v := (-1 : Int32)) dX11_ever_53 (by decide) ?_
      refine V.ixor dX11_ever_54 ?_
      refine V.iand dX11_ever_55 ?_
      refine V.iload_n dX11_ever_56 rfl 2 rfl ?_
      obtain ⟨r8, e7, hf⟩ := bS hf
      refine V.callS (As := [.int l2]) (st := [.int (l1 &&& (v7 ^^^ (-1 : Int32))), .ref v4]) dX11_ever_57 cl_RX11_205 sw_yJ6_bitCount_0f7a4 (by decide) rfl (Nat.le_of_ble_eq_true rfl) rfl (w_J6_bitCount_0f7a4 _ _ _ e7) ?_
      refine V.iconst (v := (1 : Int32)) dX11_ever_60 (by decide) ?_
      refine V.isub dX11_ever_61 ?_
      obtain ⟨q9, e8, hf⟩ := bS hf
      obtain ⟨r10, e9, hf⟩ := bS hf
      refine V.callV (As := [.int (l1 &&& (v7 ^^^ (-1 : Int32))), .int (r8 - (1 : Int32))]) (st := []) dX11_ever_62 cl_RX11_243 sw_yX2_suffice (by decide) rfl (Nat.le_of_ble_eq_true rfl) rfl (gO_some e8) rfl (w_X2_suffice _ _ _ _ _ e9) ?_
      refine V.if_eq (tgt := 75) dX11_ever_65 (by decide) (fun c11 => ?_) (fun c11 => ?_)
      · rw [if_pos c11] at hf
        refine V.iinc (v := (l4 + 1)) (lv' := [(4, .int (l4 + 1)), (0, .ref l0), (1, .int l1), (2, .int l2), (3, .int l3)]) dX11_ever_75 4 rfl rfl (Nat.le_of_ble_eq_true rfl) rfl ?_
        refine V.goto (tgt := 26) dX11_ever_78 (by decide) ?_
        refine V.sub [1, 2, 3, 4, 0] rfl ?_
        exact ih _ _ _ _ _ _ _ hf
      · rw [if_neg c11] at hf
        refine V.iload_n dX11_ever_68 rfl 3 rfl ?_
        refine V.iconst (v := (1 : Int32)) dX11_ever_69 (by decide) ?_
        refine V.iload dX11_ever_70 4 rfl ?_
        refine V.ishl dX11_ever_72 ?_
        refine V.ior dX11_ever_73 ?_
        refine V.istore_n (lv' := [(3, .int (l3 ||| ((1 : Int32) <<< (l4 &&& 31)))), (0, .ref l0), (1, .int l1), (2, .int l2), (4, .int l4)]) dX11_ever_74 rfl (by decide) rfl ?_
        refine V.iinc (v := (l4 + 1)) (lv' := [(4, .int (l4 + 1)), (3, .int (l3 ||| ((1 : Int32) <<< (l4 &&& 31)))), (0, .ref l0), (1, .int l1), (2, .int l2)]) dX11_ever_75 4 rfl rfl (Nat.le_of_ble_eq_true rfl) rfl ?_
        refine V.goto (tgt := 26) dX11_ever_78 (by decide) ?_
        refine V.sub [2, 3, 4, 1, 0] rfl ?_
        exact ih _ _ _ _ _ _ _ hf

set_option maxRecDepth 20000 in
theorem w_X11_ever (h : xH) (l0 : Nat) (r : Int32 × xH) (hf : f_X11_ever h l0 = some r) : Ev 48 yX11_ever cX11_ever 5 (some .int) [] [.ref l0] h (oIh r) := by
  refine Ev.of (by decide +kernel) (Nat.le_of_ble_eq_true rfl) ?_
  unfold f_X11_ever at hf
  refine V.aload_n dX11_ever_0 rfl 0 rfl ?_
  obtain ⟨v1, e10, hf⟩ := bS hf
  refine V.xgR dX11_ever_1 fl_RX11_26 e10 ?_
  obtain ⟨q2, e11, hf⟩ := bS hf
  obtain ⟨r3, e12, hf⟩ := bS hf
  refine V.callV (As := []) (st := []) dX11_ever_4 cl_RX11_216 sw_yX3_allRooms (by decide) rfl (Nat.le_of_ble_eq_true rfl) rfl (gO_some e11) rfl (w_X3_allRooms _ _ _ e12) ?_
  refine V.istore_n (lv' := [(1, .int r3), (0, .ref l0)]) dX11_ever_7 rfl (by decide) rfl ?_
  refine V.aload_n dX11_ever_8 rfl 1 rfl ?_
  refine V.iload_n dX11_ever_9 rfl 0 rfl ?_
  obtain ⟨q4, e13, hf⟩ := bS hf
  obtain ⟨r5, e14, hf⟩ := bS hf
  refine V.callV (As := [.int r3]) (st := []) dX11_ever_10 cl_RX11_237 sw_yX11_fewestOf (by decide) rfl (Nat.le_of_ble_eq_true rfl) rfl (gO_some e13) rfl (w_X11_fewestOf _ _ _ _ e14) ?_
  refine V.istore_n (lv' := [(2, .int r5.1), (1, .int r3), (0, .ref l0)]) dX11_ever_13 rfl (by decide) rfl ?_
  refine V.iload_n dX11_ever_14 rfl 0 rfl ?_
  refine V.iconst (v := (-1 : Int32)) dX11_ever_15 (by decide) ?_
  refine V.icmp_ne (tgt := 21) dX11_ever_16 (by decide) (fun c6 => ?_) (fun c6 => ?_)
  · rw [if_neg c6] at hf
    refine V.iconst (v := (0 : Int32)) dX11_ever_21 (by decide) ?_
    refine V.istore_n (lv' := [(3, .int (0 : Int32)), (2, .int r5.1), (1, .int r3), (0, .ref l0)]) dX11_ever_22 rfl (by decide) rfl ?_
    refine V.iconst (v := (0 : Int32)) dX11_ever_23 (by decide) ?_
    refine V.istore (lv' := [(4, .int (0 : Int32)), (3, .int (0 : Int32)), (2, .int r5.1), (1, .int r3), (0, .ref l0)]) dX11_ever_24 (by decide) rfl ?_
    refine V.sub [4, 3, 2, 1, 0] rfl ?_
    exact w_X11_ever_26 _ _ _ _ _ _ _ _ hf
  · rw [if_pos c6] at hf
    refine V.iconst (v := (0 : Int32)) dX11_ever_19 (by decide) ?_
    obtain rfl := Option.some.inj hf
    exact V.iret dX11_ever_20

def f_X11_fault (h : xH) (l0 : Nat) (l1 : Int32) : Option (Int32) := (if l1 = 0 then ((gI h l0 11 2).bind fun v4 => some (v4)) else ((if l1 = (1 : Int32) then ((gI h l0 11 3).bind fun v3 => some (v3)) else (some ((-1 : Int32))))))
set_option maxRecDepth 20000 in
theorem w_X11_fault (h : xH) (l0 : Nat) (l1 : Int32) (r : Int32) (hf : f_X11_fault h l0 l1 = some r) : Ev 3 yX11_fault cX11_fault 2 (some .int) [] [.ref l0, .int l1] h (oI h r) := by
  refine Ev.of (by decide +kernel) (Nat.le_of_ble_eq_true rfl) ?_
  unfold f_X11_fault at hf
  refine V.iload_n dX11_fault_0 rfl 1 rfl ?_
  refine V.if_ne (tgt := 9) dX11_fault_1 (by decide) (fun c1 => ?_) (fun c1 => ?_)
  · rw [if_neg c1] at hf
    refine V.iload_n dX11_fault_9 rfl 1 rfl ?_
    refine V.iconst (v := (1 : Int32)) dX11_fault_10 (by decide) ?_
    refine V.icmp_ne (tgt := 21) dX11_fault_11 (by decide) (fun c2 => ?_) (fun c2 => ?_)
    · rw [if_neg c2] at hf
      refine V.iconst (v := (-1 : Int32)) dX11_fault_21 (by decide) ?_
      obtain rfl := Option.some.inj hf
      exact V.iret dX11_fault_22
    · rw [if_pos c2] at hf
      refine V.aload_n dX11_fault_14 rfl 0 rfl ?_
      obtain ⟨v3, e1, hf⟩ := bS hf
      refine V.xgI dX11_fault_15 fl_RX11_20 e1 ?_
      refine V.goto (tgt := 22) dX11_fault_18 (by decide) ?_
      obtain rfl := Option.some.inj hf
      exact V.iret dX11_fault_22
  · rw [if_pos c1] at hf
    refine V.aload_n dX11_fault_4 rfl 0 rfl ?_
    obtain ⟨v4, e2, hf⟩ := bS hf
    refine V.xgI dX11_fault_5 fl_RX11_17 e2 ?_
    obtain rfl := Option.some.inj hf
    exact V.iret dX11_fault_8

def f_X11_putOnTape_3 : Nat → xH → Nat → Int32 → Int32 → Option (xH)
  | 0, _, _, _, _ => none
  | n + 1, h, l0, l1, l2 => (if l2 < 0 then (some (h)) else ((gI h l0 11 1).bind fun v2 => (if (800 : Int32) ≤ v2 then (f_X11_putOnTape_3 n h l0 l1 (l2 + (-8))) else ((gR h l0 11 0).bind fun v4 => (gI h l0 11 1).bind fun v5 => (stI h .byte v4 v5 (vp_nar .byte (Int8.toInt32 (Int32.toInt8 (l1 >>> (l2 &&& 31)))))).bind fun h6 => (gI h6 l0 11 1).bind fun v7 => (pF h6 l0 11 1 (.int (v7 + (1 : Int32)))).bind fun h8 => f_X11_putOnTape_3 n h8 l0 l1 (l2 + (-8))))))
def f_X11_putOnTape (h : xH) (l0 : Nat) (l1 : Int32) : Option (xH) := f_X11_putOnTape_3 xFU h l0 l1 (24 : Int32)
set_option maxRecDepth 20000 in
theorem w_X11_putOnTape_3 : ∀ (n : Nat) (h : xH) (l0 : Nat) (l1 : Int32) (l2 : Int32) (r : xH), f_X11_putOnTape_3 n h l0 l1 l2 = some r → V 3 yX11_putOnTape cX11_putOnTape 3 none [] none 3 [(0, .ref l0), (1, .int l1), (2, .int l2)] [] h (oVh r) := by
  intro n
  induction n with
  | zero => intro h l0 l1 l2 r hf; cases hf
  | succ n ih =>
    intro h l0 l1 l2 r hf
    rw [f_X11_putOnTape_3] at hf
    refine V.iload_n dX11_putOnTape_3 rfl 2 rfl ?_
    refine V.if_lt (tgt := 46) dX11_putOnTape_4 (by decide) (fun c1 => ?_) (fun c1 => ?_)
    · rw [if_pos c1] at hf
      obtain rfl := Option.some.inj hf
      exact V.vret dX11_putOnTape_46
    · rw [if_neg c1] at hf
      refine V.aload_n dX11_putOnTape_7 rfl 0 rfl ?_
      obtain ⟨v2, e1, hf⟩ := bS hf
      refine V.xgI dX11_putOnTape_8 fl_RX11_13 e1 ?_
      refine V.sipush (v := (800 : Int32)) dX11_putOnTape_11 (by decide) ?_
      refine V.icmp_ge (tgt := 40) dX11_putOnTape_14 (by decide) (fun c3 => ?_) (fun c3 => ?_)
      · rw [if_pos c3] at hf
        refine V.iinc (v := (l2 + (-8))) (lv' := [(2, .int (l2 + (-8))), (0, .ref l0), (1, .int l1)]) dX11_putOnTape_40 2 rfl rfl (Nat.le_of_ble_eq_true rfl) rfl ?_
        refine V.goto (tgt := 3) dX11_putOnTape_43 (by decide) ?_
        refine V.sub [1, 2, 0] rfl ?_
        exact ih _ _ _ _ _ hf
      · rw [if_neg c3] at hf
        refine V.aload_n dX11_putOnTape_17 rfl 0 rfl ?_
        obtain ⟨v4, e2, hf⟩ := bS hf
        refine V.xgR dX11_putOnTape_18 fl_RX11_9 e2 ?_
        refine V.aload_n dX11_putOnTape_21 rfl 0 rfl ?_
        obtain ⟨v5, e3, hf⟩ := bS hf
        refine V.xgI dX11_putOnTape_22 fl_RX11_13 e3 ?_
        refine V.iload_n dX11_putOnTape_25 rfl 1 rfl ?_
        refine V.iload_n dX11_putOnTape_26 rfl 2 rfl ?_
        refine V.ishr dX11_putOnTape_27 ?_
        refine V.i2b dX11_putOnTape_28 ?_
        obtain ⟨h6, e4, hf⟩ := bS hf
        refine V.xstB dX11_putOnTape_29 e4 ?_
        refine V.aload_n dX11_putOnTape_30 rfl 0 rfl ?_
        refine V.dup dX11_putOnTape_31 rfl ?_
        obtain ⟨v7, e5, hf⟩ := bS hf
        refine V.xgI dX11_putOnTape_32 fl_RX11_13 e5 ?_
        refine V.iconst (v := (1 : Int32)) dX11_putOnTape_35 (by decide) ?_
        refine V.iadd dX11_putOnTape_36 ?_
        obtain ⟨h8, e6, hf⟩ := bS hf
        refine V.xpF dX11_putOnTape_37 fl_RX11_13 (fun h9 => nomatch h9) (fun _ => rfl) (fun _ => rfl) e6 ?_
        refine V.iinc (v := (l2 + (-8))) (lv' := [(2, .int (l2 + (-8))), (0, .ref l0), (1, .int l1)]) dX11_putOnTape_40 2 rfl rfl (Nat.le_of_ble_eq_true rfl) rfl ?_
        refine V.goto (tgt := 3) dX11_putOnTape_43 (by decide) ?_
        refine V.sub [1, 2, 0] rfl ?_
        exact ih _ _ _ _ _ hf

set_option maxRecDepth 20000 in
theorem w_X11_putOnTape (h : xH) (l0 : Nat) (l1 : Int32) (r : xH) (hf : f_X11_putOnTape h l0 l1 = some r) : Ev 3 yX11_putOnTape cX11_putOnTape 3 none [] [.ref l0, .int l1] h (oVh r) := by
  refine Ev.of (by decide +kernel) (Nat.le_of_ble_eq_true rfl) ?_
  unfold f_X11_putOnTape at hf
  refine V.bipush (v := (24 : Int32)) dX11_putOnTape_0 (by decide) ?_
  refine V.istore_n (lv' := [(2, .int (24 : Int32)), (0, .ref l0), (1, .int l1)]) dX11_putOnTape_2 rfl (by decide) rfl ?_
  refine V.sub [1, 2, 0] rfl ?_
  exact w_X11_putOnTape_3 _ _ _ _ _ _ hf

def f_X11_feed (h : xH) (l0 : Nat) (l1 : Int32) (l2 : Int32) (l3 : Int32) (l4 : Int32) (l5 : Int32) : Option (Int32 × xH) := (gI h l0 11 1).bind fun v1 => (if (v1 + (20 : Int32)) ≤ (800 : Int32) then ((gO h l0 11).bind fun q3 => (f_X11_putOnTape h l0 l1).bind fun r4 => (gO r4 l0 11).bind fun q5 => (f_X11_putOnTape r4 l0 l2).bind fun r6 => (gO r6 l0 11).bind fun q7 => (f_X11_putOnTape r6 l0 l3).bind fun r8 => (gO r8 l0 11).bind fun q9 => (f_X11_putOnTape r8 l0 l4).bind fun r10 => (gO r10 l0 11).bind fun q11 => (f_X11_putOnTape r10 l0 l5).bind fun r12 => (gI r12 l0 11 1).bind fun v13 => some ((v13, r12))) else (some (((-1 : Int32), h))))
set_option maxRecDepth 20000 in
theorem w_X11_feed (h : xH) (l0 : Nat) (l1 : Int32) (l2 : Int32) (l3 : Int32) (l4 : Int32) (l5 : Int32) (r : Int32 × xH) (hf : f_X11_feed h l0 l1 l2 l3 l4 l5 = some r) : Ev 4 yX11_feed cX11_feed 6 (some .int) [] [.ref l0, .int l1, .int l2, .int l3, .int l4, .int l5] h (oIh r) := by
  refine Ev.of (by decide +kernel) (Nat.le_of_ble_eq_true rfl) ?_
  unfold f_X11_feed at hf
  refine V.aload_n dX11_feed_0 rfl 0 rfl ?_
  obtain ⟨v1, e1, hf⟩ := bS hf
  refine V.xgI dX11_feed_1 fl_RX11_13 e1 ?_
  refine V.bipush (v := (20 : Int32)) dX11_feed_4 (by decide) ?_
  refine V.iadd dX11_feed_6 ?_
  refine V.sipush (v := (800 : Int32)) dX11_feed_7 (by decide) ?_
  refine V.icmp_le (tgt := 15) dX11_feed_10 (by decide) (fun c2 => ?_) (fun c2 => ?_)
  · rw [if_pos c2] at hf
    refine V.aload_n dX11_feed_15 rfl 0 rfl ?_
    refine V.iload_n dX11_feed_16 rfl 1 rfl ?_
    obtain ⟨q3, e2, hf⟩ := bS hf
    obtain ⟨r4, e3, hf⟩ := bS hf
    refine V.callV (As := [.int l1]) (st := []) dX11_feed_17 cl_RX11_102 sw_yX11_putOnTape (by decide) rfl (Nat.le_of_ble_eq_true rfl) rfl (gO_some e2) rfl (w_X11_putOnTape _ _ _ _ e3) ?_
    refine V.aload_n dX11_feed_20 rfl 0 rfl ?_
    refine V.iload_n dX11_feed_21 rfl 2 rfl ?_
    obtain ⟨q5, e4, hf⟩ := bS hf
    obtain ⟨r6, e5, hf⟩ := bS hf
    refine V.callV (As := [.int l2]) (st := []) dX11_feed_22 cl_RX11_102 sw_yX11_putOnTape (by decide) rfl (Nat.le_of_ble_eq_true rfl) rfl (gO_some e4) rfl (w_X11_putOnTape _ _ _ _ e5) ?_
    refine V.aload_n dX11_feed_25 rfl 0 rfl ?_
    refine V.iload_n dX11_feed_26 rfl 3 rfl ?_
    obtain ⟨q7, e6, hf⟩ := bS hf
    obtain ⟨r8, e7, hf⟩ := bS hf
    refine V.callV (As := [.int l3]) (st := []) dX11_feed_27 cl_RX11_102 sw_yX11_putOnTape (by decide) rfl (Nat.le_of_ble_eq_true rfl) rfl (gO_some e6) rfl (w_X11_putOnTape _ _ _ _ e7) ?_
    refine V.aload_n dX11_feed_30 rfl 0 rfl ?_
    refine V.iload dX11_feed_31 4 rfl ?_
    obtain ⟨q9, e8, hf⟩ := bS hf
    obtain ⟨r10, e9, hf⟩ := bS hf
    refine V.callV (As := [.int l4]) (st := []) dX11_feed_33 cl_RX11_102 sw_yX11_putOnTape (by decide) rfl (Nat.le_of_ble_eq_true rfl) rfl (gO_some e8) rfl (w_X11_putOnTape _ _ _ _ e9) ?_
    refine V.aload_n dX11_feed_36 rfl 0 rfl ?_
    refine V.iload dX11_feed_37 5 rfl ?_
    obtain ⟨q11, e10, hf⟩ := bS hf
    obtain ⟨r12, e11, hf⟩ := bS hf
    refine V.callV (As := [.int l5]) (st := []) dX11_feed_39 cl_RX11_102 sw_yX11_putOnTape (by decide) rfl (Nat.le_of_ble_eq_true rfl) rfl (gO_some e10) rfl (w_X11_putOnTape _ _ _ _ e11) ?_
    refine V.aload_n dX11_feed_42 rfl 0 rfl ?_
    obtain ⟨v13, e12, hf⟩ := bS hf
    refine V.xgI dX11_feed_43 fl_RX11_13 e12 ?_
    obtain rfl := Option.some.inj hf
    exact V.iret dX11_feed_46
  · rw [if_neg c2] at hf
    refine V.iconst (v := (-1 : Int32)) dX11_feed_13 (by decide) ?_
    obtain rfl := Option.some.inj hf
    exact V.iret dX11_feed_14

def f_X11_gap (h : xH) (l0 : Nat) : Option (Int32 × xH) := (gR h l0 11 4).bind fun v1 => (gO h v1 3).bind fun q2 => (f_X3_allRooms h v1).bind fun r3 => (gO h l0 11).bind fun q4 => (f_X11_fewestOf h l0 r3).bind fun r5 => (if r5.1 = (-1 : Int32) then (some (((-1 : Int32), r5.2))) else ((gR r5.2 l0 11 12).bind fun v7 => (gR r5.2 l0 11 4).bind fun v8 => (gI r5.2 v8 3 1).bind fun v9 => (gR r5.2 l0 11 4).bind fun v10 => (gR r5.2 v10 3 13).bind fun v11 => (gO r5.2 v7 2).bind fun q12 => (f_X2_lone r5.2 v7 v9 v11).bind fun r13 => (f_J6_bitCount_0f7a4 r13.2 (r5.1)).bind fun r14 => (f_J6_bitCount_0f7a4 r13.2 (r13.1)).bind fun r15 => some (((r14 - r15), r13.2))))
set_option maxRecDepth 20000 in
theorem w_X11_gap (h : xH) (l0 : Nat) (r : Int32 × xH) (hf : f_X11_gap h l0 = some r) : Ev 48 yX11_gap cX11_gap 3 (some .int) [] [.ref l0] h (oIh r) := by
  refine Ev.of (by decide +kernel) (Nat.le_of_ble_eq_true rfl) ?_
  unfold f_X11_gap at hf
  refine V.aload_n dX11_gap_0 rfl 0 rfl ?_
  refine V.aload_n dX11_gap_1 rfl 0 rfl ?_
  obtain ⟨v1, e1, hf⟩ := bS hf
  refine V.xgR dX11_gap_2 fl_RX11_26 e1 ?_
  obtain ⟨q2, e2, hf⟩ := bS hf
  obtain ⟨r3, e3, hf⟩ := bS hf
  refine V.callV (As := []) (st := [.ref l0]) dX11_gap_5 cl_RX11_216 sw_yX3_allRooms (by decide) rfl (Nat.le_of_ble_eq_true rfl) rfl (gO_some e2) rfl (w_X3_allRooms _ _ _ e3) ?_
  obtain ⟨q4, e4, hf⟩ := bS hf
  obtain ⟨r5, e5, hf⟩ := bS hf
  refine V.callV (As := [.int r3]) (st := []) dX11_gap_8 cl_RX11_237 sw_yX11_fewestOf (by decide) rfl (Nat.le_of_ble_eq_true rfl) rfl (gO_some e4) rfl (w_X11_fewestOf _ _ _ _ e5) ?_
  refine V.istore_n (lv' := [(1, .int r5.1), (0, .ref l0)]) dX11_gap_11 rfl (by decide) rfl ?_
  refine V.iload_n dX11_gap_12 rfl 0 rfl ?_
  refine V.iconst (v := (-1 : Int32)) dX11_gap_13 (by decide) ?_
  refine V.icmp_ne (tgt := 19) dX11_gap_14 (by decide) (fun c6 => ?_) (fun c6 => ?_)
  · rw [if_neg c6] at hf
    refine V.aload_n dX11_gap_19 rfl 1 rfl ?_
    obtain ⟨v7, e6, hf⟩ := bS hf
    refine V.xgR dX11_gap_20 fl_RX11_66 e6 ?_
    refine V.aload_n dX11_gap_23 rfl 1 rfl ?_
    obtain ⟨v8, e7, hf⟩ := bS hf
    refine V.xgR dX11_gap_24 fl_RX11_26 e7 ?_
    obtain ⟨v9, e8, hf⟩ := bS hf
    refine V.xgI dX11_gap_27 fl_RX11_162 e8 ?_
    refine V.aload_n dX11_gap_30 rfl 1 rfl ?_
    obtain ⟨v10, e9, hf⟩ := bS hf
    refine V.xgR dX11_gap_31 fl_RX11_26 e9 ?_
    obtain ⟨v11, e10, hf⟩ := bS hf
    refine V.rgR dX11_gap_34 fl_RX11_156 e10 ?_
    obtain ⟨q12, e11, hf⟩ := bS hf
    obtain ⟨r13, e12, hf⟩ := bS hf
    refine V.callV (As := [.int v9, .ref v11]) (st := []) dX11_gap_37 cl_RX11_220 sw_yX2_lone (by decide) rfl (Nat.le_of_ble_eq_true rfl) rfl (gO_some e11) rfl (w_X2_lone _ _ _ _ _ e12) ?_
    refine V.istore_n (lv' := [(2, .int r13.1), (1, .int r5.1), (0, .ref l0)]) dX11_gap_40 rfl (by decide) rfl ?_
    refine V.iload_n dX11_gap_41 rfl 1 rfl ?_
    obtain ⟨r14, e13, hf⟩ := bS hf
    refine V.callS (As := [.int (r5.1)]) (st := []) dX11_gap_42 cl_RX11_205 sw_yJ6_bitCount_0f7a4 (by decide) rfl (Nat.le_of_ble_eq_true rfl) rfl (w_J6_bitCount_0f7a4 _ _ _ e13) ?_
    refine V.iload_n dX11_gap_45 rfl 0 rfl ?_
    obtain ⟨r15, e14, hf⟩ := bS hf
    refine V.callS (As := [.int (r13.1)]) (st := [.int r14]) dX11_gap_46 cl_RX11_205 sw_yJ6_bitCount_0f7a4 (by decide) rfl (Nat.le_of_ble_eq_true rfl) rfl (w_J6_bitCount_0f7a4 _ _ _ e14) ?_
    refine V.isub dX11_gap_49 ?_
    obtain rfl := Option.some.inj hf
    exact V.iret dX11_gap_50
  · rw [if_pos c6] at hf
    refine V.iconst (v := (-1 : Int32)) dX11_gap_17 (by decide) ?_
    obtain rfl := Option.some.inj hf
    exact V.iret dX11_gap_18

def f_X11_grid_30 (h : xH) : Option ((String × xH) ⊕ (Int32 × xH)) := some (.inl ("java/lang/IllegalArgumentException", thr h))
def f_X11_grid_137 (k49 : xH → Nat → Int32 → Int32 → Nat → Int32 → Option ((String × xH) ⊕ (Int32 × xH))) (h : xH) (l0 : Nat) (l1 : Int32) (l2 : Int32) (l3 : Nat) (l4 : Int32) (s0 : Int32) (s1 : Int32) (s2 : Int32) (s3 : Nat) : Option ((String × xH) ⊕ (Int32 × xH)) := (stI h .int s3 s2 (s1 ||| s0)).bind fun h1 => k49 h1 l0 l1 l2 l3 (l4 + 1)
def f_X11_grid_116 (k49 : xH → Nat → Int32 → Int32 → Nat → Int32 → Option ((String × xH) ⊕ (Int32 × xH))) (h : xH) (l0 : Nat) (l1 : Int32) (l2 : Int32) (l3 : Nat) (l4 : Int32) (s0 : Int32) (s1 : Int32) (s2 : Int32) (s3 : Nat) : Option ((String × xH) ⊕ (Int32 × xH)) := (if (l1 * l2) ≤ (l4 + l1) then (f_X11_grid_137 k49 h l0 l1 l2 l3 l4 (0 : Int32) (s1 ||| s0) s2 s3) else (f_X11_grid_137 k49 h l0 l1 l2 l3 l4 ((1 : Int32) <<< ((l4 + l1) &&& 31)) (s1 ||| s0) s2 s3))
def f_X11_grid_99 (k49 : xH → Nat → Int32 → Int32 → Nat → Int32 → Option ((String × xH) ⊕ (Int32 × xH))) (h : xH) (l0 : Nat) (l1 : Int32) (l2 : Int32) (l3 : Nat) (l4 : Int32) (s0 : Int32) (s1 : Int32) (s2 : Int32) (s3 : Nat) : Option ((String × xH) ⊕ (Int32 × xH)) := (if l4 < l1 then (f_X11_grid_116 k49 h l0 l1 l2 l3 l4 (0 : Int32) (s1 ||| s0) s2 s3) else (f_X11_grid_116 k49 h l0 l1 l2 l3 l4 ((1 : Int32) <<< ((l4 - l1) &&& 31)) (s1 ||| s0) s2 s3))
def f_X11_grid_81 (k49 : xH → Nat → Int32 → Int32 → Nat → Int32 → Option ((String × xH) ⊕ (Int32 × xH))) (h : xH) (l0 : Nat) (l1 : Int32) (l2 : Int32) (l3 : Nat) (l4 : Int32) (l5 : Int32) (s0 : Int32) (s1 : Int32) (s2 : Nat) : Option ((String × xH) ⊕ (Int32 × xH)) := (if (l1 - (1 : Int32)) ≤ l5 then (f_X11_grid_99 k49 h l0 l1 l2 l3 l4 (0 : Int32) s0 s1 s2) else (f_X11_grid_99 k49 h l0 l1 l2 l3 l4 ((1 : Int32) <<< ((l4 + (1 : Int32)) &&& 31)) s0 s1 s2))
def f_X11_grid_49 : Nat → xH → Nat → Int32 → Int32 → Nat → Int32 → Option ((String × xH) ⊕ (Int32 × xH))
  | 0, _, _, _, _, _, _ => none
  | n + 1, h, l0, l1, l2, l3, l4 => (if (l1 * l2) ≤ l4 then ((gR h l0 11 12).bind fun v2 => (gO h v2 2).bind fun q3 => (f_X2_lay h v2 (l1 * l2) l3 (((1 : Int32) <<< ((l1 * l2) &&& 31)) - (1 : Int32))).bind fun r4 => (gR r4 l0 11 12).bind fun v5 => (gO r4 v5 2).bind fun q6 => (f_X2_fewest r4 v5 (((1 : Int32) <<< ((l1 * l2) &&& 31)) - (1 : Int32)) (0 : Int32)).bind fun r7 => some (.inr (r7, r4))) else ((rmI l4 l1).bind fun v8 => (if v8 ≤ 0 then (f_X11_grid_81 (f_X11_grid_49 n) h l0 l1 l2 l3 l4 v8 (0 : Int32) l4 l3) else (f_X11_grid_81 (f_X11_grid_49 n) h l0 l1 l2 l3 l4 v8 ((1 : Int32) <<< ((l4 - (1 : Int32)) &&& 31)) l4 l3))))
def f_X11_grid (h : xH) (l0 : Nat) (l1 : Int32) (l2 : Int32) : Option ((String × xH) ⊕ (Int32 × xH)) := (if l1 < (1 : Int32) then (f_X11_grid_30 h) else ((if l2 < (1 : Int32) then (f_X11_grid_30 h) else ((if (16 : Int32) < l1 then (f_X11_grid_30 h) else ((if (16 : Int32) < l2 then (f_X11_grid_30 h) else ((if (l1 * l2) ≤ (16 : Int32) then ((mkI h .int (16 : Int32)).bind fun h6 => f_X11_grid_49 xFU h6 l0 l1 l2 (h.1.length) (0 : Int32)) else (f_X11_grid_30 h))))))))))
set_option maxRecDepth 20000 in
theorem w_X11_grid_30 (h : xH) (r : (String × xH) ⊕ (Int32 × xH)) (hf : f_X11_grid_30 h = some r) : V 47 yX11_grid cX11_grid 6 (some .int) [] none 30 [] [] h (oTIh r) := by
  unfold f_X11_grid_30 at hf
  obtain rfl := Option.some.inj hf
  exact V.throwSW (i := 27) th_110 (by decide) dX11_grid_30 dX11_grid_33 dX11_grid_34 dX11_grid_37 dX11_grid_40 (by decide) (Nat.le_of_ble_eq_true rfl)

set_option maxRecDepth 20000 in
theorem w_X11_grid_137 (h : xH) {k49 : xH → Nat → Int32 → Int32 → Nat → Int32 → Option ((String × xH) ⊕ (Int32 × xH))} (hk49 : ∀ (h : xH) (l0 : Nat) (l1 : Int32) (l2 : Int32) (l3 : Nat) (l4 : Int32) (r : (String × xH) ⊕ (Int32 × xH)), k49 h l0 l1 l2 l3 l4 = some r → V 47 yX11_grid cX11_grid 6 (some .int) [] none 49 [(0, .ref l0), (1, .int l1), (2, .int l2), (3, .ref l3), (4, .int l4)] [] h (oTIh r)) (l0 : Nat) (l1 : Int32) (l2 : Int32) (l3 : Nat) (l4 : Int32) (s0 : Int32) (s1 : Int32) (s2 : Int32) (s3 : Nat) (r : (String × xH) ⊕ (Int32 × xH)) (hf : f_X11_grid_137 k49 h l0 l1 l2 l3 l4 s0 s1 s2 s3 = some r) : V 47 yX11_grid cX11_grid 6 (some .int) [] none 137 [(0, .ref l0), (1, .int l1), (2, .int l2), (3, .ref l3), (4, .int l4)] [.int s0, .int s1, .int s2, .ref s3] h (oTIh r) := by
  unfold f_X11_grid_137 at hf
  refine V.ior dX11_grid_137 ?_
  obtain ⟨h1, e1, hf⟩ := bS hf
  refine V.xstI dX11_grid_138 e1 ?_
  refine V.iinc (v := (l4 + 1)) (lv' := [(4, .int (l4 + 1)), (0, .ref l0), (1, .int l1), (2, .int l2), (3, .ref l3)]) dX11_grid_139 4 rfl rfl (Nat.le_of_ble_eq_true rfl) rfl ?_
  refine V.goto (tgt := 49) dX11_grid_142 (by decide) ?_
  refine V.sub [1, 2, 3, 4, 0] rfl ?_
  exact hk49 _ _ _ _ _ _ _ hf

set_option maxRecDepth 20000 in
theorem w_X11_grid_116 (h : xH) {k49 : xH → Nat → Int32 → Int32 → Nat → Int32 → Option ((String × xH) ⊕ (Int32 × xH))} (hk49 : ∀ (h : xH) (l0 : Nat) (l1 : Int32) (l2 : Int32) (l3 : Nat) (l4 : Int32) (r : (String × xH) ⊕ (Int32 × xH)), k49 h l0 l1 l2 l3 l4 = some r → V 47 yX11_grid cX11_grid 6 (some .int) [] none 49 [(0, .ref l0), (1, .int l1), (2, .int l2), (3, .ref l3), (4, .int l4)] [] h (oTIh r)) (l0 : Nat) (l1 : Int32) (l2 : Int32) (l3 : Nat) (l4 : Int32) (s0 : Int32) (s1 : Int32) (s2 : Int32) (s3 : Nat) (r : (String × xH) ⊕ (Int32 × xH)) (hf : f_X11_grid_116 k49 h l0 l1 l2 l3 l4 s0 s1 s2 s3 = some r) : V 47 yX11_grid cX11_grid 6 (some .int) [] none 116 [(0, .ref l0), (1, .int l1), (2, .int l2), (3, .ref l3), (4, .int l4)] [.int s0, .int s1, .int s2, .ref s3] h (oTIh r) := by
  unfold f_X11_grid_116 at hf
  refine V.ior dX11_grid_116 ?_
  refine V.iload dX11_grid_117 4 rfl ?_
  refine V.iload_n dX11_grid_119 rfl 1 rfl ?_
  refine V.iadd dX11_grid_120 ?_
  refine V.iload_n dX11_grid_121 rfl 1 rfl ?_
  refine V.iload_n dX11_grid_122 rfl 2 rfl ?_
  refine V.imul dX11_grid_123 ?_
  refine V.icmp_ge (tgt := 136) dX11_grid_124 (by decide) (fun c1 => ?_) (fun c1 => ?_)
  · rw [if_pos c1] at hf
    refine V.iconst (v := (0 : Int32)) dX11_grid_136 (by decide) ?_
    exact w_X11_grid_137 _ hk49 _ _ _ _ _ _ _ _ _ _ hf
  · rw [if_neg c1] at hf
    refine V.iconst (v := (1 : Int32)) dX11_grid_127 (by decide) ?_
    refine V.iload dX11_grid_128 4 rfl ?_
    refine V.iload_n dX11_grid_130 rfl 1 rfl ?_
    refine V.iadd dX11_grid_131 ?_
    refine V.ishl dX11_grid_132 ?_
    refine V.goto (tgt := 137) dX11_grid_133 (by decide) ?_
    exact w_X11_grid_137 _ hk49 _ _ _ _ _ _ _ _ _ _ hf

set_option maxRecDepth 20000 in
theorem w_X11_grid_99 (h : xH) {k49 : xH → Nat → Int32 → Int32 → Nat → Int32 → Option ((String × xH) ⊕ (Int32 × xH))} (hk49 : ∀ (h : xH) (l0 : Nat) (l1 : Int32) (l2 : Int32) (l3 : Nat) (l4 : Int32) (r : (String × xH) ⊕ (Int32 × xH)), k49 h l0 l1 l2 l3 l4 = some r → V 47 yX11_grid cX11_grid 6 (some .int) [] none 49 [(0, .ref l0), (1, .int l1), (2, .int l2), (3, .ref l3), (4, .int l4)] [] h (oTIh r)) (l0 : Nat) (l1 : Int32) (l2 : Int32) (l3 : Nat) (l4 : Int32) (s0 : Int32) (s1 : Int32) (s2 : Int32) (s3 : Nat) (r : (String × xH) ⊕ (Int32 × xH)) (hf : f_X11_grid_99 k49 h l0 l1 l2 l3 l4 s0 s1 s2 s3 = some r) : V 47 yX11_grid cX11_grid 6 (some .int) [] none 99 [(0, .ref l0), (1, .int l1), (2, .int l2), (3, .ref l3), (4, .int l4)] [.int s0, .int s1, .int s2, .ref s3] h (oTIh r) := by
  unfold f_X11_grid_99 at hf
  refine V.ior dX11_grid_99 ?_
  refine V.iload dX11_grid_100 4 rfl ?_
  refine V.iload_n dX11_grid_102 rfl 1 rfl ?_
  refine V.icmp_lt (tgt := 115) dX11_grid_103 (by decide) (fun c1 => ?_) (fun c1 => ?_)
  · rw [if_pos c1] at hf
    refine V.iconst (v := (0 : Int32)) dX11_grid_115 (by decide) ?_
    exact w_X11_grid_116 _ hk49 _ _ _ _ _ _ _ _ _ _ hf
  · rw [if_neg c1] at hf
    refine V.iconst (v := (1 : Int32)) dX11_grid_106 (by decide) ?_
    refine V.iload dX11_grid_107 4 rfl ?_
    refine V.iload_n dX11_grid_109 rfl 1 rfl ?_
    refine V.isub dX11_grid_110 ?_
    refine V.ishl dX11_grid_111 ?_
    refine V.goto (tgt := 116) dX11_grid_112 (by decide) ?_
    exact w_X11_grid_116 _ hk49 _ _ _ _ _ _ _ _ _ _ hf

set_option maxRecDepth 20000 in
theorem w_X11_grid_81 (h : xH) {k49 : xH → Nat → Int32 → Int32 → Nat → Int32 → Option ((String × xH) ⊕ (Int32 × xH))} (hk49 : ∀ (h : xH) (l0 : Nat) (l1 : Int32) (l2 : Int32) (l3 : Nat) (l4 : Int32) (r : (String × xH) ⊕ (Int32 × xH)), k49 h l0 l1 l2 l3 l4 = some r → V 47 yX11_grid cX11_grid 6 (some .int) [] none 49 [(0, .ref l0), (1, .int l1), (2, .int l2), (3, .ref l3), (4, .int l4)] [] h (oTIh r)) (l0 : Nat) (l1 : Int32) (l2 : Int32) (l3 : Nat) (l4 : Int32) (l5 : Int32) (s0 : Int32) (s1 : Int32) (s2 : Nat) (r : (String × xH) ⊕ (Int32 × xH)) (hf : f_X11_grid_81 k49 h l0 l1 l2 l3 l4 l5 s0 s1 s2 = some r) : V 47 yX11_grid cX11_grid 6 (some .int) [] none 81 [(0, .ref l0), (1, .int l1), (2, .int l2), (3, .ref l3), (4, .int l4), (5, .int l5)] [.int s0, .int s1, .ref s2] h (oTIh r) := by
  unfold f_X11_grid_81 at hf
  refine V.iload dX11_grid_81 5 rfl ?_
  refine V.iload_n dX11_grid_83 rfl 1 rfl ?_
  refine V.iconst (v := (1 : Int32)) dX11_grid_84 (by decide) ?_
  refine V.isub dX11_grid_85 ?_
  refine V.icmp_ge (tgt := 98) dX11_grid_86 (by decide) (fun c1 => ?_) (fun c1 => ?_)
  · rw [if_pos c1] at hf
    refine V.iconst (v := (0 : Int32)) dX11_grid_98 (by decide) ?_
    refine V.sub [0, 1, 2, 3, 4] rfl ?_
    exact w_X11_grid_99 _ hk49 _ _ _ _ _ _ _ _ _ _ hf
  · rw [if_neg c1] at hf
    refine V.iconst (v := (1 : Int32)) dX11_grid_89 (by decide) ?_
    refine V.iload dX11_grid_90 4 rfl ?_
    refine V.iconst (v := (1 : Int32)) dX11_grid_92 (by decide) ?_
    refine V.iadd dX11_grid_93 ?_
    refine V.ishl dX11_grid_94 ?_
    refine V.goto (tgt := 99) dX11_grid_95 (by decide) ?_
    refine V.sub [0, 1, 2, 3, 4] rfl ?_
    exact w_X11_grid_99 _ hk49 _ _ _ _ _ _ _ _ _ _ hf

set_option maxRecDepth 20000 in
theorem w_X11_grid_49 : ∀ (n : Nat) (h : xH) (l0 : Nat) (l1 : Int32) (l2 : Int32) (l3 : Nat) (l4 : Int32) (r : (String × xH) ⊕ (Int32 × xH)), f_X11_grid_49 n h l0 l1 l2 l3 l4 = some r → V 47 yX11_grid cX11_grid 6 (some .int) [] none 49 [(0, .ref l0), (1, .int l1), (2, .int l2), (3, .ref l3), (4, .int l4)] [] h (oTIh r) := by
  intro n
  induction n with
  | zero => intro h l0 l1 l2 l3 l4 r hf; cases hf
  | succ n ih =>
    intro h l0 l1 l2 l3 l4 r hf
    rw [f_X11_grid_49] at hf
    refine V.iload dX11_grid_49 4 rfl ?_
    refine V.iload_n dX11_grid_51 rfl 1 rfl ?_
    refine V.iload_n dX11_grid_52 rfl 2 rfl ?_
    refine V.imul dX11_grid_53 ?_
    refine V.icmp_ge (tgt := 145) dX11_grid_54 (by decide) (fun c1 => ?_) (fun c1 => ?_)
    · rw [if_pos c1] at hf
      refine V.iconst (v := (1 : Int32)) dX11_grid_145 (by decide) ?_
      refine V.iload_n dX11_grid_146 rfl 1 rfl ?_
      refine V.iload_n dX11_grid_147 rfl 2 rfl ?_
      refine V.imul dX11_grid_148 ?_
      refine V.ishl dX11_grid_149 ?_
      refine V.iconst (v := (1 : Int32)) dX11_grid_150 (by decide) ?_
      refine V.isub dX11_grid_151 ?_
      refine V.istore (lv' := [(4, .int (((1 : Int32) <<< ((l1 * l2) &&& 31)) - (1 : Int32))), (0, .ref l0), (1, .int l1), (2, .int l2), (3, .ref l3)]) dX11_grid_152 (by decide) rfl ?_
      refine V.aload_n dX11_grid_154 rfl 1 rfl ?_
      obtain ⟨v2, e2, hf⟩ := bS hf
      refine V.xgR dX11_grid_155 fl_RX11_66 e2 ?_
      refine V.iload_n dX11_grid_158 rfl 2 rfl ?_
      refine V.iload_n dX11_grid_159 rfl 3 rfl ?_
      refine V.imul dX11_grid_160 ?_
      refine V.aload_n dX11_grid_161 rfl 4 rfl ?_
      refine V.iload dX11_grid_162 0 rfl ?_
      obtain ⟨q3, e3, hf⟩ := bS hf
      obtain ⟨r4, e4, hf⟩ := bS hf
      refine V.callV (As := [.int (l1 * l2), .ref l3, .int (((1 : Int32) <<< ((l1 * l2) &&& 31)) - (1 : Int32))]) (st := []) dX11_grid_164 cl_RX11_230 sw_yX2_lay (by decide) rfl (Nat.le_of_ble_eq_true rfl) rfl (gO_some e3) rfl (w_X2_lay _ _ _ _ _ _ e4) ?_
      refine V.aload_n dX11_grid_167 rfl 1 rfl ?_
      obtain ⟨v5, e5, hf⟩ := bS hf
      refine V.xgR dX11_grid_168 fl_RX11_66 e5 ?_
      refine V.iload dX11_grid_171 0 rfl ?_
      refine V.iconst (v := (0 : Int32)) dX11_grid_173 (by decide) ?_
      obtain ⟨q6, e6, hf⟩ := bS hf
      obtain ⟨r7, e7, hf⟩ := bS hf
      refine V.callV (As := [.int (((1 : Int32) <<< ((l1 * l2) &&& 31)) - (1 : Int32)), .int (0 : Int32)]) (st := []) dX11_grid_174 cl_RX11_234 sw_yX2_fewest (by decide) rfl (Nat.le_of_ble_eq_true rfl) rfl (gO_some e6) rfl (w_X2_fewest _ _ _ _ _ e7) ?_
      obtain rfl := Option.some.inj hf
      exact V.iret dX11_grid_177
    · rw [if_neg c1] at hf
      refine V.iload dX11_grid_57 4 rfl ?_
      refine V.iload_n dX11_grid_59 rfl 1 rfl ?_
      obtain ⟨v8, e8, hf⟩ := bS hf
      refine V.xrmI dX11_grid_60 e8 ?_
      refine V.istore (lv' := [(5, .int v8), (0, .ref l0), (1, .int l1), (2, .int l2), (3, .ref l3), (4, .int l4)]) dX11_grid_61 (by decide) rfl ?_
      refine V.aload_n dX11_grid_63 rfl 4 rfl ?_
      refine V.iload dX11_grid_64 5 rfl ?_
      refine V.iload dX11_grid_66 0 rfl ?_
      refine V.if_le (tgt := 80) dX11_grid_68 (by decide) (fun c9 => ?_) (fun c9 => ?_)
      · rw [if_pos c9] at hf
        refine V.iconst (v := (0 : Int32)) dX11_grid_80 (by decide) ?_
        refine V.sub [1, 2, 3, 4, 5, 0] rfl ?_
        exact w_X11_grid_81 _ ih _ _ _ _ _ _ _ _ _ _ hf
      · rw [if_neg c9] at hf
        refine V.iconst (v := (1 : Int32)) dX11_grid_71 (by decide) ?_
        refine V.iload dX11_grid_72 5 rfl ?_
        refine V.iconst (v := (1 : Int32)) dX11_grid_74 (by decide) ?_
        refine V.isub dX11_grid_75 ?_
        refine V.ishl dX11_grid_76 ?_
        refine V.goto (tgt := 81) dX11_grid_77 (by decide) ?_
        refine V.sub [1, 2, 3, 4, 5, 0] rfl ?_
        exact w_X11_grid_81 _ ih _ _ _ _ _ _ _ _ _ _ hf

set_option maxRecDepth 20000 in
theorem w_X11_grid (h : xH) (l0 : Nat) (l1 : Int32) (l2 : Int32) (r : (String × xH) ⊕ (Int32 × xH)) (hf : f_X11_grid h l0 l1 l2 = some r) : Ev 47 yX11_grid cX11_grid 6 (some .int) [] [.ref l0, .int l1, .int l2] h (oTIh r) := by
  refine Ev.of (by decide +kernel) (Nat.le_of_ble_eq_true rfl) ?_
  unfold f_X11_grid at hf
  refine V.iload_n dX11_grid_0 rfl 1 rfl ?_
  refine V.iconst (v := (1 : Int32)) dX11_grid_1 (by decide) ?_
  refine V.icmp_lt (tgt := 30) dX11_grid_2 (by decide) (fun c1 => ?_) (fun c1 => ?_)
  · rw [if_pos c1] at hf
    refine V.sub [] rfl ?_
    exact w_X11_grid_30 _ _ hf
  · rw [if_neg c1] at hf
    refine V.iload_n dX11_grid_5 rfl 2 rfl ?_
    refine V.iconst (v := (1 : Int32)) dX11_grid_6 (by decide) ?_
    refine V.icmp_lt (tgt := 30) dX11_grid_7 (by decide) (fun c2 => ?_) (fun c2 => ?_)
    · rw [if_pos c2] at hf
      refine V.sub [] rfl ?_
      exact w_X11_grid_30 _ _ hf
    · rw [if_neg c2] at hf
      refine V.iload_n dX11_grid_10 rfl 1 rfl ?_
      refine V.bipush (v := (16 : Int32)) dX11_grid_11 (by decide) ?_
      refine V.icmp_gt (tgt := 30) dX11_grid_13 (by decide) (fun c3 => ?_) (fun c3 => ?_)
      · rw [if_pos c3] at hf
        refine V.sub [] rfl ?_
        exact w_X11_grid_30 _ _ hf
      · rw [if_neg c3] at hf
        refine V.iload_n dX11_grid_16 rfl 2 rfl ?_
        refine V.bipush (v := (16 : Int32)) dX11_grid_17 (by decide) ?_
        refine V.icmp_gt (tgt := 30) dX11_grid_19 (by decide) (fun c4 => ?_) (fun c4 => ?_)
        · rw [if_pos c4] at hf
          refine V.sub [] rfl ?_
          exact w_X11_grid_30 _ _ hf
        · rw [if_neg c4] at hf
          refine V.iload_n dX11_grid_22 rfl 1 rfl ?_
          refine V.iload_n dX11_grid_23 rfl 2 rfl ?_
          refine V.imul dX11_grid_24 ?_
          refine V.bipush (v := (16 : Int32)) dX11_grid_25 (by decide) ?_
          refine V.icmp_le (tgt := 41) dX11_grid_27 (by decide) (fun c5 => ?_) (fun c5 => ?_)
          · rw [if_pos c5] at hf
            refine V.bipush (v := (16 : Int32)) dX11_grid_41 (by decide) ?_
            obtain ⟨h6, e9, hf⟩ := bS hf
            refine V.xmkI dX11_grid_43 rfl rfl aw_int (by decide) e9 ?_
            refine V.astore_n (lv' := [(3, .ref h.1.length), (0, .ref l0), (1, .int l1), (2, .int l2)]) dX11_grid_45 rfl (by decide) rfl ?_
            refine V.iconst (v := (0 : Int32)) dX11_grid_46 (by decide) ?_
            refine V.istore (lv' := [(4, .int (0 : Int32)), (3, .ref h.1.length), (0, .ref l0), (1, .int l1), (2, .int l2)]) dX11_grid_47 (by decide) rfl ?_
            refine V.sub [2, 3, 4, 1, 0] rfl ?_
            exact w_X11_grid_49 _ _ _ _ _ _ _ _ hf
          · rw [if_neg c5] at hf
            refine V.sub [] rfl ?_
            exact w_X11_grid_30 _ _ hf

def f_X11_hang_15 (h : xH) (l0 : Nat) (l1 : Int32) (l2 : Int32) (l3 : Int32) : Option ((String × xH) ⊕ (Int32 × xH)) := (f_X11_areHours h (Int32.toInt64 l3)).bind fun r1 => (if r1 = 0 then (some (.inl ("java/lang/IllegalArgumentException", thr h))) else ((gR h l0 11 5).bind fun v3 => (gR h v3 5 0).bind fun v4 => (ldI h .int v4 l1).bind fun v5 => (gR h l0 11 5).bind fun v6 => (gO h v6 5).bind fun q7 => (f_X5_put h v6 l1 l2 l3).bind fun r8 => some (.inr (v5, r8))))
def f_X11_hang (h : xH) (l0 : Nat) (l1 : Int32) (l2 : Int32) (l3 : Int32) : Option ((String × xH) ⊕ (Int32 × xH)) := (gO h l0 11).bind fun q1 => (f_X11_checkRoom h l0 l1).bind fun r2 => (match r2 with | .inl E3 => (some (.inl E3)) | .inr v4 => ((if l2 = (-1 : Int32) then (f_X11_hang_15 h l0 l1 l2 l3) else ((gO h l0 11).bind fun q6 => (f_X11_checkKind h l0 l2).bind fun r7 => (match r7 with | .inl E8 => (some (.inl E8)) | .inr v9 => (f_X11_hang_15 h l0 l1 l2 l3))))))
set_option maxRecDepth 20000 in
theorem w_X11_hang_15 (h : xH) (l0 : Nat) (l1 : Int32) (l2 : Int32) (l3 : Int32) (r : (String × xH) ⊕ (Int32 × xH)) (hf : f_X11_hang_15 h l0 l1 l2 l3 = some r) : V 5 yX11_hang cX11_hang 5 (some .int) [] none 15 [(0, .ref l0), (1, .int l1), (2, .int l2), (3, .int l3)] [] h (oTIh r) := by
  unfold f_X11_hang_15 at hf
  refine V.iload_n dX11_hang_15 rfl 3 rfl ?_
  refine V.i2l dX11_hang_16 ?_
  obtain ⟨r1, e1, hf⟩ := bS hf
  refine V.callS (As := [.long (Int32.toInt64 l3)]) (st := []) dX11_hang_17 cl_RX11_165 sw_yX11_areHours (by decide) rfl (Nat.le_of_ble_eq_true rfl) rfl (w_X11_areHours _ _ _ e1) ?_
  refine V.if_ne (tgt := 33) dX11_hang_20 (by decide) (fun c2 => ?_) (fun c2 => ?_)
  · rw [if_neg c2] at hf
    refine V.aload_n dX11_hang_33 rfl 0 rfl ?_
    obtain ⟨v3, e2, hf⟩ := bS hf
    refine V.xgR dX11_hang_34 fl_RX11_33 e2 ?_
    obtain ⟨v4, e3, hf⟩ := bS hf
    refine V.rgR dX11_hang_37 fl_RX11_171 e3 ?_
    refine V.iload_n dX11_hang_40 rfl 1 rfl ?_
    obtain ⟨v5, e4, hf⟩ := bS hf
    refine V.xldI dX11_hang_41 e4 ?_
    refine V.istore (lv' := [(4, .int v5), (0, .ref l0), (1, .int l1), (2, .int l2), (3, .int l3)]) dX11_hang_42 (by decide) rfl ?_
    refine V.aload_n dX11_hang_44 rfl 1 rfl ?_
    obtain ⟨v6, e5, hf⟩ := bS hf
    refine V.xgR dX11_hang_45 fl_RX11_33 e5 ?_
    refine V.iload_n dX11_hang_48 rfl 2 rfl ?_
    refine V.iload_n dX11_hang_49 rfl 3 rfl ?_
    refine V.iload_n dX11_hang_50 rfl 4 rfl ?_
    obtain ⟨q7, e6, hf⟩ := bS hf
    obtain ⟨r8, e7, hf⟩ := bS hf
    refine V.callV (As := [.int l1, .int l2, .int l3]) (st := []) dX11_hang_51 cl_RX11_172 sw_yX5_put (by decide) rfl (Nat.le_of_ble_eq_true rfl) rfl (gO_some e6) rfl (w_X5_put _ _ _ _ _ _ e7) ?_
    refine V.iload dX11_hang_54 0 rfl ?_
    obtain rfl := Option.some.inj hf
    exact V.iret dX11_hang_56
  · rw [if_pos c2] at hf
    obtain rfl := Option.some.inj hf
    exact V.throwS (i := 23) th_110 (by decide) dX11_hang_23 dX11_hang_26 dX11_hang_27 dX11_hang_29 dX11_hang_32 (by decide) (Nat.le_of_ble_eq_true rfl)

set_option maxRecDepth 20000 in
theorem w_X11_hang (h : xH) (l0 : Nat) (l1 : Int32) (l2 : Int32) (l3 : Int32) (r : (String × xH) ⊕ (Int32 × xH)) (hf : f_X11_hang h l0 l1 l2 l3 = some r) : Ev 5 yX11_hang cX11_hang 5 (some .int) [] [.ref l0, .int l1, .int l2, .int l3] h (oTIh r) := by
  refine Ev.of (by decide +kernel) (Nat.le_of_ble_eq_true rfl) ?_
  unfold f_X11_hang at hf
  refine V.aload_n dX11_hang_0 rfl 0 rfl ?_
  refine V.iload_n dX11_hang_1 rfl 1 rfl ?_
  obtain ⟨q1, e8, hf⟩ := bS hf
  obtain ⟨r2, e9, hf⟩ := bS hf
  rcases r2 with E3 | v4
  · obtain rfl := Option.some.inj hf
    exact V.callVT (As := [.int l1]) (st := []) dX11_hang_2 cl_RX11_153 sw_yX11_checkRoom (by decide) rfl (Nat.le_of_ble_eq_true rfl) rfl (gO_some e8) rfl (by decide) (w_X11_checkRoom _ _ _ _ e9)
  · refine V.callV (As := [.int l1]) (st := []) dX11_hang_2 cl_RX11_153 sw_yX11_checkRoom (by decide) rfl (Nat.le_of_ble_eq_true rfl) rfl (gO_some e8) rfl (w_X11_checkRoom _ _ _ _ e9) ?_
    refine V.iload_n dX11_hang_5 rfl 2 rfl ?_
    refine V.iconst (v := (-1 : Int32)) dX11_hang_6 (by decide) ?_
    refine V.icmp_eq (tgt := 15) dX11_hang_7 (by decide) (fun c5 => ?_) (fun c5 => ?_)
    · rw [if_pos c5] at hf
      exact w_X11_hang_15 _ _ _ _ _ _ hf
    · rw [if_neg c5] at hf
      refine V.aload_n dX11_hang_10 rfl 0 rfl ?_
      refine V.iload_n dX11_hang_11 rfl 2 rfl ?_
      obtain ⟨q6, e10, hf⟩ := bS hf
      obtain ⟨r7, e11, hf⟩ := bS hf
      rcases r7 with E8 | v9
      · obtain rfl := Option.some.inj hf
        exact V.callVT (As := [.int l2]) (st := []) dX11_hang_12 cl_RX11_147 sw_yX11_checkKind (by decide) rfl (Nat.le_of_ble_eq_true rfl) rfl (gO_some e10) rfl (by decide) (w_X11_checkKind _ _ _ _ e11)
      · refine V.callV (As := [.int l2]) (st := []) dX11_hang_12 cl_RX11_147 sw_yX11_checkKind (by decide) rfl (Nat.le_of_ble_eq_true rfl) rfl (gO_some e10) rfl (w_X11_checkKind _ _ _ _ e11) ?_
        exact w_X11_hang_15 _ _ _ _ _ _ hf

def f_X11_hated (h : xH) (l0 : Nat) (l1 : Int32) : Option ((String × xH) ⊕ (Int32)) := (gO h l0 11).bind fun q1 => (f_X11_checkRoom h l0 l1).bind fun r2 => (match r2 with | .inl E3 => (some (.inl E3)) | .inr v4 => ((gR h l0 11 4).bind fun v5 => (gR h v5 3 12).bind fun v6 => (ldI h .int v6 l1).bind fun v7 => some (.inr v7)))
set_option maxRecDepth 20000 in
theorem w_X11_hated (h : xH) (l0 : Nat) (l1 : Int32) (r : (String × xH) ⊕ (Int32)) (hf : f_X11_hated h l0 l1 = some r) : Ev 5 yX11_hated cX11_hated 2 (some .int) [] [.ref l0, .int l1] h (oTI h r) := by
  refine Ev.of (by decide +kernel) (Nat.le_of_ble_eq_true rfl) ?_
  unfold f_X11_hated at hf
  refine V.aload_n dX11_hated_0 rfl 0 rfl ?_
  refine V.iload_n dX11_hated_1 rfl 1 rfl ?_
  obtain ⟨q1, e1, hf⟩ := bS hf
  obtain ⟨r2, e2, hf⟩ := bS hf
  rcases r2 with E3 | v4
  · obtain rfl := Option.some.inj hf
    exact V.callVT (As := [.int l1]) (st := []) dX11_hated_2 cl_RX11_153 sw_yX11_checkRoom (by decide) rfl (Nat.le_of_ble_eq_true rfl) rfl (gO_some e1) rfl (by decide) (w_X11_checkRoom _ _ _ _ e2)
  · refine V.callV (As := [.int l1]) (st := []) dX11_hated_2 cl_RX11_153 sw_yX11_checkRoom (by decide) rfl (Nat.le_of_ble_eq_true rfl) rfl (gO_some e1) rfl (w_X11_checkRoom _ _ _ _ e2) ?_
    refine V.aload_n dX11_hated_5 rfl 0 rfl ?_
    obtain ⟨v5, e3, hf⟩ := bS hf
    refine V.xgR dX11_hated_6 fl_RX11_26 e3 ?_
    obtain ⟨v6, e4, hf⟩ := bS hf
    refine V.rgR dX11_hated_9 fl_RX11_159 e4 ?_
    refine V.iload_n dX11_hated_12 rfl 1 rfl ?_
    obtain ⟨v7, e5, hf⟩ := bS hf
    refine V.xldI dX11_hated_13 e5 ?_
    obtain rfl := Option.some.inj hf
    exact V.iret dX11_hated_14

def f_X11_savesByHole (h : xH) (l0 : Nat) (l1 : Int32) (l2 : Int32) : Option (Int32 × xH) := (gR h l0 11 12).bind fun v1 => (gR h l0 11 4).bind fun v2 => (gI h v2 3 1).bind fun v3 => (gR h l0 11 4).bind fun v4 => (gO h v4 3).bind fun q5 => (f_X3_litWithHole h v4 l1).bind fun r6 => (gR r6.2 l0 11 4).bind fun v7 => (gO r6.2 v7 3).bind fun q8 => (f_X3_allRooms r6.2 v7).bind fun r9 => (gO r6.2 v1 2).bind fun q10 => (f_X2_lay r6.2 v1 v3 (r6.1) r9).bind fun r11 => (gR r11 l0 11 12).bind fun v12 => (gR r11 l0 11 4).bind fun v13 => (gO r11 v13 3).bind fun q14 => (f_X3_allRooms r11 v13).bind fun r15 => (gO r11 v12 2).bind fun q16 => (f_X2_fewest r11 v12 r15 (0 : Int32)).bind fun r17 => (if r17 = (-1 : Int32) then (some (((0 : Int32), r11))) else ((if l2 = (-1 : Int32) then (some (((100 : Int32), r11))) else ((f_J6_bitCount_0f7a4 r11 l2).bind fun r20 => (f_J6_bitCount_0f7a4 r11 r17).bind fun r21 => some (((r20 - r21), r11))))))
set_option maxRecDepth 20000 in
theorem w_X11_savesByHole (h : xH) (l0 : Nat) (l1 : Int32) (l2 : Int32) (r : Int32 × xH) (hf : f_X11_savesByHole h l0 l1 l2 = some r) : Ev 47 yX11_savesByHole cX11_savesByHole 4 (some .int) [] [.ref l0, .int l1, .int l2] h (oIh r) := by
  refine Ev.of (by decide +kernel) (Nat.le_of_ble_eq_true rfl) ?_
  unfold f_X11_savesByHole at hf
  refine V.aload_n dX11_savesByHole_0 rfl 0 rfl ?_
  obtain ⟨v1, e1, hf⟩ := bS hf
  refine V.xgR dX11_savesByHole_1 fl_RX11_66 e1 ?_
  refine V.aload_n dX11_savesByHole_4 rfl 0 rfl ?_
  obtain ⟨v2, e2, hf⟩ := bS hf
  refine V.xgR dX11_savesByHole_5 fl_RX11_26 e2 ?_
  obtain ⟨v3, e3, hf⟩ := bS hf
  refine V.xgI dX11_savesByHole_8 fl_RX11_162 e3 ?_
  refine V.aload_n dX11_savesByHole_11 rfl 0 rfl ?_
  obtain ⟨v4, e4, hf⟩ := bS hf
  refine V.xgR dX11_savesByHole_12 fl_RX11_26 e4 ?_
  refine V.iload_n dX11_savesByHole_15 rfl 1 rfl ?_
  obtain ⟨q5, e5, hf⟩ := bS hf
  obtain ⟨r6, e6, hf⟩ := bS hf
  refine V.callV (As := [.int l1]) (st := [.int v3, .ref v1]) dX11_savesByHole_16 cl_RX11_440 sw_yX3_litWithHole (by decide) rfl (Nat.le_of_ble_eq_true rfl) rfl (gO_some e5) rfl (w_X3_litWithHole _ _ _ _ e6) ?_
  refine V.aload_n dX11_savesByHole_19 rfl 0 rfl ?_
  obtain ⟨v7, e7, hf⟩ := bS hf
  refine V.xgR dX11_savesByHole_20 fl_RX11_26 e7 ?_
  obtain ⟨q8, e8, hf⟩ := bS hf
  obtain ⟨r9, e9, hf⟩ := bS hf
  refine V.callV (As := []) (st := [.ref (r6.1), .int v3, .ref v1]) dX11_savesByHole_23 cl_RX11_216 sw_yX3_allRooms (by decide) rfl (Nat.le_of_ble_eq_true rfl) rfl (gO_some e8) rfl (w_X3_allRooms _ _ _ e9) ?_
  obtain ⟨q10, e10, hf⟩ := bS hf
  obtain ⟨r11, e11, hf⟩ := bS hf
  refine V.callV (As := [.int v3, .ref (r6.1), .int r9]) (st := []) dX11_savesByHole_26 cl_RX11_230 sw_yX2_lay (by decide) rfl (Nat.le_of_ble_eq_true rfl) rfl (gO_some e10) rfl (w_X2_lay _ _ _ _ _ _ e11) ?_
  refine V.aload_n dX11_savesByHole_29 rfl 0 rfl ?_
  obtain ⟨v12, e12, hf⟩ := bS hf
  refine V.xgR dX11_savesByHole_30 fl_RX11_66 e12 ?_
  refine V.aload_n dX11_savesByHole_33 rfl 0 rfl ?_
  obtain ⟨v13, e13, hf⟩ := bS hf
  refine V.xgR dX11_savesByHole_34 fl_RX11_26 e13 ?_
  obtain ⟨q14, e14, hf⟩ := bS hf
  obtain ⟨r15, e15, hf⟩ := bS hf
  refine V.callV (As := []) (st := [.ref v12]) dX11_savesByHole_37 cl_RX11_216 sw_yX3_allRooms (by decide) rfl (Nat.le_of_ble_eq_true rfl) rfl (gO_some e14) rfl (w_X3_allRooms _ _ _ e15) ?_
  refine V.iconst (v := (0 : Int32)) dX11_savesByHole_40 (by decide) ?_
  obtain ⟨q16, e16, hf⟩ := bS hf
  obtain ⟨r17, e17, hf⟩ := bS hf
  refine V.callV (As := [.int r15, .int (0 : Int32)]) (st := []) dX11_savesByHole_41 cl_RX11_234 sw_yX2_fewest (by decide) rfl (Nat.le_of_ble_eq_true rfl) rfl (gO_some e16) rfl (w_X2_fewest _ _ _ _ _ e17) ?_
  refine V.istore_n (lv' := [(3, .int r17), (0, .ref l0), (1, .int l1), (2, .int l2)]) dX11_savesByHole_44 rfl (by decide) rfl ?_
  refine V.iload_n dX11_savesByHole_45 rfl 0 rfl ?_
  refine V.iconst (v := (-1 : Int32)) dX11_savesByHole_46 (by decide) ?_
  refine V.icmp_ne (tgt := 52) dX11_savesByHole_47 (by decide) (fun c18 => ?_) (fun c18 => ?_)
  · rw [if_neg c18] at hf
    refine V.iload_n dX11_savesByHole_52 rfl 3 rfl ?_
    refine V.iconst (v := (-1 : Int32)) dX11_savesByHole_53 (by decide) ?_
    refine V.icmp_ne (tgt := 60) dX11_savesByHole_54 (by decide) (fun c19 => ?_) (fun c19 => ?_)
    · rw [if_neg c19] at hf
      refine V.iload_n dX11_savesByHole_60 rfl 3 rfl ?_
      obtain ⟨r20, e18, hf⟩ := bS hf
      refine V.callS (As := [.int l2]) (st := []) dX11_savesByHole_61 cl_RX11_205 sw_yJ6_bitCount_0f7a4 (by decide) rfl (Nat.le_of_ble_eq_true rfl) rfl (w_J6_bitCount_0f7a4 _ _ _ e18) ?_
      refine V.iload_n dX11_savesByHole_64 rfl 0 rfl ?_
      obtain ⟨r21, e19, hf⟩ := bS hf
      refine V.callS (As := [.int r17]) (st := [.int r20]) dX11_savesByHole_65 cl_RX11_205 sw_yJ6_bitCount_0f7a4 (by decide) rfl (Nat.le_of_ble_eq_true rfl) rfl (w_J6_bitCount_0f7a4 _ _ _ e19) ?_
      refine V.isub dX11_savesByHole_68 ?_
      obtain rfl := Option.some.inj hf
      exact V.iret dX11_savesByHole_69
    · rw [if_pos c19] at hf
      refine V.bipush (v := (100 : Int32)) dX11_savesByHole_57 (by decide) ?_
      obtain rfl := Option.some.inj hf
      exact V.iret dX11_savesByHole_59
  · rw [if_pos c18] at hf
    refine V.iconst (v := (0 : Int32)) dX11_savesByHole_50 (by decide) ?_
    obtain rfl := Option.some.inj hf
    exact V.iret dX11_savesByHole_51

def f_X11_hole_15 (h : xH) : Option ((String × xH) ⊕ (Int32 × xH)) := some (.inl ("java/util/NoSuchElementException", thr h))
def f_X11_hole (h : xH) (l0 : Nat) (l1 : Int32) (l2 : Int32) : Option ((String × xH) ⊕ (Int32 × xH)) := (if l1 < 0 then (f_X11_hole_15 h) else ((gR h l0 11 4).bind fun v2 => (gI h v2 3 6).bind fun v3 => (if l1 < v3 then ((f_X11_checkWhat h l2 (0 : Int32) (4 : Int32)).bind fun r5 => (match r5 with | .inl E6 => (some (.inl E6)) | .inr v7 => ((if l2 = (4 : Int32) then ((gR h l0 11 4).bind fun v12 => (gO h v12 3).bind fun q13 => (f_X3_allRooms h v12).bind fun r14 => (gO h l0 11).bind fun q15 => (f_X11_fewestOf h l0 r14).bind fun r16 => (gO r16.2 l0 11).bind fun q17 => (f_X11_savesByHole r16.2 l0 l1 (r16.1)).bind fun r18 => some (.inr (r18.1, r18.2))) else ((gR h l0 11 4).bind fun v9 => (gR h v9 3 10).bind fun v10 => (ldI h .int v10 ((l1 * (5 : Int32)) + l2)).bind fun v11 => some (.inr (v11, h))))))) else (f_X11_hole_15 h))))
set_option maxRecDepth 20000 in
theorem w_X11_hole_15 (h : xH) (r : (String × xH) ⊕ (Int32 × xH)) (hf : f_X11_hole_15 h = some r) : V 48 yX11_hole cX11_hole 3 (some .int) [] none 15 [] [] h (oTIh r) := by
  unfold f_X11_hole_15 at hf
  obtain rfl := Option.some.inj hf
  exact V.throwNSW (i := 28) th_139 (by decide) dX11_hole_15 dX11_hole_18 dX11_hole_19 dX11_hole_22 dX11_hole_25 (by decide) (Nat.le_of_ble_eq_true rfl)

set_option maxRecDepth 20000 in
theorem w_X11_hole (h : xH) (l0 : Nat) (l1 : Int32) (l2 : Int32) (r : (String × xH) ⊕ (Int32 × xH)) (hf : f_X11_hole h l0 l1 l2 = some r) : Ev 48 yX11_hole cX11_hole 3 (some .int) [] [.ref l0, .int l1, .int l2] h (oTIh r) := by
  refine Ev.of (by decide +kernel) (Nat.le_of_ble_eq_true rfl) ?_
  unfold f_X11_hole at hf
  refine V.iload_n dX11_hole_0 rfl 1 rfl ?_
  refine V.if_lt (tgt := 15) dX11_hole_1 (by decide) (fun c1 => ?_) (fun c1 => ?_)
  · rw [if_pos c1] at hf
    refine V.sub [] rfl ?_
    exact w_X11_hole_15 _ _ hf
  · rw [if_neg c1] at hf
    refine V.iload_n dX11_hole_4 rfl 1 rfl ?_
    refine V.aload_n dX11_hole_5 rfl 0 rfl ?_
    obtain ⟨v2, e1, hf⟩ := bS hf
    refine V.xgR dX11_hole_6 fl_RX11_26 e1 ?_
    obtain ⟨v3, e2, hf⟩ := bS hf
    refine V.xgI dX11_hole_9 fl_RX11_268 e2 ?_
    refine V.icmp_lt (tgt := 26) dX11_hole_12 (by decide) (fun c4 => ?_) (fun c4 => ?_)
    · rw [if_pos c4] at hf
      refine V.iload_n dX11_hole_26 rfl 2 rfl ?_
      refine V.iconst (v := (0 : Int32)) dX11_hole_27 (by decide) ?_
      refine V.iconst (v := (4 : Int32)) dX11_hole_28 (by decide) ?_
      obtain ⟨r5, e3, hf⟩ := bS hf
      rcases r5 with E6 | v7
      · obtain rfl := Option.some.inj hf
        exact V.callST (As := [.int l2, .int (0 : Int32), .int (4 : Int32)]) (st := []) dX11_hole_29 cl_RX11_140 sw_yX11_checkWhat (by decide) rfl (Nat.le_of_ble_eq_true rfl) rfl (by decide) (w_X11_checkWhat _ _ _ _ _ e3)
      · refine V.callS (As := [.int l2, .int (0 : Int32), .int (4 : Int32)]) (st := []) dX11_hole_29 cl_RX11_140 sw_yX11_checkWhat (by decide) rfl (Nat.le_of_ble_eq_true rfl) rfl (w_X11_checkWhat _ _ _ _ _ e3) ?_
        refine V.iload_n dX11_hole_32 rfl 2 rfl ?_
        refine V.iconst (v := (4 : Int32)) dX11_hole_33 (by decide) ?_
        refine V.icmp_ne (tgt := 54) dX11_hole_34 (by decide) (fun c8 => ?_) (fun c8 => ?_)
        · rw [if_neg c8] at hf
          refine V.aload_n dX11_hole_54 rfl 0 rfl ?_
          obtain ⟨v9, e4, hf⟩ := bS hf
          refine V.xgR dX11_hole_55 fl_RX11_26 e4 ?_
          obtain ⟨v10, e5, hf⟩ := bS hf
          refine V.rgR dX11_hole_58 fl_RX11_276 e5 ?_
          refine V.iload_n dX11_hole_61 rfl 1 rfl ?_
          refine V.iconst (v := (5 : Int32)) dX11_hole_62 (by decide) ?_
          refine V.imul dX11_hole_63 ?_
          refine V.iload_n dX11_hole_64 rfl 2 rfl ?_
          refine V.iadd dX11_hole_65 ?_
          obtain ⟨v11, e6, hf⟩ := bS hf
          refine V.xldI dX11_hole_66 e6 ?_
          obtain rfl := Option.some.inj hf
          exact V.iret dX11_hole_67
        · rw [if_pos c8] at hf
          refine V.aload_n dX11_hole_37 rfl 0 rfl ?_
          refine V.iload_n dX11_hole_38 rfl 1 rfl ?_
          refine V.aload_n dX11_hole_39 rfl 0 rfl ?_
          refine V.aload_n dX11_hole_40 rfl 0 rfl ?_
          obtain ⟨v12, e7, hf⟩ := bS hf
          refine V.xgR dX11_hole_41 fl_RX11_26 e7 ?_
          obtain ⟨q13, e8, hf⟩ := bS hf
          obtain ⟨r14, e9, hf⟩ := bS hf
          refine V.callV (As := []) (st := [.ref l0, .int l1, .ref l0]) dX11_hole_44 cl_RX11_216 sw_yX3_allRooms (by decide) rfl (Nat.le_of_ble_eq_true rfl) rfl (gO_some e8) rfl (w_X3_allRooms _ _ _ e9) ?_
          obtain ⟨q15, e10, hf⟩ := bS hf
          obtain ⟨r16, e11, hf⟩ := bS hf
          refine V.callV (As := [.int r14]) (st := [.int l1, .ref l0]) dX11_hole_47 cl_RX11_237 sw_yX11_fewestOf (by decide) rfl (Nat.le_of_ble_eq_true rfl) rfl (gO_some e10) rfl (w_X11_fewestOf _ _ _ _ e11) ?_
          obtain ⟨q17, e12, hf⟩ := bS hf
          obtain ⟨r18, e13, hf⟩ := bS hf
          refine V.callV (As := [.int l1, .int (r16.1)]) (st := []) dX11_hole_50 cl_RX11_273 sw_yX11_savesByHole (by decide) rfl (Nat.le_of_ble_eq_true rfl) rfl (gO_some e12) rfl (w_X11_savesByHole _ _ _ _ _ e13) ?_
          obtain rfl := Option.some.inj hf
          exact V.iret dX11_hole_53
    · rw [if_neg c4] at hf
      refine V.sub [] rfl ?_
      exact w_X11_hole_15 _ _ hf

def f_X11_house_12 (h : xH) : Option ((String × xH) ⊕ (Int32 × xH)) := some (.inl ("java/lang/IllegalArgumentException", thr h))
def f_X11_house (h : xH) (l0 : Nat) (l1 : Int32) : Option ((String × xH) ⊕ (Int32 × xH)) := (if l1 < 0 then (f_X11_house_12 h) else ((gI h l0 11 1).bind fun v2 => (if l1 ≤ v2 then ((mkO h 7 11 [.int 0, .int 0, .null, .int 0, .int 0, .int 0, .int 0, .int 0, .null, .null, .int 0]).bind fun h4 => (gR h4 l0 11 0).bind fun v5 => (f_X7_init h4 (h.1.length) v5 l1).bind fun r6 => (gO r6 (h.1.length) 7).bind fun q7 => (f_X7_readHouse r6 (h.1.length)).bind fun r8 => (pF r8.2 l0 11 1 (.int (0 : Int32))).bind fun h9 => (gI h9 (h.1.length) 7 0).bind fun v10 => (pF h9 l0 11 2 (.int v10)).bind fun h11 => (gI h11 (h.1.length) 7 1).bind fun v12 => (pF h11 l0 11 3 (.int v12)).bind fun h13 => (gI h13 l0 11 2).bind fun v14 => (if v14 = 0 then ((pF h13 l0 11 4 (.ref (r8.1))).bind fun h16 => (gR h16 l0 11 5).bind fun v17 => (gO h16 v17 5).bind fun q18 => (f_X5_takeDown h16 v17).bind fun r19 => (gI r19 (r8.1) 3 0).bind fun v20 => some (.inr (v20, r19))) else ((gI h13 l0 11 2).bind fun v21 => some (.inr (((-10 : Int32) - v21), h13))))) else (f_X11_house_12 h))))
set_option maxRecDepth 20000 in
theorem w_X11_house_12 (h : xH) (r : (String × xH) ⊕ (Int32 × xH)) (hf : f_X11_house_12 h = some r) : V 13 yX11_house cX11_house 4 (some .int) [] none 12 [] [] h (oTIh r) := by
  unfold f_X11_house_12 at hf
  obtain rfl := Option.some.inj hf
  exact V.throwS (i := 18) th_110 (by decide) dX11_house_12 dX11_house_15 dX11_house_16 dX11_house_18 dX11_house_21 (by decide) (Nat.le_of_ble_eq_true rfl)

set_option maxRecDepth 20000 in
theorem w_X11_house (h : xH) (l0 : Nat) (l1 : Int32) (r : (String × xH) ⊕ (Int32 × xH)) (hf : f_X11_house h l0 l1 = some r) : Ev 13 yX11_house cX11_house 4 (some .int) [] [.ref l0, .int l1] h (oTIh r) := by
  refine Ev.of (by decide +kernel) (Nat.le_of_ble_eq_true rfl) ?_
  unfold f_X11_house at hf
  refine V.iload_n dX11_house_0 rfl 1 rfl ?_
  refine V.if_lt (tgt := 12) dX11_house_1 (by decide) (fun c1 => ?_) (fun c1 => ?_)
  · rw [if_pos c1] at hf
    refine V.sub [] rfl ?_
    exact w_X11_house_12 _ _ hf
  · rw [if_neg c1] at hf
    refine V.iload_n dX11_house_4 rfl 1 rfl ?_
    refine V.aload_n dX11_house_5 rfl 0 rfl ?_
    obtain ⟨v2, e1, hf⟩ := bS hf
    refine V.xgI dX11_house_6 fl_RX11_13 e1 ?_
    refine V.icmp_le (tgt := 22) dX11_house_9 (by decide) (fun c3 => ?_) (fun c3 => ?_)
    · rw [if_pos c3] at hf
      obtain ⟨h4, e2, hf⟩ := bS hf
      refine V.xmkO dX11_house_22 nc_RX11_113 e2 ?_
      refine V.dup dX11_house_25 rfl ?_
      refine V.aload_n dX11_house_26 rfl 0 rfl ?_
      obtain ⟨v5, e3, hf⟩ := bS hf
      refine V.xgR dX11_house_27 fl_RX11_9 e3 ?_
      refine V.iload_n dX11_house_30 rfl 1 rfl ?_
      obtain ⟨r6, e4, hf⟩ := bS hf
      refine V.callI (As := [.ref v5, .int l1]) (st := [.ref (h.1.length)]) dX11_house_31 cl_RX11_115 sw_yX7_init rfl (by decide) rfl (Nat.le_of_ble_eq_true rfl) rfl (w_X7_init _ _ _ _ _ e4) ?_
      refine V.astore_n (lv' := [(2, .ref h.1.length), (0, .ref l0), (1, .int l1)]) dX11_house_34 rfl (by decide) rfl ?_
      refine V.aload_n dX11_house_35 rfl 0 rfl ?_
      obtain ⟨q7, e5, hf⟩ := bS hf
      obtain ⟨r8, e6, hf⟩ := bS hf
      refine V.callV (As := []) (st := []) dX11_house_36 cl_RX11_118 sw_yX7_readHouse (by decide) rfl (Nat.le_of_ble_eq_true rfl) rfl (gO_some e5) rfl (w_X7_readHouse _ _ _ e6) ?_
      refine V.astore_n (lv' := [(3, .ref r8.1), (2, .ref h.1.length), (0, .ref l0), (1, .int l1)]) dX11_house_39 rfl (by decide) rfl ?_
      refine V.aload_n dX11_house_40 rfl 2 rfl ?_
      refine V.iconst (v := (0 : Int32)) dX11_house_41 (by decide) ?_
      obtain ⟨h9, e7, hf⟩ := bS hf
      refine V.xpF dX11_house_42 fl_RX11_13 (fun h9 => nomatch h9) (fun _ => rfl) (fun _ => rfl) e7 ?_
      refine V.aload_n dX11_house_45 rfl 2 rfl ?_
      refine V.aload_n dX11_house_46 rfl 1 rfl ?_
      obtain ⟨v10, e8, hf⟩ := bS hf
      refine V.xgI dX11_house_47 fl_RX11_122 e8 ?_
      obtain ⟨h11, e9, hf⟩ := bS hf
      refine V.xpF dX11_house_50 fl_RX11_17 (fun h9 => nomatch h9) (fun _ => rfl) (fun _ => rfl) e9 ?_
      refine V.aload_n dX11_house_53 rfl 2 rfl ?_
      refine V.aload_n dX11_house_54 rfl 1 rfl ?_
      obtain ⟨v12, e10, hf⟩ := bS hf
      refine V.xgI dX11_house_55 fl_RX11_125 e10 ?_
      obtain ⟨h13, e11, hf⟩ := bS hf
      refine V.xpF dX11_house_58 fl_RX11_20 (fun h9 => nomatch h9) (fun _ => rfl) (fun _ => rfl) e11 ?_
      refine V.aload_n dX11_house_61 rfl 2 rfl ?_
      obtain ⟨v14, e12, hf⟩ := bS hf
      refine V.xgI dX11_house_62 fl_RX11_17 e12 ?_
      refine V.if_eq (tgt := 76) dX11_house_65 (by decide) (fun c15 => ?_) (fun c15 => ?_)
      · rw [if_pos c15] at hf
        refine V.aload_n dX11_house_76 rfl 2 rfl ?_
        refine V.aload_n dX11_house_77 rfl 0 rfl ?_
        obtain ⟨h16, e13, hf⟩ := bS hf
        refine V.xpF dX11_house_78 fl_RX11_26 (fun h9 => nomatch h9) (fun _ => rfl) (fun _ => rfl) e13 ?_
        refine V.aload_n dX11_house_81 rfl 2 rfl ?_
        obtain ⟨v17, e14, hf⟩ := bS hf
        refine V.xgR dX11_house_82 fl_RX11_33 e14 ?_
        obtain ⟨q18, e15, hf⟩ := bS hf
        obtain ⟨r19, e16, hf⟩ := bS hf
        refine V.callV (As := []) (st := []) dX11_house_85 cl_RX11_126 sw_yX5_takeDown (by decide) rfl (Nat.le_of_ble_eq_true rfl) rfl (gO_some e15) rfl (w_X5_takeDown _ _ _ e16) ?_
        refine V.aload_n dX11_house_88 rfl 0 rfl ?_
        obtain ⟨v20, e17, hf⟩ := bS hf
        refine V.xgI dX11_house_89 fl_RX11_129 e17 ?_
        obtain rfl := Option.some.inj hf
        exact V.iret dX11_house_92
      · rw [if_neg c15] at hf
        refine V.bipush (v := (-10 : Int32)) dX11_house_68 (by decide) ?_
        refine V.aload_n dX11_house_70 rfl 2 rfl ?_
        obtain ⟨v21, e18, hf⟩ := bS hf
        refine V.xgI dX11_house_71 fl_RX11_17 e18 ?_
        refine V.isub dX11_house_74 ?_
        obtain rfl := Option.some.inj hf
        exact V.iret dX11_house_75
    · rw [if_neg c3] at hf
      refine V.sub [] rfl ?_
      exact w_X11_house_12 _ _ hf

def f_X11_image_30 (h : xH) (l0 : Nat) (l1 : Int32) (l2 : Nat) : Option ((String × xH) ⊕ (xH)) := (gR h l0 11 5).bind fun v1 => (gO h l2 5).bind fun q2 => (f_X5_copyFrom h l2 v1).bind fun r3 => (gR r3 l0 11 6).bind fun v4 => (gR r3 l0 11 4).bind fun v5 => (stN r3 "LitNextDoor$House" 3 v4 l1 v5).bind fun h6 => some (.inr h6)
def f_X11_image (h : xH) (l0 : Nat) (l1 : Int32) : Option ((String × xH) ⊕ (xH)) := (f_X11_checkImage h l1).bind fun r1 => (match r1 with | .inl E2 => (some (.inl E2)) | .inr v3 => ((gR h l0 11 7).bind fun v4 => (ldN h "LitNextDoor$Lamps" v4 l1).bind fun v5 => (match v5 with | none => ((mkO h 5 2 [.null, .null]).bind fun h7 => (f_X5_init h7 (h.1.length)).bind fun r8 => (gR r8 l0 11 7).bind fun v9 => (stN r8 "LitNextDoor$Lamps" 5 v9 l1 (h.1.length)).bind fun h10 => f_X11_image_30 h10 l0 l1 (h.1.length)) | some v6 => (f_X11_image_30 h l0 l1 v6))))
set_option maxRecDepth 20000 in
theorem w_X11_image_30 (h : xH) (l0 : Nat) (l1 : Int32) (l2 : Nat) (r : (String × xH) ⊕ (xH)) (hf : f_X11_image_30 h l0 l1 l2 = some r) : V 5 yX11_image cX11_image 3 none [] none 30 [(0, .ref l0), (1, .int l1), (2, .ref l2)] [] h (oTVh r) := by
  unfold f_X11_image_30 at hf
  refine V.aload_n dX11_image_30 rfl 2 rfl ?_
  refine V.aload_n dX11_image_31 rfl 0 rfl ?_
  obtain ⟨v1, e1, hf⟩ := bS hf
  refine V.xgR dX11_image_32 fl_RX11_33 e1 ?_
  obtain ⟨q2, e2, hf⟩ := bS hf
  obtain ⟨r3, e3, hf⟩ := bS hf
  refine V.callV (As := [.ref v1]) (st := []) dX11_image_35 cl_RX11_404 sw_yX5_copyFrom (by decide) rfl (Nat.le_of_ble_eq_true rfl) rfl (gO_some e2) rfl (w_X5_copyFrom _ _ _ _ e3) ?_
  refine V.aload_n dX11_image_38 rfl 0 rfl ?_
  obtain ⟨v4, e4, hf⟩ := bS hf
  refine V.xgR dX11_image_39 fl_RX11_37 e4 ?_
  refine V.iload_n dX11_image_42 rfl 1 rfl ?_
  refine V.aload_n dX11_image_43 rfl 0 rfl ?_
  obtain ⟨v5, e5, hf⟩ := bS hf
  refine V.xgR dX11_image_44 fl_RX11_26 e5 ?_
  obtain ⟨h6, e6, hf⟩ := bS hf
  refine V.xstN (r := (RX3, TX3, 16)) dX11_image_47 rfl e6 ?_
  obtain rfl := Option.some.inj hf
  exact V.vret dX11_image_48

set_option maxRecDepth 20000 in
theorem w_X11_image (h : xH) (l0 : Nat) (l1 : Int32) (r : (String × xH) ⊕ (xH)) (hf : f_X11_image h l0 l1 = some r) : Ev 5 yX11_image cX11_image 3 none [] [.ref l0, .int l1] h (oTVh r) := by
  refine Ev.of (by decide +kernel) (Nat.le_of_ble_eq_true rfl) ?_
  unfold f_X11_image at hf
  refine V.iload_n dX11_image_0 rfl 1 rfl ?_
  obtain ⟨r1, e7, hf⟩ := bS hf
  rcases r1 with E2 | v3
  · obtain rfl := Option.some.inj hf
    exact V.callST (As := [.int l1]) (st := []) dX11_image_1 cl_RX11_401 sw_yX11_checkImage (by decide) rfl (Nat.le_of_ble_eq_true rfl) rfl (by decide) (w_X11_checkImage _ _ _ e7)
  · refine V.callS (As := [.int l1]) (st := []) dX11_image_1 cl_RX11_401 sw_yX11_checkImage (by decide) rfl (Nat.le_of_ble_eq_true rfl) rfl (w_X11_checkImage _ _ _ e7) ?_
    refine V.aload_n dX11_image_4 rfl 0 rfl ?_
    obtain ⟨v4, e8, hf⟩ := bS hf
    refine V.xgR dX11_image_5 fl_RX11_41 e8 ?_
    refine V.iload_n dX11_image_8 rfl 1 rfl ?_
    obtain ⟨v5, e9, hf⟩ := bS hf
    rcases v5 with _ | v6
    · refine V.xldN0 dX11_image_9 e9 ?_
      refine V.astore_nN (lv' := [(2, .null), (0, .ref l0), (1, .int l1)]) dX11_image_10 rfl (by decide) rfl ?_
      refine V.aload_nN dX11_image_11 rfl 0 rfl ?_
      refine V.ifnonnullN dX11_image_12 ?_
      obtain ⟨h7, e10, hf⟩ := bS hf
      refine V.xmkO dX11_image_15 nc_RX11_30 e10 ?_
      refine V.dup dX11_image_18 rfl ?_
      obtain ⟨r8, e11, hf⟩ := bS hf
      refine V.callI (As := []) (st := [.ref (h.1.length)]) dX11_image_19 cl_RX11_32 sw_yX5_init rfl (by decide) rfl (Nat.le_of_ble_eq_true rfl) rfl (w_X5_init _ _ _ e11) ?_
      refine V.astore_n (lv' := [(2, .ref h.1.length), (0, .ref l0), (1, .int l1)]) dX11_image_22 rfl (by decide) rfl ?_
      refine V.aload_n dX11_image_23 rfl 1 rfl ?_
      obtain ⟨v9, e12, hf⟩ := bS hf
      refine V.xgR dX11_image_24 fl_RX11_41 e12 ?_
      refine V.iload_n dX11_image_27 rfl 2 rfl ?_
      refine V.aload_n dX11_image_28 rfl 0 rfl ?_
      obtain ⟨h10, e13, hf⟩ := bS hf
      refine V.xstN (r := (RX5, TX5, 2)) dX11_image_29 rfl e13 ?_
      refine V.sub [1, 2, 0] rfl ?_
      exact w_X11_image_30 _ _ _ _ _ hf
    · refine V.xldN dX11_image_9 e9 ?_
      refine V.astore_n (lv' := [(2, .ref v6), (0, .ref l0), (1, .int l1)]) dX11_image_10 rfl (by decide) rfl ?_
      refine V.aload_n dX11_image_11 rfl 0 rfl ?_
      refine V.ifnonnull (tgt := 30) dX11_image_12 (by decide) ?_
      refine V.sub [1, 2, 0] rfl ?_
      exact w_X11_image_30 _ _ _ _ _ hf

def f_X11_lowest (h : xH) (l0 : Int32) : Option (Int32) := (f_J6_bitCount_0f7a4 h ((l0 &&& (-l0)) - (1 : Int32))).bind fun r1 => some (r1)
set_option maxRecDepth 20000 in
theorem w_X11_lowest (h : xH) (l0 : Int32) (r : Int32) (hf : f_X11_lowest h l0 = some r) : Ev 4 yX11_lowest cX11_lowest 1 (some .int) [] [.int l0] h (oI h r) := by
  refine Ev.of (by decide +kernel) (Nat.le_of_ble_eq_true rfl) ?_
  unfold f_X11_lowest at hf
  refine V.iload_n dX11_lowest_0 rfl 0 rfl ?_
  refine V.iload_n dX11_lowest_1 rfl 0 rfl ?_
  refine V.ineg dX11_lowest_2 ?_
  refine V.iand dX11_lowest_3 ?_
  refine V.iconst (v := (1 : Int32)) dX11_lowest_4 (by decide) ?_
  refine V.isub dX11_lowest_5 ?_
  obtain ⟨r1, e1, hf⟩ := bS hf
  refine V.callS (As := [.int ((l0 &&& (-l0)) - (1 : Int32))]) (st := []) dX11_lowest_6 cl_RX11_205 sw_yJ6_bitCount_0f7a4 (by decide) rfl (Nat.le_of_ble_eq_true rfl) rfl (w_J6_bitCount_0f7a4 _ _ _ e1) ?_
  obtain rfl := Option.some.inj hf
  exact V.iret dX11_lowest_9

def f_X11_judge_2 : Nat → xH → Nat → Int32 → Option (Int32 × xH)
  | 0, _, _, _ => none
  | n + 1, h, l0, l1 => (if (24 : Int32) ≤ l1 then (some (((-1 : Int32), h))) else ((gR h l0 11 5).bind fun v2 => (gO h v2 5).bind fun q3 => (f_X5_burning h v2 l1).bind fun r4 => (gO h l0 11).bind fun q5 => (f_X11_darkRooms h l0 l1 r4).bind fun r6 => (if r6.1 = 0 then (f_X11_judge_2 n r6.2 l0 (l1 + 1)) else ((f_X11_lowest r6.2 (r6.1)).bind fun r8 => some (((((100 : Int32) * l1) + r8), r6.2))))))
def f_X11_judge (h : xH) (l0 : Nat) : Option (Int32 × xH) := f_X11_judge_2 xFU h l0 (0 : Int32)
set_option maxRecDepth 20000 in
theorem w_X11_judge_2 : ∀ (n : Nat) (h : xH) (l0 : Nat) (l1 : Int32) (r : Int32 × xH), f_X11_judge_2 n h l0 l1 = some r → V 6 yX11_judge cX11_judge 3 (some .int) [] none 2 [(0, .ref l0), (1, .int l1)] [] h (oIh r) := by
  intro n
  induction n with
  | zero => intro h l0 l1 r hf; cases hf
  | succ n ih =>
    intro h l0 l1 r hf
    rw [f_X11_judge_2] at hf
    refine V.iload_n dX11_judge_2 rfl 1 rfl ?_
    refine V.bipush (v := (24 : Int32)) dX11_judge_3 (by decide) ?_
    refine V.icmp_ge (tgt := 42) dX11_judge_5 (by decide) (fun c1 => ?_) (fun c1 => ?_)
    · rw [if_pos c1] at hf
      refine V.iconst (v := (-1 : Int32)) dX11_judge_42 (by decide) ?_
      obtain rfl := Option.some.inj hf
      exact V.iret dX11_judge_43
    · rw [if_neg c1] at hf
      refine V.aload_n dX11_judge_8 rfl 0 rfl ?_
      refine V.iload_n dX11_judge_9 rfl 1 rfl ?_
      refine V.aload_n dX11_judge_10 rfl 0 rfl ?_
      obtain ⟨v2, e1, hf⟩ := bS hf
      refine V.xgR dX11_judge_11 fl_RX11_33 e1 ?_
      refine V.iload_n dX11_judge_14 rfl 1 rfl ?_
      obtain ⟨q3, e2, hf⟩ := bS hf
      obtain ⟨r4, e3, hf⟩ := bS hf
      refine V.callV (As := [.int l1]) (st := [.int l1, .ref l0]) dX11_judge_15 cl_RX11_184 sw_yX5_burning (by decide) rfl (Nat.le_of_ble_eq_true rfl) rfl (gO_some e2) rfl (w_X5_burning _ _ _ _ e3) ?_
      obtain ⟨q5, e4, hf⟩ := bS hf
      obtain ⟨r6, e5, hf⟩ := bS hf
      refine V.callV (As := [.int l1, .int r4]) (st := []) dX11_judge_18 cl_RX11_192 sw_yX11_darkRooms (by decide) rfl (Nat.le_of_ble_eq_true rfl) rfl (gO_some e4) rfl (w_X11_darkRooms _ _ _ _ _ e5) ?_
      refine V.istore_n (lv' := [(2, .int r6.1), (0, .ref l0), (1, .int l1)]) dX11_judge_21 rfl (by decide) rfl ?_
      refine V.iload_n dX11_judge_22 rfl 0 rfl ?_
      refine V.if_eq (tgt := 36) dX11_judge_23 (by decide) (fun c7 => ?_) (fun c7 => ?_)
      · rw [if_pos c7] at hf
        refine V.iinc (v := (l1 + 1)) (lv' := [(1, .int (l1 + 1)), (2, .int r6.1), (0, .ref l0)]) dX11_judge_36 2 rfl rfl (Nat.le_of_ble_eq_true rfl) rfl ?_
        refine V.goto (tgt := 2) dX11_judge_39 (by decide) ?_
        refine V.sub [2, 0] rfl ?_
        exact ih _ _ _ _ hf
      · rw [if_neg c7] at hf
        refine V.bipush (v := (100 : Int32)) dX11_judge_26 (by decide) ?_
        refine V.iload_n dX11_judge_28 rfl 2 rfl ?_
        refine V.imul dX11_judge_29 ?_
        refine V.iload_n dX11_judge_30 rfl 0 rfl ?_
        obtain ⟨r8, e6, hf⟩ := bS hf
        refine V.callS (As := [.int (r6.1)]) (st := [.int ((100 : Int32) * l1)]) dX11_judge_31 cl_RX11_196 sw_yX11_lowest (by decide) rfl (Nat.le_of_ble_eq_true rfl) rfl (w_X11_lowest _ _ _ e6) ?_
        refine V.iadd dX11_judge_34 ?_
        obtain rfl := Option.some.inj hf
        exact V.iret dX11_judge_35

set_option maxRecDepth 20000 in
theorem w_X11_judge (h : xH) (l0 : Nat) (r : Int32 × xH) (hf : f_X11_judge h l0 = some r) : Ev 6 yX11_judge cX11_judge 3 (some .int) [] [.ref l0] h (oIh r) := by
  refine Ev.of (by decide +kernel) (Nat.le_of_ble_eq_true rfl) ?_
  unfold f_X11_judge at hf
  refine V.iconst (v := (0 : Int32)) dX11_judge_0 (by decide) ?_
  refine V.istore_n (lv' := [(1, .int (0 : Int32)), (0, .ref l0)]) dX11_judge_1 rfl (by decide) rfl ?_
  refine V.sub [1, 0] rfl ?_
  exact w_X11_judge_2 _ _ _ _ _ hf

def f_X11_kind (h : xH) (l0 : Nat) (l1 : Int32) (l2 : Int32) : Option ((String × xH) ⊕ (Int32)) := (gO h l0 11).bind fun q1 => (f_X11_checkKind h l0 l1).bind fun r2 => (match r2 with | .inl E3 => (some (.inl E3)) | .inr v4 => ((f_X11_checkWhat h l2 (0 : Int32) (1 : Int32)).bind fun r5 => (match r5 with | .inl E6 => (some (.inl E6)) | .inr v7 => ((gR h l0 11 4).bind fun v8 => (gR h v8 3 8).bind fun v9 => (ldI h .int v9 ((l1 * (2 : Int32)) + l2)).bind fun v10 => some (.inr v10)))))
set_option maxRecDepth 20000 in
theorem w_X11_kind (h : xH) (l0 : Nat) (l1 : Int32) (l2 : Int32) (r : (String × xH) ⊕ (Int32)) (hf : f_X11_kind h l0 l1 l2 = some r) : Ev 5 yX11_kind cX11_kind 3 (some .int) [] [.ref l0, .int l1, .int l2] h (oTI h r) := by
  refine Ev.of (by decide +kernel) (Nat.le_of_ble_eq_true rfl) ?_
  unfold f_X11_kind at hf
  refine V.aload_n dX11_kind_0 rfl 0 rfl ?_
  refine V.iload_n dX11_kind_1 rfl 1 rfl ?_
  obtain ⟨q1, e1, hf⟩ := bS hf
  obtain ⟨r2, e2, hf⟩ := bS hf
  rcases r2 with E3 | v4
  · obtain rfl := Option.some.inj hf
    exact V.callVT (As := [.int l1]) (st := []) dX11_kind_2 cl_RX11_147 sw_yX11_checkKind (by decide) rfl (Nat.le_of_ble_eq_true rfl) rfl (gO_some e1) rfl (by decide) (w_X11_checkKind _ _ _ _ e2)
  · refine V.callV (As := [.int l1]) (st := []) dX11_kind_2 cl_RX11_147 sw_yX11_checkKind (by decide) rfl (Nat.le_of_ble_eq_true rfl) rfl (gO_some e1) rfl (w_X11_checkKind _ _ _ _ e2) ?_
    refine V.iload_n dX11_kind_5 rfl 2 rfl ?_
    refine V.iconst (v := (0 : Int32)) dX11_kind_6 (by decide) ?_
    refine V.iconst (v := (1 : Int32)) dX11_kind_7 (by decide) ?_
    obtain ⟨r5, e3, hf⟩ := bS hf
    rcases r5 with E6 | v7
    · obtain rfl := Option.some.inj hf
      exact V.callST (As := [.int l2, .int (0 : Int32), .int (1 : Int32)]) (st := []) dX11_kind_8 cl_RX11_140 sw_yX11_checkWhat (by decide) rfl (Nat.le_of_ble_eq_true rfl) rfl (by decide) (w_X11_checkWhat _ _ _ _ _ e3)
    · refine V.callS (As := [.int l2, .int (0 : Int32), .int (1 : Int32)]) (st := []) dX11_kind_8 cl_RX11_140 sw_yX11_checkWhat (by decide) rfl (Nat.le_of_ble_eq_true rfl) rfl (w_X11_checkWhat _ _ _ _ _ e3) ?_
      refine V.aload_n dX11_kind_11 rfl 0 rfl ?_
      obtain ⟨v8, e4, hf⟩ := bS hf
      refine V.xgR dX11_kind_12 fl_RX11_26 e4 ?_
      obtain ⟨v9, e5, hf⟩ := bS hf
      refine V.rgR dX11_kind_15 fl_RX11_150 e5 ?_
      refine V.iload_n dX11_kind_18 rfl 1 rfl ?_
      refine V.iconst (v := (2 : Int32)) dX11_kind_19 (by decide) ?_
      refine V.imul dX11_kind_20 ?_
      refine V.iload_n dX11_kind_21 rfl 2 rfl ?_
      refine V.iadd dX11_kind_22 ?_
      obtain ⟨v10, e6, hf⟩ := bS hf
      refine V.xldI dX11_kind_23 e6 ?_
      obtain rfl := Option.some.inj hf
      exact V.iret dX11_kind_24

def f_X11_lampsByRule_32 (h : xH) (l0 : Int32) (l3 : Int64) : Option (Int64) := some ((l3 &&& (((1 : Int64) <<< (Int32.toInt64 l0 &&& 63)) - (1 : Int64))))
def f_X11_lampsByRule_9 (h : xH) : Nat → Int32 → Int32 → Int32 → Int64 → Int32 → Option (Int64)
  | 0, _, _, _, _, _ => none
  | n + 1, l0, l1, l2, l3, l5 => (if l0 ≤ l5 then (f_X11_lampsByRule_32 h l0 l3) else (f_X11_lampsByRule_9 h n l0 l1 l2 (l3 ||| ((Int32.toInt64 l2) <<< (Int32.toInt64 l5 &&& 63))) (l5 + l1)))
def f_X11_lampsByRule (h : xH) (l0 : Int32) (l1 : Int32) (l2 : Int32) : Option (Int64) := (if l1 ≤ 0 then (f_X11_lampsByRule_32 h l0 (0 : Int64)) else (f_X11_lampsByRule_9 h xFU l0 l1 l2 (0 : Int64) (0 : Int32)))
set_option maxRecDepth 20000 in
theorem w_X11_lampsByRule_32 (h : xH) (l0 : Int32) (l3 : Int64) (r : Int64) (hf : f_X11_lampsByRule_32 h l0 l3 = some r) : V 3 yX11_lampsByRule cX11_lampsByRule 6 (some .long) [] none 32 [(0, .int l0), (3, .long l3)] [] h (oJ h r) := by
  unfold f_X11_lampsByRule_32 at hf
  refine V.lload_n dX11_lampsByRule_32 rfl 1 rfl ?_
  refine V.lconst (v := 1) dX11_lampsByRule_33 (by decide) ?_
  refine V.iload_n dX11_lampsByRule_34 rfl 0 rfl ?_
  refine V.lshl dX11_lampsByRule_35 ?_
  refine V.lconst (v := 1) dX11_lampsByRule_36 (by decide) ?_
  refine V.lsub dX11_lampsByRule_37 ?_
  refine V.land dX11_lampsByRule_38 ?_
  obtain rfl := Option.some.inj hf
  exact V.lret dX11_lampsByRule_39

set_option maxRecDepth 20000 in
theorem w_X11_lampsByRule_9 (h : xH) : ∀ (n : Nat) (l0 : Int32) (l1 : Int32) (l2 : Int32) (l3 : Int64) (l5 : Int32) (r : Int64), f_X11_lampsByRule_9 h n l0 l1 l2 l3 l5 = some r → V 3 yX11_lampsByRule cX11_lampsByRule 6 (some .long) [] none 9 [(0, .int l0), (1, .int l1), (2, .int l2), (3, .long l3), (5, .int l5)] [] h (oJ h r) := by
  intro n
  induction n with
  | zero => intro l0 l1 l2 l3 l5 r hf; cases hf
  | succ n ih =>
    intro l0 l1 l2 l3 l5 r hf
    rw [f_X11_lampsByRule_9] at hf
    refine V.iload dX11_lampsByRule_9 4 rfl ?_
    refine V.iload_n dX11_lampsByRule_11 rfl 0 rfl ?_
    refine V.icmp_ge (tgt := 32) dX11_lampsByRule_12 (by decide) (fun c1 => ?_) (fun c1 => ?_)
    · rw [if_pos c1] at hf
      refine V.sub [0, 3] rfl ?_
      exact w_X11_lampsByRule_32 _ _ _ _ hf
    · rw [if_neg c1] at hf
      refine V.lload_n dX11_lampsByRule_15 rfl 3 rfl ?_
      refine V.iload_n dX11_lampsByRule_16 rfl 2 rfl ?_
      refine V.i2l dX11_lampsByRule_17 ?_
      refine V.iload dX11_lampsByRule_18 4 rfl ?_
      refine V.lshl dX11_lampsByRule_20 ?_
      refine V.lor dX11_lampsByRule_21 ?_
      refine V.lstore_n (lv' := [(3, .long (l3 ||| ((Int32.toInt64 l2) <<< (Int32.toInt64 l5 &&& 63)))), (0, .int l0), (1, .int l1), (2, .int l2), (5, .int l5)]) dX11_lampsByRule_22 rfl (by decide) rfl ?_
      refine V.iload dX11_lampsByRule_23 4 rfl ?_
      refine V.iload_n dX11_lampsByRule_25 rfl 2 rfl ?_
      refine V.iadd dX11_lampsByRule_26 ?_
      refine V.istore (lv' := [(5, .int (l5 + l1)), (3, .long (l3 ||| ((Int32.toInt64 l2) <<< (Int32.toInt64 l5 &&& 63)))), (0, .int l0), (1, .int l1), (2, .int l2)]) dX11_lampsByRule_27 (by decide) rfl ?_
      refine V.goto (tgt := 9) dX11_lampsByRule_29 (by decide) ?_
      refine V.sub [2, 3, 4, 1, 0] rfl ?_
      exact ih _ _ _ _ _ _ hf

set_option maxRecDepth 20000 in
theorem w_X11_lampsByRule (h : xH) (l0 : Int32) (l1 : Int32) (l2 : Int32) (r : Int64) (hf : f_X11_lampsByRule h l0 l1 l2 = some r) : Ev 3 yX11_lampsByRule cX11_lampsByRule 6 (some .long) [] [.int l0, .int l1, .int l2] h (oJ h r) := by
  refine Ev.of (by decide +kernel) (Nat.le_of_ble_eq_true rfl) ?_
  unfold f_X11_lampsByRule at hf
  refine V.lconst (v := 0) dX11_lampsByRule_0 (by decide) ?_
  refine V.lstore_n (lv' := [(3, .long (0 : Int64)), (0, .int l0), (1, .int l1), (2, .int l2)]) dX11_lampsByRule_1 rfl (by decide) rfl ?_
  refine V.iload_n dX11_lampsByRule_2 rfl 2 rfl ?_
  refine V.if_le (tgt := 32) dX11_lampsByRule_3 (by decide) (fun c1 => ?_) (fun c1 => ?_)
  · rw [if_pos c1] at hf
    refine V.sub [1, 0] rfl ?_
    exact w_X11_lampsByRule_32 _ _ _ _ hf
  · rw [if_neg c1] at hf
    refine V.iconst (v := (0 : Int32)) dX11_lampsByRule_6 (by decide) ?_
    refine V.istore (lv' := [(5, .int (0 : Int32)), (3, .long (0 : Int64)), (0, .int l0), (1, .int l1), (2, .int l2)]) dX11_lampsByRule_7 (by decide) rfl ?_
    refine V.sub [2, 3, 4, 1, 0] rfl ?_
    exact w_X11_lampsByRule_9 h _ _ _ _ _ _ _ hf

def f_X11_light (h : xH) (l0 : Nat) (l1 : Int32) (l2 : Int32) : Option ((String × xH) ⊕ (Int32 × xH)) := (gO h l0 11).bind fun q1 => (f_X11_checkRoom h l0 l1).bind fun r2 => (match r2 with | .inl E3 => (some (.inl E3)) | .inr v4 => ((f_X11_checkHour h l2).bind fun r5 => (match r5 with | .inl E6 => (some (.inl E6)) | .inr v7 => ((gR h l0 11 4).bind fun v8 => (gR h l0 11 11).bind fun v9 => (gR h l0 11 5).bind fun v10 => (gR h v10 5 0).bind fun v11 => (gR h l0 11 5).bind fun v12 => (gO h v12 5).bind fun q13 => (f_X5_burning h v12 l2).bind fun r14 => (gO h v8 3).bind fun q15 => (f_X3_shineInto h v8 v9 v11 r14).bind fun r16 => (gR r16 l0 11 11).bind fun v17 => (ldI r16 .int v17 l1).bind fun v18 => some (.inr (v18, r16))))))
set_option maxRecDepth 20000 in
theorem w_X11_light (h : xH) (l0 : Nat) (l1 : Int32) (l2 : Int32) (r : (String × xH) ⊕ (Int32 × xH)) (hf : f_X11_light h l0 l1 l2 = some r) : Ev 5 yX11_light cX11_light 3 (some .int) [] [.ref l0, .int l1, .int l2] h (oTIh r) := by
  refine Ev.of (by decide +kernel) (Nat.le_of_ble_eq_true rfl) ?_
  unfold f_X11_light at hf
  refine V.aload_n dX11_light_0 rfl 0 rfl ?_
  refine V.iload_n dX11_light_1 rfl 1 rfl ?_
  obtain ⟨q1, e1, hf⟩ := bS hf
  obtain ⟨r2, e2, hf⟩ := bS hf
  rcases r2 with E3 | v4
  · obtain rfl := Option.some.inj hf
    exact V.callVT (As := [.int l1]) (st := []) dX11_light_2 cl_RX11_153 sw_yX11_checkRoom (by decide) rfl (Nat.le_of_ble_eq_true rfl) rfl (gO_some e1) rfl (by decide) (w_X11_checkRoom _ _ _ _ e2)
  · refine V.callV (As := [.int l1]) (st := []) dX11_light_2 cl_RX11_153 sw_yX11_checkRoom (by decide) rfl (Nat.le_of_ble_eq_true rfl) rfl (gO_some e1) rfl (w_X11_checkRoom _ _ _ _ e2) ?_
    refine V.iload_n dX11_light_5 rfl 2 rfl ?_
    obtain ⟨r5, e3, hf⟩ := bS hf
    rcases r5 with E6 | v7
    · obtain rfl := Option.some.inj hf
      exact V.callST (As := [.int l2]) (st := []) dX11_light_6 cl_RX11_181 sw_yX11_checkHour (by decide) rfl (Nat.le_of_ble_eq_true rfl) rfl (by decide) (w_X11_checkHour _ _ _ e3)
    · refine V.callS (As := [.int l2]) (st := []) dX11_light_6 cl_RX11_181 sw_yX11_checkHour (by decide) rfl (Nat.le_of_ble_eq_true rfl) rfl (w_X11_checkHour _ _ _ e3) ?_
      refine V.aload_n dX11_light_9 rfl 0 rfl ?_
      obtain ⟨v8, e4, hf⟩ := bS hf
      refine V.xgR dX11_light_10 fl_RX11_26 e4 ?_
      refine V.aload_n dX11_light_13 rfl 0 rfl ?_
      obtain ⟨v9, e5, hf⟩ := bS hf
      refine V.xgR dX11_light_14 fl_RX11_59 e5 ?_
      refine V.aload_n dX11_light_17 rfl 0 rfl ?_
      obtain ⟨v10, e6, hf⟩ := bS hf
      refine V.xgR dX11_light_18 fl_RX11_33 e6 ?_
      obtain ⟨v11, e7, hf⟩ := bS hf
      refine V.rgR dX11_light_21 fl_RX11_171 e7 ?_
      refine V.aload_n dX11_light_24 rfl 0 rfl ?_
      obtain ⟨v12, e8, hf⟩ := bS hf
      refine V.xgR dX11_light_25 fl_RX11_33 e8 ?_
      refine V.iload_n dX11_light_28 rfl 2 rfl ?_
      obtain ⟨q13, e9, hf⟩ := bS hf
      obtain ⟨r14, e10, hf⟩ := bS hf
      refine V.callV (As := [.int l2]) (st := [.ref v11, .ref v9, .ref v8]) dX11_light_29 cl_RX11_184 sw_yX5_burning (by decide) rfl (Nat.le_of_ble_eq_true rfl) rfl (gO_some e9) rfl (w_X5_burning _ _ _ _ e10) ?_
      obtain ⟨q15, e11, hf⟩ := bS hf
      obtain ⟨r16, e12, hf⟩ := bS hf
      refine V.callV (As := [.ref v9, .ref v11, .int r14]) (st := []) dX11_light_32 cl_RX11_188 sw_yX3_shineInto (by decide) rfl (Nat.le_of_ble_eq_true rfl) rfl (gO_some e11) rfl (w_X3_shineInto _ _ _ _ _ _ e12) ?_
      refine V.aload_n dX11_light_35 rfl 0 rfl ?_
      obtain ⟨v17, e13, hf⟩ := bS hf
      refine V.xgR dX11_light_36 fl_RX11_59 e13 ?_
      refine V.iload_n dX11_light_39 rfl 1 rfl ?_
      obtain ⟨v18, e14, hf⟩ := bS hf
      refine V.xldI dX11_light_40 e14 ?_
      obtain rfl := Option.some.inj hf
      exact V.iret dX11_light_41

def f_X11_lights (h : xH) (l0 : Nat) (l1 : Int32) (l2 : Int32) : Option ((String × xH) ⊕ (Int32)) := (gO h l0 11).bind fun q1 => (f_X11_checkSet h l0 l1).bind fun r2 => (match r2 with | .inl E3 => (some (.inl E3)) | .inr v4 => ((gO h l0 11).bind fun q5 => (f_X11_checkSet h l0 l2).bind fun r6 => (match r6 with | .inl E7 => (some (.inl E7)) | .inr v8 => ((gR h l0 11 4).bind fun v9 => (gO h v9 3).bind fun q10 => (f_X3_litBy h v9 l1).bind fun r11 => (if (l2 &&& (r11 ^^^ (-1 : Int32))) = 0 then (some (.inr (1 : Int32))) else (some (.inr (0 : Int32))))))))
set_option maxRecDepth 20000 in
theorem w_X11_lights (h : xH) (l0 : Nat) (l1 : Int32) (l2 : Int32) (r : (String × xH) ⊕ (Int32)) (hf : f_X11_lights h l0 l1 l2 = some r) : Ev 5 yX11_lights cX11_lights 3 (some .boolean) [] [.ref l0, .int l1, .int l2] h (oTI h r) := by
  refine Ev.of (by decide +kernel) (Nat.le_of_ble_eq_true rfl) ?_
  unfold f_X11_lights at hf
  refine V.aload_n dX11_lights_0 rfl 0 rfl ?_
  refine V.iload_n dX11_lights_1 rfl 1 rfl ?_
  obtain ⟨q1, e1, hf⟩ := bS hf
  obtain ⟨r2, e2, hf⟩ := bS hf
  rcases r2 with E3 | v4
  · obtain rfl := Option.some.inj hf
    exact V.callVT (As := [.int l1]) (st := []) dX11_lights_2 cl_RX11_210 sw_yX11_checkSet (by decide) rfl (Nat.le_of_ble_eq_true rfl) rfl (gO_some e1) rfl (by decide) (w_X11_checkSet _ _ _ _ e2)
  · refine V.callV (As := [.int l1]) (st := []) dX11_lights_2 cl_RX11_210 sw_yX11_checkSet (by decide) rfl (Nat.le_of_ble_eq_true rfl) rfl (gO_some e1) rfl (w_X11_checkSet _ _ _ _ e2) ?_
    refine V.aload_n dX11_lights_5 rfl 0 rfl ?_
    refine V.iload_n dX11_lights_6 rfl 2 rfl ?_
    obtain ⟨q5, e3, hf⟩ := bS hf
    obtain ⟨r6, e4, hf⟩ := bS hf
    rcases r6 with E7 | v8
    · obtain rfl := Option.some.inj hf
      exact V.callVT (As := [.int l2]) (st := []) dX11_lights_7 cl_RX11_210 sw_yX11_checkSet (by decide) rfl (Nat.le_of_ble_eq_true rfl) rfl (gO_some e3) rfl (by decide) (w_X11_checkSet _ _ _ _ e4)
    · refine V.callV (As := [.int l2]) (st := []) dX11_lights_7 cl_RX11_210 sw_yX11_checkSet (by decide) rfl (Nat.le_of_ble_eq_true rfl) rfl (gO_some e3) rfl (w_X11_checkSet _ _ _ _ e4) ?_
      refine V.iload_n dX11_lights_10 rfl 2 rfl ?_
      refine V.aload_n dX11_lights_11 rfl 0 rfl ?_
      obtain ⟨v9, e5, hf⟩ := bS hf
      refine V.xgR dX11_lights_12 fl_RX11_26 e5 ?_
      refine V.iload_n dX11_lights_15 rfl 1 rfl ?_
      obtain ⟨q10, e6, hf⟩ := bS hf
      obtain ⟨r11, e7, hf⟩ := bS hf
      refine V.callV (As := [.int l1]) (st := [.int l2]) dX11_lights_16 cl_RX11_213 sw_yX3_litBy (by decide) rfl (Nat.le_of_ble_eq_true rfl) rfl (gO_some e6) rfl (w_X3_litBy _ _ _ _ e7) ?_
      refine V.iconst (v := (-1 : Int32)) dX11_lights_19 (by decide) ?_
      refine V.ixor dX11_lights_20 ?_
      refine V.iand dX11_lights_21 ?_
      refine V.if_ne (tgt := 29) dX11_lights_22 (by decide) (fun c12 => ?_) (fun c12 => ?_)
      · rw [if_neg c12] at hf
        refine V.iconst (v := (0 : Int32)) dX11_lights_29 (by decide) ?_
        obtain rfl := Option.some.inj hf
        exact V.zret dX11_lights_30 (by first | rfl | assumption)
      · rw [if_pos c12] at hf
        refine V.iconst (v := (1 : Int32)) dX11_lights_25 (by decide) ?_
        refine V.goto (tgt := 30) dX11_lights_26 (by decide) ?_
        obtain rfl := Option.some.inj hf
        exact V.zret dX11_lights_30 (by first | rfl | assumption)

def f_X11_unlitBy_31 (h : xH) (l2 : Int32) (l4 : Int64) : Option (Int64) := some (((l4 ^^^ (-1 : Int64)) &&& (((1 : Int64) <<< (Int32.toInt64 l2 &&& 63)) - (1 : Int64))))
def f_X11_unlitBy (h : xH) (l0 : Int64) (l2 : Int32) (l3 : Int32) : Option (Int64) := (if l3 = 0 then (f_X11_unlitBy_31 h l2 ((l0 <<< (Int32.toInt64 (1 : Int32) &&& 63)) ||| (UInt64.toInt64 (Int64.toUInt64 l0 >>> (Int64.toUInt64 (Int32.toInt64 (1 : Int32)) &&& Int64.toUInt64 63))))) else (f_X11_unlitBy_31 h l2 (((l0 <<< (Int32.toInt64 (1 : Int32) &&& 63)) ||| (UInt64.toInt64 (Int64.toUInt64 l0 >>> (Int64.toUInt64 (Int32.toInt64 (1 : Int32)) &&& Int64.toUInt64 63)))) ||| ((UInt64.toInt64 (Int64.toUInt64 l0 >>> (Int64.toUInt64 (Int32.toInt64 (l2 - (1 : Int32))) &&& Int64.toUInt64 63))) ||| ((l0 &&& (1 : Int64)) <<< (Int32.toInt64 (l2 - (1 : Int32)) &&& 63))))))
set_option maxRecDepth 20000 in
theorem w_X11_unlitBy_31 (h : xH) (l2 : Int32) (l4 : Int64) (r : Int64) (hf : f_X11_unlitBy_31 h l2 l4 = some r) : V 3 yX11_unlitBy cX11_unlitBy 6 (some .long) [] none 31 [(2, .int l2), (4, .long l4)] [] h (oJ h r) := by
  unfold f_X11_unlitBy_31 at hf
  refine V.lload dX11_unlitBy_31 1 rfl ?_
  refine V.ldc2 (v := (-1 : Int64)) dX11_unlitBy_33 cj_RX11_394 ?_
  refine V.lxor dX11_unlitBy_36 ?_
  refine V.lconst (v := 1) dX11_unlitBy_37 (by decide) ?_
  refine V.iload_n dX11_unlitBy_38 rfl 0 rfl ?_
  refine V.lshl dX11_unlitBy_39 ?_
  refine V.lconst (v := 1) dX11_unlitBy_40 (by decide) ?_
  refine V.lsub dX11_unlitBy_41 ?_
  refine V.land dX11_unlitBy_42 ?_
  obtain rfl := Option.some.inj hf
  exact V.lret dX11_unlitBy_43

set_option maxRecDepth 20000 in
theorem w_X11_unlitBy (h : xH) (l0 : Int64) (l2 : Int32) (l3 : Int32) (r : Int64) (hf : f_X11_unlitBy h l0 l2 l3 = some r) : Ev 3 yX11_unlitBy cX11_unlitBy 6 (some .long) [] [.long l0, .int l2, .int l3] h (oJ h r) := by
  refine Ev.of (by decide +kernel) (Nat.le_of_ble_eq_true rfl) ?_
  unfold f_X11_unlitBy at hf
  refine V.lload_n dX11_unlitBy_0 rfl 0 rfl ?_
  refine V.iconst (v := (1 : Int32)) dX11_unlitBy_1 (by decide) ?_
  refine V.lshl dX11_unlitBy_2 ?_
  refine V.lload_n dX11_unlitBy_3 rfl 0 rfl ?_
  refine V.iconst (v := (1 : Int32)) dX11_unlitBy_4 (by decide) ?_
  refine V.lushr dX11_unlitBy_5 ?_
  refine V.lor dX11_unlitBy_6 ?_
  refine V.lstore (lv' := [(4, .long ((l0 <<< (Int32.toInt64 (1 : Int32) &&& 63)) ||| (UInt64.toInt64 (Int64.toUInt64 l0 >>> (Int64.toUInt64 (Int32.toInt64 (1 : Int32)) &&& Int64.toUInt64 63))))), (0, .long l0), (2, .int l2), (3, .int l3)]) dX11_unlitBy_7 (by decide) rfl ?_
  refine V.iload_n dX11_unlitBy_9 rfl 3 rfl ?_
  refine V.if_eq (tgt := 31) dX11_unlitBy_10 (by decide) (fun c1 => ?_) (fun c1 => ?_)
  · rw [if_pos c1] at hf
    refine V.sub [2, 0] rfl ?_
    exact w_X11_unlitBy_31 _ _ _ _ hf
  · rw [if_neg c1] at hf
    refine V.lload dX11_unlitBy_13 0 rfl ?_
    refine V.lload_n dX11_unlitBy_15 rfl 1 rfl ?_
    refine V.iload_n dX11_unlitBy_16 rfl 2 rfl ?_
    refine V.iconst (v := (1 : Int32)) dX11_unlitBy_17 (by decide) ?_
    refine V.isub dX11_unlitBy_18 ?_
    refine V.lushr dX11_unlitBy_19 ?_
    refine V.lload_n dX11_unlitBy_20 rfl 1 rfl ?_
    refine V.lconst (v := 1) dX11_unlitBy_21 (by decide) ?_
    refine V.land dX11_unlitBy_22 ?_
    refine V.iload_n dX11_unlitBy_23 rfl 2 rfl ?_
    refine V.iconst (v := (1 : Int32)) dX11_unlitBy_24 (by decide) ?_
    refine V.isub dX11_unlitBy_25 ?_
    refine V.lshl dX11_unlitBy_26 ?_
    refine V.lor dX11_unlitBy_27 ?_
    refine V.lor dX11_unlitBy_28 ?_
    refine V.lstore (lv' := [(4, .long (((l0 <<< (Int32.toInt64 (1 : Int32) &&& 63)) ||| (UInt64.toInt64 (Int64.toUInt64 l0 >>> (Int64.toUInt64 (Int32.toInt64 (1 : Int32)) &&& Int64.toUInt64 63)))) ||| ((UInt64.toInt64 (Int64.toUInt64 l0 >>> (Int64.toUInt64 (Int32.toInt64 (l2 - (1 : Int32))) &&& Int64.toUInt64 63))) ||| ((l0 &&& (1 : Int64)) <<< (Int32.toInt64 (l2 - (1 : Int32)) &&& 63))))), (0, .long l0), (2, .int l2), (3, .int l3)]) dX11_unlitBy_29 (by decide) rfl ?_
    refine V.sub [2, 0] rfl ?_
    exact w_X11_unlitBy_31 _ _ _ _ hf

def f_X11_look_35 (h : xH) (k25 : Int32 → Int32 → Int32 → Int32 → Int32 → Int32 → Int32 → Option ((String × xH) ⊕ (Int32))) : Nat → Int32 → Int32 → Int32 → Int32 → Int32 → Int32 → Int32 → Int32 → Option ((String × xH) ⊕ (Int32))
  | 0, _, _, _, _, _, _, _, _ => none
  | n + 1, l1, l2, l3, l4, l5, l6, l7, l8 => (if ((1 : Int32) <<< (l7 &&& 31)) ≤ l8 then (k25 l1 l2 l3 l4 l5 l6 (l7 + 1)) else ((f_X11_lampsByRule h l1 l7 l8).bind fun r2 => (f_J13_bitCount_95d88 h r2).bind fun r3 => (if l4 ≤ r3 then (f_X11_look_35 h k25 n l1 l2 l3 l4 l5 l6 l7 (l8 + 1)) else ((f_X11_unlitBy h r2 l1 l2).bind fun r5 => (if (lg_cmp r5 (0 : Int64)) = 0 then ((f_J13_bitCount_95d88 h r2).bind fun r7 => f_X11_look_35 h k25 n l1 l2 l3 r7 l7 l8 l7 (l8 + 1)) else (f_X11_look_35 h k25 n l1 l2 l3 l4 l5 l6 l7 (l8 + 1)))))))
def f_X11_look_25 (h : xH) : Nat → Int32 → Int32 → Int32 → Int32 → Int32 → Int32 → Int32 → Option ((String × xH) ⊕ (Int32))
  | 0, _, _, _, _, _, _, _ => none
  | n + 1, l1, l2, l3, l4, l5, l6, l7 => (if (8 : Int32) < l7 then ((if l3 = 0 then ((if l5 = (-1 : Int32) then (some (.inr (-1 : Int32))) else (some (.inr l4)))) else ((if l3 = (1 : Int32) then (some (.inr l5)) else (some (.inr l6)))))) else (f_X11_look_35 h (f_X11_look_25 h n) xFU l1 l2 l3 l4 l5 l6 l7 (0 : Int32)))
def f_X11_look (h : xH) (l0 : Nat) (l1 : Int32) (l2 : Int32) (l3 : Int32) : Option ((String × xH) ⊕ (Int32)) := (f_X11_checkRow h l1 l2).bind fun r1 => (match r1 with | .inl E2 => (some (.inl E2)) | .inr v3 => ((f_X11_checkWhat h l3 (0 : Int32) (2 : Int32)).bind fun r4 => (match r4 with | .inl E5 => (some (.inl E5)) | .inr v6 => (f_X11_look_25 h xFU l1 l2 l3 (l1 + (1 : Int32)) (-1 : Int32) (-1 : Int32) (1 : Int32)))))
set_option maxRecDepth 20000 in
theorem w_X11_look_35 (h : xH) {k25 : Int32 → Int32 → Int32 → Int32 → Int32 → Int32 → Int32 → Option ((String × xH) ⊕ (Int32))} (hk25 : ∀ (l1 : Int32) (l2 : Int32) (l3 : Int32) (l4 : Int32) (l5 : Int32) (l6 : Int32) (l7 : Int32) (r : (String × xH) ⊕ (Int32)), k25 l1 l2 l3 l4 l5 l6 l7 = some r → V 5 yX11_look cX11_look 11 (some .int) [] none 25 [(1, .int l1), (2, .int l2), (3, .int l3), (4, .int l4), (5, .int l5), (6, .int l6), (7, .int l7)] [] h (oTI h r)) : ∀ (n : Nat) (l1 : Int32) (l2 : Int32) (l3 : Int32) (l4 : Int32) (l5 : Int32) (l6 : Int32) (l7 : Int32) (l8 : Int32) (r : (String × xH) ⊕ (Int32)), f_X11_look_35 h k25 n l1 l2 l3 l4 l5 l6 l7 l8 = some r → V 5 yX11_look cX11_look 11 (some .int) [] none 35 [(1, .int l1), (2, .int l2), (3, .int l3), (4, .int l4), (5, .int l5), (6, .int l6), (7, .int l7), (8, .int l8)] [] h (oTI h r) := by
  intro n
  induction n with
  | zero => intro l1 l2 l3 l4 l5 l6 l7 l8 r hf; cases hf
  | succ n ih =>
    intro l1 l2 l3 l4 l5 l6 l7 l8 r hf
    rw [f_X11_look_35] at hf
    refine V.iload dX11_look_35 7 rfl ?_
    refine V.iconst (v := (1 : Int32)) dX11_look_37 (by decide) ?_
    refine V.iload dX11_look_38 6 rfl ?_
    refine V.ishl dX11_look_40 ?_
    refine V.icmp_ge (tgt := 97) dX11_look_41 (by decide) (fun c1 => ?_) (fun c1 => ?_)
    · rw [if_pos c1] at hf
      refine V.iinc (v := (l7 + 1)) (lv' := [(7, .int (l7 + 1)), (1, .int l1), (2, .int l2), (3, .int l3), (4, .int l4), (5, .int l5), (6, .int l6), (8, .int l8)]) dX11_look_97 6 rfl rfl (Nat.le_of_ble_eq_true rfl) rfl ?_
      refine V.goto (tgt := 25) dX11_look_100 (by decide) ?_
      refine V.sub [1, 2, 3, 4, 5, 6, 0] rfl ?_
      exact hk25 _ _ _ _ _ _ _ _ hf
    · rw [if_neg c1] at hf
      refine V.iload_n dX11_look_44 rfl 0 rfl ?_
      refine V.iload dX11_look_45 6 rfl ?_
      refine V.iload dX11_look_47 7 rfl ?_
      obtain ⟨r2, e1, hf⟩ := bS hf
      refine V.callS (As := [.int l1, .int l7, .int l8]) (st := []) dX11_look_49 cl_RX11_362 sw_yX11_lampsByRule (by decide) rfl (Nat.le_of_ble_eq_true rfl) rfl (w_X11_lampsByRule _ _ _ _ _ e1) ?_
      refine V.lstore (lv' := [(9, .long r2), (1, .int l1), (2, .int l2), (3, .int l3), (4, .int l4), (5, .int l5), (6, .int l6), (7, .int l7), (8, .int l8)]) dX11_look_52 (by decide) rfl ?_
      refine V.lload dX11_look_54 0 rfl ?_
      obtain ⟨r3, e2, hf⟩ := bS hf
      refine V.callS (As := [.long r2]) (st := []) dX11_look_56 cl_RX11_370 sw_yJ13_bitCount_95d88 (by decide) rfl (Nat.le_of_ble_eq_true rfl) rfl (w_J13_bitCount_95d88 _ _ _ e2) ?_
      refine V.iload dX11_look_59 4 rfl ?_
      refine V.icmp_ge (tgt := 91) dX11_look_61 (by decide) (fun c4 => ?_) (fun c4 => ?_)
      · rw [if_pos c4] at hf
        refine V.iinc (v := (l8 + 1)) (lv' := [(8, .int (l8 + 1)), (9, .long r2), (1, .int l1), (2, .int l2), (3, .int l3), (4, .int l4), (5, .int l5), (6, .int l6), (7, .int l7)]) dX11_look_91 8 rfl rfl (Nat.le_of_ble_eq_true rfl) rfl ?_
        refine V.goto (tgt := 35) dX11_look_94 (by decide) ?_
        refine V.sub [2, 3, 4, 5, 6, 7, 8, 0] rfl ?_
        exact ih _ _ _ _ _ _ _ _ _ hf
      · rw [if_neg c4] at hf
        refine V.lload dX11_look_64 0 rfl ?_
        refine V.iload_n dX11_look_66 rfl 1 rfl ?_
        refine V.iload_n dX11_look_67 rfl 2 rfl ?_
        obtain ⟨r5, e3, hf⟩ := bS hf
        refine V.callS (As := [.long r2, .int l1, .int l2]) (st := []) dX11_look_68 cl_RX11_366 sw_yX11_unlitBy (by decide) rfl (Nat.le_of_ble_eq_true rfl) rfl (w_X11_unlitBy _ _ _ _ _ e3) ?_
        refine V.lconst (v := 0) dX11_look_71 (by decide) ?_
        refine V.lcmp dX11_look_72 ?_
        refine V.if_ne (tgt := 91) dX11_look_73 (by decide) (fun c6 => ?_) (fun c6 => ?_)
        · rw [if_neg c6] at hf
          refine V.iinc (v := (l8 + 1)) (lv' := [(8, .int (l8 + 1)), (9, .long r2), (1, .int l1), (2, .int l2), (3, .int l3), (4, .int l4), (5, .int l5), (6, .int l6), (7, .int l7)]) dX11_look_91 8 rfl rfl (Nat.le_of_ble_eq_true rfl) rfl ?_
          refine V.goto (tgt := 35) dX11_look_94 (by decide) ?_
          refine V.sub [2, 3, 4, 5, 6, 7, 8, 0] rfl ?_
          exact ih _ _ _ _ _ _ _ _ _ hf
        · rw [if_pos c6] at hf
          refine V.lload dX11_look_76 0 rfl ?_
          obtain ⟨r7, e4, hf⟩ := bS hf
          refine V.callS (As := [.long r2]) (st := []) dX11_look_78 cl_RX11_370 sw_yJ13_bitCount_95d88 (by decide) rfl (Nat.le_of_ble_eq_true rfl) rfl (w_J13_bitCount_95d88 _ _ _ e4) ?_
          refine V.istore (lv' := [(4, .int r7), (9, .long r2), (1, .int l1), (2, .int l2), (3, .int l3), (5, .int l5), (6, .int l6), (7, .int l7), (8, .int l8)]) dX11_look_81 (by decide) rfl ?_
          refine V.iload dX11_look_83 7 rfl ?_
          refine V.istore (lv' := [(5, .int l7), (4, .int r7), (9, .long r2), (1, .int l1), (2, .int l2), (3, .int l3), (6, .int l6), (7, .int l7), (8, .int l8)]) dX11_look_85 (by decide) rfl ?_
          refine V.iload dX11_look_87 8 rfl ?_
          refine V.istore (lv' := [(6, .int l8), (5, .int l7), (4, .int r7), (9, .long r2), (1, .int l1), (2, .int l2), (3, .int l3), (7, .int l7), (8, .int l8)]) dX11_look_89 (by decide) rfl ?_
          refine V.iinc (v := (l8 + 1)) (lv' := [(8, .int (l8 + 1)), (6, .int l8), (5, .int l7), (4, .int r7), (9, .long r2), (1, .int l1), (2, .int l2), (3, .int l3), (7, .int l7)]) dX11_look_91 8 rfl rfl (Nat.le_of_ble_eq_true rfl) rfl ?_
          refine V.goto (tgt := 35) dX11_look_94 (by decide) ?_
          refine V.sub [5, 6, 7, 3, 2, 1, 8, 0] rfl ?_
          exact ih _ _ _ _ _ _ _ _ _ hf

set_option maxRecDepth 20000 in
theorem w_X11_look_25 (h : xH) : ∀ (n : Nat) (l1 : Int32) (l2 : Int32) (l3 : Int32) (l4 : Int32) (l5 : Int32) (l6 : Int32) (l7 : Int32) (r : (String × xH) ⊕ (Int32)), f_X11_look_25 h n l1 l2 l3 l4 l5 l6 l7 = some r → V 5 yX11_look cX11_look 11 (some .int) [] none 25 [(1, .int l1), (2, .int l2), (3, .int l3), (4, .int l4), (5, .int l5), (6, .int l6), (7, .int l7)] [] h (oTI h r) := by
  intro n
  induction n with
  | zero => intro l1 l2 l3 l4 l5 l6 l7 r hf; cases hf
  | succ n ih =>
    intro l1 l2 l3 l4 l5 l6 l7 r hf
    rw [f_X11_look_25] at hf
    refine V.iload dX11_look_25 6 rfl ?_
    refine V.bipush (v := (8 : Int32)) dX11_look_27 (by decide) ?_
    refine V.icmp_gt (tgt := 103) dX11_look_29 (by decide) (fun c1 => ?_) (fun c1 => ?_)
    · rw [if_pos c1] at hf
      refine V.iload_n dX11_look_103 rfl 2 rfl ?_
      refine V.if_ne (tgt := 120) dX11_look_104 (by decide) (fun c2 => ?_) (fun c2 => ?_)
      · rw [if_neg c2] at hf
        refine V.iload_n dX11_look_120 rfl 2 rfl ?_
        refine V.iconst (v := (1 : Int32)) dX11_look_121 (by decide) ?_
        refine V.icmp_ne (tgt := 130) dX11_look_122 (by decide) (fun c3 => ?_) (fun c3 => ?_)
        · rw [if_neg c3] at hf
          refine V.iload dX11_look_130 5 rfl ?_
          obtain rfl := Option.some.inj hf
          exact V.iret dX11_look_132
        · rw [if_pos c3] at hf
          refine V.iload dX11_look_125 4 rfl ?_
          refine V.goto (tgt := 132) dX11_look_127 (by decide) ?_
          obtain rfl := Option.some.inj hf
          exact V.iret dX11_look_132
      · rw [if_pos c2] at hf
        refine V.iload dX11_look_107 4 rfl ?_
        refine V.iconst (v := (-1 : Int32)) dX11_look_109 (by decide) ?_
        refine V.icmp_ne (tgt := 117) dX11_look_110 (by decide) (fun c4 => ?_) (fun c4 => ?_)
        · rw [if_neg c4] at hf
          refine V.iload dX11_look_117 3 rfl ?_
          obtain rfl := Option.some.inj hf
          exact V.iret dX11_look_119
        · rw [if_pos c4] at hf
          refine V.iconst (v := (-1 : Int32)) dX11_look_113 (by decide) ?_
          refine V.goto (tgt := 119) dX11_look_114 (by decide) ?_
          obtain rfl := Option.some.inj hf
          exact V.iret dX11_look_119
    · rw [if_neg c1] at hf
      refine V.iconst (v := (0 : Int32)) dX11_look_32 (by decide) ?_
      refine V.istore (lv' := [(8, .int (0 : Int32)), (1, .int l1), (2, .int l2), (3, .int l3), (4, .int l4), (5, .int l5), (6, .int l6), (7, .int l7)]) dX11_look_33 (by decide) rfl ?_
      refine V.sub [1, 2, 3, 4, 5, 6, 7, 0] rfl ?_
      exact w_X11_look_35 h ih _ _ _ _ _ _ _ _ _ _ hf

set_option maxRecDepth 20000 in
theorem w_X11_look (h : xH) (l0 : Nat) (l1 : Int32) (l2 : Int32) (l3 : Int32) (r : (String × xH) ⊕ (Int32)) (hf : f_X11_look h l0 l1 l2 l3 = some r) : Ev 5 yX11_look cX11_look 11 (some .int) [] [.ref l0, .int l1, .int l2, .int l3] h (oTI h r) := by
  refine Ev.of (by decide +kernel) (Nat.le_of_ble_eq_true rfl) ?_
  unfold f_X11_look at hf
  refine V.iload_n dX11_look_0 rfl 1 rfl ?_
  refine V.iload_n dX11_look_1 rfl 2 rfl ?_
  obtain ⟨r1, e5, hf⟩ := bS hf
  rcases r1 with E2 | v3
  · obtain rfl := Option.some.inj hf
    exact V.callST (As := [.int l1, .int l2]) (st := []) dX11_look_2 cl_RX11_356 sw_yX11_checkRow (by decide) rfl (Nat.le_of_ble_eq_true rfl) rfl (by decide) (w_X11_checkRow _ _ _ _ e5)
  · refine V.callS (As := [.int l1, .int l2]) (st := []) dX11_look_2 cl_RX11_356 sw_yX11_checkRow (by decide) rfl (Nat.le_of_ble_eq_true rfl) rfl (w_X11_checkRow _ _ _ _ e5) ?_
    refine V.iload_n dX11_look_5 rfl 3 rfl ?_
    refine V.iconst (v := (0 : Int32)) dX11_look_6 (by decide) ?_
    refine V.iconst (v := (2 : Int32)) dX11_look_7 (by decide) ?_
    obtain ⟨r4, e6, hf⟩ := bS hf
    rcases r4 with E5 | v6
    · obtain rfl := Option.some.inj hf
      exact V.callST (As := [.int l3, .int (0 : Int32), .int (2 : Int32)]) (st := []) dX11_look_8 cl_RX11_140 sw_yX11_checkWhat (by decide) rfl (Nat.le_of_ble_eq_true rfl) rfl (by decide) (w_X11_checkWhat _ _ _ _ _ e6)
    · refine V.callS (As := [.int l3, .int (0 : Int32), .int (2 : Int32)]) (st := []) dX11_look_8 cl_RX11_140 sw_yX11_checkWhat (by decide) rfl (Nat.le_of_ble_eq_true rfl) rfl (w_X11_checkWhat _ _ _ _ _ e6) ?_
      refine V.iload_n dX11_look_11 rfl 1 rfl ?_
      refine V.iconst (v := (1 : Int32)) dX11_look_12 (by decide) ?_
      refine V.iadd dX11_look_13 ?_
      refine V.istore (lv' := [(4, .int (l1 + (1 : Int32))), (0, .ref l0), (1, .int l1), (2, .int l2), (3, .int l3)]) dX11_look_14 (by decide) rfl ?_
      refine V.iconst (v := (-1 : Int32)) dX11_look_16 (by decide) ?_
      refine V.istore (lv' := [(5, .int (-1 : Int32)), (4, .int (l1 + (1 : Int32))), (0, .ref l0), (1, .int l1), (2, .int l2), (3, .int l3)]) dX11_look_17 (by decide) rfl ?_
      refine V.iconst (v := (-1 : Int32)) dX11_look_19 (by decide) ?_
      refine V.istore (lv' := [(6, .int (-1 : Int32)), (5, .int (-1 : Int32)), (4, .int (l1 + (1 : Int32))), (0, .ref l0), (1, .int l1), (2, .int l2), (3, .int l3)]) dX11_look_20 (by decide) rfl ?_
      refine V.iconst (v := (1 : Int32)) dX11_look_22 (by decide) ?_
      refine V.istore (lv' := [(7, .int (1 : Int32)), (6, .int (-1 : Int32)), (5, .int (-1 : Int32)), (4, .int (l1 + (1 : Int32))), (0, .ref l0), (1, .int l1), (2, .int l2), (3, .int l3)]) dX11_look_23 (by decide) rfl ?_
      refine V.sub [5, 6, 7, 3, 2, 1, 0] rfl ?_
      exact w_X11_look_25 h _ _ _ _ _ _ _ _ _ hf

def f_X11_lower (h : xH) (l0 : Nat) : Option (Int64) := (gJ h l0 11 9).bind fun v1 => some (v1)
set_option maxRecDepth 20000 in
theorem w_X11_lower (h : xH) (l0 : Nat) (r : Int64) (hf : f_X11_lower h l0 = some r) : Ev 3 yX11_lower cX11_lower 1 (some .long) [] [.ref l0] h (oJ h r) := by
  refine Ev.of (by decide +kernel) (Nat.le_of_ble_eq_true rfl) ?_
  unfold f_X11_lower at hf
  refine V.aload_n dX11_lower_0 rfl 0 rfl ?_
  obtain ⟨v1, e1, hf⟩ := bS hf
  refine V.xgJ dX11_lower_1 fl_RX11_49 e1 ?_
  obtain rfl := Option.some.inj hf
  exact V.lret dX11_lower_4

def f_X11_mixed (h : xH) (l0 : Nat) (l1 : Int32) (l2 : Int32) : Option ((String × xH) ⊕ (Int32 × xH)) := (f_X11_checkHour h l1).bind fun r1 => (match r1 with | .inl E2 => (some (.inl E2)) | .inr v3 => ((gR h l0 11 4).bind fun v4 => (gI h v4 3 1).bind fun v5 => (if v5 ≤ (8 : Int32) then ((gR h l0 11 4).bind fun v7 => (gI h v7 3 1).bind fun v8 => (f_X11_checkWhat h l2 (-2 : Int32) (v8 - (1 : Int32))).bind fun r9 => (match r9 with | .inl E10 => (some (.inl E10)) | .inr v11 => ((gR h l0 11 14).bind fun v12 => (gR h l0 11 4).bind fun v13 => (gO h v12 6).bind fun q14 => (f_X6_find h v12 v13 l1).bind fun r15 => (if r15.1 = 0 then (some (.inr ((-1 : Int32), r15.2))) else ((if l2 = (-2 : Int32) then ((gR r15.2 l0 11 14).bind fun v24 => (gI r15.2 v24 6 1).bind fun v25 => some (.inr (v25, r15.2))) else ((if l2 = (-1 : Int32) then ((gR r15.2 l0 11 14).bind fun v22 => (gI r15.2 v22 6 0).bind fun v23 => some (.inr (v23, r15.2))) else ((gR r15.2 l0 11 14).bind fun v19 => (gR r15.2 v19 6 2).bind fun v20 => (ldI r15.2 .int v20 l2).bind fun v21 => some (.inr (v21, r15.2))))))))))) else (some (.inl ("java/lang/IllegalArgumentException", thr h))))))
set_option maxRecDepth 20000 in
theorem w_X11_mixed (h : xH) (l0 : Nat) (l1 : Int32) (l2 : Int32) (r : (String × xH) ⊕ (Int32 × xH)) (hf : f_X11_mixed h l0 l1 l2 = some r) : Ev 48 yX11_mixed cX11_mixed 3 (some .int) [] [.ref l0, .int l1, .int l2] h (oTIh r) := by
  refine Ev.of (by decide +kernel) (Nat.le_of_ble_eq_true rfl) ?_
  unfold f_X11_mixed at hf
  refine V.iload_n dX11_mixed_0 rfl 1 rfl ?_
  obtain ⟨r1, e1, hf⟩ := bS hf
  rcases r1 with E2 | v3
  · obtain rfl := Option.some.inj hf
    exact V.callST (As := [.int l1]) (st := []) dX11_mixed_1 cl_RX11_181 sw_yX11_checkHour (by decide) rfl (Nat.le_of_ble_eq_true rfl) rfl (by decide) (w_X11_checkHour _ _ _ e1)
  · refine V.callS (As := [.int l1]) (st := []) dX11_mixed_1 cl_RX11_181 sw_yX11_checkHour (by decide) rfl (Nat.le_of_ble_eq_true rfl) rfl (w_X11_checkHour _ _ _ e1) ?_
    refine V.aload_n dX11_mixed_4 rfl 0 rfl ?_
    obtain ⟨v4, e2, hf⟩ := bS hf
    refine V.xgR dX11_mixed_5 fl_RX11_26 e2 ?_
    obtain ⟨v5, e3, hf⟩ := bS hf
    refine V.xgI dX11_mixed_8 fl_RX11_162 e3 ?_
    refine V.bipush (v := (8 : Int32)) dX11_mixed_11 (by decide) ?_
    refine V.icmp_le (tgt := 26) dX11_mixed_13 (by decide) (fun c6 => ?_) (fun c6 => ?_)
    · rw [if_pos c6] at hf
      refine V.iload_n dX11_mixed_26 rfl 2 rfl ?_
      refine V.bipush (v := (-2 : Int32)) dX11_mixed_27 (by decide) ?_
      refine V.aload_n dX11_mixed_29 rfl 0 rfl ?_
      obtain ⟨v7, e4, hf⟩ := bS hf
      refine V.xgR dX11_mixed_30 fl_RX11_26 e4 ?_
      obtain ⟨v8, e5, hf⟩ := bS hf
      refine V.xgI dX11_mixed_33 fl_RX11_162 e5 ?_
      refine V.iconst (v := (1 : Int32)) dX11_mixed_36 (by decide) ?_
      refine V.isub dX11_mixed_37 ?_
      obtain ⟨r9, e6, hf⟩ := bS hf
      rcases r9 with E10 | v11
      · obtain rfl := Option.some.inj hf
        exact V.callST (As := [.int l2, .int (-2 : Int32), .int (v8 - (1 : Int32))]) (st := []) dX11_mixed_38 cl_RX11_140 sw_yX11_checkWhat (by decide) rfl (Nat.le_of_ble_eq_true rfl) rfl (by decide) (w_X11_checkWhat _ _ _ _ _ e6)
      · refine V.callS (As := [.int l2, .int (-2 : Int32), .int (v8 - (1 : Int32))]) (st := []) dX11_mixed_38 cl_RX11_140 sw_yX11_checkWhat (by decide) rfl (Nat.le_of_ble_eq_true rfl) rfl (w_X11_checkWhat _ _ _ _ _ e6) ?_
        refine V.aload_n dX11_mixed_41 rfl 0 rfl ?_
        obtain ⟨v12, e7, hf⟩ := bS hf
        refine V.xgR dX11_mixed_42 fl_RX11_80 e7 ?_
        refine V.aload_n dX11_mixed_45 rfl 0 rfl ?_
        obtain ⟨v13, e8, hf⟩ := bS hf
        refine V.xgR dX11_mixed_46 fl_RX11_26 e8 ?_
        refine V.iload_n dX11_mixed_49 rfl 1 rfl ?_
        obtain ⟨q14, e9, hf⟩ := bS hf
        obtain ⟨r15, e10, hf⟩ := bS hf
        refine V.callV (As := [.ref v13, .int l1]) (st := []) dX11_mixed_50 cl_RX11_253 sw_yX6_find (by decide) rfl (Nat.le_of_ble_eq_true rfl) rfl (gO_some e9) rfl (w_X6_find _ _ _ _ _ e10) ?_
        refine V.if_ne (tgt := 58) dX11_mixed_53 (by decide) (fun c16 => ?_) (fun c16 => ?_)
        · rw [if_neg c16] at hf
          refine V.iload_n dX11_mixed_58 rfl 2 rfl ?_
          refine V.bipush (v := (-2 : Int32)) dX11_mixed_59 (by decide) ?_
          refine V.icmp_ne (tgt := 72) dX11_mixed_61 (by decide) (fun c17 => ?_) (fun c17 => ?_)
          · rw [if_neg c17] at hf
            refine V.iload_n dX11_mixed_72 rfl 2 rfl ?_
            refine V.iconst (v := (-1 : Int32)) dX11_mixed_73 (by decide) ?_
            refine V.icmp_ne (tgt := 87) dX11_mixed_74 (by decide) (fun c18 => ?_) (fun c18 => ?_)
            · rw [if_neg c18] at hf
              refine V.aload_n dX11_mixed_87 rfl 0 rfl ?_
              obtain ⟨v19, e11, hf⟩ := bS hf
              refine V.xgR dX11_mixed_88 fl_RX11_80 e11 ?_
              obtain ⟨v20, e12, hf⟩ := bS hf
              refine V.rgR dX11_mixed_91 fl_RX11_263 e12 ?_
              refine V.iload_n dX11_mixed_94 rfl 2 rfl ?_
              obtain ⟨v21, e13, hf⟩ := bS hf
              refine V.xldI dX11_mixed_95 e13 ?_
              obtain rfl := Option.some.inj hf
              exact V.iret dX11_mixed_96
            · rw [if_pos c18] at hf
              refine V.aload_n dX11_mixed_77 rfl 0 rfl ?_
              obtain ⟨v22, e14, hf⟩ := bS hf
              refine V.xgR dX11_mixed_78 fl_RX11_80 e14 ?_
              obtain ⟨v23, e15, hf⟩ := bS hf
              refine V.xgI dX11_mixed_81 fl_RX11_260 e15 ?_
              refine V.goto (tgt := 96) dX11_mixed_84 (by decide) ?_
              obtain rfl := Option.some.inj hf
              exact V.iret dX11_mixed_96
          · rw [if_pos c17] at hf
            refine V.aload_n dX11_mixed_64 rfl 0 rfl ?_
            obtain ⟨v24, e16, hf⟩ := bS hf
            refine V.xgR dX11_mixed_65 fl_RX11_80 e16 ?_
            obtain ⟨v25, e17, hf⟩ := bS hf
            refine V.xgI dX11_mixed_68 fl_RX11_257 e17 ?_
            obtain rfl := Option.some.inj hf
            exact V.iret dX11_mixed_71
        · rw [if_pos c16] at hf
          refine V.iconst (v := (-1 : Int32)) dX11_mixed_56 (by decide) ?_
          obtain rfl := Option.some.inj hf
          exact V.iret dX11_mixed_57
    · rw [if_neg c6] at hf
      obtain rfl := Option.some.inj hf
      exact V.throwS (i := 26) th_110 (by decide) dX11_mixed_16 dX11_mixed_19 dX11_mixed_20 dX11_mixed_22 dX11_mixed_25 (by decide) (Nat.le_of_ble_eq_true rfl)

def f_X11_never_4 (h : xH) : Nat → Nat → Int32 → Int32 → Option (Int32)
  | 0, _, _, _ => none
  | n + 1, l0, l1, l2 => (gR h l0 11 4).bind fun v1 => (gI h v1 3 1).bind fun v2 => (if v2 ≤ l2 then (some (l1)) else ((gR h l0 11 4).bind fun v4 => (gR h v4 3 13).bind fun v5 => (ldI h .int v5 l2).bind fun v6 => (if v6 = 0 then (f_X11_never_4 h n l0 (l1 ||| ((1 : Int32) <<< (l2 &&& 31))) (l2 + 1)) else (f_X11_never_4 h n l0 l1 (l2 + 1)))))
def f_X11_never (h : xH) (l0 : Nat) : Option (Int32) := f_X11_never_4 h xFU l0 (0 : Int32) (0 : Int32)
set_option maxRecDepth 20000 in
theorem w_X11_never_4 (h : xH) : ∀ (n : Nat) (l0 : Nat) (l1 : Int32) (l2 : Int32) (r : Int32), f_X11_never_4 h n l0 l1 l2 = some r → V 3 yX11_never cX11_never 3 (some .int) [] none 4 [(0, .ref l0), (1, .int l1), (2, .int l2)] [] h (oI h r) := by
  intro n
  induction n with
  | zero => intro l0 l1 l2 r hf; cases hf
  | succ n ih =>
    intro l0 l1 l2 r hf
    rw [f_X11_never_4] at hf
    refine V.iload_n dX11_never_4 rfl 2 rfl ?_
    refine V.aload_n dX11_never_5 rfl 0 rfl ?_
    obtain ⟨v1, e1, hf⟩ := bS hf
    refine V.xgR dX11_never_6 fl_RX11_26 e1 ?_
    obtain ⟨v2, e2, hf⟩ := bS hf
    refine V.xgI dX11_never_9 fl_RX11_162 e2 ?_
    refine V.icmp_ge (tgt := 39) dX11_never_12 (by decide) (fun c3 => ?_) (fun c3 => ?_)
    · rw [if_pos c3] at hf
      refine V.iload_n dX11_never_39 rfl 1 rfl ?_
      obtain rfl := Option.some.inj hf
      exact V.iret dX11_never_40
    · rw [if_neg c3] at hf
      refine V.aload_n dX11_never_15 rfl 0 rfl ?_
      obtain ⟨v4, e3, hf⟩ := bS hf
      refine V.xgR dX11_never_16 fl_RX11_26 e3 ?_
      obtain ⟨v5, e4, hf⟩ := bS hf
      refine V.rgR dX11_never_19 fl_RX11_156 e4 ?_
      refine V.iload_n dX11_never_22 rfl 2 rfl ?_
      obtain ⟨v6, e5, hf⟩ := bS hf
      refine V.xldI dX11_never_23 e5 ?_
      refine V.if_ne (tgt := 33) dX11_never_24 (by decide) (fun c7 => ?_) (fun c7 => ?_)
      · rw [if_neg c7] at hf
        refine V.iinc (v := (l2 + 1)) (lv' := [(2, .int (l2 + 1)), (0, .ref l0), (1, .int l1)]) dX11_never_33 2 rfl rfl (Nat.le_of_ble_eq_true rfl) rfl ?_
        refine V.goto (tgt := 4) dX11_never_36 (by decide) ?_
        refine V.sub [1, 2, 0] rfl ?_
        exact ih _ _ _ _ hf
      · rw [if_pos c7] at hf
        refine V.iload_n dX11_never_27 rfl 1 rfl ?_
        refine V.iconst (v := (1 : Int32)) dX11_never_28 (by decide) ?_
        refine V.iload_n dX11_never_29 rfl 2 rfl ?_
        refine V.ishl dX11_never_30 ?_
        refine V.ior dX11_never_31 ?_
        refine V.istore_n (lv' := [(1, .int (l1 ||| ((1 : Int32) <<< (l2 &&& 31)))), (0, .ref l0), (2, .int l2)]) dX11_never_32 rfl (by decide) rfl ?_
        refine V.iinc (v := (l2 + 1)) (lv' := [(2, .int (l2 + 1)), (1, .int (l1 ||| ((1 : Int32) <<< (l2 &&& 31)))), (0, .ref l0)]) dX11_never_33 2 rfl rfl (Nat.le_of_ble_eq_true rfl) rfl ?_
        refine V.goto (tgt := 4) dX11_never_36 (by decide) ?_
        refine V.sub [2, 1, 0] rfl ?_
        exact ih _ _ _ _ hf

set_option maxRecDepth 20000 in
theorem w_X11_never (h : xH) (l0 : Nat) (r : Int32) (hf : f_X11_never h l0 = some r) : Ev 3 yX11_never cX11_never 3 (some .int) [] [.ref l0] h (oI h r) := by
  refine Ev.of (by decide +kernel) (Nat.le_of_ble_eq_true rfl) ?_
  unfold f_X11_never at hf
  refine V.iconst (v := (0 : Int32)) dX11_never_0 (by decide) ?_
  refine V.istore_n (lv' := [(1, .int (0 : Int32)), (0, .ref l0)]) dX11_never_1 rfl (by decide) rfl ?_
  refine V.iconst (v := (0 : Int32)) dX11_never_2 (by decide) ?_
  refine V.istore_n (lv' := [(2, .int (0 : Int32)), (1, .int (0 : Int32)), (0, .ref l0)]) dX11_never_3 rfl (by decide) rfl ?_
  refine V.sub [2, 1, 0] rfl ?_
  exact w_X11_never_4 h _ _ _ _ _ hf

def f_X11_next (h : xH) (l0 : Nat) (l1 : Int32) : Option ((String × xH) ⊕ (Int32)) := (gO h l0 11).bind fun q1 => (f_X11_checkRoom h l0 l1).bind fun r2 => (match r2 with | .inl E3 => (some (.inl E3)) | .inr v4 => ((gR h l0 11 4).bind fun v5 => (gR h v5 3 13).bind fun v6 => (ldI h .int v6 l1).bind fun v7 => some (.inr v7)))
set_option maxRecDepth 20000 in
theorem w_X11_next (h : xH) (l0 : Nat) (l1 : Int32) (r : (String × xH) ⊕ (Int32)) (hf : f_X11_next h l0 l1 = some r) : Ev 5 yX11_next cX11_next 2 (some .int) [] [.ref l0, .int l1] h (oTI h r) := by
  refine Ev.of (by decide +kernel) (Nat.le_of_ble_eq_true rfl) ?_
  unfold f_X11_next at hf
  refine V.aload_n dX11_next_0 rfl 0 rfl ?_
  refine V.iload_n dX11_next_1 rfl 1 rfl ?_
  obtain ⟨q1, e1, hf⟩ := bS hf
  obtain ⟨r2, e2, hf⟩ := bS hf
  rcases r2 with E3 | v4
  · obtain rfl := Option.some.inj hf
    exact V.callVT (As := [.int l1]) (st := []) dX11_next_2 cl_RX11_153 sw_yX11_checkRoom (by decide) rfl (Nat.le_of_ble_eq_true rfl) rfl (gO_some e1) rfl (by decide) (w_X11_checkRoom _ _ _ _ e2)
  · refine V.callV (As := [.int l1]) (st := []) dX11_next_2 cl_RX11_153 sw_yX11_checkRoom (by decide) rfl (Nat.le_of_ble_eq_true rfl) rfl (gO_some e1) rfl (w_X11_checkRoom _ _ _ _ e2) ?_
    refine V.aload_n dX11_next_5 rfl 0 rfl ?_
    obtain ⟨v5, e3, hf⟩ := bS hf
    refine V.xgR dX11_next_6 fl_RX11_26 e3 ?_
    obtain ⟨v6, e4, hf⟩ := bS hf
    refine V.rgR dX11_next_9 fl_RX11_156 e4 ?_
    refine V.iload_n dX11_next_12 rfl 1 rfl ?_
    obtain ⟨v7, e5, hf⟩ := bS hf
    refine V.xldI dX11_next_13 e5 ?_
    obtain rfl := Option.some.inj hf
    exact V.iret dX11_next_14

def f_X11_night_10 (h : xH) : Option ((String × xH) ⊕ (Int32 × xH)) := some (.inl ("java/lang/IllegalArgumentException", thr h))
def f_X11_night_165 (k42 : xH → Nat → Int32 → Int32 → Int32 → Int32 → Int32 → Int32 → Int32 → Option ((String × xH) ⊕ (Int32 × xH))) (h : xH) (l0 : Nat) (l2 : Int32) (l3 : Int32) (l4 : Int32) (l5 : Int32) (l7 : Int32) (l8 : Int32) (s0 : Int32) (s1 : Int32) : Option ((String × xH) ⊕ (Int32 × xH)) := k42 h l0 l2 l3 l4 l5 (s1 + s0) l7 (l8 + 1)
def f_X11_night_67 (k42 : xH → Nat → Int32 → Int32 → Int32 → Int32 → Int32 → Int32 → Int32 → Option ((String × xH) ⊕ (Int32 × xH))) : Nat → xH → Nat → Int32 → Int32 → Int32 → Int32 → Int32 → Int32 → Int32 → Int32 → Int32 → Int32 → Option ((String × xH) ⊕ (Int32 × xH))
  | 0, _, _, _, _, _, _, _, _, _, _, _, _ => none
  | n + 1, h, l0, l2, l3, l4, l5, l6, l7, l8, l9, l10, l11 => (gR h l0 11 4).bind fun v1 => (gI h v1 3 1).bind fun v2 => (if v2 ≤ l11 then ((gO h l0 11).bind fun q4 => (f_X11_darkRooms h l0 l8 l10).bind fun r5 => (f_J6_bitCount_0f7a4 r5.2 (r5.1)).bind fun r6 => (if r5.1 = 0 then (f_X11_night_165 k42 r5.2 l0 l2 l3 l4 (l5 + r6) l7 l8 (0 : Int32) l6) else (f_X11_night_165 k42 r5.2 l0 l2 l3 l4 (l5 + r6) l7 l8 (1 : Int32) l6))) else ((if ((l9 >>> (l11 &&& 31)) &&& (1 : Int32)) = 0 then (f_X11_night_67 k42 n h l0 l2 l3 l4 l5 l6 l7 l8 l9 l10 (l11 + 1)) else ((rmI (UInt32.toInt32 (Int32.toUInt32 (((1103515245 : Int32) * l4) + (12345 : Int32)) >>> (Int32.toUInt32 (16 : Int32) &&& Int32.toUInt32 31))) (100 : Int32)).bind fun v9 => (if l2 ≤ v9 then (f_X11_night_67 k42 n h l0 l2 l3 (((1103515245 : Int32) * l4) + (12345 : Int32)) l5 l6 l7 l8 l9 l10 (l11 + 1)) else (f_X11_night_67 k42 n h l0 l2 l3 (((1103515245 : Int32) * l4) + (12345 : Int32)) l5 l6 (l7 + 1) l8 l9 (l10 &&& (((1 : Int32) <<< (l11 &&& 31)) ^^^ (-1 : Int32))) (l11 + 1)))))))
def f_X11_night_42 : Nat → xH → Nat → Int32 → Int32 → Int32 → Int32 → Int32 → Int32 → Int32 → Option ((String × xH) ⊕ (Int32 × xH))
  | 0, _, _, _, _, _, _, _, _, _ => none
  | n + 1, h, l0, l2, l3, l4, l5, l6, l7, l8 => (if (24 : Int32) ≤ l8 then ((if l3 = 0 then (some (.inr (l5, h))) else ((if l3 = (1 : Int32) then (some (.inr (l6, h))) else (some (.inr (l7, h))))))) else ((gR h l0 11 5).bind fun v4 => (gO h v4 5).bind fun q5 => (f_X5_burning h v4 l8).bind fun r6 => f_X11_night_67 (f_X11_night_42 n) xFU h l0 l2 l3 l4 l5 l6 l7 l8 r6 r6 (0 : Int32)))
def f_X11_night (h : xH) (l0 : Nat) (l1 : Int32) (l2 : Int32) (l3 : Int32) : Option ((String × xH) ⊕ (Int32 × xH)) := (if l2 < 0 then (f_X11_night_10 h) else ((if l2 ≤ (100 : Int32) then ((f_X11_checkWhat h l3 (0 : Int32) (2 : Int32)).bind fun r3 => (match r3 with | .inl E4 => (some (.inl E4)) | .inr v5 => (f_X11_night_42 xFU h l0 l2 l3 l1 (0 : Int32) (0 : Int32) (0 : Int32) (0 : Int32)))) else (f_X11_night_10 h))))
set_option maxRecDepth 20000 in
theorem w_X11_night_10 (h : xH) (r : (String × xH) ⊕ (Int32 × xH)) (hf : f_X11_night_10 h = some r) : V 6 yX11_night cX11_night 12 (some .int) [] none 10 [] [] h (oTIh r) := by
  unfold f_X11_night_10 at hf
  obtain rfl := Option.some.inj hf
  exact V.throwSW (i := 39) th_110 (by decide) dX11_night_10 dX11_night_13 dX11_night_14 dX11_night_17 dX11_night_20 (by decide) (Nat.le_of_ble_eq_true rfl)

set_option maxRecDepth 20000 in
theorem w_X11_night_165 (h : xH) {k42 : xH → Nat → Int32 → Int32 → Int32 → Int32 → Int32 → Int32 → Int32 → Option ((String × xH) ⊕ (Int32 × xH))} (hk42 : ∀ (h : xH) (l0 : Nat) (l2 : Int32) (l3 : Int32) (l4 : Int32) (l5 : Int32) (l6 : Int32) (l7 : Int32) (l8 : Int32) (r : (String × xH) ⊕ (Int32 × xH)), k42 h l0 l2 l3 l4 l5 l6 l7 l8 = some r → V 6 yX11_night cX11_night 12 (some .int) [] none 42 [(0, .ref l0), (2, .int l2), (3, .int l3), (4, .int l4), (5, .int l5), (6, .int l6), (7, .int l7), (8, .int l8)] [] h (oTIh r)) (l0 : Nat) (l2 : Int32) (l3 : Int32) (l4 : Int32) (l5 : Int32) (l7 : Int32) (l8 : Int32) (s0 : Int32) (s1 : Int32) (r : (String × xH) ⊕ (Int32 × xH)) (hf : f_X11_night_165 k42 h l0 l2 l3 l4 l5 l7 l8 s0 s1 = some r) : V 6 yX11_night cX11_night 12 (some .int) [] none 165 [(0, .ref l0), (2, .int l2), (3, .int l3), (4, .int l4), (5, .int l5), (7, .int l7), (8, .int l8)] [.int s0, .int s1] h (oTIh r) := by
  unfold f_X11_night_165 at hf
  refine V.iadd dX11_night_165 ?_
  refine V.istore (lv' := [(6, .int (s1 + s0)), (0, .ref l0), (2, .int l2), (3, .int l3), (4, .int l4), (5, .int l5), (7, .int l7), (8, .int l8)]) dX11_night_166 (by decide) rfl ?_
  refine V.iinc (v := (l8 + 1)) (lv' := [(8, .int (l8 + 1)), (6, .int (s1 + s0)), (0, .ref l0), (2, .int l2), (3, .int l3), (4, .int l4), (5, .int l5), (7, .int l7)]) dX11_night_168 7 rfl rfl (Nat.le_of_ble_eq_true rfl) rfl ?_
  refine V.goto (tgt := 42) dX11_night_171 (by decide) ?_
  refine V.sub [2, 3, 4, 5, 6, 1, 7, 0] rfl ?_
  exact hk42 _ _ _ _ _ _ _ _ _ _ hf

set_option maxRecDepth 20000 in
theorem w_X11_night_67 {k42 : xH → Nat → Int32 → Int32 → Int32 → Int32 → Int32 → Int32 → Int32 → Option ((String × xH) ⊕ (Int32 × xH))} (hk42 : ∀ (h : xH) (l0 : Nat) (l2 : Int32) (l3 : Int32) (l4 : Int32) (l5 : Int32) (l6 : Int32) (l7 : Int32) (l8 : Int32) (r : (String × xH) ⊕ (Int32 × xH)), k42 h l0 l2 l3 l4 l5 l6 l7 l8 = some r → V 6 yX11_night cX11_night 12 (some .int) [] none 42 [(0, .ref l0), (2, .int l2), (3, .int l3), (4, .int l4), (5, .int l5), (6, .int l6), (7, .int l7), (8, .int l8)] [] h (oTIh r)) : ∀ (n : Nat) (h : xH) (l0 : Nat) (l2 : Int32) (l3 : Int32) (l4 : Int32) (l5 : Int32) (l6 : Int32) (l7 : Int32) (l8 : Int32) (l9 : Int32) (l10 : Int32) (l11 : Int32) (r : (String × xH) ⊕ (Int32 × xH)), f_X11_night_67 k42 n h l0 l2 l3 l4 l5 l6 l7 l8 l9 l10 l11 = some r → V 6 yX11_night cX11_night 12 (some .int) [] none 67 [(0, .ref l0), (2, .int l2), (3, .int l3), (4, .int l4), (5, .int l5), (6, .int l6), (7, .int l7), (8, .int l8), (9, .int l9), (10, .int l10), (11, .int l11)] [] h (oTIh r) := by
  intro n
  induction n with
  | zero => intro h l0 l2 l3 l4 l5 l6 l7 l8 l9 l10 l11 r hf; cases hf
  | succ n ih =>
    intro h l0 l2 l3 l4 l5 l6 l7 l8 l9 l10 l11 r hf
    rw [f_X11_night_67] at hf
    refine V.iload dX11_night_67 10 rfl ?_
    refine V.aload_n dX11_night_69 rfl 0 rfl ?_
    obtain ⟨v1, e1, hf⟩ := bS hf
    refine V.xgR dX11_night_70 fl_RX11_26 e1 ?_
    obtain ⟨v2, e2, hf⟩ := bS hf
    refine V.xgI dX11_night_73 fl_RX11_162 e2 ?_
    refine V.icmp_ge (tgt := 133) dX11_night_76 (by decide) (fun c3 => ?_) (fun c3 => ?_)
    · rw [if_pos c3] at hf
      refine V.aload_n dX11_night_133 rfl 0 rfl ?_
      refine V.iload dX11_night_134 7 rfl ?_
      refine V.iload dX11_night_136 9 rfl ?_
      obtain ⟨q4, e3, hf⟩ := bS hf
      obtain ⟨r5, e4, hf⟩ := bS hf
      refine V.callV (As := [.int l8, .int l10]) (st := []) dX11_night_138 cl_RX11_192 sw_yX11_darkRooms (by decide) rfl (Nat.le_of_ble_eq_true rfl) rfl (gO_some e3) rfl (w_X11_darkRooms _ _ _ _ _ e4) ?_
      refine V.istore (lv' := [(11, .int r5.1), (0, .ref l0), (2, .int l2), (3, .int l3), (4, .int l4), (5, .int l5), (6, .int l6), (7, .int l7), (8, .int l8), (9, .int l9), (10, .int l10)]) dX11_night_141 (by decide) rfl ?_
      refine V.iload dX11_night_143 5 rfl ?_
      refine V.iload dX11_night_145 0 rfl ?_
      obtain ⟨r6, e5, hf⟩ := bS hf
      refine V.callS (As := [.int (r5.1)]) (st := [.int l5]) dX11_night_147 cl_RX11_205 sw_yJ6_bitCount_0f7a4 (by decide) rfl (Nat.le_of_ble_eq_true rfl) rfl (w_J6_bitCount_0f7a4 _ _ _ e5) ?_
      refine V.iadd dX11_night_150 ?_
      refine V.istore (lv' := [(5, .int (l5 + r6)), (11, .int r5.1), (0, .ref l0), (2, .int l2), (3, .int l3), (4, .int l4), (6, .int l6), (7, .int l7), (8, .int l8), (9, .int l9), (10, .int l10)]) dX11_night_151 (by decide) rfl ?_
      refine V.iload dX11_night_153 6 rfl ?_
      refine V.iload dX11_night_155 1 rfl ?_
      refine V.if_eq (tgt := 164) dX11_night_157 (by decide) (fun c7 => ?_) (fun c7 => ?_)
      · rw [if_pos c7] at hf
        refine V.iconst (v := (0 : Int32)) dX11_night_164 (by decide) ?_
        refine V.sub [2, 3, 4, 5, 0, 7, 8] rfl ?_
        exact w_X11_night_165 _ hk42 _ _ _ _ _ _ _ _ _ _ hf
      · rw [if_neg c7] at hf
        refine V.iconst (v := (1 : Int32)) dX11_night_160 (by decide) ?_
        refine V.goto (tgt := 165) dX11_night_161 (by decide) ?_
        refine V.sub [2, 3, 4, 5, 0, 7, 8] rfl ?_
        exact w_X11_night_165 _ hk42 _ _ _ _ _ _ _ _ _ _ hf
    · rw [if_neg c3] at hf
      refine V.iload dX11_night_79 8 rfl ?_
      refine V.iload dX11_night_81 10 rfl ?_
      refine V.ishr dX11_night_83 ?_
      refine V.iconst (v := (1 : Int32)) dX11_night_84 (by decide) ?_
      refine V.iand dX11_night_85 ?_
      refine V.if_eq (tgt := 127) dX11_night_86 (by decide) (fun c8 => ?_) (fun c8 => ?_)
      · rw [if_pos c8] at hf
        refine V.iinc (v := (l11 + 1)) (lv' := [(11, .int (l11 + 1)), (0, .ref l0), (2, .int l2), (3, .int l3), (4, .int l4), (5, .int l5), (6, .int l6), (7, .int l7), (8, .int l8), (9, .int l9), (10, .int l10)]) dX11_night_127 10 rfl rfl (Nat.le_of_ble_eq_true rfl) rfl ?_
        refine V.goto (tgt := 67) dX11_night_130 (by decide) ?_
        refine V.sub [1, 2, 3, 4, 5, 6, 7, 8, 9, 10, 0] rfl ?_
        exact ih _ _ _ _ _ _ _ _ _ _ _ _ _ hf
      · rw [if_neg c8] at hf
        refine V.ldcw (v := 1103515245) dX11_night_89 co_RX11_377 ?_
        refine V.iload dX11_night_92 3 rfl ?_
        refine V.imul dX11_night_94 ?_
        refine V.sipush (v := (12345 : Int32)) dX11_night_95 (by decide) ?_
        refine V.iadd dX11_night_98 ?_
        refine V.istore (lv' := [(4, .int (((1103515245 : Int32) * l4) + (12345 : Int32))), (0, .ref l0), (2, .int l2), (3, .int l3), (5, .int l5), (6, .int l6), (7, .int l7), (8, .int l8), (9, .int l9), (10, .int l10), (11, .int l11)]) dX11_night_99 (by decide) rfl ?_
        refine V.iload dX11_night_101 0 rfl ?_
        refine V.bipush (v := (16 : Int32)) dX11_night_103 (by decide) ?_
        refine V.iushr dX11_night_105 ?_
        refine V.bipush (v := (100 : Int32)) dX11_night_106 (by decide) ?_
        obtain ⟨v9, e6, hf⟩ := bS hf
        refine V.xrmI dX11_night_108 e6 ?_
        refine V.iload_n dX11_night_109 rfl 2 rfl ?_
        refine V.icmp_ge (tgt := 127) dX11_night_110 (by decide) (fun c10 => ?_) (fun c10 => ?_)
        · rw [if_pos c10] at hf
          refine V.iinc (v := (l11 + 1)) (lv' := [(11, .int (l11 + 1)), (4, .int (((1103515245 : Int32) * l4) + (12345 : Int32))), (0, .ref l0), (2, .int l2), (3, .int l3), (5, .int l5), (6, .int l6), (7, .int l7), (8, .int l8), (9, .int l9), (10, .int l10)]) dX11_night_127 10 rfl rfl (Nat.le_of_ble_eq_true rfl) rfl ?_
          refine V.goto (tgt := 67) dX11_night_130 (by decide) ?_
          refine V.sub [2, 3, 4, 1, 5, 6, 7, 8, 9, 10, 0] rfl ?_
          exact ih _ _ _ _ _ _ _ _ _ _ _ _ _ hf
        · rw [if_neg c10] at hf
          refine V.iload dX11_night_113 9 rfl ?_
          refine V.iconst (v := (1 : Int32)) dX11_night_115 (by decide) ?_
          refine V.iload dX11_night_116 10 rfl ?_
          refine V.ishl dX11_night_118 ?_
          refine V.iconst (v := (-1 : Int32)) dX11_night_119 (by decide) ?_
          refine V.ixor dX11_night_120 ?_
          refine V.iand dX11_night_121 ?_
          refine V.istore (lv' := [(10, .int (l10 &&& (((1 : Int32) <<< (l11 &&& 31)) ^^^ (-1 : Int32)))), (4, .int (((1103515245 : Int32) * l4) + (12345 : Int32))), (0, .ref l0), (2, .int l2), (3, .int l3), (5, .int l5), (6, .int l6), (7, .int l7), (8, .int l8), (9, .int l9), (11, .int l11)]) dX11_night_122 (by decide) rfl ?_
          refine V.iinc (v := (l7 + 1)) (lv' := [(7, .int (l7 + 1)), (10, .int (l10 &&& (((1 : Int32) <<< (l11 &&& 31)) ^^^ (-1 : Int32)))), (4, .int (((1103515245 : Int32) * l4) + (12345 : Int32))), (0, .ref l0), (2, .int l2), (3, .int l3), (5, .int l5), (6, .int l6), (8, .int l8), (9, .int l9), (11, .int l11)]) dX11_night_124 7 rfl rfl (Nat.le_of_ble_eq_true rfl) rfl ?_
          refine V.iinc (v := (l11 + 1)) (lv' := [(11, .int (l11 + 1)), (7, .int (l7 + 1)), (10, .int (l10 &&& (((1 : Int32) <<< (l11 &&& 31)) ^^^ (-1 : Int32)))), (4, .int (((1103515245 : Int32) * l4) + (12345 : Int32))), (0, .ref l0), (2, .int l2), (3, .int l3), (5, .int l5), (6, .int l6), (8, .int l8), (9, .int l9)]) dX11_night_127 10 rfl rfl (Nat.le_of_ble_eq_true rfl) rfl ?_
          refine V.goto (tgt := 67) dX11_night_130 (by decide) ?_
          refine V.sub [4, 5, 6, 3, 7, 8, 1, 9, 10, 2, 0] rfl ?_
          exact ih _ _ _ _ _ _ _ _ _ _ _ _ _ hf

set_option maxRecDepth 20000 in
theorem w_X11_night_42 : ∀ (n : Nat) (h : xH) (l0 : Nat) (l2 : Int32) (l3 : Int32) (l4 : Int32) (l5 : Int32) (l6 : Int32) (l7 : Int32) (l8 : Int32) (r : (String × xH) ⊕ (Int32 × xH)), f_X11_night_42 n h l0 l2 l3 l4 l5 l6 l7 l8 = some r → V 6 yX11_night cX11_night 12 (some .int) [] none 42 [(0, .ref l0), (2, .int l2), (3, .int l3), (4, .int l4), (5, .int l5), (6, .int l6), (7, .int l7), (8, .int l8)] [] h (oTIh r) := by
  intro n
  induction n with
  | zero => intro h l0 l2 l3 l4 l5 l6 l7 l8 r hf; cases hf
  | succ n ih =>
    intro h l0 l2 l3 l4 l5 l6 l7 l8 r hf
    rw [f_X11_night_42] at hf
    refine V.iload dX11_night_42 7 rfl ?_
    refine V.bipush (v := (24 : Int32)) dX11_night_44 (by decide) ?_
    refine V.icmp_ge (tgt := 174) dX11_night_46 (by decide) (fun c1 => ?_) (fun c1 => ?_)
    · rw [if_pos c1] at hf
      refine V.iload_n dX11_night_174 rfl 2 rfl ?_
      refine V.if_ne (tgt := 181) dX11_night_175 (by decide) (fun c2 => ?_) (fun c2 => ?_)
      · rw [if_neg c2] at hf
        refine V.iload_n dX11_night_181 rfl 2 rfl ?_
        refine V.iconst (v := (1 : Int32)) dX11_night_182 (by decide) ?_
        refine V.icmp_ne (tgt := 191) dX11_night_183 (by decide) (fun c3 => ?_) (fun c3 => ?_)
        · rw [if_neg c3] at hf
          refine V.iload dX11_night_191 6 rfl ?_
          obtain rfl := Option.some.inj hf
          exact V.iret dX11_night_193
        · rw [if_pos c3] at hf
          refine V.iload dX11_night_186 5 rfl ?_
          refine V.goto (tgt := 193) dX11_night_188 (by decide) ?_
          obtain rfl := Option.some.inj hf
          exact V.iret dX11_night_193
      · rw [if_pos c2] at hf
        refine V.iload dX11_night_178 4 rfl ?_
        obtain rfl := Option.some.inj hf
        exact V.iret dX11_night_180
    · rw [if_neg c1] at hf
      refine V.aload_n dX11_night_49 rfl 0 rfl ?_
      obtain ⟨v4, e7, hf⟩ := bS hf
      refine V.xgR dX11_night_50 fl_RX11_33 e7 ?_
      refine V.iload dX11_night_53 7 rfl ?_
      obtain ⟨q5, e8, hf⟩ := bS hf
      obtain ⟨r6, e9, hf⟩ := bS hf
      refine V.callV (As := [.int l8]) (st := []) dX11_night_55 cl_RX11_184 sw_yX5_burning (by decide) rfl (Nat.le_of_ble_eq_true rfl) rfl (gO_some e8) rfl (w_X5_burning _ _ _ _ e9) ?_
      refine V.istore (lv' := [(9, .int r6), (0, .ref l0), (2, .int l2), (3, .int l3), (4, .int l4), (5, .int l5), (6, .int l6), (7, .int l7), (8, .int l8)]) dX11_night_58 (by decide) rfl ?_
      refine V.iload dX11_night_60 0 rfl ?_
      refine V.istore (lv' := [(10, .int r6), (9, .int r6), (0, .ref l0), (2, .int l2), (3, .int l3), (4, .int l4), (5, .int l5), (6, .int l6), (7, .int l7), (8, .int l8)]) dX11_night_62 (by decide) rfl ?_
      refine V.iconst (v := (0 : Int32)) dX11_night_64 (by decide) ?_
      refine V.istore (lv' := [(11, .int (0 : Int32)), (10, .int r6), (9, .int r6), (0, .ref l0), (2, .int l2), (3, .int l3), (4, .int l4), (5, .int l5), (6, .int l6), (7, .int l7), (8, .int l8)]) dX11_night_65 (by decide) rfl ?_
      refine V.sub [3, 4, 5, 6, 7, 8, 9, 10, 2, 1, 0] rfl ?_
      exact w_X11_night_67 ih _ _ _ _ _ _ _ _ _ _ _ _ _ _ hf

set_option maxRecDepth 20000 in
theorem w_X11_night (h : xH) (l0 : Nat) (l1 : Int32) (l2 : Int32) (l3 : Int32) (r : (String × xH) ⊕ (Int32 × xH)) (hf : f_X11_night h l0 l1 l2 l3 = some r) : Ev 6 yX11_night cX11_night 12 (some .int) [] [.ref l0, .int l1, .int l2, .int l3] h (oTIh r) := by
  refine Ev.of (by decide +kernel) (Nat.le_of_ble_eq_true rfl) ?_
  unfold f_X11_night at hf
  refine V.iload_n dX11_night_0 rfl 2 rfl ?_
  refine V.if_lt (tgt := 10) dX11_night_1 (by decide) (fun c1 => ?_) (fun c1 => ?_)
  · rw [if_pos c1] at hf
    refine V.sub [] rfl ?_
    exact w_X11_night_10 _ _ hf
  · rw [if_neg c1] at hf
    refine V.iload_n dX11_night_4 rfl 2 rfl ?_
    refine V.bipush (v := (100 : Int32)) dX11_night_5 (by decide) ?_
    refine V.icmp_le (tgt := 21) dX11_night_7 (by decide) (fun c2 => ?_) (fun c2 => ?_)
    · rw [if_pos c2] at hf
      refine V.iload_n dX11_night_21 rfl 3 rfl ?_
      refine V.iconst (v := (0 : Int32)) dX11_night_22 (by decide) ?_
      refine V.iconst (v := (2 : Int32)) dX11_night_23 (by decide) ?_
      obtain ⟨r3, e10, hf⟩ := bS hf
      rcases r3 with E4 | v5
      · obtain rfl := Option.some.inj hf
        exact V.callST (As := [.int l3, .int (0 : Int32), .int (2 : Int32)]) (st := []) dX11_night_24 cl_RX11_140 sw_yX11_checkWhat (by decide) rfl (Nat.le_of_ble_eq_true rfl) rfl (by decide) (w_X11_checkWhat _ _ _ _ _ e10)
      · refine V.callS (As := [.int l3, .int (0 : Int32), .int (2 : Int32)]) (st := []) dX11_night_24 cl_RX11_140 sw_yX11_checkWhat (by decide) rfl (Nat.le_of_ble_eq_true rfl) rfl (w_X11_checkWhat _ _ _ _ _ e10) ?_
        refine V.iload_n dX11_night_27 rfl 1 rfl ?_
        refine V.istore (lv' := [(4, .int l1), (0, .ref l0), (1, .int l1), (2, .int l2), (3, .int l3)]) dX11_night_28 (by decide) rfl ?_
        refine V.iconst (v := (0 : Int32)) dX11_night_30 (by decide) ?_
        refine V.istore (lv' := [(5, .int (0 : Int32)), (4, .int l1), (0, .ref l0), (1, .int l1), (2, .int l2), (3, .int l3)]) dX11_night_31 (by decide) rfl ?_
        refine V.iconst (v := (0 : Int32)) dX11_night_33 (by decide) ?_
        refine V.istore (lv' := [(6, .int (0 : Int32)), (5, .int (0 : Int32)), (4, .int l1), (0, .ref l0), (1, .int l1), (2, .int l2), (3, .int l3)]) dX11_night_34 (by decide) rfl ?_
        refine V.iconst (v := (0 : Int32)) dX11_night_36 (by decide) ?_
        refine V.istore (lv' := [(7, .int (0 : Int32)), (6, .int (0 : Int32)), (5, .int (0 : Int32)), (4, .int l1), (0, .ref l0), (1, .int l1), (2, .int l2), (3, .int l3)]) dX11_night_37 (by decide) rfl ?_
        refine V.iconst (v := (0 : Int32)) dX11_night_39 (by decide) ?_
        refine V.istore (lv' := [(8, .int (0 : Int32)), (7, .int (0 : Int32)), (6, .int (0 : Int32)), (5, .int (0 : Int32)), (4, .int l1), (0, .ref l0), (1, .int l1), (2, .int l2), (3, .int l3)]) dX11_night_40 (by decide) rfl ?_
        refine V.sub [5, 7, 8, 4, 3, 2, 1, 0] rfl ?_
        exact w_X11_night_42 _ _ _ _ _ _ _ _ _ _ _ hf
    · rw [if_neg c2] at hf
      refine V.sub [] rfl ?_
      exact w_X11_night_10 _ _ hf

def f_X11_of (h : xH) (l0 : Nat) (l1 : Int32) (l2 : Int32) : Option ((String × xH) ⊕ (Int32)) := (gO h l0 11).bind fun q1 => (f_X11_checkRoom h l0 l1).bind fun r2 => (match r2 with | .inl E3 => (some (.inl E3)) | .inr v4 => ((f_X11_checkWhat h l2 (0 : Int32) (2 : Int32)).bind fun r5 => (match r5 with | .inl E6 => (some (.inl E6)) | .inr v7 => ((if l2 = 0 then ((gR h l0 11 5).bind fun v16 => (gR h v16 5 0).bind fun v17 => (ldI h .int v17 l1).bind fun v18 => some (.inr v18)) else ((if l2 = (1 : Int32) then ((gR h l0 11 5).bind fun v13 => (gR h v13 5 1).bind fun v14 => (ldI h .int v14 l1).bind fun v15 => some (.inr v15)) else ((gR h l0 11 4).bind fun v10 => (gR h v10 3 11).bind fun v11 => (ldI h .int v11 l1).bind fun v12 => some (.inr v12)))))))))
set_option maxRecDepth 20000 in
theorem w_X11_of (h : xH) (l0 : Nat) (l1 : Int32) (l2 : Int32) (r : (String × xH) ⊕ (Int32)) (hf : f_X11_of h l0 l1 l2 = some r) : Ev 5 yX11_of cX11_of 3 (some .int) [] [.ref l0, .int l1, .int l2] h (oTI h r) := by
  refine Ev.of (by decide +kernel) (Nat.le_of_ble_eq_true rfl) ?_
  unfold f_X11_of at hf
  refine V.aload_n dX11_of_0 rfl 0 rfl ?_
  refine V.iload_n dX11_of_1 rfl 1 rfl ?_
  obtain ⟨q1, e1, hf⟩ := bS hf
  obtain ⟨r2, e2, hf⟩ := bS hf
  rcases r2 with E3 | v4
  · obtain rfl := Option.some.inj hf
    exact V.callVT (As := [.int l1]) (st := []) dX11_of_2 cl_RX11_153 sw_yX11_checkRoom (by decide) rfl (Nat.le_of_ble_eq_true rfl) rfl (gO_some e1) rfl (by decide) (w_X11_checkRoom _ _ _ _ e2)
  · refine V.callV (As := [.int l1]) (st := []) dX11_of_2 cl_RX11_153 sw_yX11_checkRoom (by decide) rfl (Nat.le_of_ble_eq_true rfl) rfl (gO_some e1) rfl (w_X11_checkRoom _ _ _ _ e2) ?_
    refine V.iload_n dX11_of_5 rfl 2 rfl ?_
    refine V.iconst (v := (0 : Int32)) dX11_of_6 (by decide) ?_
    refine V.iconst (v := (2 : Int32)) dX11_of_7 (by decide) ?_
    obtain ⟨r5, e3, hf⟩ := bS hf
    rcases r5 with E6 | v7
    · obtain rfl := Option.some.inj hf
      exact V.callST (As := [.int l2, .int (0 : Int32), .int (2 : Int32)]) (st := []) dX11_of_8 cl_RX11_140 sw_yX11_checkWhat (by decide) rfl (Nat.le_of_ble_eq_true rfl) rfl (by decide) (w_X11_checkWhat _ _ _ _ _ e3)
    · refine V.callS (As := [.int l2, .int (0 : Int32), .int (2 : Int32)]) (st := []) dX11_of_8 cl_RX11_140 sw_yX11_checkWhat (by decide) rfl (Nat.le_of_ble_eq_true rfl) rfl (w_X11_checkWhat _ _ _ _ _ e3) ?_
      refine V.iload_n dX11_of_11 rfl 2 rfl ?_
      refine V.if_ne (tgt := 25) dX11_of_12 (by decide) (fun c8 => ?_) (fun c8 => ?_)
      · rw [if_neg c8] at hf
        refine V.iload_n dX11_of_25 rfl 2 rfl ?_
        refine V.iconst (v := (1 : Int32)) dX11_of_26 (by decide) ?_
        refine V.icmp_ne (tgt := 42) dX11_of_27 (by decide) (fun c9 => ?_) (fun c9 => ?_)
        · rw [if_neg c9] at hf
          refine V.aload_n dX11_of_42 rfl 0 rfl ?_
          obtain ⟨v10, e4, hf⟩ := bS hf
          refine V.xgR dX11_of_43 fl_RX11_26 e4 ?_
          obtain ⟨v11, e5, hf⟩ := bS hf
          refine V.rgR dX11_of_46 fl_RX11_178 e5 ?_
          refine V.iload_n dX11_of_49 rfl 1 rfl ?_
          obtain ⟨v12, e6, hf⟩ := bS hf
          refine V.xldI dX11_of_50 e6 ?_
          obtain rfl := Option.some.inj hf
          exact V.iret dX11_of_51
        · rw [if_pos c9] at hf
          refine V.aload_n dX11_of_30 rfl 0 rfl ?_
          obtain ⟨v13, e7, hf⟩ := bS hf
          refine V.xgR dX11_of_31 fl_RX11_33 e7 ?_
          obtain ⟨v14, e8, hf⟩ := bS hf
          refine V.rgR dX11_of_34 fl_RX11_175 e8 ?_
          refine V.iload_n dX11_of_37 rfl 1 rfl ?_
          obtain ⟨v15, e9, hf⟩ := bS hf
          refine V.xldI dX11_of_38 e9 ?_
          refine V.goto (tgt := 51) dX11_of_39 (by decide) ?_
          obtain rfl := Option.some.inj hf
          exact V.iret dX11_of_51
      · rw [if_pos c8] at hf
        refine V.aload_n dX11_of_15 rfl 0 rfl ?_
        obtain ⟨v16, e10, hf⟩ := bS hf
        refine V.xgR dX11_of_16 fl_RX11_33 e10 ?_
        obtain ⟨v17, e11, hf⟩ := bS hf
        refine V.rgR dX11_of_19 fl_RX11_171 e11 ?_
        refine V.iload_n dX11_of_22 rfl 1 rfl ?_
        obtain ⟨v18, e12, hf⟩ := bS hf
        refine V.xldI dX11_of_23 e12 ?_
        obtain rfl := Option.some.inj hf
        exact V.iret dX11_of_24

def f_X11_oil_4 (h : xH) : Nat → Nat → Int32 → Int32 → Option (Int32)
  | 0, _, _, _ => none
  | n + 1, l0, l1, l2 => (gR h l0 11 4).bind fun v1 => (gI h v1 3 1).bind fun v2 => (if v2 ≤ l2 then (some (l1)) else ((gR h l0 11 4).bind fun v4 => (gR h l0 11 5).bind fun v5 => (gR h v5 5 0).bind fun v6 => (ldI h .int v6 l2).bind fun v7 => (gO h v4 3).bind fun q8 => (f_X3_oilOf h v4 v7).bind fun r9 => (gR h l0 11 5).bind fun v10 => (gR h v10 5 1).bind fun v11 => (ldI h .int v11 l2).bind fun v12 => (f_J6_bitCount_0f7a4 h v12).bind fun r13 => f_X11_oil_4 h n l0 (l1 + (r9 * r13)) (l2 + 1)))
def f_X11_oil (h : xH) (l0 : Nat) : Option (Int32) := f_X11_oil_4 h xFU l0 (0 : Int32) (0 : Int32)
set_option maxRecDepth 20000 in
theorem w_X11_oil_4 (h : xH) : ∀ (n : Nat) (l0 : Nat) (l1 : Int32) (l2 : Int32) (r : Int32), f_X11_oil_4 h n l0 l1 l2 = some r → V 4 yX11_oil cX11_oil 3 (some .int) [] none 4 [(0, .ref l0), (1, .int l1), (2, .int l2)] [] h (oI h r) := by
  intro n
  induction n with
  | zero => intro l0 l1 l2 r hf; cases hf
  | succ n ih =>
    intro l0 l1 l2 r hf
    rw [f_X11_oil_4] at hf
    refine V.iload_n dX11_oil_4 rfl 2 rfl ?_
    refine V.aload_n dX11_oil_5 rfl 0 rfl ?_
    obtain ⟨v1, e1, hf⟩ := bS hf
    refine V.xgR dX11_oil_6 fl_RX11_26 e1 ?_
    obtain ⟨v2, e2, hf⟩ := bS hf
    refine V.xgI dX11_oil_9 fl_RX11_162 e2 ?_
    refine V.icmp_ge (tgt := 53) dX11_oil_12 (by decide) (fun c3 => ?_) (fun c3 => ?_)
    · rw [if_pos c3] at hf
      refine V.iload_n dX11_oil_53 rfl 1 rfl ?_
      obtain rfl := Option.some.inj hf
      exact V.iret dX11_oil_54
    · rw [if_neg c3] at hf
      refine V.iload_n dX11_oil_15 rfl 1 rfl ?_
      refine V.aload_n dX11_oil_16 rfl 0 rfl ?_
      obtain ⟨v4, e3, hf⟩ := bS hf
      refine V.xgR dX11_oil_17 fl_RX11_26 e3 ?_
      refine V.aload_n dX11_oil_20 rfl 0 rfl ?_
      obtain ⟨v5, e4, hf⟩ := bS hf
      refine V.xgR dX11_oil_21 fl_RX11_33 e4 ?_
      obtain ⟨v6, e5, hf⟩ := bS hf
      refine V.rgR dX11_oil_24 fl_RX11_171 e5 ?_
      refine V.iload_n dX11_oil_27 rfl 2 rfl ?_
      obtain ⟨v7, e6, hf⟩ := bS hf
      refine V.xldI dX11_oil_28 e6 ?_
      obtain ⟨q8, e7, hf⟩ := bS hf
      obtain ⟨r9, e8, hf⟩ := bS hf
      refine V.callV (As := [.int v7]) (st := [.int l1]) dX11_oil_29 cl_RX11_202 sw_yX3_oilOf (by decide) rfl (Nat.le_of_ble_eq_true rfl) rfl (gO_some e7) rfl (w_X3_oilOf _ _ _ _ e8) ?_
      refine V.aload_n dX11_oil_32 rfl 0 rfl ?_
      obtain ⟨v10, e9, hf⟩ := bS hf
      refine V.xgR dX11_oil_33 fl_RX11_33 e9 ?_
      obtain ⟨v11, e10, hf⟩ := bS hf
      refine V.rgR dX11_oil_36 fl_RX11_175 e10 ?_
      refine V.iload_n dX11_oil_39 rfl 2 rfl ?_
      obtain ⟨v12, e11, hf⟩ := bS hf
      refine V.xldI dX11_oil_40 e11 ?_
      obtain ⟨r13, e12, hf⟩ := bS hf
      refine V.callS (As := [.int v12]) (st := [.int r9, .int l1]) dX11_oil_41 cl_RX11_205 sw_yJ6_bitCount_0f7a4 (by decide) rfl (Nat.le_of_ble_eq_true rfl) rfl (w_J6_bitCount_0f7a4 _ _ _ e12) ?_
      refine V.imul dX11_oil_44 ?_
      refine V.iadd dX11_oil_45 ?_
      refine V.istore_n (lv' := [(1, .int (l1 + (r9 * r13))), (0, .ref l0), (2, .int l2)]) dX11_oil_46 rfl (by decide) rfl ?_
      refine V.iinc (v := (l2 + 1)) (lv' := [(2, .int (l2 + 1)), (1, .int (l1 + (r9 * r13))), (0, .ref l0)]) dX11_oil_47 2 rfl rfl (Nat.le_of_ble_eq_true rfl) rfl ?_
      refine V.goto (tgt := 4) dX11_oil_50 (by decide) ?_
      refine V.sub [2, 1, 0] rfl ?_
      exact ih _ _ _ _ hf

set_option maxRecDepth 20000 in
theorem w_X11_oil (h : xH) (l0 : Nat) (r : Int32) (hf : f_X11_oil h l0 = some r) : Ev 4 yX11_oil cX11_oil 3 (some .int) [] [.ref l0] h (oI h r) := by
  refine Ev.of (by decide +kernel) (Nat.le_of_ble_eq_true rfl) ?_
  unfold f_X11_oil at hf
  refine V.iconst (v := (0 : Int32)) dX11_oil_0 (by decide) ?_
  refine V.istore_n (lv' := [(1, .int (0 : Int32)), (0, .ref l0)]) dX11_oil_1 rfl (by decide) rfl ?_
  refine V.iconst (v := (0 : Int32)) dX11_oil_2 (by decide) ?_
  refine V.istore_n (lv' := [(2, .int (0 : Int32)), (1, .int (0 : Int32)), (0, .ref l0)]) dX11_oil_3 rfl (by decide) rfl ?_
  refine V.sub [2, 1, 0] rfl ?_
  exact w_X11_oil_4 h _ _ _ _ _ hf

def f_X11_out (h : xH) (l0 : Nat) (l1 : Int32) (l2 : Int32) : Option ((String × xH) ⊕ (Int32 × xH)) := (gO h l0 11).bind fun q1 => (f_X11_checkRoom h l0 l1).bind fun r2 => (match r2 with | .inl E3 => (some (.inl E3)) | .inr v4 => ((f_X11_checkHour h l2).bind fun r5 => (match r5 with | .inl E6 => (some (.inl E6)) | .inr v7 => ((gO h l0 11).bind fun q8 => (f_X11_darkenedBy h l0 ((1 : Int32) <<< (l1 &&& 31)) l2).bind fun r9 => some (.inr (r9.1, r9.2))))))
set_option maxRecDepth 20000 in
theorem w_X11_out (h : xH) (l0 : Nat) (l1 : Int32) (l2 : Int32) (r : (String × xH) ⊕ (Int32 × xH)) (hf : f_X11_out h l0 l1 l2 = some r) : Ev 7 yX11_out cX11_out 3 (some .int) [] [.ref l0, .int l1, .int l2] h (oTIh r) := by
  refine Ev.of (by decide +kernel) (Nat.le_of_ble_eq_true rfl) ?_
  unfold f_X11_out at hf
  refine V.aload_n dX11_out_0 rfl 0 rfl ?_
  refine V.iload_n dX11_out_1 rfl 1 rfl ?_
  obtain ⟨q1, e1, hf⟩ := bS hf
  obtain ⟨r2, e2, hf⟩ := bS hf
  rcases r2 with E3 | v4
  · obtain rfl := Option.some.inj hf
    exact V.callVT (As := [.int l1]) (st := []) dX11_out_2 cl_RX11_153 sw_yX11_checkRoom (by decide) rfl (Nat.le_of_ble_eq_true rfl) rfl (gO_some e1) rfl (by decide) (w_X11_checkRoom _ _ _ _ e2)
  · refine V.callV (As := [.int l1]) (st := []) dX11_out_2 cl_RX11_153 sw_yX11_checkRoom (by decide) rfl (Nat.le_of_ble_eq_true rfl) rfl (gO_some e1) rfl (w_X11_checkRoom _ _ _ _ e2) ?_
    refine V.iload_n dX11_out_5 rfl 2 rfl ?_
    obtain ⟨r5, e3, hf⟩ := bS hf
    rcases r5 with E6 | v7
    · obtain rfl := Option.some.inj hf
      exact V.callST (As := [.int l2]) (st := []) dX11_out_6 cl_RX11_181 sw_yX11_checkHour (by decide) rfl (Nat.le_of_ble_eq_true rfl) rfl (by decide) (w_X11_checkHour _ _ _ e3)
    · refine V.callS (As := [.int l2]) (st := []) dX11_out_6 cl_RX11_181 sw_yX11_checkHour (by decide) rfl (Nat.le_of_ble_eq_true rfl) rfl (w_X11_checkHour _ _ _ e3) ?_
      refine V.aload_n dX11_out_9 rfl 0 rfl ?_
      refine V.iconst (v := (1 : Int32)) dX11_out_10 (by decide) ?_
      refine V.iload_n dX11_out_11 rfl 1 rfl ?_
      refine V.ishl dX11_out_12 ?_
      refine V.iload_n dX11_out_13 rfl 2 rfl ?_
      obtain ⟨q8, e4, hf⟩ := bS hf
      obtain ⟨r9, e5, hf⟩ := bS hf
      refine V.callV (As := [.int ((1 : Int32) <<< (l1 &&& 31)), .int l2]) (st := []) dX11_out_14 cl_RX11_199 sw_yX11_darkenedBy (by decide) rfl (Nat.le_of_ble_eq_true rfl) rfl (gO_some e4) rfl (w_X11_darkenedBy _ _ _ _ _ e5) ?_
      obtain rfl := Option.some.inj hf
      exact V.iret dX11_out_17

def f_X11_owed_99 (h : xH) (s0 : Int64) (s1 : Nat) : Option ((String × xH) ⊕ (Int32 × xH)) := (pF h s1 11 9 (.long s0)).bind fun h1 => some (.inr ((1 : Int32), h1))
def f_X11_owed_78 (h : xH) (l0 : Nat) (l4 : Int64) (l6 : Int64) (s0 : Int64) (s1 : Nat) : Option ((String × xH) ⊕ (Int32 × xH)) := (pF h s1 11 8 (.long s0)).bind fun h1 => (if (lg_cmp l6 (0 : Int64)) ≤ 0 then (f_X11_owed_99 h1 l4 l0) else ((dvJ l4 l6).bind fun v3 => f_X11_owed_99 h1 v3 l0))
def f_X11_owed (h : xH) (l0 : Nat) (l1 : Int32) : Option ((String × xH) ⊕ (Int32 × xH)) := (gO h l0 11).bind fun q1 => (f_X11_checkRoom h l0 l1).bind fun r2 => (match r2 with | .inl E3 => (some (.inl E3)) | .inr v4 => ((gR h l0 11 4).bind fun v5 => (gI h v5 3 1).bind fun v6 => (if v6 ≤ (10 : Int32) then ((gR h l0 11 16).bind fun v8 => (gR h l0 11 4).bind fun v9 => (gO h v8 9).bind fun q10 => (f_X9_owedOverOrders h v8 v9 l1).bind fun r11 => (gR r11.2 l0 11 4).bind fun v12 => (gI r11.2 v12 3 1).bind fun v13 => (f_X11_factorial r11.2 v13).bind fun r14 => (f_X11_commonDivisor r11.2 (r11.1) r14).bind fun r15 => (if (lg_cmp r15 (0 : Int64)) ≤ 0 then (f_X11_owed_78 r11.2 l0 r14 r15 (r11.1) l0) else ((dvJ (r11.1) r15).bind fun v17 => f_X11_owed_78 r11.2 l0 r14 r15 v17 l0))) else ((pF h l0 11 8 (.long (0 : Int64))).bind fun h18 => (pF h18 l0 11 9 (.long (0 : Int64))).bind fun h19 => some (.inr ((0 : Int32), h19))))))
set_option maxRecDepth 20000 in
theorem w_X11_owed_99 (h : xH) (s0 : Int64) (s1 : Nat) (r : (String × xH) ⊕ (Int32 × xH)) (hf : f_X11_owed_99 h s0 s1 = some r) : V 49 yX11_owed cX11_owed 8 (some .boolean) [] none 99 [] [.long s0, .ref s1] h (oTIh r) := by
  unfold f_X11_owed_99 at hf
  obtain ⟨h1, e1, hf⟩ := bS hf
  refine V.xpF dX11_owed_99 fl_RX11_49 (fun h9 => nomatch h9) (fun _ => rfl) (fun _ => rfl) e1 ?_
  refine V.iconst (v := (1 : Int32)) dX11_owed_102 (by decide) ?_
  obtain rfl := Option.some.inj hf
  exact V.zret dX11_owed_103 (by first | rfl | assumption)

set_option maxRecDepth 20000 in
theorem w_X11_owed_78 (h : xH) (l0 : Nat) (l4 : Int64) (l6 : Int64) (s0 : Int64) (s1 : Nat) (r : (String × xH) ⊕ (Int32 × xH)) (hf : f_X11_owed_78 h l0 l4 l6 s0 s1 = some r) : V 49 yX11_owed cX11_owed 8 (some .boolean) [] none 78 [(0, .ref l0), (4, .long l4), (6, .long l6)] [.long s0, .ref s1] h (oTIh r) := by
  unfold f_X11_owed_78 at hf
  obtain ⟨h1, e2, hf⟩ := bS hf
  refine V.xpF dX11_owed_78 fl_RX11_45 (fun h9 => nomatch h9) (fun _ => rfl) (fun _ => rfl) e2 ?_
  refine V.aload_n dX11_owed_81 rfl 0 rfl ?_
  refine V.lload dX11_owed_82 2 rfl ?_
  refine V.lconst (v := 0) dX11_owed_84 (by decide) ?_
  refine V.lcmp dX11_owed_85 ?_
  refine V.if_le (tgt := 97) dX11_owed_86 (by decide) (fun c2 => ?_) (fun c2 => ?_)
  · rw [if_pos c2] at hf
    refine V.lload dX11_owed_97 1 rfl ?_
    refine V.sub [] rfl ?_
    exact w_X11_owed_99 _ _ _ _ hf
  · rw [if_neg c2] at hf
    refine V.lload dX11_owed_89 1 rfl ?_
    refine V.lload dX11_owed_91 2 rfl ?_
    obtain ⟨v3, e3, hf⟩ := bS hf
    refine V.xdvJ dX11_owed_93 e3 ?_
    refine V.goto (tgt := 99) dX11_owed_94 (by decide) ?_
    refine V.sub [] rfl ?_
    exact w_X11_owed_99 _ _ _ _ hf

set_option maxRecDepth 20000 in
theorem w_X11_owed (h : xH) (l0 : Nat) (l1 : Int32) (r : (String × xH) ⊕ (Int32 × xH)) (hf : f_X11_owed h l0 l1 = some r) : Ev 49 yX11_owed cX11_owed 8 (some .boolean) [] [.ref l0, .int l1] h (oTIh r) := by
  refine Ev.of (by decide +kernel) (Nat.le_of_ble_eq_true rfl) ?_
  unfold f_X11_owed at hf
  refine V.aload_n dX11_owed_0 rfl 0 rfl ?_
  refine V.iload_n dX11_owed_1 rfl 1 rfl ?_
  obtain ⟨q1, e4, hf⟩ := bS hf
  obtain ⟨r2, e5, hf⟩ := bS hf
  rcases r2 with E3 | v4
  · obtain rfl := Option.some.inj hf
    exact V.callVT (As := [.int l1]) (st := []) dX11_owed_2 cl_RX11_153 sw_yX11_checkRoom (by decide) rfl (Nat.le_of_ble_eq_true rfl) rfl (gO_some e4) rfl (by decide) (w_X11_checkRoom _ _ _ _ e5)
  · refine V.callV (As := [.int l1]) (st := []) dX11_owed_2 cl_RX11_153 sw_yX11_checkRoom (by decide) rfl (Nat.le_of_ble_eq_true rfl) rfl (gO_some e4) rfl (w_X11_checkRoom _ _ _ _ e5) ?_
    refine V.aload_n dX11_owed_5 rfl 0 rfl ?_
    obtain ⟨v5, e6, hf⟩ := bS hf
    refine V.xgR dX11_owed_6 fl_RX11_26 e6 ?_
    obtain ⟨v6, e7, hf⟩ := bS hf
    refine V.xgI dX11_owed_9 fl_RX11_162 e7 ?_
    refine V.bipush (v := (10 : Int32)) dX11_owed_12 (by decide) ?_
    refine V.icmp_le (tgt := 29) dX11_owed_14 (by decide) (fun c7 => ?_) (fun c7 => ?_)
    · rw [if_pos c7] at hf
      refine V.aload_n dX11_owed_29 rfl 0 rfl ?_
      obtain ⟨v8, e8, hf⟩ := bS hf
      refine V.xgR dX11_owed_30 fl_RX11_94 e8 ?_
      refine V.aload_n dX11_owed_33 rfl 0 rfl ?_
      obtain ⟨v9, e9, hf⟩ := bS hf
      refine V.xgR dX11_owed_34 fl_RX11_26 e9 ?_
      refine V.iload_n dX11_owed_37 rfl 1 rfl ?_
      obtain ⟨q10, e10, hf⟩ := bS hf
      obtain ⟨r11, e11, hf⟩ := bS hf
      refine V.callV (As := [.ref v9, .int l1]) (st := []) dX11_owed_38 cl_RX11_302 sw_yX9_owedOverOrders (by decide) rfl (Nat.le_of_ble_eq_true rfl) rfl (gO_some e10) rfl (w_X9_owedOverOrders _ _ _ _ _ e11) ?_
      refine V.lstore_n (lv' := [(2, .long r11.1), (0, .ref l0), (1, .int l1)]) dX11_owed_41 rfl (by decide) rfl ?_
      refine V.aload_n dX11_owed_42 rfl 1 rfl ?_
      obtain ⟨v12, e12, hf⟩ := bS hf
      refine V.xgR dX11_owed_43 fl_RX11_26 e12 ?_
      obtain ⟨v13, e13, hf⟩ := bS hf
      refine V.xgI dX11_owed_46 fl_RX11_162 e13 ?_
      obtain ⟨r14, e14, hf⟩ := bS hf
      refine V.callS (As := [.int v13]) (st := []) dX11_owed_49 cl_RX11_306 sw_yX11_factorial (by decide) rfl (Nat.le_of_ble_eq_true rfl) rfl (w_X11_factorial _ _ _ e14) ?_
      refine V.lstore (lv' := [(4, .long r14), (2, .long r11.1), (0, .ref l0), (1, .int l1)]) dX11_owed_52 (by decide) rfl ?_
      refine V.lload_n dX11_owed_54 rfl 1 rfl ?_
      refine V.lload dX11_owed_55 0 rfl ?_
      obtain ⟨r15, e15, hf⟩ := bS hf
      refine V.callS (As := [.long (r11.1), .long r14]) (st := []) dX11_owed_57 cl_RX11_310 sw_yX11_commonDivisor (by decide) rfl (Nat.le_of_ble_eq_true rfl) rfl (w_X11_commonDivisor _ _ _ _ e15) ?_
      refine V.lstore (lv' := [(6, .long r15), (4, .long r14), (2, .long r11.1), (0, .ref l0), (1, .int l1)]) dX11_owed_60 (by decide) rfl ?_
      refine V.aload_n dX11_owed_62 rfl 3 rfl ?_
      refine V.lload dX11_owed_63 0 rfl ?_
      refine V.lconst (v := 0) dX11_owed_65 (by decide) ?_
      refine V.lcmp dX11_owed_66 ?_
      refine V.if_le (tgt := 77) dX11_owed_67 (by decide) (fun c16 => ?_) (fun c16 => ?_)
      · rw [if_pos c16] at hf
        refine V.lload_n dX11_owed_77 rfl 2 rfl ?_
        refine V.sub [3, 1, 0] rfl ?_
        exact w_X11_owed_78 _ _ _ _ _ _ _ hf
      · rw [if_neg c16] at hf
        refine V.lload_n dX11_owed_70 rfl 2 rfl ?_
        refine V.lload dX11_owed_71 0 rfl ?_
        obtain ⟨v17, e16, hf⟩ := bS hf
        refine V.xdvJ dX11_owed_73 e16 ?_
        refine V.goto (tgt := 78) dX11_owed_74 (by decide) ?_
        refine V.sub [3, 1, 0] rfl ?_
        exact w_X11_owed_78 _ _ _ _ _ _ _ hf
    · rw [if_neg c7] at hf
      refine V.aload_n dX11_owed_17 rfl 0 rfl ?_
      refine V.lconst (v := 0) dX11_owed_18 (by decide) ?_
      obtain ⟨h18, e17, hf⟩ := bS hf
      refine V.xpF dX11_owed_19 fl_RX11_45 (fun h9 => nomatch h9) (fun _ => rfl) (fun _ => rfl) e17 ?_
      refine V.aload_n dX11_owed_22 rfl 0 rfl ?_
      refine V.lconst (v := 0) dX11_owed_23 (by decide) ?_
      obtain ⟨h19, e18, hf⟩ := bS hf
      refine V.xpF dX11_owed_24 fl_RX11_49 (fun h9 => nomatch h9) (fun _ => rfl) (fun _ => rfl) e18 ?_
      refine V.iconst (v := (0 : Int32)) dX11_owed_27 (by decide) ?_
      obtain rfl := Option.some.inj hf
      exact V.zret dX11_owed_28 (by first | rfl | assumption)

def f_X11_pane_15 (h : xH) : Option ((String × xH) ⊕ (Int32)) := some (.inl ("java/util/NoSuchElementException", thr h))
def f_X11_pane (h : xH) (l0 : Nat) (l1 : Int32) (l2 : Int32) : Option ((String × xH) ⊕ (Int32)) := (if l1 < 0 then (f_X11_pane_15 h) else ((gR h l0 11 4).bind fun v2 => (gI h v2 3 3).bind fun v3 => (if l1 < v3 then ((f_X11_checkWhat h l2 (0 : Int32) (3 : Int32)).bind fun r5 => (match r5 with | .inl E6 => (some (.inl E6)) | .inr v7 => ((gR h l0 11 4).bind fun v8 => (gR h v8 3 7).bind fun v9 => (ldI h .int v9 ((l1 * (4 : Int32)) + l2)).bind fun v10 => some (.inr v10)))) else (f_X11_pane_15 h))))
set_option maxRecDepth 20000 in
theorem w_X11_pane_15 (h : xH) (r : (String × xH) ⊕ (Int32)) (hf : f_X11_pane_15 h = some r) : V 5 yX11_pane cX11_pane 3 (some .int) [] none 15 [] [] h (oTI h r) := by
  unfold f_X11_pane_15 at hf
  obtain rfl := Option.some.inj hf
  exact V.throwNS (i := 19) th_139 (by decide) dX11_pane_15 dX11_pane_18 dX11_pane_19 dX11_pane_21 dX11_pane_24 (by decide) (Nat.le_of_ble_eq_true rfl)

set_option maxRecDepth 20000 in
theorem w_X11_pane (h : xH) (l0 : Nat) (l1 : Int32) (l2 : Int32) (r : (String × xH) ⊕ (Int32)) (hf : f_X11_pane h l0 l1 l2 = some r) : Ev 5 yX11_pane cX11_pane 3 (some .int) [] [.ref l0, .int l1, .int l2] h (oTI h r) := by
  refine Ev.of (by decide +kernel) (Nat.le_of_ble_eq_true rfl) ?_
  unfold f_X11_pane at hf
  refine V.iload_n dX11_pane_0 rfl 1 rfl ?_
  refine V.if_lt (tgt := 15) dX11_pane_1 (by decide) (fun c1 => ?_) (fun c1 => ?_)
  · rw [if_pos c1] at hf
    refine V.sub [] rfl ?_
    exact w_X11_pane_15 _ _ hf
  · rw [if_neg c1] at hf
    refine V.iload_n dX11_pane_4 rfl 1 rfl ?_
    refine V.aload_n dX11_pane_5 rfl 0 rfl ?_
    obtain ⟨v2, e1, hf⟩ := bS hf
    refine V.xgR dX11_pane_6 fl_RX11_26 e1 ?_
    obtain ⟨v3, e2, hf⟩ := bS hf
    refine V.xgI dX11_pane_9 fl_RX11_132 e2 ?_
    refine V.icmp_lt (tgt := 25) dX11_pane_12 (by decide) (fun c4 => ?_) (fun c4 => ?_)
    · rw [if_pos c4] at hf
      refine V.iload_n dX11_pane_25 rfl 2 rfl ?_
      refine V.iconst (v := (0 : Int32)) dX11_pane_26 (by decide) ?_
      refine V.iconst (v := (3 : Int32)) dX11_pane_27 (by decide) ?_
      obtain ⟨r5, e3, hf⟩ := bS hf
      rcases r5 with E6 | v7
      · obtain rfl := Option.some.inj hf
        exact V.callST (As := [.int l2, .int (0 : Int32), .int (3 : Int32)]) (st := []) dX11_pane_28 cl_RX11_140 sw_yX11_checkWhat (by decide) rfl (Nat.le_of_ble_eq_true rfl) rfl (by decide) (w_X11_checkWhat _ _ _ _ _ e3)
      · refine V.callS (As := [.int l2, .int (0 : Int32), .int (3 : Int32)]) (st := []) dX11_pane_28 cl_RX11_140 sw_yX11_checkWhat (by decide) rfl (Nat.le_of_ble_eq_true rfl) rfl (w_X11_checkWhat _ _ _ _ _ e3) ?_
        refine V.aload_n dX11_pane_31 rfl 0 rfl ?_
        obtain ⟨v8, e4, hf⟩ := bS hf
        refine V.xgR dX11_pane_32 fl_RX11_26 e4 ?_
        obtain ⟨v9, e5, hf⟩ := bS hf
        refine V.rgR dX11_pane_35 fl_RX11_144 e5 ?_
        refine V.iload_n dX11_pane_38 rfl 1 rfl ?_
        refine V.iconst (v := (4 : Int32)) dX11_pane_39 (by decide) ?_
        refine V.imul dX11_pane_40 ?_
        refine V.iload_n dX11_pane_41 rfl 2 rfl ?_
        refine V.iadd dX11_pane_42 ?_
        obtain ⟨v10, e6, hf⟩ := bS hf
        refine V.xldI dX11_pane_43 e6 ?_
        obtain rfl := Option.some.inj hf
        exact V.iret dX11_pane_44
    · rw [if_neg c4] at hf
      refine V.sub [] rfl ?_
      exact w_X11_pane_15 _ _ hf

def f_X11_pour_120 (h : xH) : Option ((String × xH) ⊕ (Int32 × xH)) := some (.inl ("java/lang/IllegalArgumentException", thr h))
def f_X11_pour_139 : Nat → xH → Nat → Int32 → Int32 → Int32 → Option ((String × xH) ⊕ (Int32 × xH))
  | 0, _, _, _, _, _ => none
  | n + 1, h, l0, l1, l2, l3 => (dvI l2 (2 : Int32)).bind fun v1 => (if v1 ≤ l3 then ((dvI l2 (2 : Int32)).bind fun v3 => some (.inr (v3, h))) else ((gR h l0 11 5).bind fun v4 => (gR h l0 11 10).bind fun v5 => (gO h v5 10).bind fun q6 => (f_X10_numberAt h v5 l1 ((2 : Int32) * l3)).bind fun r7 => (gR h l0 11 10).bind fun v8 => (gO h v8 10).bind fun q9 => (f_X10_numberAt h v8 l1 (((2 : Int32) * l3) + (1 : Int32))).bind fun r10 => (gO h v4 5).bind fun q11 => (f_X5_put h v4 l3 (Int64.toInt32 r7) (Int64.toInt32 r10)).bind fun r12 => f_X11_pour_139 n r12 l0 l1 l2 (l3 + 1)))
def f_X11_pour_58 : Nat → xH → Nat → Int32 → Int32 → Int32 → Option ((String × xH) ⊕ (Int32 × xH))
  | 0, _, _, _, _, _ => none
  | n + 1, h, l0, l1, l2, l3 => (dvI l2 (2 : Int32)).bind fun v1 => (if v1 ≤ l3 then (f_X11_pour_139 xFU h l0 l1 l2 (0 : Int32)) else ((gR h l0 11 10).bind fun v3 => (gO h v3 10).bind fun q4 => (f_X10_numberAt h v3 l1 ((2 : Int32) * l3)).bind fun r5 => (if (lg_cmp r5 (-1 : Int64)) < 0 then (f_X11_pour_120 h) else ((gR h l0 11 4).bind fun v7 => (gI h v7 3 4).bind fun v8 => (if 0 ≤ (lg_cmp r5 (Int32.toInt64 v8)) then (f_X11_pour_120 h) else ((gR h l0 11 10).bind fun v10 => (gO h v10 10).bind fun q11 => (f_X10_numberAt h v10 l1 (((2 : Int32) * l3) + (1 : Int32))).bind fun r12 => (f_X11_areHours h r12).bind fun r13 => (if r13 = 0 then (f_X11_pour_120 h) else (f_X11_pour_58 n h l0 l1 l2 (l3 + 1)))))))))
def f_X11_pour (h : xH) (l0 : Nat) (l1 : Int32) : Option ((String × xH) ⊕ (Int32 × xH)) := (gO h l0 11).bind fun q1 => (f_X11_checkTrayThere h l0 l1).bind fun r2 => (match r2 with | .inl E3 => (some (.inl E3)) | .inr v4 => ((gR h l0 11 10).bind fun v5 => (gR h v5 10 1).bind fun v6 => (ldI h .int v6 l1).bind fun v7 => (rmI v7 (2 : Int32)).bind fun v8 => (if v8 = 0 then ((dvI v7 (2 : Int32)).bind fun v10 => (gR h l0 11 4).bind fun v11 => (gI h v11 3 1).bind fun v12 => (if v10 ≤ v12 then (f_X11_pour_58 xFU h l0 l1 v7 (0 : Int32)) else (some (.inl ("java/lang/IllegalArgumentException", thr h))))) else (some (.inl ("java/lang/IndexOutOfBoundsException", thr h))))))
set_option maxRecDepth 20000 in
theorem w_X11_pour_120 (h : xH) (r : (String × xH) ⊕ (Int32 × xH)) (hf : f_X11_pour_120 h = some r) : V 6 yX11_pour cX11_pour 6 (some .int) [] none 120 [] [] h (oTIh r) := by
  unfold f_X11_pour_120 at hf
  obtain rfl := Option.some.inj hf
  exact V.throwSW (i := 44) th_110 (by decide) dX11_pour_120 dX11_pour_123 dX11_pour_124 dX11_pour_127 dX11_pour_130 (by decide) (Nat.le_of_ble_eq_true rfl)

set_option maxRecDepth 20000 in
theorem w_X11_pour_139 : ∀ (n : Nat) (h : xH) (l0 : Nat) (l1 : Int32) (l2 : Int32) (l3 : Int32) (r : (String × xH) ⊕ (Int32 × xH)), f_X11_pour_139 n h l0 l1 l2 l3 = some r → V 6 yX11_pour cX11_pour 6 (some .int) [] none 139 [(0, .ref l0), (1, .int l1), (2, .int l2), (3, .int l3)] [] h (oTIh r) := by
  intro n
  induction n with
  | zero => intro h l0 l1 l2 l3 r hf; cases hf
  | succ n ih =>
    intro h l0 l1 l2 l3 r hf
    rw [f_X11_pour_139] at hf
    refine V.iload_n dX11_pour_139 rfl 3 rfl ?_
    refine V.iload_n dX11_pour_140 rfl 2 rfl ?_
    refine V.iconst (v := (2 : Int32)) dX11_pour_141 (by decide) ?_
    obtain ⟨v1, e1, hf⟩ := bS hf
    refine V.xdvI dX11_pour_142 e1 ?_
    refine V.icmp_ge (tgt := 186) dX11_pour_143 (by decide) (fun c2 => ?_) (fun c2 => ?_)
    · rw [if_pos c2] at hf
      refine V.iload_n dX11_pour_186 rfl 2 rfl ?_
      refine V.iconst (v := (2 : Int32)) dX11_pour_187 (by decide) ?_
      obtain ⟨v3, e2, hf⟩ := bS hf
      refine V.xdvI dX11_pour_188 e2 ?_
      obtain rfl := Option.some.inj hf
      exact V.iret dX11_pour_189
    · rw [if_neg c2] at hf
      refine V.aload_n dX11_pour_146 rfl 0 rfl ?_
      obtain ⟨v4, e3, hf⟩ := bS hf
      refine V.xgR dX11_pour_147 fl_RX11_33 e3 ?_
      refine V.iload_n dX11_pour_150 rfl 3 rfl ?_
      refine V.aload_n dX11_pour_151 rfl 0 rfl ?_
      obtain ⟨v5, e4, hf⟩ := bS hf
      refine V.xgR dX11_pour_152 fl_RX11_55 e4 ?_
      refine V.iload_n dX11_pour_155 rfl 1 rfl ?_
      refine V.iconst (v := (2 : Int32)) dX11_pour_156 (by decide) ?_
      refine V.iload_n dX11_pour_157 rfl 3 rfl ?_
      refine V.imul dX11_pour_158 ?_
      obtain ⟨q6, e5, hf⟩ := bS hf
      obtain ⟨r7, e6, hf⟩ := bS hf
      refine V.callV (As := [.int l1, .int ((2 : Int32) * l3)]) (st := [.int l3, .ref v4]) dX11_pour_159 cl_RX11_327 sw_yX10_numberAt (by decide) rfl (Nat.le_of_ble_eq_true rfl) rfl (gO_some e5) rfl (w_X10_numberAt _ _ _ _ _ e6) ?_
      refine V.l2i dX11_pour_162 ?_
      refine V.aload_n dX11_pour_163 rfl 0 rfl ?_
      obtain ⟨v8, e7, hf⟩ := bS hf
      refine V.xgR dX11_pour_164 fl_RX11_55 e7 ?_
      refine V.iload_n dX11_pour_167 rfl 1 rfl ?_
      refine V.iconst (v := (2 : Int32)) dX11_pour_168 (by decide) ?_
      refine V.iload_n dX11_pour_169 rfl 3 rfl ?_
      refine V.imul dX11_pour_170 ?_
      refine V.iconst (v := (1 : Int32)) dX11_pour_171 (by decide) ?_
      refine V.iadd dX11_pour_172 ?_
      obtain ⟨q9, e8, hf⟩ := bS hf
      obtain ⟨r10, e9, hf⟩ := bS hf
      refine V.callV (As := [.int l1, .int (((2 : Int32) * l3) + (1 : Int32))]) (st := [.int (Int64.toInt32 r7), .int l3, .ref v4]) dX11_pour_173 cl_RX11_327 sw_yX10_numberAt (by decide) rfl (Nat.le_of_ble_eq_true rfl) rfl (gO_some e8) rfl (w_X10_numberAt _ _ _ _ _ e9) ?_
      refine V.l2i dX11_pour_176 ?_
      obtain ⟨q11, e10, hf⟩ := bS hf
      obtain ⟨r12, e11, hf⟩ := bS hf
      refine V.callV (As := [.int l3, .int (Int64.toInt32 r7), .int (Int64.toInt32 r10)]) (st := []) dX11_pour_177 cl_RX11_172 sw_yX5_put (by decide) rfl (Nat.le_of_ble_eq_true rfl) rfl (gO_some e10) rfl (w_X5_put _ _ _ _ _ _ e11) ?_
      refine V.iinc (v := (l3 + 1)) (lv' := [(3, .int (l3 + 1)), (0, .ref l0), (1, .int l1), (2, .int l2)]) dX11_pour_180 3 rfl rfl (Nat.le_of_ble_eq_true rfl) rfl ?_
      refine V.goto (tgt := 139) dX11_pour_183 (by decide) ?_
      refine V.sub [1, 2, 3, 0] rfl ?_
      exact ih _ _ _ _ _ _ hf

set_option maxRecDepth 20000 in
theorem w_X11_pour_58 : ∀ (n : Nat) (h : xH) (l0 : Nat) (l1 : Int32) (l2 : Int32) (l3 : Int32) (r : (String × xH) ⊕ (Int32 × xH)), f_X11_pour_58 n h l0 l1 l2 l3 = some r → V 6 yX11_pour cX11_pour 6 (some .int) [] none 58 [(0, .ref l0), (1, .int l1), (2, .int l2), (3, .int l3)] [] h (oTIh r) := by
  intro n
  induction n with
  | zero => intro h l0 l1 l2 l3 r hf; cases hf
  | succ n ih =>
    intro h l0 l1 l2 l3 r hf
    rw [f_X11_pour_58] at hf
    refine V.iload_n dX11_pour_58 rfl 3 rfl ?_
    refine V.iload_n dX11_pour_59 rfl 2 rfl ?_
    refine V.iconst (v := (2 : Int32)) dX11_pour_60 (by decide) ?_
    obtain ⟨v1, e12, hf⟩ := bS hf
    refine V.xdvI dX11_pour_61 e12 ?_
    refine V.icmp_ge (tgt := 137) dX11_pour_62 (by decide) (fun c2 => ?_) (fun c2 => ?_)
    · rw [if_pos c2] at hf
      refine V.iconst (v := (0 : Int32)) dX11_pour_137 (by decide) ?_
      refine V.istore_n (lv' := [(3, .int (0 : Int32)), (0, .ref l0), (1, .int l1), (2, .int l2)]) dX11_pour_138 rfl (by decide) rfl ?_
      refine V.sub [1, 2, 3, 0] rfl ?_
      exact w_X11_pour_139 _ _ _ _ _ _ _ hf
    · rw [if_neg c2] at hf
      refine V.aload_n dX11_pour_65 rfl 0 rfl ?_
      obtain ⟨v3, e13, hf⟩ := bS hf
      refine V.xgR dX11_pour_66 fl_RX11_55 e13 ?_
      refine V.iload_n dX11_pour_69 rfl 1 rfl ?_
      refine V.iconst (v := (2 : Int32)) dX11_pour_70 (by decide) ?_
      refine V.iload_n dX11_pour_71 rfl 3 rfl ?_
      refine V.imul dX11_pour_72 ?_
      obtain ⟨q4, e14, hf⟩ := bS hf
      obtain ⟨r5, e15, hf⟩ := bS hf
      refine V.callV (As := [.int l1, .int ((2 : Int32) * l3)]) (st := []) dX11_pour_73 cl_RX11_327 sw_yX10_numberAt (by decide) rfl (Nat.le_of_ble_eq_true rfl) rfl (gO_some e14) rfl (w_X10_numberAt _ _ _ _ _ e15) ?_
      refine V.lstore (lv' := [(4, .long r5), (0, .ref l0), (1, .int l1), (2, .int l2), (3, .int l3)]) dX11_pour_76 (by decide) rfl ?_
      refine V.lload dX11_pour_78 0 rfl ?_
      refine V.ldc2 (v := (-1 : Int64)) dX11_pour_80 cj_RX11_394 ?_
      refine V.lcmp dX11_pour_83 ?_
      refine V.if_lt (tgt := 120) dX11_pour_84 (by decide) (fun c6 => ?_) (fun c6 => ?_)
      · rw [if_pos c6] at hf
        refine V.sub [] rfl ?_
        exact w_X11_pour_120 _ _ hf
      · rw [if_neg c6] at hf
        refine V.lload dX11_pour_87 0 rfl ?_
        refine V.aload_n dX11_pour_89 rfl 1 rfl ?_
        obtain ⟨v7, e16, hf⟩ := bS hf
        refine V.xgR dX11_pour_90 fl_RX11_26 e16 ?_
        obtain ⟨v8, e17, hf⟩ := bS hf
        refine V.xgI dX11_pour_93 fl_RX11_396 e17 ?_
        refine V.i2l dX11_pour_96 ?_
        refine V.lcmp dX11_pour_97 ?_
        refine V.if_ge (tgt := 120) dX11_pour_98 (by decide) (fun c9 => ?_) (fun c9 => ?_)
        · rw [if_pos c9] at hf
          refine V.sub [] rfl ?_
          exact w_X11_pour_120 _ _ hf
        · rw [if_neg c9] at hf
          refine V.aload_n dX11_pour_101 rfl 1 rfl ?_
          obtain ⟨v10, e18, hf⟩ := bS hf
          refine V.xgR dX11_pour_102 fl_RX11_55 e18 ?_
          refine V.iload_n dX11_pour_105 rfl 2 rfl ?_
          refine V.iconst (v := (2 : Int32)) dX11_pour_106 (by decide) ?_
          refine V.iload_n dX11_pour_107 rfl 4 rfl ?_
          refine V.imul dX11_pour_108 ?_
          refine V.iconst (v := (1 : Int32)) dX11_pour_109 (by decide) ?_
          refine V.iadd dX11_pour_110 ?_
          obtain ⟨q11, e19, hf⟩ := bS hf
          obtain ⟨r12, e20, hf⟩ := bS hf
          refine V.callV (As := [.int l1, .int (((2 : Int32) * l3) + (1 : Int32))]) (st := []) dX11_pour_111 cl_RX11_327 sw_yX10_numberAt (by decide) rfl (Nat.le_of_ble_eq_true rfl) rfl (gO_some e19) rfl (w_X10_numberAt _ _ _ _ _ e20) ?_
          obtain ⟨r13, e21, hf⟩ := bS hf
          refine V.callS (As := [.long r12]) (st := []) dX11_pour_114 cl_RX11_165 sw_yX11_areHours (by decide) rfl (Nat.le_of_ble_eq_true rfl) rfl (w_X11_areHours _ _ _ e21) ?_
          refine V.if_ne (tgt := 131) dX11_pour_117 (by decide) (fun c14 => ?_) (fun c14 => ?_)
          · rw [if_neg c14] at hf
            refine V.iinc (v := (l3 + 1)) (lv' := [(3, .int (l3 + 1)), (4, .long r5), (0, .ref l0), (1, .int l1), (2, .int l2)]) dX11_pour_131 4 rfl rfl (Nat.le_of_ble_eq_true rfl) rfl ?_
            refine V.goto (tgt := 58) dX11_pour_134 (by decide) ?_
            refine V.sub [2, 3, 4, 0] rfl ?_
            exact ih _ _ _ _ _ _ hf
          · rw [if_pos c14] at hf
            refine V.sub [] rfl ?_
            exact w_X11_pour_120 _ _ hf

set_option maxRecDepth 20000 in
theorem w_X11_pour (h : xH) (l0 : Nat) (l1 : Int32) (r : (String × xH) ⊕ (Int32 × xH)) (hf : f_X11_pour h l0 l1 = some r) : Ev 6 yX11_pour cX11_pour 6 (some .int) [] [.ref l0, .int l1] h (oTIh r) := by
  refine Ev.of (by decide +kernel) (Nat.le_of_ble_eq_true rfl) ?_
  unfold f_X11_pour at hf
  refine V.aload_n dX11_pour_0 rfl 0 rfl ?_
  refine V.iload_n dX11_pour_1 rfl 1 rfl ?_
  obtain ⟨q1, e22, hf⟩ := bS hf
  obtain ⟨r2, e23, hf⟩ := bS hf
  rcases r2 with E3 | v4
  · obtain rfl := Option.some.inj hf
    exact V.callVT (As := [.int l1]) (st := []) dX11_pour_2 cl_RX11_314 sw_yX11_checkTrayThere (by decide) rfl (Nat.le_of_ble_eq_true rfl) rfl (gO_some e22) rfl (by decide) (w_X11_checkTrayThere _ _ _ _ e23)
  · refine V.callV (As := [.int l1]) (st := []) dX11_pour_2 cl_RX11_314 sw_yX11_checkTrayThere (by decide) rfl (Nat.le_of_ble_eq_true rfl) rfl (gO_some e22) rfl (w_X11_checkTrayThere _ _ _ _ e23) ?_
    refine V.aload_n dX11_pour_5 rfl 0 rfl ?_
    obtain ⟨v5, e24, hf⟩ := bS hf
    refine V.xgR dX11_pour_6 fl_RX11_55 e24 ?_
    obtain ⟨v6, e25, hf⟩ := bS hf
    refine V.rgR dX11_pour_9 fl_RX11_317 e25 ?_
    refine V.iload_n dX11_pour_12 rfl 1 rfl ?_
    obtain ⟨v7, e26, hf⟩ := bS hf
    refine V.xldI dX11_pour_13 e26 ?_
    refine V.istore_n (lv' := [(2, .int v7), (0, .ref l0), (1, .int l1)]) dX11_pour_14 rfl (by decide) rfl ?_
    refine V.iload_n dX11_pour_15 rfl 0 rfl ?_
    refine V.iconst (v := (2 : Int32)) dX11_pour_16 (by decide) ?_
    obtain ⟨v8, e27, hf⟩ := bS hf
    refine V.xrmI dX11_pour_17 e27 ?_
    refine V.if_eq (tgt := 32) dX11_pour_18 (by decide) (fun c9 => ?_) (fun c9 => ?_)
    · rw [if_pos c9] at hf
      refine V.iload_n dX11_pour_32 rfl 0 rfl ?_
      refine V.iconst (v := (2 : Int32)) dX11_pour_33 (by decide) ?_
      obtain ⟨v10, e28, hf⟩ := bS hf
      refine V.xdvI dX11_pour_34 e28 ?_
      refine V.aload_n dX11_pour_35 rfl 1 rfl ?_
      obtain ⟨v11, e29, hf⟩ := bS hf
      refine V.xgR dX11_pour_36 fl_RX11_26 e29 ?_
      obtain ⟨v12, e30, hf⟩ := bS hf
      refine V.xgI dX11_pour_39 fl_RX11_162 e30 ?_
      refine V.icmp_le (tgt := 56) dX11_pour_42 (by decide) (fun c13 => ?_) (fun c13 => ?_)
      · rw [if_pos c13] at hf
        refine V.iconst (v := (0 : Int32)) dX11_pour_56 (by decide) ?_
        refine V.istore_n (lv' := [(3, .int (0 : Int32)), (2, .int v7), (0, .ref l0), (1, .int l1)]) dX11_pour_57 rfl (by decide) rfl ?_
        refine V.sub [2, 3, 1, 0] rfl ?_
        exact w_X11_pour_58 _ _ _ _ _ _ _ hf
      · rw [if_neg c13] at hf
        obtain rfl := Option.some.inj hf
        exact V.throwSW (i := 43) th_110 (by decide) dX11_pour_45 dX11_pour_48 dX11_pour_49 dX11_pour_52 dX11_pour_55 (by decide) (Nat.le_of_ble_eq_true rfl)
    · rw [if_neg c9] at hf
      obtain rfl := Option.some.inj hf
      exact V.throwSW (i := 42) th_324 (by decide) dX11_pour_21 dX11_pour_24 dX11_pour_25 dX11_pour_28 dX11_pour_31 (by decide) (Nat.le_of_ble_eq_true rfl)

def f_X11_restore_26 (h : xH) : Option ((String × xH) ⊕ (xH)) := some (.inl ("java/lang/IllegalStateException", thr h))
def f_X11_restore (h : xH) (l0 : Nat) (l1 : Int32) : Option ((String × xH) ⊕ (xH)) := (f_X11_checkImage h l1).bind fun r1 => (match r1 with | .inl E2 => (some (.inl E2)) | .inr v3 => ((gR h l0 11 6).bind fun v4 => (ldN h "LitNextDoor$House" v4 l1).bind fun v5 => (match v5 with | none => ((gR h l0 11 7).bind fun v7 => (ldN h "LitNextDoor$Lamps" v7 l1).bind fun v8 => (match v8 with | none => (f_X11_restore_26 h) | some v9 => (f_X11_restore_26 h))) | some v6 => ((gR h l0 11 7).bind fun v10 => (ldN h "LitNextDoor$Lamps" v10 l1).bind fun v11 => (match v11 with | none => (f_X11_restore_26 h) | some v12 => ((pF h l0 11 4 (.ref v6)).bind fun h13 => (gR h13 l0 11 5).bind fun v14 => (gO h13 v14 5).bind fun q15 => (f_X5_copyFrom h13 v14 v12).bind fun r16 => some (.inr r16)))))))
set_option maxRecDepth 20000 in
theorem w_X11_restore_26 (h : xH) (r : (String × xH) ⊕ (xH)) (hf : f_X11_restore_26 h = some r) : V 5 yX11_restore cX11_restore 4 none [] none 26 [] [] h (oTVh r) := by
  unfold f_X11_restore_26 at hf
  obtain rfl := Option.some.inj hf
  exact V.throwSW (i := 46) th_412 (by decide) dX11_restore_26 dX11_restore_29 dX11_restore_30 dX11_restore_33 dX11_restore_36 (by decide) (Nat.le_of_ble_eq_true rfl)

set_option maxRecDepth 20000 in
theorem w_X11_restore (h : xH) (l0 : Nat) (l1 : Int32) (r : (String × xH) ⊕ (xH)) (hf : f_X11_restore h l0 l1 = some r) : Ev 5 yX11_restore cX11_restore 4 none [] [.ref l0, .int l1] h (oTVh r) := by
  refine Ev.of (by decide +kernel) (Nat.le_of_ble_eq_true rfl) ?_
  unfold f_X11_restore at hf
  refine V.iload_n dX11_restore_0 rfl 1 rfl ?_
  obtain ⟨r1, e1, hf⟩ := bS hf
  rcases r1 with E2 | v3
  · obtain rfl := Option.some.inj hf
    exact V.callST (As := [.int l1]) (st := []) dX11_restore_1 cl_RX11_401 sw_yX11_checkImage (by decide) rfl (Nat.le_of_ble_eq_true rfl) rfl (by decide) (w_X11_checkImage _ _ _ e1)
  · refine V.callS (As := [.int l1]) (st := []) dX11_restore_1 cl_RX11_401 sw_yX11_checkImage (by decide) rfl (Nat.le_of_ble_eq_true rfl) rfl (w_X11_checkImage _ _ _ e1) ?_
    refine V.aload_n dX11_restore_4 rfl 0 rfl ?_
    obtain ⟨v4, e2, hf⟩ := bS hf
    refine V.xgR dX11_restore_5 fl_RX11_37 e2 ?_
    refine V.iload_n dX11_restore_8 rfl 1 rfl ?_
    obtain ⟨v5, e3, hf⟩ := bS hf
    rcases v5 with _ | v6
    · refine V.xldN0 dX11_restore_9 e3 ?_
      refine V.astore_nN (lv' := [(2, .null), (0, .ref l0), (1, .int l1)]) dX11_restore_10 rfl (by decide) rfl ?_
      refine V.aload_n dX11_restore_11 rfl 1 rfl ?_
      obtain ⟨v7, e4, hf⟩ := bS hf
      refine V.xgR dX11_restore_12 fl_RX11_41 e4 ?_
      refine V.iload_n dX11_restore_15 rfl 2 rfl ?_
      obtain ⟨v8, e5, hf⟩ := bS hf
      rcases v8 with _ | v9
      · refine V.xldN0 dX11_restore_16 e5 ?_
        refine V.astore_nN (lv' := [(3, .null), (2, .null), (0, .ref l0), (1, .int l1)]) dX11_restore_17 rfl (by decide) rfl ?_
        refine V.aload_nN dX11_restore_18 rfl 1 rfl ?_
        refine V.ifnullN (tgt := 26) dX11_restore_19 (by decide) ?_
        refine V.sub [] rfl ?_
        exact w_X11_restore_26 _ _ hf
      · refine V.xldN dX11_restore_16 e5 ?_
        refine V.astore_n (lv' := [(3, .ref v9), (2, .null), (0, .ref l0), (1, .int l1)]) dX11_restore_17 rfl (by decide) rfl ?_
        refine V.aload_nN dX11_restore_18 rfl 1 rfl ?_
        refine V.ifnullN (tgt := 26) dX11_restore_19 (by decide) ?_
        refine V.sub [] rfl ?_
        exact w_X11_restore_26 _ _ hf
    · refine V.xldN dX11_restore_9 e3 ?_
      refine V.astore_n (lv' := [(2, .ref v6), (0, .ref l0), (1, .int l1)]) dX11_restore_10 rfl (by decide) rfl ?_
      refine V.aload_n dX11_restore_11 rfl 1 rfl ?_
      obtain ⟨v10, e6, hf⟩ := bS hf
      refine V.xgR dX11_restore_12 fl_RX11_41 e6 ?_
      refine V.iload_n dX11_restore_15 rfl 2 rfl ?_
      obtain ⟨v11, e7, hf⟩ := bS hf
      rcases v11 with _ | v12
      · refine V.xldN0 dX11_restore_16 e7 ?_
        refine V.astore_nN (lv' := [(3, .null), (2, .ref v6), (0, .ref l0), (1, .int l1)]) dX11_restore_17 rfl (by decide) rfl ?_
        refine V.aload_n dX11_restore_18 rfl 1 rfl ?_
        refine V.ifnull dX11_restore_19 ?_
        refine V.aload_nN dX11_restore_22 rfl 0 rfl ?_
        refine V.ifnonnullN dX11_restore_23 ?_
        refine V.sub [] rfl ?_
        exact w_X11_restore_26 _ _ hf
      · refine V.xldN dX11_restore_16 e7 ?_
        refine V.astore_n (lv' := [(3, .ref v12), (2, .ref v6), (0, .ref l0), (1, .int l1)]) dX11_restore_17 rfl (by decide) rfl ?_
        refine V.aload_n dX11_restore_18 rfl 1 rfl ?_
        refine V.ifnull dX11_restore_19 ?_
        refine V.aload_n dX11_restore_22 rfl 0 rfl ?_
        refine V.ifnonnull (tgt := 37) dX11_restore_23 (by decide) ?_
        refine V.aload_n dX11_restore_37 rfl 2 rfl ?_
        refine V.aload_n dX11_restore_38 rfl 1 rfl ?_
        obtain ⟨h13, e8, hf⟩ := bS hf
        refine V.xpF dX11_restore_39 fl_RX11_26 (fun h9 => nomatch h9) (fun _ => rfl) (fun _ => rfl) e8 ?_
        refine V.aload_n dX11_restore_42 rfl 2 rfl ?_
        obtain ⟨v14, e9, hf⟩ := bS hf
        refine V.xgR dX11_restore_43 fl_RX11_33 e9 ?_
        refine V.aload_n dX11_restore_46 rfl 0 rfl ?_
        obtain ⟨q15, e10, hf⟩ := bS hf
        obtain ⟨r16, e11, hf⟩ := bS hf
        refine V.callV (As := [.ref v12]) (st := []) dX11_restore_47 cl_RX11_404 sw_yX5_copyFrom (by decide) rfl (Nat.le_of_ble_eq_true rfl) rfl (gO_some e10) rfl (w_X5_copyFrom _ _ _ _ e11) ?_
        obtain rfl := Option.some.inj hf
        exact V.vret dX11_restore_50

def f_X11_round_86 (h : xH) (l0 : Nat) (l1 : Int32) (l2 : Int32) : Option ((String × xH) ⊕ (Int32 × xH)) := (gN h l0 11 17).bind fun v1 => (match v1 with | none => ((gR h l0 11 4).bind fun v3 => none) | some v2 => ((gR h l0 11 4).bind fun v4 => (gO h v2 8).bind fun q5 => (f_X8_stepsFrom h v2 v4 l1).bind fun r6 => (if l2 = (-1 : Int32) then (some (.inr (r6.1, r6.2))) else ((if r6.1 < l2 then (some (.inr ((-1 : Int32), r6.2))) else ((gN r6.2 l0 11 17).bind fun v9 => (match v9 with | none => (none) | some v10 => ((gR r6.2 v10 8 1).bind fun v11 => (ldI r6.2 .int v11 l2).bind fun v12 => some (.inr (v12, r6.2))))))))))
def f_X11_round_68 (h : xH) (l0 : Nat) (l1 : Int32) (l2 : Int32) : Option ((String × xH) ⊕ (Int32 × xH)) := (mkO h 8 8 [.int 0, .null, .null, .null, .int 0, .null, .int 0, .int 0]).bind fun h1 => (gR h1 l0 11 4).bind fun v2 => (gI h1 v2 3 1).bind fun v3 => (f_X8_init h1 (h.1.length) v3).bind fun r4 => (pF r4 l0 11 17 (.ref (h.1.length))).bind fun h5 => f_X11_round_86 h5 l0 l1 l2
def f_X11_round (h : xH) (l0 : Nat) (l1 : Int32) (l2 : Int32) : Option ((String × xH) ⊕ (Int32 × xH)) := (gO h l0 11).bind fun q1 => (f_X11_checkRoom h l0 l1).bind fun r2 => (match r2 with | .inl E3 => (some (.inl E3)) | .inr v4 => ((gR h l0 11 4).bind fun v5 => (gI h v5 3 1).bind fun v6 => (if v6 ≤ (12 : Int32) then ((if (-1 : Int32) ≤ l2 then ((gN h l0 11 17).bind fun v9 => (match v9 with | none => (f_X11_round_68 h l0 l1 l2) | some v10 => ((gN h l0 11 17).bind fun v11 => (match v11 with | none => (none) | some v12 => ((gI h v12 8 0).bind fun v13 => (gR h l0 11 4).bind fun v14 => (gI h v14 3 1).bind fun v15 => (if v15 ≤ v13 then (f_X11_round_86 h l0 l1 l2) else (f_X11_round_68 h l0 l1 l2))))))) else (some (.inl ("java/lang/IllegalArgumentException", thr h))))) else (some (.inl ("java/lang/IllegalArgumentException", thr h))))))
set_option maxRecDepth 20000 in
theorem w_X11_round_86 (h : xH) (l0 : Nat) (l1 : Int32) (l2 : Int32) (r : (String × xH) ⊕ (Int32 × xH)) (hf : f_X11_round_86 h l0 l1 l2 = some r) : V 7 yX11_round cX11_round 4 (some .int) [] none 86 [(0, .ref l0), (1, .int l1), (2, .int l2)] [] h (oTIh r) := by
  unfold f_X11_round_86 at hf
  refine V.aload_n dX11_round_86 rfl 0 rfl ?_
  obtain ⟨v1, e1, hf⟩ := bS hf
  rcases v1 with _ | v2
  · refine V.xgN0 dX11_round_87 fl_RX11_98 e1 ?_
    refine V.aload_n dX11_round_90 rfl 0 rfl ?_
    obtain ⟨v3, e2, hf⟩ := bS hf
    refine V.xgR dX11_round_91 fl_RX11_26 e2 ?_
    refine V.iload_n dX11_round_94 rfl 1 rfl ?_
    cases hf
  · refine V.xgN dX11_round_87 fl_RX11_98 e1 ?_
    refine V.aload_n dX11_round_90 rfl 0 rfl ?_
    obtain ⟨v4, e3, hf⟩ := bS hf
    refine V.xgR dX11_round_91 fl_RX11_26 e3 ?_
    refine V.iload_n dX11_round_94 rfl 1 rfl ?_
    obtain ⟨q5, e4, hf⟩ := bS hf
    obtain ⟨r6, e5, hf⟩ := bS hf
    refine V.callV (As := [.ref v4, .int l1]) (st := []) dX11_round_95 cl_RX11_350 sw_yX8_stepsFrom (by decide) rfl (Nat.le_of_ble_eq_true rfl) rfl (gO_some e4) rfl (w_X8_stepsFrom _ _ _ _ _ e5) ?_
    refine V.istore_n (lv' := [(3, .int r6.1), (0, .ref l0), (1, .int l1), (2, .int l2)]) dX11_round_98 rfl (by decide) rfl ?_
    refine V.iload_n dX11_round_99 rfl 3 rfl ?_
    refine V.iconst (v := (-1 : Int32)) dX11_round_100 (by decide) ?_
    refine V.icmp_ne (tgt := 106) dX11_round_101 (by decide) (fun c7 => ?_) (fun c7 => ?_)
    · rw [if_neg c7] at hf
      refine V.iload_n dX11_round_106 rfl 3 rfl ?_
      refine V.iload_n dX11_round_107 rfl 0 rfl ?_
      refine V.icmp_gt (tgt := 123) dX11_round_108 (by decide) (fun c8 => ?_) (fun c8 => ?_)
      · rw [if_pos c8] at hf
        refine V.iconst (v := (-1 : Int32)) dX11_round_123 (by decide) ?_
        obtain rfl := Option.some.inj hf
        exact V.iret dX11_round_124
      · rw [if_neg c8] at hf
        refine V.aload_n dX11_round_111 rfl 1 rfl ?_
        obtain ⟨v9, e6, hf⟩ := bS hf
        rcases v9 with _ | v10
        · refine V.xgN0 dX11_round_112 fl_RX11_98 e6 ?_
          cases hf
        · refine V.xgN dX11_round_112 fl_RX11_98 e6 ?_
          obtain ⟨v11, e7, hf⟩ := bS hf
          refine V.rgR dX11_round_115 fl_RX11_353 e7 ?_
          refine V.iload_n dX11_round_118 rfl 3 rfl ?_
          obtain ⟨v12, e8, hf⟩ := bS hf
          refine V.xldI dX11_round_119 e8 ?_
          refine V.goto (tgt := 124) dX11_round_120 (by decide) ?_
          obtain rfl := Option.some.inj hf
          exact V.iret dX11_round_124
    · rw [if_pos c7] at hf
      refine V.iload_n dX11_round_104 rfl 0 rfl ?_
      obtain rfl := Option.some.inj hf
      exact V.iret dX11_round_105

set_option maxRecDepth 20000 in
theorem w_X11_round_68 (h : xH) (l0 : Nat) (l1 : Int32) (l2 : Int32) (r : (String × xH) ⊕ (Int32 × xH)) (hf : f_X11_round_68 h l0 l1 l2 = some r) : V 7 yX11_round cX11_round 4 (some .int) [] none 68 [(0, .ref l0), (1, .int l1), (2, .int l2)] [] h (oTIh r) := by
  unfold f_X11_round_68 at hf
  refine V.aload_n dX11_round_68 rfl 0 rfl ?_
  obtain ⟨h1, e9, hf⟩ := bS hf
  refine V.xmkO dX11_round_69 nc_RX11_346 e9 ?_
  refine V.dup dX11_round_72 rfl ?_
  refine V.aload_n dX11_round_73 rfl 0 rfl ?_
  obtain ⟨v2, e10, hf⟩ := bS hf
  refine V.xgR dX11_round_74 fl_RX11_26 e10 ?_
  obtain ⟨v3, e11, hf⟩ := bS hf
  refine V.xgI dX11_round_77 fl_RX11_162 e11 ?_
  obtain ⟨r4, e12, hf⟩ := bS hf
  refine V.callI (As := [.int v3]) (st := [.ref (h.1.length), .ref l0]) dX11_round_80 cl_RX11_348 sw_yX8_init rfl (by decide) rfl (Nat.le_of_ble_eq_true rfl) rfl (w_X8_init _ _ _ _ e12) ?_
  obtain ⟨h5, e13, hf⟩ := bS hf
  refine V.xpF dX11_round_83 fl_RX11_98 (fun h9 => nomatch h9) (fun _ => rfl) (fun _ => rfl) e13 ?_
  exact w_X11_round_86 _ _ _ _ _ hf

set_option maxRecDepth 20000 in
theorem w_X11_round (h : xH) (l0 : Nat) (l1 : Int32) (l2 : Int32) (r : (String × xH) ⊕ (Int32 × xH)) (hf : f_X11_round h l0 l1 l2 = some r) : Ev 7 yX11_round cX11_round 4 (some .int) [] [.ref l0, .int l1, .int l2] h (oTIh r) := by
  refine Ev.of (by decide +kernel) (Nat.le_of_ble_eq_true rfl) ?_
  unfold f_X11_round at hf
  refine V.aload_n dX11_round_0 rfl 0 rfl ?_
  refine V.iload_n dX11_round_1 rfl 1 rfl ?_
  obtain ⟨q1, e14, hf⟩ := bS hf
  obtain ⟨r2, e15, hf⟩ := bS hf
  rcases r2 with E3 | v4
  · obtain rfl := Option.some.inj hf
    exact V.callVT (As := [.int l1]) (st := []) dX11_round_2 cl_RX11_153 sw_yX11_checkRoom (by decide) rfl (Nat.le_of_ble_eq_true rfl) rfl (gO_some e14) rfl (by decide) (w_X11_checkRoom _ _ _ _ e15)
  · refine V.callV (As := [.int l1]) (st := []) dX11_round_2 cl_RX11_153 sw_yX11_checkRoom (by decide) rfl (Nat.le_of_ble_eq_true rfl) rfl (gO_some e14) rfl (w_X11_checkRoom _ _ _ _ e15) ?_
    refine V.aload_n dX11_round_5 rfl 0 rfl ?_
    obtain ⟨v5, e16, hf⟩ := bS hf
    refine V.xgR dX11_round_6 fl_RX11_26 e16 ?_
    obtain ⟨v6, e17, hf⟩ := bS hf
    refine V.xgI dX11_round_9 fl_RX11_162 e17 ?_
    refine V.bipush (v := (12 : Int32)) dX11_round_12 (by decide) ?_
    refine V.icmp_le (tgt := 28) dX11_round_14 (by decide) (fun c7 => ?_) (fun c7 => ?_)
    · rw [if_pos c7] at hf
      refine V.iload_n dX11_round_28 rfl 2 rfl ?_
      refine V.iconst (v := (-1 : Int32)) dX11_round_29 (by decide) ?_
      refine V.icmp_ge (tgt := 44) dX11_round_30 (by decide) (fun c8 => ?_) (fun c8 => ?_)
      · rw [if_pos c8] at hf
        refine V.aload_n dX11_round_44 rfl 0 rfl ?_
        obtain ⟨v9, e18, hf⟩ := bS hf
        rcases v9 with _ | v10
        · refine V.xgN0 dX11_round_45 fl_RX11_98 e18 ?_
          refine V.ifnullN (tgt := 68) dX11_round_48 (by decide) ?_
          exact w_X11_round_68 _ _ _ _ _ hf
        · refine V.xgN dX11_round_45 fl_RX11_98 e18 ?_
          refine V.ifnull dX11_round_48 ?_
          refine V.aload_n dX11_round_51 rfl 0 rfl ?_
          obtain ⟨v11, e19, hf⟩ := bS hf
          rcases v11 with _ | v12
          · refine V.xgN0 dX11_round_52 fl_RX11_98 e19 ?_
            cases hf
          · refine V.xgN dX11_round_52 fl_RX11_98 e19 ?_
            obtain ⟨v13, e20, hf⟩ := bS hf
            refine V.rgI dX11_round_55 fl_RX11_345 e20 ?_
            refine V.aload_n dX11_round_58 rfl 0 rfl ?_
            obtain ⟨v14, e21, hf⟩ := bS hf
            refine V.xgR dX11_round_59 fl_RX11_26 e21 ?_
            obtain ⟨v15, e22, hf⟩ := bS hf
            refine V.xgI dX11_round_62 fl_RX11_162 e22 ?_
            refine V.icmp_ge (tgt := 86) dX11_round_65 (by decide) (fun c16 => ?_) (fun c16 => ?_)
            · rw [if_pos c16] at hf
              exact w_X11_round_86 _ _ _ _ _ hf
            · rw [if_neg c16] at hf
              exact w_X11_round_68 _ _ _ _ _ hf
      · rw [if_neg c8] at hf
        obtain rfl := Option.some.inj hf
        exact V.throwSW (i := 20) th_110 (by decide) dX11_round_33 dX11_round_36 dX11_round_37 dX11_round_40 dX11_round_43 (by decide) (Nat.le_of_ble_eq_true rfl)
    · rw [if_neg c7] at hf
      obtain rfl := Option.some.inj hf
      exact V.throwSW (i := 36) th_110 (by decide) dX11_round_17 dX11_round_20 dX11_round_21 dX11_round_24 dX11_round_27 (by decide) (Nat.le_of_ble_eq_true rfl)

def f_X11_rule_29 (h : xH) : Option ((String × xH) ⊕ (Int32)) := some (.inl ("java/lang/IllegalArgumentException", thr h))
def f_X11_rule (h : xH) (l0 : Nat) (l1 : Int32) (l2 : Int32) (l3 : Int32) (l4 : Int32) : Option ((String × xH) ⊕ (Int32)) := (f_X11_checkRow h l1 l2).bind fun r1 => (match r1 with | .inl E2 => (some (.inl E2)) | .inr v3 => ((if l3 < (1 : Int32) then (f_X11_rule_29 h) else ((if (8 : Int32) < l3 then (f_X11_rule_29 h) else ((if l4 < 0 then (f_X11_rule_29 h) else ((if l4 < ((1 : Int32) <<< (l3 &&& 31)) then ((f_X11_lampsByRule h l1 l3 l4).bind fun r8 => (f_X11_unlitBy h r8 l1 l2).bind fun r9 => (if (lg_cmp r9 (0 : Int64)) = 0 then (some (.inr (-1 : Int32))) else ((f_J13_bitCount_95d88 h ((r9 &&& (-r9)) - (1 : Int64))).bind fun r11 => some (.inr r11)))) else (f_X11_rule_29 h))))))))))
set_option maxRecDepth 20000 in
theorem w_X11_rule_29 (h : xH) (r : (String × xH) ⊕ (Int32)) (hf : f_X11_rule_29 h = some r) : V 5 yX11_rule cX11_rule 7 (some .int) [] none 29 [] [] h (oTI h r) := by
  unfold f_X11_rule_29 at hf
  obtain rfl := Option.some.inj hf
  exact V.throwSW (i := 38) th_110 (by decide) dX11_rule_29 dX11_rule_32 dX11_rule_33 dX11_rule_36 dX11_rule_39 (by decide) (Nat.le_of_ble_eq_true rfl)

set_option maxRecDepth 20000 in
theorem w_X11_rule (h : xH) (l0 : Nat) (l1 : Int32) (l2 : Int32) (l3 : Int32) (l4 : Int32) (r : (String × xH) ⊕ (Int32)) (hf : f_X11_rule h l0 l1 l2 l3 l4 = some r) : Ev 5 yX11_rule cX11_rule 7 (some .int) [] [.ref l0, .int l1, .int l2, .int l3, .int l4] h (oTI h r) := by
  refine Ev.of (by decide +kernel) (Nat.le_of_ble_eq_true rfl) ?_
  unfold f_X11_rule at hf
  refine V.iload_n dX11_rule_0 rfl 1 rfl ?_
  refine V.iload_n dX11_rule_1 rfl 2 rfl ?_
  obtain ⟨r1, e1, hf⟩ := bS hf
  rcases r1 with E2 | v3
  · obtain rfl := Option.some.inj hf
    exact V.callST (As := [.int l1, .int l2]) (st := []) dX11_rule_2 cl_RX11_356 sw_yX11_checkRow (by decide) rfl (Nat.le_of_ble_eq_true rfl) rfl (by decide) (w_X11_checkRow _ _ _ _ e1)
  · refine V.callS (As := [.int l1, .int l2]) (st := []) dX11_rule_2 cl_RX11_356 sw_yX11_checkRow (by decide) rfl (Nat.le_of_ble_eq_true rfl) rfl (w_X11_checkRow _ _ _ _ e1) ?_
    refine V.iload_n dX11_rule_5 rfl 3 rfl ?_
    refine V.iconst (v := (1 : Int32)) dX11_rule_6 (by decide) ?_
    refine V.icmp_lt (tgt := 29) dX11_rule_7 (by decide) (fun c4 => ?_) (fun c4 => ?_)
    · rw [if_pos c4] at hf
      refine V.sub [] rfl ?_
      exact w_X11_rule_29 _ _ hf
    · rw [if_neg c4] at hf
      refine V.iload_n dX11_rule_10 rfl 3 rfl ?_
      refine V.bipush (v := (8 : Int32)) dX11_rule_11 (by decide) ?_
      refine V.icmp_gt (tgt := 29) dX11_rule_13 (by decide) (fun c5 => ?_) (fun c5 => ?_)
      · rw [if_pos c5] at hf
        refine V.sub [] rfl ?_
        exact w_X11_rule_29 _ _ hf
      · rw [if_neg c5] at hf
        refine V.iload dX11_rule_16 4 rfl ?_
        refine V.if_lt (tgt := 29) dX11_rule_18 (by decide) (fun c6 => ?_) (fun c6 => ?_)
        · rw [if_pos c6] at hf
          refine V.sub [] rfl ?_
          exact w_X11_rule_29 _ _ hf
        · rw [if_neg c6] at hf
          refine V.iload dX11_rule_21 4 rfl ?_
          refine V.iconst (v := (1 : Int32)) dX11_rule_23 (by decide) ?_
          refine V.iload_n dX11_rule_24 rfl 3 rfl ?_
          refine V.ishl dX11_rule_25 ?_
          refine V.icmp_lt (tgt := 40) dX11_rule_26 (by decide) (fun c7 => ?_) (fun c7 => ?_)
          · rw [if_pos c7] at hf
            refine V.iload_n dX11_rule_40 rfl 1 rfl ?_
            refine V.iload_n dX11_rule_41 rfl 3 rfl ?_
            refine V.iload dX11_rule_42 4 rfl ?_
            obtain ⟨r8, e2, hf⟩ := bS hf
            refine V.callS (As := [.int l1, .int l3, .int l4]) (st := []) dX11_rule_44 cl_RX11_362 sw_yX11_lampsByRule (by decide) rfl (Nat.le_of_ble_eq_true rfl) rfl (w_X11_lampsByRule _ _ _ _ _ e2) ?_
            refine V.iload_n dX11_rule_47 rfl 1 rfl ?_
            refine V.iload_n dX11_rule_48 rfl 2 rfl ?_
            obtain ⟨r9, e3, hf⟩ := bS hf
            refine V.callS (As := [.long r8, .int l1, .int l2]) (st := []) dX11_rule_49 cl_RX11_366 sw_yX11_unlitBy (by decide) rfl (Nat.le_of_ble_eq_true rfl) rfl (w_X11_unlitBy _ _ _ _ _ e3) ?_
            refine V.lstore (lv' := [(5, .long r9), (0, .ref l0), (1, .int l1), (2, .int l2), (3, .int l3), (4, .int l4)]) dX11_rule_52 (by decide) rfl ?_
            refine V.lload dX11_rule_54 0 rfl ?_
            refine V.lconst (v := 0) dX11_rule_56 (by decide) ?_
            refine V.lcmp dX11_rule_57 ?_
            refine V.if_ne (tgt := 65) dX11_rule_58 (by decide) (fun c10 => ?_) (fun c10 => ?_)
            · rw [if_neg c10] at hf
              refine V.lload dX11_rule_65 0 rfl ?_
              refine V.lload dX11_rule_67 0 rfl ?_
              refine V.lneg dX11_rule_69 ?_
              refine V.land dX11_rule_70 ?_
              refine V.lconst (v := 1) dX11_rule_71 (by decide) ?_
              refine V.lsub dX11_rule_72 ?_
              obtain ⟨r11, e4, hf⟩ := bS hf
              refine V.callS (As := [.long ((r9 &&& (-r9)) - (1 : Int64))]) (st := []) dX11_rule_73 cl_RX11_370 sw_yJ13_bitCount_95d88 (by decide) rfl (Nat.le_of_ble_eq_true rfl) rfl (w_J13_bitCount_95d88 _ _ _ e4) ?_
              obtain rfl := Option.some.inj hf
              exact V.iret dX11_rule_76
            · rw [if_pos c10] at hf
              refine V.iconst (v := (-1 : Int32)) dX11_rule_61 (by decide) ?_
              refine V.goto (tgt := 76) dX11_rule_62 (by decide) ?_
              obtain rfl := Option.some.inj hf
              exact V.iret dX11_rule_76
          · rw [if_neg c7] at hf
            refine V.sub [] rfl ?_
            exact w_X11_rule_29 _ _ hf

def f_X11_sooner_97 (h : xH) : Option ((String × xH) ⊕ (Int32 × xH)) := some (.inl ("java/lang/IllegalArgumentException", thr h))
def f_X11_sooner_60 : Nat → xH → Nat → Int32 → Int32 → Option ((String × xH) ⊕ (Int32 × xH))
  | 0, _, _, _, _ => none
  | n + 1, h, l0, l1, l2 => (gR h l0 11 4).bind fun v1 => (gI h v1 3 1).bind fun v2 => (if v2 ≤ l2 then ((gR h l0 11 16).bind fun v4 => (gR h l0 11 4).bind fun v5 => (gR h l0 11 10).bind fun v6 => (gO h v4 9).bind fun q7 => (f_X9_firstWronged h v4 v5 v6 l1).bind fun r8 => some (.inr (r8.1, r8.2))) else ((gR h l0 11 10).bind fun v9 => (gO h v9 10).bind fun q10 => (f_X10_numberAt h v9 l1 l2).bind fun r11 => (if (lg_cmp r11 (-9999 : Int64)) < 0 then (f_X11_sooner_97 h) else ((if (lg_cmp r11 (9999 : Int64)) ≤ 0 then (f_X11_sooner_60 n h l0 l1 (l2 + 1)) else (f_X11_sooner_97 h))))))
def f_X11_sooner (h : xH) (l0 : Nat) (l1 : Int32) : Option ((String × xH) ⊕ (Int32 × xH)) := (gO h l0 11).bind fun q1 => (f_X11_checkTrayThere h l0 l1).bind fun r2 => (match r2 with | .inl E3 => (some (.inl E3)) | .inr v4 => ((gR h l0 11 10).bind fun v5 => (gR h v5 10 1).bind fun v6 => (ldI h .int v6 l1).bind fun v7 => (gR h l0 11 4).bind fun v8 => (gI h v8 3 1).bind fun v9 => (if v9 ≤ v7 then ((gR h l0 11 4).bind fun v11 => (gI h v11 3 1).bind fun v12 => (if v12 ≤ (10 : Int32) then (f_X11_sooner_60 xFU h l0 l1 (0 : Int32)) else (some (.inl ("java/lang/IllegalArgumentException", thr h))))) else (some (.inl ("java/lang/IndexOutOfBoundsException", thr h))))))
set_option maxRecDepth 20000 in
theorem w_X11_sooner_97 (h : xH) (r : (String × xH) ⊕ (Int32 × xH)) (hf : f_X11_sooner_97 h = some r) : V 49 yX11_sooner cX11_sooner 5 (some .int) [] none 97 [] [] h (oTIh r) := by
  unfold f_X11_sooner_97 at hf
  obtain rfl := Option.some.inj hf
  exact V.throwSW (i := 35) th_110 (by decide) dX11_sooner_97 dX11_sooner_100 dX11_sooner_101 dX11_sooner_104 dX11_sooner_107 (by decide) (Nat.le_of_ble_eq_true rfl)

set_option maxRecDepth 20000 in
theorem w_X11_sooner_60 : ∀ (n : Nat) (h : xH) (l0 : Nat) (l1 : Int32) (l2 : Int32) (r : (String × xH) ⊕ (Int32 × xH)), f_X11_sooner_60 n h l0 l1 l2 = some r → V 49 yX11_sooner cX11_sooner 5 (some .int) [] none 60 [(0, .ref l0), (1, .int l1), (2, .int l2)] [] h (oTIh r) := by
  intro n
  induction n with
  | zero => intro h l0 l1 l2 r hf; cases hf
  | succ n ih =>
    intro h l0 l1 l2 r hf
    rw [f_X11_sooner_60] at hf
    refine V.iload_n dX11_sooner_60 rfl 2 rfl ?_
    refine V.aload_n dX11_sooner_61 rfl 0 rfl ?_
    obtain ⟨v1, e1, hf⟩ := bS hf
    refine V.xgR dX11_sooner_62 fl_RX11_26 e1 ?_
    obtain ⟨v2, e2, hf⟩ := bS hf
    refine V.xgI dX11_sooner_65 fl_RX11_162 e2 ?_
    refine V.icmp_ge (tgt := 114) dX11_sooner_68 (by decide) (fun c3 => ?_) (fun c3 => ?_)
    · rw [if_pos c3] at hf
      refine V.aload_n dX11_sooner_114 rfl 0 rfl ?_
      obtain ⟨v4, e3, hf⟩ := bS hf
      refine V.xgR dX11_sooner_115 fl_RX11_94 e3 ?_
      refine V.aload_n dX11_sooner_118 rfl 0 rfl ?_
      obtain ⟨v5, e4, hf⟩ := bS hf
      refine V.xgR dX11_sooner_119 fl_RX11_26 e4 ?_
      refine V.aload_n dX11_sooner_122 rfl 0 rfl ?_
      obtain ⟨v6, e5, hf⟩ := bS hf
      refine V.xgR dX11_sooner_123 fl_RX11_55 e5 ?_
      refine V.iload_n dX11_sooner_126 rfl 1 rfl ?_
      obtain ⟨q7, e6, hf⟩ := bS hf
      obtain ⟨r8, e7, hf⟩ := bS hf
      refine V.callV (As := [.ref v5, .ref v6, .int l1]) (st := []) dX11_sooner_127 cl_RX11_337 sw_yX9_firstWronged (by decide) rfl (Nat.le_of_ble_eq_true rfl) rfl (gO_some e6) rfl (w_X9_firstWronged _ _ _ _ _ _ e7) ?_
      obtain rfl := Option.some.inj hf
      exact V.iret dX11_sooner_130
    · rw [if_neg c3] at hf
      refine V.aload_n dX11_sooner_71 rfl 0 rfl ?_
      obtain ⟨v9, e8, hf⟩ := bS hf
      refine V.xgR dX11_sooner_72 fl_RX11_55 e8 ?_
      refine V.iload_n dX11_sooner_75 rfl 1 rfl ?_
      refine V.iload_n dX11_sooner_76 rfl 2 rfl ?_
      obtain ⟨q10, e9, hf⟩ := bS hf
      obtain ⟨r11, e10, hf⟩ := bS hf
      refine V.callV (As := [.int l1, .int l2]) (st := []) dX11_sooner_77 cl_RX11_327 sw_yX10_numberAt (by decide) rfl (Nat.le_of_ble_eq_true rfl) rfl (gO_some e9) rfl (w_X10_numberAt _ _ _ _ _ e10) ?_
      refine V.lstore_n (lv' := [(3, .long r11), (0, .ref l0), (1, .int l1), (2, .int l2)]) dX11_sooner_80 rfl (by decide) rfl ?_
      refine V.lload_n dX11_sooner_81 rfl 0 rfl ?_
      refine V.ldc2 (v := (-9999 : Int64)) dX11_sooner_82 cj_RX11_331 ?_
      refine V.lcmp dX11_sooner_85 ?_
      refine V.if_lt (tgt := 97) dX11_sooner_86 (by decide) (fun c12 => ?_) (fun c12 => ?_)
      · rw [if_pos c12] at hf
        refine V.sub [] rfl ?_
        exact w_X11_sooner_97 _ _ hf
      · rw [if_neg c12] at hf
        refine V.lload_n dX11_sooner_89 rfl 0 rfl ?_
        refine V.ldc2 (v := (9999 : Int64)) dX11_sooner_90 cj_RX11_333 ?_
        refine V.lcmp dX11_sooner_93 ?_
        refine V.if_le (tgt := 108) dX11_sooner_94 (by decide) (fun c13 => ?_) (fun c13 => ?_)
        · rw [if_pos c13] at hf
          refine V.iinc (v := (l2 + 1)) (lv' := [(2, .int (l2 + 1)), (3, .long r11), (0, .ref l0), (1, .int l1)]) dX11_sooner_108 3 rfl rfl (Nat.le_of_ble_eq_true rfl) rfl ?_
          refine V.goto (tgt := 60) dX11_sooner_111 (by decide) ?_
          refine V.sub [2, 3, 0] rfl ?_
          exact ih _ _ _ _ _ hf
        · rw [if_neg c13] at hf
          refine V.sub [] rfl ?_
          exact w_X11_sooner_97 _ _ hf

set_option maxRecDepth 20000 in
theorem w_X11_sooner (h : xH) (l0 : Nat) (l1 : Int32) (r : (String × xH) ⊕ (Int32 × xH)) (hf : f_X11_sooner h l0 l1 = some r) : Ev 49 yX11_sooner cX11_sooner 5 (some .int) [] [.ref l0, .int l1] h (oTIh r) := by
  refine Ev.of (by decide +kernel) (Nat.le_of_ble_eq_true rfl) ?_
  unfold f_X11_sooner at hf
  refine V.aload_n dX11_sooner_0 rfl 0 rfl ?_
  refine V.iload_n dX11_sooner_1 rfl 1 rfl ?_
  obtain ⟨q1, e11, hf⟩ := bS hf
  obtain ⟨r2, e12, hf⟩ := bS hf
  rcases r2 with E3 | v4
  · obtain rfl := Option.some.inj hf
    exact V.callVT (As := [.int l1]) (st := []) dX11_sooner_2 cl_RX11_314 sw_yX11_checkTrayThere (by decide) rfl (Nat.le_of_ble_eq_true rfl) rfl (gO_some e11) rfl (by decide) (w_X11_checkTrayThere _ _ _ _ e12)
  · refine V.callV (As := [.int l1]) (st := []) dX11_sooner_2 cl_RX11_314 sw_yX11_checkTrayThere (by decide) rfl (Nat.le_of_ble_eq_true rfl) rfl (gO_some e11) rfl (w_X11_checkTrayThere _ _ _ _ e12) ?_
    refine V.aload_n dX11_sooner_5 rfl 0 rfl ?_
    obtain ⟨v5, e13, hf⟩ := bS hf
    refine V.xgR dX11_sooner_6 fl_RX11_55 e13 ?_
    obtain ⟨v6, e14, hf⟩ := bS hf
    refine V.rgR dX11_sooner_9 fl_RX11_317 e14 ?_
    refine V.iload_n dX11_sooner_12 rfl 1 rfl ?_
    obtain ⟨v7, e15, hf⟩ := bS hf
    refine V.xldI dX11_sooner_13 e15 ?_
    refine V.aload_n dX11_sooner_14 rfl 0 rfl ?_
    obtain ⟨v8, e16, hf⟩ := bS hf
    refine V.xgR dX11_sooner_15 fl_RX11_26 e16 ?_
    obtain ⟨v9, e17, hf⟩ := bS hf
    refine V.xgI dX11_sooner_18 fl_RX11_162 e17 ?_
    refine V.icmp_ge (tgt := 35) dX11_sooner_21 (by decide) (fun c10 => ?_) (fun c10 => ?_)
    · rw [if_pos c10] at hf
      refine V.aload_n dX11_sooner_35 rfl 0 rfl ?_
      obtain ⟨v11, e18, hf⟩ := bS hf
      refine V.xgR dX11_sooner_36 fl_RX11_26 e18 ?_
      obtain ⟨v12, e19, hf⟩ := bS hf
      refine V.xgI dX11_sooner_39 fl_RX11_162 e19 ?_
      refine V.bipush (v := (10 : Int32)) dX11_sooner_42 (by decide) ?_
      refine V.icmp_le (tgt := 58) dX11_sooner_44 (by decide) (fun c13 => ?_) (fun c13 => ?_)
      · rw [if_pos c13] at hf
        refine V.iconst (v := (0 : Int32)) dX11_sooner_58 (by decide) ?_
        refine V.istore_n (lv' := [(2, .int (0 : Int32)), (0, .ref l0), (1, .int l1)]) dX11_sooner_59 rfl (by decide) rfl ?_
        refine V.sub [1, 2, 0] rfl ?_
        exact w_X11_sooner_60 _ _ _ _ _ _ hf
      · rw [if_neg c13] at hf
        obtain rfl := Option.some.inj hf
        exact V.throwSW (i := 34) th_110 (by decide) dX11_sooner_47 dX11_sooner_50 dX11_sooner_51 dX11_sooner_54 dX11_sooner_57 (by decide) (Nat.le_of_ble_eq_true rfl)
    · rw [if_neg c10] at hf
      obtain rfl := Option.some.inj hf
      exact V.throwSW (i := 33) th_324 (by decide) dX11_sooner_24 dX11_sooner_27 dX11_sooner_28 dX11_sooner_31 dX11_sooner_34 (by decide) (Nat.le_of_ble_eq_true rfl)

def f_X11_spare_18 : Nat → xH → Nat → Int32 → Int32 → Int32 → Int32 → Option ((String × xH) ⊕ (Int32 × xH))
  | 0, _, _, _, _, _, _ => none
  | n + 1, h, l0, l1, l2, l3, l4 => (gR h l0 11 4).bind fun v1 => (gI h v1 3 1).bind fun v2 => (if v2 ≤ l4 then (some (.inr (l3, h))) else ((if (l2 &&& ((1 : Int32) <<< (l4 &&& 31))) = 0 then (f_X11_spare_18 n h l0 l1 l2 l3 (l4 + 1)) else ((gO h l0 11).bind fun q5 => (f_X11_darkenedBy h l0 ((1 : Int32) <<< (l4 &&& 31)) l1).bind fun r6 => (if r6.1 = 0 then (f_X11_spare_18 n r6.2 l0 l1 l2 (l3 ||| ((1 : Int32) <<< (l4 &&& 31))) (l4 + 1)) else (f_X11_spare_18 n r6.2 l0 l1 l2 l3 (l4 + 1)))))))
def f_X11_spare (h : xH) (l0 : Nat) (l1 : Int32) : Option ((String × xH) ⊕ (Int32 × xH)) := (f_X11_checkHour h l1).bind fun r1 => (match r1 with | .inl E2 => (some (.inl E2)) | .inr v3 => ((gR h l0 11 5).bind fun v4 => (gO h v4 5).bind fun q5 => (f_X5_burning h v4 l1).bind fun r6 => f_X11_spare_18 xFU h l0 l1 r6 (0 : Int32) (0 : Int32)))
set_option maxRecDepth 20000 in
theorem w_X11_spare_18 : ∀ (n : Nat) (h : xH) (l0 : Nat) (l1 : Int32) (l2 : Int32) (l3 : Int32) (l4 : Int32) (r : (String × xH) ⊕ (Int32 × xH)), f_X11_spare_18 n h l0 l1 l2 l3 l4 = some r → V 7 yX11_spare cX11_spare 6 (some .int) [] none 18 [(0, .ref l0), (1, .int l1), (2, .int l2), (3, .int l3), (4, .int l4)] [] h (oTIh r) := by
  intro n
  induction n with
  | zero => intro h l0 l1 l2 l3 l4 r hf; cases hf
  | succ n ih =>
    intro h l0 l1 l2 l3 l4 r hf
    rw [f_X11_spare_18] at hf
    refine V.iload dX11_spare_18 4 rfl ?_
    refine V.aload_n dX11_spare_20 rfl 0 rfl ?_
    obtain ⟨v1, e1, hf⟩ := bS hf
    refine V.xgR dX11_spare_21 fl_RX11_26 e1 ?_
    obtain ⟨v2, e2, hf⟩ := bS hf
    refine V.xgI dX11_spare_24 fl_RX11_162 e2 ?_
    refine V.icmp_ge (tgt := 64) dX11_spare_27 (by decide) (fun c3 => ?_) (fun c3 => ?_)
    · rw [if_pos c3] at hf
      refine V.iload_n dX11_spare_64 rfl 3 rfl ?_
      obtain rfl := Option.some.inj hf
      exact V.iret dX11_spare_65
    · rw [if_neg c3] at hf
      refine V.iconst (v := (1 : Int32)) dX11_spare_30 (by decide) ?_
      refine V.iload dX11_spare_31 4 rfl ?_
      refine V.ishl dX11_spare_33 ?_
      refine V.istore (lv' := [(5, .int ((1 : Int32) <<< (l4 &&& 31))), (0, .ref l0), (1, .int l1), (2, .int l2), (3, .int l3), (4, .int l4)]) dX11_spare_34 (by decide) rfl ?_
      refine V.iload_n dX11_spare_36 rfl 3 rfl ?_
      refine V.iload dX11_spare_37 0 rfl ?_
      refine V.iand dX11_spare_39 ?_
      refine V.if_eq (tgt := 58) dX11_spare_40 (by decide) (fun c4 => ?_) (fun c4 => ?_)
      · rw [if_pos c4] at hf
        refine V.iinc (v := (l4 + 1)) (lv' := [(4, .int (l4 + 1)), (5, .int ((1 : Int32) <<< (l4 &&& 31))), (0, .ref l0), (1, .int l1), (2, .int l2), (3, .int l3)]) dX11_spare_58 5 rfl rfl (Nat.le_of_ble_eq_true rfl) rfl ?_
        refine V.goto (tgt := 18) dX11_spare_61 (by decide) ?_
        refine V.sub [2, 3, 4, 5, 0] rfl ?_
        exact ih _ _ _ _ _ _ _ hf
      · rw [if_neg c4] at hf
        refine V.aload_n dX11_spare_43 rfl 1 rfl ?_
        refine V.iload dX11_spare_44 0 rfl ?_
        refine V.iload_n dX11_spare_46 rfl 2 rfl ?_
        obtain ⟨q5, e3, hf⟩ := bS hf
        obtain ⟨r6, e4, hf⟩ := bS hf
        refine V.callV (As := [.int ((1 : Int32) <<< (l4 &&& 31)), .int l1]) (st := []) dX11_spare_47 cl_RX11_199 sw_yX11_darkenedBy (by decide) rfl (Nat.le_of_ble_eq_true rfl) rfl (gO_some e3) rfl (w_X11_darkenedBy _ _ _ _ _ e4) ?_
        refine V.if_ne (tgt := 58) dX11_spare_50 (by decide) (fun c7 => ?_) (fun c7 => ?_)
        · rw [if_neg c7] at hf
          refine V.iinc (v := (l4 + 1)) (lv' := [(4, .int (l4 + 1)), (5, .int ((1 : Int32) <<< (l4 &&& 31))), (0, .ref l0), (1, .int l1), (2, .int l2), (3, .int l3)]) dX11_spare_58 5 rfl rfl (Nat.le_of_ble_eq_true rfl) rfl ?_
          refine V.goto (tgt := 18) dX11_spare_61 (by decide) ?_
          refine V.sub [2, 3, 4, 5, 0] rfl ?_
          exact ih _ _ _ _ _ _ _ hf
        · rw [if_pos c7] at hf
          refine V.iload_n dX11_spare_53 rfl 4 rfl ?_
          refine V.iload dX11_spare_54 0 rfl ?_
          refine V.ior dX11_spare_56 ?_
          refine V.istore_n (lv' := [(3, .int (l3 ||| ((1 : Int32) <<< (l4 &&& 31)))), (5, .int ((1 : Int32) <<< (l4 &&& 31))), (0, .ref l0), (1, .int l1), (2, .int l2), (4, .int l4)]) dX11_spare_57 rfl (by decide) rfl ?_
          refine V.iinc (v := (l4 + 1)) (lv' := [(4, .int (l4 + 1)), (3, .int (l3 ||| ((1 : Int32) <<< (l4 &&& 31)))), (5, .int ((1 : Int32) <<< (l4 &&& 31))), (0, .ref l0), (1, .int l1), (2, .int l2)]) dX11_spare_58 5 rfl rfl (Nat.le_of_ble_eq_true rfl) rfl ?_
          refine V.goto (tgt := 18) dX11_spare_61 (by decide) ?_
          refine V.sub [3, 4, 5, 1, 0] rfl ?_
          exact ih _ _ _ _ _ _ _ hf

set_option maxRecDepth 20000 in
theorem w_X11_spare (h : xH) (l0 : Nat) (l1 : Int32) (r : (String × xH) ⊕ (Int32 × xH)) (hf : f_X11_spare h l0 l1 = some r) : Ev 7 yX11_spare cX11_spare 6 (some .int) [] [.ref l0, .int l1] h (oTIh r) := by
  refine Ev.of (by decide +kernel) (Nat.le_of_ble_eq_true rfl) ?_
  unfold f_X11_spare at hf
  refine V.iload_n dX11_spare_0 rfl 1 rfl ?_
  obtain ⟨r1, e5, hf⟩ := bS hf
  rcases r1 with E2 | v3
  · obtain rfl := Option.some.inj hf
    exact V.callST (As := [.int l1]) (st := []) dX11_spare_1 cl_RX11_181 sw_yX11_checkHour (by decide) rfl (Nat.le_of_ble_eq_true rfl) rfl (by decide) (w_X11_checkHour _ _ _ e5)
  · refine V.callS (As := [.int l1]) (st := []) dX11_spare_1 cl_RX11_181 sw_yX11_checkHour (by decide) rfl (Nat.le_of_ble_eq_true rfl) rfl (w_X11_checkHour _ _ _ e5) ?_
    refine V.aload_n dX11_spare_4 rfl 0 rfl ?_
    obtain ⟨v4, e6, hf⟩ := bS hf
    refine V.xgR dX11_spare_5 fl_RX11_33 e6 ?_
    refine V.iload_n dX11_spare_8 rfl 1 rfl ?_
    obtain ⟨q5, e7, hf⟩ := bS hf
    obtain ⟨r6, e8, hf⟩ := bS hf
    refine V.callV (As := [.int l1]) (st := []) dX11_spare_9 cl_RX11_184 sw_yX5_burning (by decide) rfl (Nat.le_of_ble_eq_true rfl) rfl (gO_some e7) rfl (w_X5_burning _ _ _ _ e8) ?_
    refine V.istore_n (lv' := [(2, .int r6), (0, .ref l0), (1, .int l1)]) dX11_spare_12 rfl (by decide) rfl ?_
    refine V.iconst (v := (0 : Int32)) dX11_spare_13 (by decide) ?_
    refine V.istore_n (lv' := [(3, .int (0 : Int32)), (2, .int r6), (0, .ref l0), (1, .int l1)]) dX11_spare_14 rfl (by decide) rfl ?_
    refine V.iconst (v := (0 : Int32)) dX11_spare_15 (by decide) ?_
    refine V.istore (lv' := [(4, .int (0 : Int32)), (3, .int (0 : Int32)), (2, .int r6), (0, .ref l0), (1, .int l1)]) dX11_spare_16 (by decide) rfl ?_
    refine V.sub [3, 4, 2, 1, 0] rfl ?_
    exact w_X11_spare_18 _ _ _ _ _ _ _ _ hf

def f_X11_tray_23 (h : xH) : Option ((String × xH) ⊕ (xH)) := some (.inl ("java/lang/IllegalArgumentException", thr h))
def f_X11_tray (h : xH) (l0 : Nat) (l1 : Int32) (l2 : Int32) (l3 : Int32) : Option ((String × xH) ⊕ (xH)) := (f_X11_checkTray h l1).bind fun r1 => (match r1 with | .inl E2 => (some (.inl E2)) | .inr v3 => ((if l2 < 0 then (f_X11_tray_23 h) else ((if (3 : Int32) < l2 then (f_X11_tray_23 h) else ((if l3 < 0 then (f_X11_tray_23 h) else ((if l3 ≤ (40 : Int32) then ((gR h l0 11 10).bind fun v8 => (gO h v8 10).bind fun q9 => (f_X10_lay h v8 l1 l2 l3).bind fun r10 => some (.inr r10)) else (f_X11_tray_23 h))))))))))
set_option maxRecDepth 20000 in
theorem w_X11_tray_23 (h : xH) (r : (String × xH) ⊕ (xH)) (hf : f_X11_tray_23 h = some r) : V 5 yX11_tray cX11_tray 4 none [] none 23 [] [] h (oTVh r) := by
  unfold f_X11_tray_23 at hf
  obtain rfl := Option.some.inj hf
  exact V.throwSW (i := 40) th_110 (by decide) dX11_tray_23 dX11_tray_26 dX11_tray_27 dX11_tray_30 dX11_tray_33 (by decide) (Nat.le_of_ble_eq_true rfl)

set_option maxRecDepth 20000 in
theorem w_X11_tray (h : xH) (l0 : Nat) (l1 : Int32) (l2 : Int32) (l3 : Int32) (r : (String × xH) ⊕ (xH)) (hf : f_X11_tray h l0 l1 l2 l3 = some r) : Ev 5 yX11_tray cX11_tray 4 none [] [.ref l0, .int l1, .int l2, .int l3] h (oTVh r) := by
  refine Ev.of (by decide +kernel) (Nat.le_of_ble_eq_true rfl) ?_
  unfold f_X11_tray at hf
  refine V.iload_n dX11_tray_0 rfl 1 rfl ?_
  obtain ⟨r1, e1, hf⟩ := bS hf
  rcases r1 with E2 | v3
  · obtain rfl := Option.some.inj hf
    exact V.callST (As := [.int l1]) (st := []) dX11_tray_1 cl_RX11_378 sw_yX11_checkTray (by decide) rfl (Nat.le_of_ble_eq_true rfl) rfl (by decide) (w_X11_checkTray _ _ _ e1)
  · refine V.callS (As := [.int l1]) (st := []) dX11_tray_1 cl_RX11_378 sw_yX11_checkTray (by decide) rfl (Nat.le_of_ble_eq_true rfl) rfl (w_X11_checkTray _ _ _ e1) ?_
    refine V.iload_n dX11_tray_4 rfl 2 rfl ?_
    refine V.if_lt (tgt := 23) dX11_tray_5 (by decide) (fun c4 => ?_) (fun c4 => ?_)
    · rw [if_pos c4] at hf
      refine V.sub [] rfl ?_
      exact w_X11_tray_23 _ _ hf
    · rw [if_neg c4] at hf
      refine V.iload_n dX11_tray_8 rfl 2 rfl ?_
      refine V.iconst (v := (3 : Int32)) dX11_tray_9 (by decide) ?_
      refine V.icmp_gt (tgt := 23) dX11_tray_10 (by decide) (fun c5 => ?_) (fun c5 => ?_)
      · rw [if_pos c5] at hf
        refine V.sub [] rfl ?_
        exact w_X11_tray_23 _ _ hf
      · rw [if_neg c5] at hf
        refine V.iload_n dX11_tray_13 rfl 3 rfl ?_
        refine V.if_lt (tgt := 23) dX11_tray_14 (by decide) (fun c6 => ?_) (fun c6 => ?_)
        · rw [if_pos c6] at hf
          refine V.sub [] rfl ?_
          exact w_X11_tray_23 _ _ hf
        · rw [if_neg c6] at hf
          refine V.iload_n dX11_tray_17 rfl 3 rfl ?_
          refine V.bipush (v := (40 : Int32)) dX11_tray_18 (by decide) ?_
          refine V.icmp_le (tgt := 34) dX11_tray_20 (by decide) (fun c7 => ?_) (fun c7 => ?_)
          · rw [if_pos c7] at hf
            refine V.aload_n dX11_tray_34 rfl 0 rfl ?_
            obtain ⟨v8, e2, hf⟩ := bS hf
            refine V.xgR dX11_tray_35 fl_RX11_55 e2 ?_
            refine V.iload_n dX11_tray_38 rfl 1 rfl ?_
            refine V.iload_n dX11_tray_39 rfl 2 rfl ?_
            refine V.iload_n dX11_tray_40 rfl 3 rfl ?_
            obtain ⟨q9, e3, hf⟩ := bS hf
            obtain ⟨r10, e4, hf⟩ := bS hf
            refine V.callV (As := [.int l1, .int l2, .int l3]) (st := []) dX11_tray_41 cl_RX11_383 sw_yX10_lay (by decide) rfl (Nat.le_of_ble_eq_true rfl) rfl (gO_some e3) rfl (w_X10_lay _ _ _ _ _ _ e4) ?_
            obtain rfl := Option.some.inj hf
            exact V.vret dX11_tray_44
          · rw [if_neg c7] at hf
            refine V.sub [] rfl ?_
            exact w_X11_tray_23 _ _ hf

def f_X11_upper (h : xH) (l0 : Nat) : Option (Int64) := (gJ h l0 11 8).bind fun v1 => some (v1)
set_option maxRecDepth 20000 in
theorem w_X11_upper (h : xH) (l0 : Nat) (r : Int64) (hf : f_X11_upper h l0 = some r) : Ev 3 yX11_upper cX11_upper 1 (some .long) [] [.ref l0] h (oJ h r) := by
  refine Ev.of (by decide +kernel) (Nat.le_of_ble_eq_true rfl) ?_
  unfold f_X11_upper at hf
  refine V.aload_n dX11_upper_0 rfl 0 rfl ?_
  obtain ⟨v1, e1, hf⟩ := bS hf
  refine V.xgJ dX11_upper_1 fl_RX11_45 e1 ?_
  obtain rfl := Option.some.inj hf
  exact V.lret dX11_upper_4

def f_X11_walk (h : xH) (l0 : Nat) (l1 : Int32) (l2 : Int32) : Option ((String × xH) ⊕ (Int32)) := (gO h l0 11).bind fun q1 => (f_X11_checkRoom h l0 l1).bind fun r2 => (match r2 with | .inl E3 => (some (.inl E3)) | .inr v4 => ((gO h l0 11).bind fun q5 => (f_X11_checkRoom h l0 l2).bind fun r6 => (match r6 with | .inl E7 => (some (.inl E7)) | .inr v8 => ((gR h l0 11 4).bind fun v9 => (gR h v9 3 15).bind fun v10 => (ldI h .int v10 ((l1 * (16 : Int32)) + l2)).bind fun v11 => some (.inr v11)))))
set_option maxRecDepth 20000 in
theorem w_X11_walk (h : xH) (l0 : Nat) (l1 : Int32) (l2 : Int32) (r : (String × xH) ⊕ (Int32)) (hf : f_X11_walk h l0 l1 l2 = some r) : Ev 5 yX11_walk cX11_walk 3 (some .int) [] [.ref l0, .int l1, .int l2] h (oTI h r) := by
  refine Ev.of (by decide +kernel) (Nat.le_of_ble_eq_true rfl) ?_
  unfold f_X11_walk at hf
  refine V.aload_n dX11_walk_0 rfl 0 rfl ?_
  refine V.iload_n dX11_walk_1 rfl 1 rfl ?_
  obtain ⟨q1, e1, hf⟩ := bS hf
  obtain ⟨r2, e2, hf⟩ := bS hf
  rcases r2 with E3 | v4
  · obtain rfl := Option.some.inj hf
    exact V.callVT (As := [.int l1]) (st := []) dX11_walk_2 cl_RX11_153 sw_yX11_checkRoom (by decide) rfl (Nat.le_of_ble_eq_true rfl) rfl (gO_some e1) rfl (by decide) (w_X11_checkRoom _ _ _ _ e2)
  · refine V.callV (As := [.int l1]) (st := []) dX11_walk_2 cl_RX11_153 sw_yX11_checkRoom (by decide) rfl (Nat.le_of_ble_eq_true rfl) rfl (gO_some e1) rfl (w_X11_checkRoom _ _ _ _ e2) ?_
    refine V.aload_n dX11_walk_5 rfl 0 rfl ?_
    refine V.iload_n dX11_walk_6 rfl 2 rfl ?_
    obtain ⟨q5, e3, hf⟩ := bS hf
    obtain ⟨r6, e4, hf⟩ := bS hf
    rcases r6 with E7 | v8
    · obtain rfl := Option.some.inj hf
      exact V.callVT (As := [.int l2]) (st := []) dX11_walk_7 cl_RX11_153 sw_yX11_checkRoom (by decide) rfl (Nat.le_of_ble_eq_true rfl) rfl (gO_some e3) rfl (by decide) (w_X11_checkRoom _ _ _ _ e4)
    · refine V.callV (As := [.int l2]) (st := []) dX11_walk_7 cl_RX11_153 sw_yX11_checkRoom (by decide) rfl (Nat.le_of_ble_eq_true rfl) rfl (gO_some e3) rfl (w_X11_checkRoom _ _ _ _ e4) ?_
      refine V.aload_n dX11_walk_10 rfl 0 rfl ?_
      obtain ⟨v9, e5, hf⟩ := bS hf
      refine V.xgR dX11_walk_11 fl_RX11_26 e5 ?_
      obtain ⟨v10, e6, hf⟩ := bS hf
      refine V.rgR dX11_walk_14 fl_RX11_282 e6 ?_
      refine V.iload_n dX11_walk_17 rfl 1 rfl ?_
      refine V.bipush (v := (16 : Int32)) dX11_walk_18 (by decide) ?_
      refine V.imul dX11_walk_20 ?_
      refine V.iload_n dX11_walk_21 rfl 2 rfl ?_
      refine V.iadd dX11_walk_22 ?_
      obtain ⟨v11, e7, hf⟩ := bS hf
      refine V.xldI dX11_walk_23 e7 ?_
      obtain rfl := Option.some.inj hf
      exact V.iret dX11_walk_24

def f_X11_which_89 (k19 : xH → Nat → Int32 → Int32 → Int32 → Int32 → Option (Int32 × xH)) (h : xH) (l0 : Nat) (l1 : Int32) (l4 : Int32) (l5 : Int32) : Option (Int32 × xH) := k19 h l0 l1 l5 l4 (l4 + 1)
def f_X11_which_76 (k19 : xH → Nat → Int32 → Int32 → Int32 → Int32 → Option (Int32 × xH)) (h : xH) (l0 : Nat) (l1 : Int32) (l2 : Int32) (l3 : Int32) (l4 : Int32) (l5 : Int32) (s0 : Int32) : Option (Int32 × xH) := (if l2 < l5 then (f_X11_which_89 k19 h l0 l1 l4 l5) else ((if s0 = 0 then (k19 h l0 l1 l2 l3 (l4 + 1)) else (f_X11_which_89 k19 h l0 l1 l4 l5))))
def f_X11_which_75 (k19 : xH → Nat → Int32 → Int32 → Int32 → Int32 → Option (Int32 × xH)) (h : xH) (l0 : Nat) (l1 : Int32) (l2 : Int32) (l3 : Int32) (l4 : Int32) (l5 : Int32) : Option (Int32 × xH) := f_X11_which_76 k19 h l0 l1 l2 l3 l4 l5 (0 : Int32)
def f_X11_which_19 : Nat → xH → Nat → Int32 → Int32 → Int32 → Int32 → Option (Int32 × xH)
  | 0, _, _, _, _, _, _ => none
  | n + 1, h, l0, l1, l2, l3, l4 => (gR h l0 11 4).bind fun v1 => (gI h v1 3 6).bind fun v2 => (if v2 ≤ l4 then (some ((l3, h))) else ((gO h l0 11).bind fun q4 => (f_X11_savesByHole h l0 l4 l1).bind fun r5 => (if l3 = (-1 : Int32) then (f_X11_which_75 (f_X11_which_19 n) r5.2 l0 l1 l2 l3 l4 (r5.1)) else ((if r5.1 = l2 then ((gR r5.2 l0 11 4).bind fun v8 => (gO r5.2 v8 3).bind fun q9 => (f_X3_holeCosts r5.2 v8 l4).bind fun r10 => (gR r5.2 l0 11 4).bind fun v11 => (gO r5.2 v11 3).bind fun q12 => (f_X3_holeCosts r5.2 v11 l3).bind fun r13 => (if r13 ≤ r10 then (f_X11_which_75 (f_X11_which_19 n) r5.2 l0 l1 l2 l3 l4 (r5.1)) else (f_X11_which_76 (f_X11_which_19 n) r5.2 l0 l1 l2 l3 l4 (r5.1) (1 : Int32)))) else (f_X11_which_75 (f_X11_which_19 n) r5.2 l0 l1 l2 l3 l4 (r5.1)))))))
def f_X11_which (h : xH) (l0 : Nat) : Option (Int32 × xH) := (gR h l0 11 4).bind fun v1 => (gO h v1 3).bind fun q2 => (f_X3_allRooms h v1).bind fun r3 => (gO h l0 11).bind fun q4 => (f_X11_fewestOf h l0 r3).bind fun r5 => f_X11_which_19 xFU r5.2 l0 (r5.1) (0 : Int32) (-1 : Int32) (0 : Int32)
set_option maxRecDepth 20000 in
theorem w_X11_which_89 (h : xH) {k19 : xH → Nat → Int32 → Int32 → Int32 → Int32 → Option (Int32 × xH)} (hk19 : ∀ (h : xH) (l0 : Nat) (l1 : Int32) (l2 : Int32) (l3 : Int32) (l4 : Int32) (r : Int32 × xH), k19 h l0 l1 l2 l3 l4 = some r → V 48 yX11_which cX11_which 7 (some .int) [] none 19 [(0, .ref l0), (1, .int l1), (2, .int l2), (3, .int l3), (4, .int l4)] [] h (oIh r)) (l0 : Nat) (l1 : Int32) (l4 : Int32) (l5 : Int32) (r : Int32 × xH) (hf : f_X11_which_89 k19 h l0 l1 l4 l5 = some r) : V 48 yX11_which cX11_which 7 (some .int) [] none 89 [(0, .ref l0), (1, .int l1), (4, .int l4), (5, .int l5)] [] h (oIh r) := by
  unfold f_X11_which_89 at hf
  refine V.iload dX11_which_89 3 rfl ?_
  refine V.istore_n (lv' := [(2, .int l5), (0, .ref l0), (1, .int l1), (4, .int l4), (5, .int l5)]) dX11_which_91 rfl (by decide) rfl ?_
  refine V.iload dX11_which_92 3 rfl ?_
  refine V.istore_n (lv' := [(3, .int l4), (2, .int l5), (0, .ref l0), (1, .int l1), (4, .int l4), (5, .int l5)]) dX11_which_94 rfl (by decide) rfl ?_
  refine V.iinc (v := (l4 + 1)) (lv' := [(4, .int (l4 + 1)), (3, .int l4), (2, .int l5), (0, .ref l0), (1, .int l1), (5, .int l5)]) dX11_which_95 4 rfl rfl (Nat.le_of_ble_eq_true rfl) rfl ?_
  refine V.goto (tgt := 19) dX11_which_98 (by decide) ?_
  refine V.sub [3, 4, 2, 1, 0] rfl ?_
  exact hk19 _ _ _ _ _ _ _ hf

set_option maxRecDepth 20000 in
theorem w_X11_which_76 (h : xH) {k19 : xH → Nat → Int32 → Int32 → Int32 → Int32 → Option (Int32 × xH)} (hk19 : ∀ (h : xH) (l0 : Nat) (l1 : Int32) (l2 : Int32) (l3 : Int32) (l4 : Int32) (r : Int32 × xH), k19 h l0 l1 l2 l3 l4 = some r → V 48 yX11_which cX11_which 7 (some .int) [] none 19 [(0, .ref l0), (1, .int l1), (2, .int l2), (3, .int l3), (4, .int l4)] [] h (oIh r)) (l0 : Nat) (l1 : Int32) (l2 : Int32) (l3 : Int32) (l4 : Int32) (l5 : Int32) (s0 : Int32) (r : Int32 × xH) (hf : f_X11_which_76 k19 h l0 l1 l2 l3 l4 l5 s0 = some r) : V 48 yX11_which cX11_which 7 (some .int) [] none 76 [(0, .ref l0), (1, .int l1), (2, .int l2), (3, .int l3), (4, .int l4), (5, .int l5)] [.int s0] h (oIh r) := by
  unfold f_X11_which_76 at hf
  refine V.istore (lv' := [(6, .int s0), (0, .ref l0), (1, .int l1), (2, .int l2), (3, .int l3), (4, .int l4), (5, .int l5)]) dX11_which_76 (by decide) rfl ?_
  refine V.iload dX11_which_78 6 rfl ?_
  refine V.iload_n dX11_which_80 rfl 3 rfl ?_
  refine V.icmp_gt (tgt := 89) dX11_which_81 (by decide) (fun c1 => ?_) (fun c1 => ?_)
  · rw [if_pos c1] at hf
    refine V.sub [1, 2, 5, 6] rfl ?_
    exact w_X11_which_89 _ hk19 _ _ _ _ _ hf
  · rw [if_neg c1] at hf
    refine V.iload dX11_which_84 0 rfl ?_
    refine V.if_eq (tgt := 95) dX11_which_86 (by decide) (fun c2 => ?_) (fun c2 => ?_)
    · rw [if_pos c2] at hf
      refine V.iinc (v := (l4 + 1)) (lv' := [(4, .int (l4 + 1)), (6, .int s0), (0, .ref l0), (1, .int l1), (2, .int l2), (3, .int l3), (5, .int l5)]) dX11_which_95 5 rfl rfl (Nat.le_of_ble_eq_true rfl) rfl ?_
      refine V.goto (tgt := 19) dX11_which_98 (by decide) ?_
      refine V.sub [2, 3, 4, 5, 0] rfl ?_
      exact hk19 _ _ _ _ _ _ _ hf
    · rw [if_neg c2] at hf
      refine V.sub [1, 2, 5, 6] rfl ?_
      exact w_X11_which_89 _ hk19 _ _ _ _ _ hf

set_option maxRecDepth 20000 in
theorem w_X11_which_75 (h : xH) {k19 : xH → Nat → Int32 → Int32 → Int32 → Int32 → Option (Int32 × xH)} (hk19 : ∀ (h : xH) (l0 : Nat) (l1 : Int32) (l2 : Int32) (l3 : Int32) (l4 : Int32) (r : Int32 × xH), k19 h l0 l1 l2 l3 l4 = some r → V 48 yX11_which cX11_which 7 (some .int) [] none 19 [(0, .ref l0), (1, .int l1), (2, .int l2), (3, .int l3), (4, .int l4)] [] h (oIh r)) (l0 : Nat) (l1 : Int32) (l2 : Int32) (l3 : Int32) (l4 : Int32) (l5 : Int32) (r : Int32 × xH) (hf : f_X11_which_75 k19 h l0 l1 l2 l3 l4 l5 = some r) : V 48 yX11_which cX11_which 7 (some .int) [] none 75 [(0, .ref l0), (1, .int l1), (2, .int l2), (3, .int l3), (4, .int l4), (5, .int l5)] [] h (oIh r) := by
  unfold f_X11_which_75 at hf
  refine V.iconst (v := (0 : Int32)) dX11_which_75 (by decide) ?_
  exact w_X11_which_76 _ hk19 _ _ _ _ _ _ _ _ hf

set_option maxRecDepth 20000 in
theorem w_X11_which_19 : ∀ (n : Nat) (h : xH) (l0 : Nat) (l1 : Int32) (l2 : Int32) (l3 : Int32) (l4 : Int32) (r : Int32 × xH), f_X11_which_19 n h l0 l1 l2 l3 l4 = some r → V 48 yX11_which cX11_which 7 (some .int) [] none 19 [(0, .ref l0), (1, .int l1), (2, .int l2), (3, .int l3), (4, .int l4)] [] h (oIh r) := by
  intro n
  induction n with
  | zero => intro h l0 l1 l2 l3 l4 r hf; cases hf
  | succ n ih =>
    intro h l0 l1 l2 l3 l4 r hf
    rw [f_X11_which_19] at hf
    refine V.iload dX11_which_19 4 rfl ?_
    refine V.aload_n dX11_which_21 rfl 0 rfl ?_
    obtain ⟨v1, e1, hf⟩ := bS hf
    refine V.xgR dX11_which_22 fl_RX11_26 e1 ?_
    obtain ⟨v2, e2, hf⟩ := bS hf
    refine V.xgI dX11_which_25 fl_RX11_268 e2 ?_
    refine V.icmp_ge (tgt := 101) dX11_which_28 (by decide) (fun c3 => ?_) (fun c3 => ?_)
    · rw [if_pos c3] at hf
      refine V.iload_n dX11_which_101 rfl 3 rfl ?_
      obtain rfl := Option.some.inj hf
      exact V.iret dX11_which_102
    · rw [if_neg c3] at hf
      refine V.aload_n dX11_which_31 rfl 0 rfl ?_
      refine V.iload dX11_which_32 4 rfl ?_
      refine V.iload_n dX11_which_34 rfl 1 rfl ?_
      obtain ⟨q4, e3, hf⟩ := bS hf
      obtain ⟨r5, e4, hf⟩ := bS hf
      refine V.callV (As := [.int l4, .int l1]) (st := []) dX11_which_35 cl_RX11_273 sw_yX11_savesByHole (by decide) rfl (Nat.le_of_ble_eq_true rfl) rfl (gO_some e3) rfl (w_X11_savesByHole _ _ _ _ _ e4) ?_
      refine V.istore (lv' := [(5, .int r5.1), (0, .ref l0), (1, .int l1), (2, .int l2), (3, .int l3), (4, .int l4)]) dX11_which_38 (by decide) rfl ?_
      refine V.iload_n dX11_which_40 rfl 4 rfl ?_
      refine V.iconst (v := (-1 : Int32)) dX11_which_41 (by decide) ?_
      refine V.icmp_eq (tgt := 75) dX11_which_42 (by decide) (fun c6 => ?_) (fun c6 => ?_)
      · rw [if_pos c6] at hf
        refine V.sub [1, 2, 3, 4, 5, 0] rfl ?_
        exact w_X11_which_75 _ ih _ _ _ _ _ _ _ hf
      · rw [if_neg c6] at hf
        refine V.iload dX11_which_45 0 rfl ?_
        refine V.iload_n dX11_which_47 rfl 3 rfl ?_
        refine V.icmp_ne (tgt := 75) dX11_which_48 (by decide) (fun c7 => ?_) (fun c7 => ?_)
        · rw [if_neg c7] at hf
          refine V.sub [1, 2, 3, 4, 5, 0] rfl ?_
          exact w_X11_which_75 _ ih _ _ _ _ _ _ _ hf
        · rw [if_pos c7] at hf
          refine V.aload_n dX11_which_51 rfl 1 rfl ?_
          obtain ⟨v8, e5, hf⟩ := bS hf
          refine V.xgR dX11_which_52 fl_RX11_26 e5 ?_
          refine V.iload dX11_which_55 5 rfl ?_
          obtain ⟨q9, e6, hf⟩ := bS hf
          obtain ⟨r10, e7, hf⟩ := bS hf
          refine V.callV (As := [.int l4]) (st := []) dX11_which_57 cl_RX11_279 sw_yX3_holeCosts (by decide) rfl (Nat.le_of_ble_eq_true rfl) rfl (gO_some e6) rfl (w_X3_holeCosts _ _ _ _ e7) ?_
          refine V.aload_n dX11_which_60 rfl 1 rfl ?_
          obtain ⟨v11, e8, hf⟩ := bS hf
          refine V.xgR dX11_which_61 fl_RX11_26 e8 ?_
          refine V.iload_n dX11_which_64 rfl 4 rfl ?_
          obtain ⟨q12, e9, hf⟩ := bS hf
          obtain ⟨r13, e10, hf⟩ := bS hf
          refine V.callV (As := [.int l3]) (st := [.int r10]) dX11_which_65 cl_RX11_279 sw_yX3_holeCosts (by decide) rfl (Nat.le_of_ble_eq_true rfl) rfl (gO_some e9) rfl (w_X3_holeCosts _ _ _ _ e10) ?_
          refine V.icmp_ge (tgt := 75) dX11_which_68 (by decide) (fun c14 => ?_) (fun c14 => ?_)
          · rw [if_pos c14] at hf
            refine V.sub [1, 2, 3, 4, 5, 0] rfl ?_
            exact w_X11_which_75 _ ih _ _ _ _ _ _ _ hf
          · rw [if_neg c14] at hf
            refine V.iconst (v := (1 : Int32)) dX11_which_71 (by decide) ?_
            refine V.goto (tgt := 76) dX11_which_72 (by decide) ?_
            refine V.sub [1, 2, 3, 4, 5, 0] rfl ?_
            exact w_X11_which_76 _ ih _ _ _ _ _ _ _ _ hf

set_option maxRecDepth 20000 in
theorem w_X11_which (h : xH) (l0 : Nat) (r : Int32 × xH) (hf : f_X11_which h l0 = some r) : Ev 48 yX11_which cX11_which 7 (some .int) [] [.ref l0] h (oIh r) := by
  refine Ev.of (by decide +kernel) (Nat.le_of_ble_eq_true rfl) ?_
  unfold f_X11_which at hf
  refine V.aload_n dX11_which_0 rfl 0 rfl ?_
  refine V.aload_n dX11_which_1 rfl 0 rfl ?_
  obtain ⟨v1, e11, hf⟩ := bS hf
  refine V.xgR dX11_which_2 fl_RX11_26 e11 ?_
  obtain ⟨q2, e12, hf⟩ := bS hf
  obtain ⟨r3, e13, hf⟩ := bS hf
  refine V.callV (As := []) (st := [.ref l0]) dX11_which_5 cl_RX11_216 sw_yX3_allRooms (by decide) rfl (Nat.le_of_ble_eq_true rfl) rfl (gO_some e12) rfl (w_X3_allRooms _ _ _ e13) ?_
  obtain ⟨q4, e14, hf⟩ := bS hf
  obtain ⟨r5, e15, hf⟩ := bS hf
  refine V.callV (As := [.int r3]) (st := []) dX11_which_8 cl_RX11_237 sw_yX11_fewestOf (by decide) rfl (Nat.le_of_ble_eq_true rfl) rfl (gO_some e14) rfl (w_X11_fewestOf _ _ _ _ e15) ?_
  refine V.istore_n (lv' := [(1, .int r5.1), (0, .ref l0)]) dX11_which_11 rfl (by decide) rfl ?_
  refine V.iconst (v := (0 : Int32)) dX11_which_12 (by decide) ?_
  refine V.istore_n (lv' := [(2, .int (0 : Int32)), (1, .int r5.1), (0, .ref l0)]) dX11_which_13 rfl (by decide) rfl ?_
  refine V.iconst (v := (-1 : Int32)) dX11_which_14 (by decide) ?_
  refine V.istore_n (lv' := [(3, .int (-1 : Int32)), (2, .int (0 : Int32)), (1, .int r5.1), (0, .ref l0)]) dX11_which_15 rfl (by decide) rfl ?_
  refine V.iconst (v := (0 : Int32)) dX11_which_16 (by decide) ?_
  refine V.istore (lv' := [(4, .int (0 : Int32)), (3, .int (-1 : Int32)), (2, .int (0 : Int32)), (1, .int r5.1), (0, .ref l0)]) dX11_which_17 (by decide) rfl ?_
  refine V.sub [4, 3, 2, 1, 0] rfl ?_
  exact w_X11_which_19 _ _ _ _ _ _ _ _ hf

def f_X11_write_22 (h : xH) : Option ((String × xH) ⊕ (Int64 × xH)) := some (.inl ("java/lang/IndexOutOfBoundsException", thr h))
def f_X11_write (h : xH) (l0 : Nat) (l1 : Int32) (l2 : Int32) (l3 : Int64) : Option ((String × xH) ⊕ (Int64 × xH)) := (gO h l0 11).bind fun q1 => (f_X11_checkTrayThere h l0 l1).bind fun r2 => (match r2 with | .inl E3 => (some (.inl E3)) | .inr v4 => ((if l2 < 0 then (f_X11_write_22 h) else ((gR h l0 11 10).bind fun v6 => (gR h v6 10 1).bind fun v7 => (ldI h .int v7 l1).bind fun v8 => (if l2 < v8 then ((gR h l0 11 10).bind fun v10 => (gO h v10 10).bind fun q11 => (f_X10_put h v10 l1 l2 l3).bind fun r12 => some (.inr (r12.1, r12.2))) else (f_X11_write_22 h))))))
set_option maxRecDepth 20000 in
theorem w_X11_write_22 (h : xH) (r : (String × xH) ⊕ (Int64 × xH)) (hf : f_X11_write_22 h = some r) : V 6 yX11_write cX11_write 5 (some .long) [] none 22 [] [] h (oTJh r) := by
  unfold f_X11_write_22 at hf
  obtain rfl := Option.some.inj hf
  exact V.throwSW (i := 41) th_324 (by decide) dX11_write_22 dX11_write_25 dX11_write_26 dX11_write_29 dX11_write_32 (by decide) (Nat.le_of_ble_eq_true rfl)

set_option maxRecDepth 20000 in
theorem w_X11_write (h : xH) (l0 : Nat) (l1 : Int32) (l2 : Int32) (l3 : Int64) (r : (String × xH) ⊕ (Int64 × xH)) (hf : f_X11_write h l0 l1 l2 l3 = some r) : Ev 6 yX11_write cX11_write 5 (some .long) [] [.ref l0, .int l1, .int l2, .long l3] h (oTJh r) := by
  refine Ev.of (by decide +kernel) (Nat.le_of_ble_eq_true rfl) ?_
  unfold f_X11_write at hf
  refine V.aload_n dX11_write_0 rfl 0 rfl ?_
  refine V.iload_n dX11_write_1 rfl 1 rfl ?_
  obtain ⟨q1, e1, hf⟩ := bS hf
  obtain ⟨r2, e2, hf⟩ := bS hf
  rcases r2 with E3 | v4
  · obtain rfl := Option.some.inj hf
    exact V.callVT (As := [.int l1]) (st := []) dX11_write_2 cl_RX11_314 sw_yX11_checkTrayThere (by decide) rfl (Nat.le_of_ble_eq_true rfl) rfl (gO_some e1) rfl (by decide) (w_X11_checkTrayThere _ _ _ _ e2)
  · refine V.callV (As := [.int l1]) (st := []) dX11_write_2 cl_RX11_314 sw_yX11_checkTrayThere (by decide) rfl (Nat.le_of_ble_eq_true rfl) rfl (gO_some e1) rfl (w_X11_checkTrayThere _ _ _ _ e2) ?_
    refine V.iload_n dX11_write_5 rfl 2 rfl ?_
    refine V.if_lt (tgt := 22) dX11_write_6 (by decide) (fun c5 => ?_) (fun c5 => ?_)
    · rw [if_pos c5] at hf
      refine V.sub [] rfl ?_
      exact w_X11_write_22 _ _ hf
    · rw [if_neg c5] at hf
      refine V.iload_n dX11_write_9 rfl 2 rfl ?_
      refine V.aload_n dX11_write_10 rfl 0 rfl ?_
      obtain ⟨v6, e3, hf⟩ := bS hf
      refine V.xgR dX11_write_11 fl_RX11_55 e3 ?_
      obtain ⟨v7, e4, hf⟩ := bS hf
      refine V.rgR dX11_write_14 fl_RX11_317 e4 ?_
      refine V.iload_n dX11_write_17 rfl 1 rfl ?_
      obtain ⟨v8, e5, hf⟩ := bS hf
      refine V.xldI dX11_write_18 e5 ?_
      refine V.icmp_lt (tgt := 33) dX11_write_19 (by decide) (fun c9 => ?_) (fun c9 => ?_)
      · rw [if_pos c9] at hf
        refine V.aload_n dX11_write_33 rfl 0 rfl ?_
        obtain ⟨v10, e6, hf⟩ := bS hf
        refine V.xgR dX11_write_34 fl_RX11_55 e6 ?_
        refine V.iload_n dX11_write_37 rfl 1 rfl ?_
        refine V.iload_n dX11_write_38 rfl 2 rfl ?_
        refine V.lload_n dX11_write_39 rfl 3 rfl ?_
        obtain ⟨q11, e7, hf⟩ := bS hf
        obtain ⟨r12, e8, hf⟩ := bS hf
        refine V.callV (As := [.int l1, .int l2, .long l3]) (st := []) dX11_write_40 cl_RX11_387 sw_yX10_put (by decide) rfl (Nat.le_of_ble_eq_true rfl) rfl (gO_some e7) rfl (w_X10_put _ _ _ _ _ _ e8) ?_
        obtain rfl := Option.some.inj hf
        exact V.lret dX11_write_43
      · rw [if_neg c9] at hf
        refine V.sub [] rfl ?_
        exact w_X11_write_22 _ _ hf

