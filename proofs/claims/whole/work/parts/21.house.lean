def f_X3_init (h : xH) (l0 : Nat) : Option (xH) := (pF h l0 3 0 (.int (0 : Int32))).bind fun h1 => (pF h1 l0 3 1 (.int (0 : Int32))).bind fun h2 => (pF h2 l0 3 2 (.int (50 : Int32))).bind fun h3 => (pF h3 l0 3 3 (.int (0 : Int32))).bind fun h4 => (pF h4 l0 3 4 (.int (0 : Int32))).bind fun h5 => (pF h5 l0 3 5 (.int (0 : Int32))).bind fun h6 => (pF h6 l0 3 6 (.int (0 : Int32))).bind fun h7 => (mkI h7 .int (240 : Int32)).bind fun h8 => (pF h8 l0 3 7 (.ref (h7.1.length))).bind fun h9 => (mkI h9 .int (8 : Int32)).bind fun h10 => (pF h10 l0 3 8 (.ref (h9.1.length))).bind fun h11 => (mkI h11 .int (120 : Int32)).bind fun h12 => (pF h12 l0 3 9 (.ref (h11.1.length))).bind fun h13 => (mkI h13 .int (40 : Int32)).bind fun h14 => (pF h14 l0 3 10 (.ref (h13.1.length))).bind fun h15 => (mkI h15 .int (16 : Int32)).bind fun h16 => (pF h16 l0 3 11 (.ref (h15.1.length))).bind fun h17 => (mkI h17 .int (16 : Int32)).bind fun h18 => (pF h18 l0 3 12 (.ref (h17.1.length))).bind fun h19 => (mkI h19 .int (16 : Int32)).bind fun h20 => (pF h20 l0 3 13 (.ref (h19.1.length))).bind fun h21 => (mkI h21 .int (16 : Int32)).bind fun h22 => (pF h22 l0 3 14 (.ref (h21.1.length))).bind fun h23 => (mkI h23 .int (256 : Int32)).bind fun h24 => (pF h24 l0 3 15 (.ref (h23.1.length))).bind fun h25 => (gR h25 l0 3 11).bind fun v26 => (f_J7_fill_53178 h25 v26 (10 : Int32)).bind fun r27 => (gR r27 l0 3 15).bind fun v28 => (f_J7_fill_53178 r27 v28 (-1 : Int32)).bind fun r29 => some (r29)
set_option maxRecDepth 20000 in
theorem w_X3_init (h : xH) (l0 : Nat) (r : xH) (hf : f_X3_init h l0 = some r) : Ev 4 yX3_init cX3_init 1 none [] [.ref l0] h (oVh r) := by
  refine Ev.of (by decide +kernel) (Nat.le_of_ble_eq_true rfl) ?_
  unfold f_X3_init at hf
  refine V.aload_n dX3_init_0 rfl 0 rfl ?_
  refine V.objInit dX3_init_1 oi_RX3_3 oi_inst oi_code (Nat.le_of_ble_eq_true rfl) ?_
  refine V.aload_n dX3_init_4 rfl 0 rfl ?_
  refine V.iconst (v := (0 : Int32)) dX3_init_5 (by decide) ?_
  obtain ⟨h1, e1, hf⟩ := bS hf
  refine V.xpF dX3_init_6 fl_RX3_9 (fun h9 => nomatch h9) (fun _ => rfl) (fun _ => rfl) e1 ?_
  refine V.aload_n dX3_init_9 rfl 0 rfl ?_
  refine V.iconst (v := (0 : Int32)) dX3_init_10 (by decide) ?_
  obtain ⟨h2, e2, hf⟩ := bS hf
  refine V.xpF dX3_init_11 fl_RX3_15 (fun h9 => nomatch h9) (fun _ => rfl) (fun _ => rfl) e2 ?_
  refine V.aload_n dX3_init_14 rfl 0 rfl ?_
  refine V.bipush (v := (50 : Int32)) dX3_init_15 (by decide) ?_
  obtain ⟨h3, e3, hf⟩ := bS hf
  refine V.xpF dX3_init_17 fl_RX3_18 (fun h9 => nomatch h9) (fun _ => rfl) (fun _ => rfl) e3 ?_
  refine V.aload_n dX3_init_20 rfl 0 rfl ?_
  refine V.iconst (v := (0 : Int32)) dX3_init_21 (by decide) ?_
  obtain ⟨h4, e4, hf⟩ := bS hf
  refine V.xpF dX3_init_22 fl_RX3_21 (fun h9 => nomatch h9) (fun _ => rfl) (fun _ => rfl) e4 ?_
  refine V.aload_n dX3_init_25 rfl 0 rfl ?_
  refine V.iconst (v := (0 : Int32)) dX3_init_26 (by decide) ?_
  obtain ⟨h5, e5, hf⟩ := bS hf
  refine V.xpF dX3_init_27 fl_RX3_24 (fun h9 => nomatch h9) (fun _ => rfl) (fun _ => rfl) e5 ?_
  refine V.aload_n dX3_init_30 rfl 0 rfl ?_
  refine V.iconst (v := (0 : Int32)) dX3_init_31 (by decide) ?_
  obtain ⟨h6, e6, hf⟩ := bS hf
  refine V.xpF dX3_init_32 fl_RX3_27 (fun h9 => nomatch h9) (fun _ => rfl) (fun _ => rfl) e6 ?_
  refine V.aload_n dX3_init_35 rfl 0 rfl ?_
  refine V.iconst (v := (0 : Int32)) dX3_init_36 (by decide) ?_
  obtain ⟨h7, e7, hf⟩ := bS hf
  refine V.xpF dX3_init_37 fl_RX3_30 (fun h9 => nomatch h9) (fun _ => rfl) (fun _ => rfl) e7 ?_
  refine V.aload_n dX3_init_40 rfl 0 rfl ?_
  refine V.sipush (v := (240 : Int32)) dX3_init_41 (by decide) ?_
  obtain ⟨h8, e8, hf⟩ := bS hf
  refine V.xmkI dX3_init_44 rfl rfl aw_int (by decide) e8 ?_
  obtain ⟨h9, e9, hf⟩ := bS hf
  refine V.xpF dX3_init_46 fl_RX3_33 (fun _ => rfl) (fun _ => rfl) (fun _ => rfl) e9 ?_
  refine V.aload_n dX3_init_49 rfl 0 rfl ?_
  refine V.bipush (v := (8 : Int32)) dX3_init_50 (by decide) ?_
  obtain ⟨h10, e10, hf⟩ := bS hf
  refine V.xmkI dX3_init_52 rfl rfl aw_int (by decide) e10 ?_
  obtain ⟨h11, e11, hf⟩ := bS hf
  refine V.xpF dX3_init_54 fl_RX3_37 (fun _ => rfl) (fun _ => rfl) (fun _ => rfl) e11 ?_
  refine V.aload_n dX3_init_57 rfl 0 rfl ?_
  refine V.bipush (v := (120 : Int32)) dX3_init_58 (by decide) ?_
  obtain ⟨h12, e12, hf⟩ := bS hf
  refine V.xmkI dX3_init_60 rfl rfl aw_int (by decide) e12 ?_
  obtain ⟨h13, e13, hf⟩ := bS hf
  refine V.xpF dX3_init_62 fl_RX3_40 (fun _ => rfl) (fun _ => rfl) (fun _ => rfl) e13 ?_
  refine V.aload_n dX3_init_65 rfl 0 rfl ?_
  refine V.bipush (v := (40 : Int32)) dX3_init_66 (by decide) ?_
  obtain ⟨h14, e14, hf⟩ := bS hf
  refine V.xmkI dX3_init_68 rfl rfl aw_int (by decide) e14 ?_
  obtain ⟨h15, e15, hf⟩ := bS hf
  refine V.xpF dX3_init_70 fl_RX3_43 (fun _ => rfl) (fun _ => rfl) (fun _ => rfl) e15 ?_
  refine V.aload_n dX3_init_73 rfl 0 rfl ?_
  refine V.bipush (v := (16 : Int32)) dX3_init_74 (by decide) ?_
  obtain ⟨h16, e16, hf⟩ := bS hf
  refine V.xmkI dX3_init_76 rfl rfl aw_int (by decide) e16 ?_
  obtain ⟨h17, e17, hf⟩ := bS hf
  refine V.xpF dX3_init_78 fl_RX3_46 (fun _ => rfl) (fun _ => rfl) (fun _ => rfl) e17 ?_
  refine V.aload_n dX3_init_81 rfl 0 rfl ?_
  refine V.bipush (v := (16 : Int32)) dX3_init_82 (by decide) ?_
  obtain ⟨h18, e18, hf⟩ := bS hf
  refine V.xmkI dX3_init_84 rfl rfl aw_int (by decide) e18 ?_
  obtain ⟨h19, e19, hf⟩ := bS hf
  refine V.xpF dX3_init_86 fl_RX3_49 (fun _ => rfl) (fun _ => rfl) (fun _ => rfl) e19 ?_
  refine V.aload_n dX3_init_89 rfl 0 rfl ?_
  refine V.bipush (v := (16 : Int32)) dX3_init_90 (by decide) ?_
  obtain ⟨h20, e20, hf⟩ := bS hf
  refine V.xmkI dX3_init_92 rfl rfl aw_int (by decide) e20 ?_
  obtain ⟨h21, e21, hf⟩ := bS hf
  refine V.xpF dX3_init_94 fl_RX3_52 (fun _ => rfl) (fun _ => rfl) (fun _ => rfl) e21 ?_
  refine V.aload_n dX3_init_97 rfl 0 rfl ?_
  refine V.bipush (v := (16 : Int32)) dX3_init_98 (by decide) ?_
  obtain ⟨h22, e22, hf⟩ := bS hf
  refine V.xmkI dX3_init_100 rfl rfl aw_int (by decide) e22 ?_
  obtain ⟨h23, e23, hf⟩ := bS hf
  refine V.xpF dX3_init_102 fl_RX3_55 (fun _ => rfl) (fun _ => rfl) (fun _ => rfl) e23 ?_
  refine V.aload_n dX3_init_105 rfl 0 rfl ?_
  refine V.sipush (v := (256 : Int32)) dX3_init_106 (by decide) ?_
  obtain ⟨h24, e24, hf⟩ := bS hf
  refine V.xmkI dX3_init_109 rfl rfl aw_int (by decide) e24 ?_
  obtain ⟨h25, e25, hf⟩ := bS hf
  refine V.xpF dX3_init_111 fl_RX3_58 (fun _ => rfl) (fun _ => rfl) (fun _ => rfl) e25 ?_
  refine V.aload_n dX3_init_114 rfl 0 rfl ?_
  obtain ⟨v26, e26, hf⟩ := bS hf
  refine V.xgR dX3_init_115 fl_RX3_46 e26 ?_
  refine V.bipush (v := (10 : Int32)) dX3_init_118 (by decide) ?_
  obtain ⟨r27, e27, hf⟩ := bS hf
  refine V.callS (As := [.ref v26, .int (10 : Int32)]) (st := []) dX3_init_120 cl_RX3_61 sw_yJ7_fill_53178 (by decide) rfl (Nat.le_of_ble_eq_true rfl) rfl (w_J7_fill_53178 _ _ _ _ e27) ?_
  refine V.aload_n dX3_init_123 rfl 0 rfl ?_
  obtain ⟨v28, e28, hf⟩ := bS hf
  refine V.xgR dX3_init_124 fl_RX3_58 e28 ?_
  refine V.iconst (v := (-1 : Int32)) dX3_init_127 (by decide) ?_
  obtain ⟨r29, e29, hf⟩ := bS hf
  refine V.callS (As := [.ref v28, .int (-1 : Int32)]) (st := []) dX3_init_128 cl_RX3_61 sw_yJ7_fill_53178 (by decide) rfl (Nat.le_of_ble_eq_true rfl) rfl (w_J7_fill_53178 _ _ _ _ e29) ?_
  obtain rfl := Option.some.inj hf
  exact V.vret dX3_init_131

def f_X3_allRooms (h : xH) (l0 : Nat) : Option (Int32) := (gI h l0 3 1).bind fun v1 => some ((((1 : Int32) <<< (v1 &&& 31)) - (1 : Int32)))
set_option maxRecDepth 20000 in
theorem w_X3_allRooms (h : xH) (l0 : Nat) (r : Int32) (hf : f_X3_allRooms h l0 = some r) : Ev 3 yX3_allRooms cX3_allRooms 1 (some .int) [] [.ref l0] h (oI h r) := by
  refine Ev.of (by decide +kernel) (Nat.le_of_ble_eq_true rfl) ?_
  unfold f_X3_allRooms at hf
  refine V.iconst (v := (1 : Int32)) dX3_allRooms_0 (by decide) ?_
  refine V.aload_n dX3_allRooms_1 rfl 0 rfl ?_
  obtain ⟨v1, e1, hf⟩ := bS hf
  refine V.xgI dX3_allRooms_2 fl_RX3_15 e1 ?_
  refine V.ishl dX3_allRooms_5 ?_
  refine V.iconst (v := (1 : Int32)) dX3_allRooms_6 (by decide) ?_
  refine V.isub dX3_allRooms_7 ?_
  obtain rfl := Option.some.inj hf
  exact V.iret dX3_allRooms_8

def f_X3_unbearable_4 (h : xH) : Nat → Nat → Int32 → Int32 → Option (Int32)
  | 0, _, _, _ => none
  | n + 1, l0, l1, l2 => (gI h l0 3 1).bind fun v1 => (if v1 ≤ l2 then (some (l1)) else ((gR h l0 3 12).bind fun v3 => (ldI h .int v3 l2).bind fun v4 => (gR h l0 3 13).bind fun v5 => (ldI h .int v5 l2).bind fun v6 => f_X3_unbearable_4 h n l0 (l1 ||| (v4 &&& v6)) (l2 + 1)))
def f_X3_unbearable (h : xH) (l0 : Nat) : Option (Int32) := f_X3_unbearable_4 h xFU l0 (0 : Int32) (0 : Int32)
set_option maxRecDepth 20000 in
theorem w_X3_unbearable_4 (h : xH) : ∀ (n : Nat) (l0 : Nat) (l1 : Int32) (l2 : Int32) (r : Int32), f_X3_unbearable_4 h n l0 l1 l2 = some r → V 3 yX3_unbearable cX3_unbearable 3 (some .int) [] none 4 [(0, .ref l0), (1, .int l1), (2, .int l2)] [] h (oI h r) := by
  intro n
  induction n with
  | zero => intro l0 l1 l2 r hf; cases hf
  | succ n ih =>
    intro l0 l1 l2 r hf
    rw [f_X3_unbearable_4] at hf
    refine V.iload_n dX3_unbearable_4 rfl 2 rfl ?_
    refine V.aload_n dX3_unbearable_5 rfl 0 rfl ?_
    obtain ⟨v1, e1, hf⟩ := bS hf
    refine V.xgI dX3_unbearable_6 fl_RX3_15 e1 ?_
    refine V.icmp_ge (tgt := 34) dX3_unbearable_9 (by decide) (fun c2 => ?_) (fun c2 => ?_)
    · rw [if_pos c2] at hf
      refine V.iload_n dX3_unbearable_34 rfl 1 rfl ?_
      obtain rfl := Option.some.inj hf
      exact V.iret dX3_unbearable_35
    · rw [if_neg c2] at hf
      refine V.iload_n dX3_unbearable_12 rfl 1 rfl ?_
      refine V.aload_n dX3_unbearable_13 rfl 0 rfl ?_
      obtain ⟨v3, e2, hf⟩ := bS hf
      refine V.xgR dX3_unbearable_14 fl_RX3_49 e2 ?_
      refine V.iload_n dX3_unbearable_17 rfl 2 rfl ?_
      obtain ⟨v4, e3, hf⟩ := bS hf
      refine V.xldI dX3_unbearable_18 e3 ?_
      refine V.aload_n dX3_unbearable_19 rfl 0 rfl ?_
      obtain ⟨v5, e4, hf⟩ := bS hf
      refine V.xgR dX3_unbearable_20 fl_RX3_52 e4 ?_
      refine V.iload_n dX3_unbearable_23 rfl 2 rfl ?_
      obtain ⟨v6, e5, hf⟩ := bS hf
      refine V.xldI dX3_unbearable_24 e5 ?_
      refine V.iand dX3_unbearable_25 ?_
      refine V.ior dX3_unbearable_26 ?_
      refine V.istore_n (lv' := [(1, .int (l1 ||| (v4 &&& v6))), (0, .ref l0), (2, .int l2)]) dX3_unbearable_27 rfl (by decide) rfl ?_
      refine V.iinc (v := (l2 + 1)) (lv' := [(2, .int (l2 + 1)), (1, .int (l1 ||| (v4 &&& v6))), (0, .ref l0)]) dX3_unbearable_28 2 rfl rfl (Nat.le_of_ble_eq_true rfl) rfl ?_
      refine V.goto (tgt := 4) dX3_unbearable_31 (by decide) ?_
      refine V.sub [2, 1, 0] rfl ?_
      exact ih _ _ _ _ hf

set_option maxRecDepth 20000 in
theorem w_X3_unbearable (h : xH) (l0 : Nat) (r : Int32) (hf : f_X3_unbearable h l0 = some r) : Ev 3 yX3_unbearable cX3_unbearable 3 (some .int) [] [.ref l0] h (oI h r) := by
  refine Ev.of (by decide +kernel) (Nat.le_of_ble_eq_true rfl) ?_
  unfold f_X3_unbearable at hf
  refine V.iconst (v := (0 : Int32)) dX3_unbearable_0 (by decide) ?_
  refine V.istore_n (lv' := [(1, .int (0 : Int32)), (0, .ref l0)]) dX3_unbearable_1 rfl (by decide) rfl ?_
  refine V.iconst (v := (0 : Int32)) dX3_unbearable_2 (by decide) ?_
  refine V.istore_n (lv' := [(2, .int (0 : Int32)), (1, .int (0 : Int32)), (0, .ref l0)]) dX3_unbearable_3 rfl (by decide) rfl ?_
  refine V.sub [2, 1, 0] rfl ?_
  exact w_X3_unbearable_4 h _ _ _ _ _ hf

def f_X3_wantedAt (h : xH) (l0 : Nat) (l1 : Int32) (l2 : Int32) : Option (Int32) := (gR h l0 3 9).bind fun v1 => (ldI h .int v1 ((l1 * (5 : Int32)) + (3 : Int32))).bind fun v2 => (if l2 < v2 then (some ((0 : Int32))) else ((gR h l0 3 9).bind fun v4 => (ldI h .int v4 ((l1 * (5 : Int32)) + (4 : Int32))).bind fun v5 => (if v5 < l2 then (some ((0 : Int32))) else (some ((1 : Int32))))))
set_option maxRecDepth 20000 in
theorem w_X3_wantedAt (h : xH) (l0 : Nat) (l1 : Int32) (l2 : Int32) (r : Int32) (hf : f_X3_wantedAt h l0 l1 l2 = some r) : Ev 3 yX3_wantedAt cX3_wantedAt 3 (some .boolean) [] [.ref l0, .int l1, .int l2] h (oI h r) := by
  refine Ev.of (by decide +kernel) (Nat.le_of_ble_eq_true rfl) ?_
  unfold f_X3_wantedAt at hf
  refine V.aload_n dX3_wantedAt_0 rfl 0 rfl ?_
  obtain ⟨v1, e1, hf⟩ := bS hf
  refine V.xgR dX3_wantedAt_1 fl_RX3_40 e1 ?_
  refine V.iload_n dX3_wantedAt_4 rfl 1 rfl ?_
  refine V.iconst (v := (5 : Int32)) dX3_wantedAt_5 (by decide) ?_
  refine V.imul dX3_wantedAt_6 ?_
  refine V.iconst (v := (3 : Int32)) dX3_wantedAt_7 (by decide) ?_
  refine V.iadd dX3_wantedAt_8 ?_
  obtain ⟨v2, e2, hf⟩ := bS hf
  refine V.xldI dX3_wantedAt_9 e2 ?_
  refine V.iload_n dX3_wantedAt_10 rfl 2 rfl ?_
  refine V.icmp_gt (tgt := 32) dX3_wantedAt_11 (by decide) (fun c3 => ?_) (fun c3 => ?_)
  · rw [if_pos c3] at hf
    refine V.iconst (v := (0 : Int32)) dX3_wantedAt_32 (by decide) ?_
    obtain rfl := Option.some.inj hf
    exact V.zret dX3_wantedAt_33 (by first | rfl | assumption)
  · rw [if_neg c3] at hf
    refine V.iload_n dX3_wantedAt_14 rfl 2 rfl ?_
    refine V.aload_n dX3_wantedAt_15 rfl 0 rfl ?_
    obtain ⟨v4, e3, hf⟩ := bS hf
    refine V.xgR dX3_wantedAt_16 fl_RX3_40 e3 ?_
    refine V.iload_n dX3_wantedAt_19 rfl 1 rfl ?_
    refine V.iconst (v := (5 : Int32)) dX3_wantedAt_20 (by decide) ?_
    refine V.imul dX3_wantedAt_21 ?_
    refine V.iconst (v := (4 : Int32)) dX3_wantedAt_22 (by decide) ?_
    refine V.iadd dX3_wantedAt_23 ?_
    obtain ⟨v5, e4, hf⟩ := bS hf
    refine V.xldI dX3_wantedAt_24 e4 ?_
    refine V.icmp_gt (tgt := 32) dX3_wantedAt_25 (by decide) (fun c6 => ?_) (fun c6 => ?_)
    · rw [if_pos c6] at hf
      refine V.iconst (v := (0 : Int32)) dX3_wantedAt_32 (by decide) ?_
      obtain rfl := Option.some.inj hf
      exact V.zret dX3_wantedAt_33 (by first | rfl | assumption)
    · rw [if_neg c6] at hf
      refine V.iconst (v := (1 : Int32)) dX3_wantedAt_28 (by decide) ?_
      refine V.goto (tgt := 33) dX3_wantedAt_29 (by decide) ?_
      obtain rfl := Option.some.inj hf
      exact V.zret dX3_wantedAt_33 (by first | rfl | assumption)

def f_X3_brightOf (h : xH) (l0 : Nat) (l1 : Int32) : Option (Int32) := (if l1 < 0 then (some ((0 : Int32))) else ((gI h l0 3 4).bind fun v2 => (if v2 ≤ l1 then (some ((0 : Int32))) else ((gR h l0 3 8).bind fun v4 => (ldI h .int v4 (l1 * (2 : Int32))).bind fun v5 => some (v5)))))
set_option maxRecDepth 20000 in
theorem w_X3_brightOf (h : xH) (l0 : Nat) (l1 : Int32) (r : Int32) (hf : f_X3_brightOf h l0 l1 = some r) : Ev 3 yX3_brightOf cX3_brightOf 2 (some .int) [] [.ref l0, .int l1] h (oI h r) := by
  refine Ev.of (by decide +kernel) (Nat.le_of_ble_eq_true rfl) ?_
  unfold f_X3_brightOf at hf
  refine V.iload_n dX3_brightOf_0 rfl 1 rfl ?_
  refine V.if_lt (tgt := 23) dX3_brightOf_1 (by decide) (fun c1 => ?_) (fun c1 => ?_)
  · rw [if_pos c1] at hf
    refine V.iconst (v := (0 : Int32)) dX3_brightOf_23 (by decide) ?_
    obtain rfl := Option.some.inj hf
    exact V.iret dX3_brightOf_24
  · rw [if_neg c1] at hf
    refine V.iload_n dX3_brightOf_4 rfl 1 rfl ?_
    refine V.aload_n dX3_brightOf_5 rfl 0 rfl ?_
    obtain ⟨v2, e1, hf⟩ := bS hf
    refine V.xgI dX3_brightOf_6 fl_RX3_24 e1 ?_
    refine V.icmp_ge (tgt := 23) dX3_brightOf_9 (by decide) (fun c3 => ?_) (fun c3 => ?_)
    · rw [if_pos c3] at hf
      refine V.iconst (v := (0 : Int32)) dX3_brightOf_23 (by decide) ?_
      obtain rfl := Option.some.inj hf
      exact V.iret dX3_brightOf_24
    · rw [if_neg c3] at hf
      refine V.aload_n dX3_brightOf_12 rfl 0 rfl ?_
      obtain ⟨v4, e2, hf⟩ := bS hf
      refine V.xgR dX3_brightOf_13 fl_RX3_37 e2 ?_
      refine V.iload_n dX3_brightOf_16 rfl 1 rfl ?_
      refine V.iconst (v := (2 : Int32)) dX3_brightOf_17 (by decide) ?_
      refine V.imul dX3_brightOf_18 ?_
      obtain ⟨v5, e3, hf⟩ := bS hf
      refine V.xldI dX3_brightOf_19 e3 ?_
      refine V.goto (tgt := 24) dX3_brightOf_20 (by decide) ?_
      obtain rfl := Option.some.inj hf
      exact V.iret dX3_brightOf_24

def f_X3_shineOf_3 : Nat → xH → Nat → Int32 → Nat → Int32 → Int32 → Option (xH)
  | 0, _, _, _, _, _, _ => none
  | n + 1, h, l0, l1, l2, l3, l4 => (gI h l0 3 3).bind fun v1 => (if v1 ≤ l4 then (some (h)) else ((gR h l0 3 7).bind fun v3 => (ldI h .int v3 (l4 * (4 : Int32))).bind fun v4 => (gR h l0 3 7).bind fun v5 => (ldI h .int v5 ((l4 * (4 : Int32)) + (1 : Int32))).bind fun v6 => (gO h l0 3).bind fun q7 => (f_X3_brightOf h l0 l1).bind fun r8 => (gR h l0 3 7).bind fun v9 => (ldI h .int v9 ((l4 * (4 : Int32)) + (2 : Int32))).bind fun v10 => (dvI (r8 * v10) (100 : Int32)).bind fun v11 => (ldI h .int l2 ((l3 + (v4 * (16 : Int32))) + v6)).bind fun v12 => (stI h .int l2 ((l3 + (v4 * (16 : Int32))) + v6) (v12 + v11)).bind fun h13 => (gR h13 l0 3 7).bind fun v14 => (ldI h13 .int v14 ((l4 * (4 : Int32)) + (3 : Int32))).bind fun v15 => (if v15 = (1 : Int32) then ((ldI h13 .int l2 ((l3 + (v6 * (16 : Int32))) + v4)).bind fun v17 => (stI h13 .int l2 ((l3 + (v6 * (16 : Int32))) + v4) (v17 + v11)).bind fun h18 => f_X3_shineOf_3 n h18 l0 l1 l2 l3 (l4 + 1)) else (f_X3_shineOf_3 n h13 l0 l1 l2 l3 (l4 + 1)))))
def f_X3_shineOf (h : xH) (l0 : Nat) (l1 : Int32) (l2 : Nat) (l3 : Int32) : Option (xH) := f_X3_shineOf_3 xFU h l0 l1 l2 l3 (0 : Int32)
set_option maxRecDepth 20000 in
theorem w_X3_shineOf_3 : ∀ (n : Nat) (h : xH) (l0 : Nat) (l1 : Int32) (l2 : Nat) (l3 : Int32) (l4 : Int32) (r : xH), f_X3_shineOf_3 n h l0 l1 l2 l3 l4 = some r → V 4 yX3_shineOf cX3_shineOf 8 none [] none 3 [(0, .ref l0), (1, .int l1), (2, .ref l2), (3, .int l3), (4, .int l4)] [] h (oVh r) := by
  intro n
  induction n with
  | zero => intro h l0 l1 l2 l3 l4 r hf; cases hf
  | succ n ih =>
    intro h l0 l1 l2 l3 l4 r hf
    rw [f_X3_shineOf_3] at hf
    refine V.iload dX3_shineOf_3 4 rfl ?_
    refine V.aload_n dX3_shineOf_5 rfl 0 rfl ?_
    obtain ⟨v1, e1, hf⟩ := bS hf
    refine V.xgI dX3_shineOf_6 fl_RX3_21 e1 ?_
    refine V.icmp_ge (tgt := 113) dX3_shineOf_9 (by decide) (fun c2 => ?_) (fun c2 => ?_)
    · rw [if_pos c2] at hf
      obtain rfl := Option.some.inj hf
      exact V.vret dX3_shineOf_113
    · rw [if_neg c2] at hf
      refine V.aload_n dX3_shineOf_12 rfl 0 rfl ?_
      obtain ⟨v3, e2, hf⟩ := bS hf
      refine V.xgR dX3_shineOf_13 fl_RX3_33 e2 ?_
      refine V.iload dX3_shineOf_16 4 rfl ?_
      refine V.iconst (v := (4 : Int32)) dX3_shineOf_18 (by decide) ?_
      refine V.imul dX3_shineOf_19 ?_
      obtain ⟨v4, e3, hf⟩ := bS hf
      refine V.xldI dX3_shineOf_20 e3 ?_
      refine V.istore (lv' := [(5, .int v4), (0, .ref l0), (1, .int l1), (2, .ref l2), (3, .int l3), (4, .int l4)]) dX3_shineOf_21 (by decide) rfl ?_
      refine V.aload_n dX3_shineOf_23 rfl 1 rfl ?_
      obtain ⟨v5, e4, hf⟩ := bS hf
      refine V.xgR dX3_shineOf_24 fl_RX3_33 e4 ?_
      refine V.iload dX3_shineOf_27 5 rfl ?_
      refine V.iconst (v := (4 : Int32)) dX3_shineOf_29 (by decide) ?_
      refine V.imul dX3_shineOf_30 ?_
      refine V.iconst (v := (1 : Int32)) dX3_shineOf_31 (by decide) ?_
      refine V.iadd dX3_shineOf_32 ?_
      obtain ⟨v6, e5, hf⟩ := bS hf
      refine V.xldI dX3_shineOf_33 e5 ?_
      refine V.istore (lv' := [(6, .int v6), (5, .int v4), (0, .ref l0), (1, .int l1), (2, .ref l2), (3, .int l3), (4, .int l4)]) dX3_shineOf_34 (by decide) rfl ?_
      refine V.aload_n dX3_shineOf_36 rfl 2 rfl ?_
      refine V.iload_n dX3_shineOf_37 rfl 3 rfl ?_
      obtain ⟨q7, e6, hf⟩ := bS hf
      obtain ⟨r8, e7, hf⟩ := bS hf
      refine V.callV (As := [.int l1]) (st := []) dX3_shineOf_38 cl_RX3_76 sw_yX3_brightOf (by decide) rfl (Nat.le_of_ble_eq_true rfl) rfl (gO_some e6) rfl (w_X3_brightOf _ _ _ _ e7) ?_
      refine V.aload_n dX3_shineOf_41 rfl 2 rfl ?_
      obtain ⟨v9, e8, hf⟩ := bS hf
      refine V.xgR dX3_shineOf_42 fl_RX3_33 e8 ?_
      refine V.iload dX3_shineOf_45 6 rfl ?_
      refine V.iconst (v := (4 : Int32)) dX3_shineOf_47 (by decide) ?_
      refine V.imul dX3_shineOf_48 ?_
      refine V.iconst (v := (2 : Int32)) dX3_shineOf_49 (by decide) ?_
      refine V.iadd dX3_shineOf_50 ?_
      obtain ⟨v10, e9, hf⟩ := bS hf
      refine V.xldI dX3_shineOf_51 e9 ?_
      refine V.imul dX3_shineOf_52 ?_
      refine V.bipush (v := (100 : Int32)) dX3_shineOf_53 (by decide) ?_
      obtain ⟨v11, e10, hf⟩ := bS hf
      refine V.xdvI dX3_shineOf_55 e10 ?_
      refine V.istore (lv' := [(7, .int v11), (6, .int v6), (5, .int v4), (0, .ref l0), (1, .int l1), (2, .ref l2), (3, .int l3), (4, .int l4)]) dX3_shineOf_56 (by decide) rfl ?_
      refine V.aload_n dX3_shineOf_58 rfl 5 rfl ?_
      refine V.iload_n dX3_shineOf_59 rfl 6 rfl ?_
      refine V.iload dX3_shineOf_60 2 rfl ?_
      refine V.bipush (v := (16 : Int32)) dX3_shineOf_62 (by decide) ?_
      refine V.imul dX3_shineOf_64 ?_
      refine V.iadd dX3_shineOf_65 ?_
      refine V.iload dX3_shineOf_66 1 rfl ?_
      refine V.iadd dX3_shineOf_68 ?_
      refine V.dup2 dX3_shineOf_69 rfl rfl ?_
      obtain ⟨v12, e11, hf⟩ := bS hf
      refine V.xldI dX3_shineOf_70 e11 ?_
      refine V.iload dX3_shineOf_71 0 rfl ?_
      refine V.iadd dX3_shineOf_73 ?_
      obtain ⟨h13, e12, hf⟩ := bS hf
      refine V.xstI dX3_shineOf_74 e12 ?_
      refine V.aload_n dX3_shineOf_75 rfl 3 rfl ?_
      obtain ⟨v14, e13, hf⟩ := bS hf
      refine V.xgR dX3_shineOf_76 fl_RX3_33 e13 ?_
      refine V.iload dX3_shineOf_79 7 rfl ?_
      refine V.iconst (v := (4 : Int32)) dX3_shineOf_81 (by decide) ?_
      refine V.imul dX3_shineOf_82 ?_
      refine V.iconst (v := (3 : Int32)) dX3_shineOf_83 (by decide) ?_
      refine V.iadd dX3_shineOf_84 ?_
      obtain ⟨v15, e14, hf⟩ := bS hf
      refine V.xldI dX3_shineOf_85 e14 ?_
      refine V.iconst (v := (1 : Int32)) dX3_shineOf_86 (by decide) ?_
      refine V.icmp_ne (tgt := 107) dX3_shineOf_87 (by decide) (fun c16 => ?_) (fun c16 => ?_)
      · rw [if_neg c16] at hf
        refine V.iinc (v := (l4 + 1)) (lv' := [(4, .int (l4 + 1)), (7, .int v11), (6, .int v6), (5, .int v4), (0, .ref l0), (1, .int l1), (2, .ref l2), (3, .int l3)]) dX3_shineOf_107 7 rfl rfl (Nat.le_of_ble_eq_true rfl) rfl ?_
        refine V.goto (tgt := 3) dX3_shineOf_110 (by decide) ?_
        refine V.sub [4, 5, 6, 7, 0] rfl ?_
        exact ih _ _ _ _ _ _ _ hf
      · rw [if_pos c16] at hf
        refine V.aload_n dX3_shineOf_90 rfl 5 rfl ?_
        refine V.iload_n dX3_shineOf_91 rfl 6 rfl ?_
        refine V.iload dX3_shineOf_92 1 rfl ?_
        refine V.bipush (v := (16 : Int32)) dX3_shineOf_94 (by decide) ?_
        refine V.imul dX3_shineOf_96 ?_
        refine V.iadd dX3_shineOf_97 ?_
        refine V.iload dX3_shineOf_98 2 rfl ?_
        refine V.iadd dX3_shineOf_100 ?_
        refine V.dup2 dX3_shineOf_101 rfl rfl ?_
        obtain ⟨v17, e15, hf⟩ := bS hf
        refine V.xldI dX3_shineOf_102 e15 ?_
        refine V.iload dX3_shineOf_103 0 rfl ?_
        refine V.iadd dX3_shineOf_105 ?_
        obtain ⟨h18, e16, hf⟩ := bS hf
        refine V.xstI dX3_shineOf_106 e16 ?_
        refine V.iinc (v := (l4 + 1)) (lv' := [(4, .int (l4 + 1)), (7, .int v11), (6, .int v6), (5, .int v4), (0, .ref l0), (1, .int l1), (2, .ref l2), (3, .int l3)]) dX3_shineOf_107 7 rfl rfl (Nat.le_of_ble_eq_true rfl) rfl ?_
        refine V.goto (tgt := 3) dX3_shineOf_110 (by decide) ?_
        refine V.sub [4, 5, 6, 7, 0] rfl ?_
        exact ih _ _ _ _ _ _ _ hf

set_option maxRecDepth 20000 in
theorem w_X3_shineOf (h : xH) (l0 : Nat) (l1 : Int32) (l2 : Nat) (l3 : Int32) (r : xH) (hf : f_X3_shineOf h l0 l1 l2 l3 = some r) : Ev 4 yX3_shineOf cX3_shineOf 8 none [] [.ref l0, .int l1, .ref l2, .int l3] h (oVh r) := by
  refine Ev.of (by decide +kernel) (Nat.le_of_ble_eq_true rfl) ?_
  unfold f_X3_shineOf at hf
  refine V.iconst (v := (0 : Int32)) dX3_shineOf_0 (by decide) ?_
  refine V.istore (lv' := [(4, .int (0 : Int32)), (0, .ref l0), (1, .int l1), (2, .ref l2), (3, .int l3)]) dX3_shineOf_1 (by decide) rfl ?_
  refine V.sub [1, 2, 3, 4, 0] rfl ?_
  exact w_X3_shineOf_3 _ _ _ _ _ _ _ _ hf

def f_X3_needy_4 (h : xH) : Nat → Nat → Int32 → Int32 → Int32 → Option (Int32)
  | 0, _, _, _, _ => none
  | n + 1, l0, l1, l2, l3 => (gI h l0 3 5).bind fun v1 => (if v1 ≤ l3 then (some (l2)) else ((gR h l0 3 9).bind fun v3 => (ldI h .int v3 ((l3 * (5 : Int32)) + (1 : Int32))).bind fun v4 => (if v4 ≤ 0 then (f_X3_needy_4 h n l0 l1 l2 (l3 + 1)) else ((gO h l0 3).bind fun q6 => (f_X3_wantedAt h l0 l3 l1).bind fun r7 => (if r7 = 0 then (f_X3_needy_4 h n l0 l1 l2 (l3 + 1)) else ((gR h l0 3 9).bind fun v9 => (ldI h .int v9 (l3 * (5 : Int32))).bind fun v10 => f_X3_needy_4 h n l0 l1 (l2 ||| ((1 : Int32) <<< (v10 &&& 31))) (l3 + 1)))))))
def f_X3_needy (h : xH) (l0 : Nat) (l1 : Int32) : Option (Int32) := f_X3_needy_4 h xFU l0 l1 (0 : Int32) (0 : Int32)
set_option maxRecDepth 20000 in
theorem w_X3_needy_4 (h : xH) : ∀ (n : Nat) (l0 : Nat) (l1 : Int32) (l2 : Int32) (l3 : Int32) (r : Int32), f_X3_needy_4 h n l0 l1 l2 l3 = some r → V 4 yX3_needy cX3_needy 4 (some .int) [] none 4 [(0, .ref l0), (1, .int l1), (2, .int l2), (3, .int l3)] [] h (oI h r) := by
  intro n
  induction n with
  | zero => intro l0 l1 l2 l3 r hf; cases hf
  | succ n ih =>
    intro l0 l1 l2 l3 r hf
    rw [f_X3_needy_4] at hf
    refine V.iload_n dX3_needy_4 rfl 3 rfl ?_
    refine V.aload_n dX3_needy_5 rfl 0 rfl ?_
    obtain ⟨v1, e1, hf⟩ := bS hf
    refine V.xgI dX3_needy_6 fl_RX3_27 e1 ?_
    refine V.icmp_ge (tgt := 53) dX3_needy_9 (by decide) (fun c2 => ?_) (fun c2 => ?_)
    · rw [if_pos c2] at hf
      refine V.iload_n dX3_needy_53 rfl 2 rfl ?_
      obtain rfl := Option.some.inj hf
      exact V.iret dX3_needy_54
    · rw [if_neg c2] at hf
      refine V.aload_n dX3_needy_12 rfl 0 rfl ?_
      obtain ⟨v3, e2, hf⟩ := bS hf
      refine V.xgR dX3_needy_13 fl_RX3_40 e2 ?_
      refine V.iload_n dX3_needy_16 rfl 3 rfl ?_
      refine V.iconst (v := (5 : Int32)) dX3_needy_17 (by decide) ?_
      refine V.imul dX3_needy_18 ?_
      refine V.iconst (v := (1 : Int32)) dX3_needy_19 (by decide) ?_
      refine V.iadd dX3_needy_20 ?_
      obtain ⟨v4, e3, hf⟩ := bS hf
      refine V.xldI dX3_needy_21 e3 ?_
      refine V.if_le (tgt := 47) dX3_needy_22 (by decide) (fun c5 => ?_) (fun c5 => ?_)
      · rw [if_pos c5] at hf
        refine V.iinc (v := (l3 + 1)) (lv' := [(3, .int (l3 + 1)), (0, .ref l0), (1, .int l1), (2, .int l2)]) dX3_needy_47 3 rfl rfl (Nat.le_of_ble_eq_true rfl) rfl ?_
        refine V.goto (tgt := 4) dX3_needy_50 (by decide) ?_
        refine V.sub [1, 2, 3, 0] rfl ?_
        exact ih _ _ _ _ _ hf
      · rw [if_neg c5] at hf
        refine V.aload_n dX3_needy_25 rfl 0 rfl ?_
        refine V.iload_n dX3_needy_26 rfl 3 rfl ?_
        refine V.iload_n dX3_needy_27 rfl 1 rfl ?_
        obtain ⟨q6, e4, hf⟩ := bS hf
        obtain ⟨r7, e5, hf⟩ := bS hf
        refine V.callV (As := [.int l3, .int l1]) (st := []) dX3_needy_28 cl_RX3_80 sw_yX3_wantedAt (by decide) rfl (Nat.le_of_ble_eq_true rfl) rfl (gO_some e4) rfl (w_X3_wantedAt _ _ _ _ _ e5) ?_
        refine V.if_eq (tgt := 47) dX3_needy_31 (by decide) (fun c8 => ?_) (fun c8 => ?_)
        · rw [if_pos c8] at hf
          refine V.iinc (v := (l3 + 1)) (lv' := [(3, .int (l3 + 1)), (0, .ref l0), (1, .int l1), (2, .int l2)]) dX3_needy_47 3 rfl rfl (Nat.le_of_ble_eq_true rfl) rfl ?_
          refine V.goto (tgt := 4) dX3_needy_50 (by decide) ?_
          refine V.sub [1, 2, 3, 0] rfl ?_
          exact ih _ _ _ _ _ hf
        · rw [if_neg c8] at hf
          refine V.iload_n dX3_needy_34 rfl 2 rfl ?_
          refine V.iconst (v := (1 : Int32)) dX3_needy_35 (by decide) ?_
          refine V.aload_n dX3_needy_36 rfl 0 rfl ?_
          obtain ⟨v9, e6, hf⟩ := bS hf
          refine V.xgR dX3_needy_37 fl_RX3_40 e6 ?_
          refine V.iload_n dX3_needy_40 rfl 3 rfl ?_
          refine V.iconst (v := (5 : Int32)) dX3_needy_41 (by decide) ?_
          refine V.imul dX3_needy_42 ?_
          obtain ⟨v10, e7, hf⟩ := bS hf
          refine V.xldI dX3_needy_43 e7 ?_
          refine V.ishl dX3_needy_44 ?_
          refine V.ior dX3_needy_45 ?_
          refine V.istore_n (lv' := [(2, .int (l2 ||| ((1 : Int32) <<< (v10 &&& 31)))), (0, .ref l0), (1, .int l1), (3, .int l3)]) dX3_needy_46 rfl (by decide) rfl ?_
          refine V.iinc (v := (l3 + 1)) (lv' := [(3, .int (l3 + 1)), (2, .int (l2 ||| ((1 : Int32) <<< (v10 &&& 31)))), (0, .ref l0), (1, .int l1)]) dX3_needy_47 3 rfl rfl (Nat.le_of_ble_eq_true rfl) rfl ?_
          refine V.goto (tgt := 4) dX3_needy_50 (by decide) ?_
          refine V.sub [2, 3, 1, 0] rfl ?_
          exact ih _ _ _ _ _ hf

set_option maxRecDepth 20000 in
theorem w_X3_needy (h : xH) (l0 : Nat) (l1 : Int32) (r : Int32) (hf : f_X3_needy h l0 l1 = some r) : Ev 4 yX3_needy cX3_needy 4 (some .int) [] [.ref l0, .int l1] h (oI h r) := by
  refine Ev.of (by decide +kernel) (Nat.le_of_ble_eq_true rfl) ?_
  unfold f_X3_needy at hf
  refine V.iconst (v := (0 : Int32)) dX3_needy_0 (by decide) ?_
  refine V.istore_n (lv' := [(2, .int (0 : Int32)), (0, .ref l0), (1, .int l1)]) dX3_needy_1 rfl (by decide) rfl ?_
  refine V.iconst (v := (0 : Int32)) dX3_needy_2 (by decide) ?_
  refine V.istore_n (lv' := [(3, .int (0 : Int32)), (2, .int (0 : Int32)), (0, .ref l0), (1, .int l1)]) dX3_needy_3 rfl (by decide) rfl ?_
  refine V.sub [2, 3, 1, 0] rfl ?_
  exact w_X3_needy_4 h _ _ _ _ _ _ hf

def f_X3_notRight_66 (h : xH) (k5 : Nat → Int32 → Nat → Int32 → Int32 → Option (Int32)) (l0 : Nat) (l1 : Int32) (l2 : Nat) (l3 : Int32) (l4 : Int32) (l5 : Int32) (s0 : Int32) : Option (Int32) := (if s0 = 0 then ((gO h l0 3).bind fun q2 => (f_X3_wantedAt h l0 l4 l1).bind fun r3 => (if r3 = 0 then (k5 l0 l1 l2 l3 (l4 + 1)) else (k5 l0 l1 l2 (l3 ||| ((1 : Int32) <<< (l5 &&& 31))) (l4 + 1)))) else (k5 l0 l1 l2 l3 (l4 + 1)))
def f_X3_notRight_65 (h : xH) (k5 : Nat → Int32 → Nat → Int32 → Int32 → Option (Int32)) (l0 : Nat) (l1 : Int32) (l2 : Nat) (l3 : Int32) (l4 : Int32) (l5 : Int32) : Option (Int32) := f_X3_notRight_66 h k5 l0 l1 l2 l3 l4 l5 (0 : Int32)
def f_X3_notRight_5 (h : xH) : Nat → Nat → Int32 → Nat → Int32 → Int32 → Option (Int32)
  | 0, _, _, _, _, _ => none
  | n + 1, l0, l1, l2, l3, l4 => (gI h l0 3 5).bind fun v1 => (if v1 ≤ l4 then (some (l3)) else ((gR h l0 3 9).bind fun v3 => (ldI h .int v3 (l4 * (5 : Int32))).bind fun v4 => (ldI h .int l2 v4).bind fun v5 => (gR h l0 3 9).bind fun v6 => (ldI h .int v6 ((l4 * (5 : Int32)) + (1 : Int32))).bind fun v7 => (if v5 < v7 then (f_X3_notRight_65 h (f_X3_notRight_5 h n) l0 l1 l2 l3 l4 v4) else ((ldI h .int l2 v4).bind fun v9 => (gR h l0 3 9).bind fun v10 => (ldI h .int v10 ((l4 * (5 : Int32)) + (2 : Int32))).bind fun v11 => (if v11 < v9 then (f_X3_notRight_65 h (f_X3_notRight_5 h n) l0 l1 l2 l3 l4 v4) else (f_X3_notRight_66 h (f_X3_notRight_5 h n) l0 l1 l2 l3 l4 v4 (1 : Int32)))))))
def f_X3_notRight (h : xH) (l0 : Nat) (l1 : Int32) (l2 : Nat) : Option (Int32) := f_X3_notRight_5 h xFU l0 l1 l2 (0 : Int32) (0 : Int32)
set_option maxRecDepth 20000 in
theorem w_X3_notRight_66 (h : xH) {k5 : Nat → Int32 → Nat → Int32 → Int32 → Option (Int32)} (hk5 : ∀ (l0 : Nat) (l1 : Int32) (l2 : Nat) (l3 : Int32) (l4 : Int32) (r : Int32), k5 l0 l1 l2 l3 l4 = some r → V 4 yX3_notRight cX3_notRight 7 (some .int) [] none 5 [(0, .ref l0), (1, .int l1), (2, .ref l2), (3, .int l3), (4, .int l4)] [] h (oI h r)) (l0 : Nat) (l1 : Int32) (l2 : Nat) (l3 : Int32) (l4 : Int32) (l5 : Int32) (s0 : Int32) (r : Int32) (hf : f_X3_notRight_66 h k5 l0 l1 l2 l3 l4 l5 s0 = some r) : V 4 yX3_notRight cX3_notRight 7 (some .int) [] none 66 [(0, .ref l0), (1, .int l1), (2, .ref l2), (3, .int l3), (4, .int l4), (5, .int l5)] [.int s0] h (oI h r) := by
  unfold f_X3_notRight_66 at hf
  refine V.istore (lv' := [(6, .int s0), (0, .ref l0), (1, .int l1), (2, .ref l2), (3, .int l3), (4, .int l4), (5, .int l5)]) dX3_notRight_66 (by decide) rfl ?_
  refine V.iload dX3_notRight_68 0 rfl ?_
  refine V.if_ne (tgt := 90) dX3_notRight_70 (by decide) (fun c1 => ?_) (fun c1 => ?_)
  · rw [if_neg c1] at hf
    refine V.iinc (v := (l4 + 1)) (lv' := [(4, .int (l4 + 1)), (6, .int s0), (0, .ref l0), (1, .int l1), (2, .ref l2), (3, .int l3), (5, .int l5)]) dX3_notRight_90 5 rfl rfl (Nat.le_of_ble_eq_true rfl) rfl ?_
    refine V.goto (tgt := 5) dX3_notRight_93 (by decide) ?_
    refine V.sub [2, 3, 4, 5, 0] rfl ?_
    exact hk5 _ _ _ _ _ _ hf
  · rw [if_pos c1] at hf
    refine V.aload_n dX3_notRight_73 rfl 1 rfl ?_
    refine V.iload dX3_notRight_74 5 rfl ?_
    refine V.iload_n dX3_notRight_76 rfl 2 rfl ?_
    obtain ⟨q2, e1, hf⟩ := bS hf
    obtain ⟨r3, e2, hf⟩ := bS hf
    refine V.callV (As := [.int l4, .int l1]) (st := []) dX3_notRight_77 cl_RX3_80 sw_yX3_wantedAt (by decide) rfl (Nat.le_of_ble_eq_true rfl) rfl (gO_some e1) rfl (w_X3_wantedAt _ _ _ _ _ e2) ?_
    refine V.if_eq (tgt := 90) dX3_notRight_80 (by decide) (fun c4 => ?_) (fun c4 => ?_)
    · rw [if_pos c4] at hf
      refine V.iinc (v := (l4 + 1)) (lv' := [(4, .int (l4 + 1)), (6, .int s0), (0, .ref l0), (1, .int l1), (2, .ref l2), (3, .int l3), (5, .int l5)]) dX3_notRight_90 5 rfl rfl (Nat.le_of_ble_eq_true rfl) rfl ?_
      refine V.goto (tgt := 5) dX3_notRight_93 (by decide) ?_
      refine V.sub [2, 3, 4, 5, 0] rfl ?_
      exact hk5 _ _ _ _ _ _ hf
    · rw [if_neg c4] at hf
      refine V.iload_n dX3_notRight_83 rfl 4 rfl ?_
      refine V.iconst (v := (1 : Int32)) dX3_notRight_84 (by decide) ?_
      refine V.iload dX3_notRight_85 6 rfl ?_
      refine V.ishl dX3_notRight_87 ?_
      refine V.ior dX3_notRight_88 ?_
      refine V.istore_n (lv' := [(3, .int (l3 ||| ((1 : Int32) <<< (l5 &&& 31)))), (6, .int s0), (0, .ref l0), (1, .int l1), (2, .ref l2), (4, .int l4), (5, .int l5)]) dX3_notRight_89 rfl (by decide) rfl ?_
      refine V.iinc (v := (l4 + 1)) (lv' := [(4, .int (l4 + 1)), (3, .int (l3 ||| ((1 : Int32) <<< (l5 &&& 31)))), (6, .int s0), (0, .ref l0), (1, .int l1), (2, .ref l2), (5, .int l5)]) dX3_notRight_90 5 rfl rfl (Nat.le_of_ble_eq_true rfl) rfl ?_
      refine V.goto (tgt := 5) dX3_notRight_93 (by decide) ?_
      refine V.sub [3, 4, 5, 1, 0] rfl ?_
      exact hk5 _ _ _ _ _ _ hf

set_option maxRecDepth 20000 in
theorem w_X3_notRight_65 (h : xH) {k5 : Nat → Int32 → Nat → Int32 → Int32 → Option (Int32)} (hk5 : ∀ (l0 : Nat) (l1 : Int32) (l2 : Nat) (l3 : Int32) (l4 : Int32) (r : Int32), k5 l0 l1 l2 l3 l4 = some r → V 4 yX3_notRight cX3_notRight 7 (some .int) [] none 5 [(0, .ref l0), (1, .int l1), (2, .ref l2), (3, .int l3), (4, .int l4)] [] h (oI h r)) (l0 : Nat) (l1 : Int32) (l2 : Nat) (l3 : Int32) (l4 : Int32) (l5 : Int32) (r : Int32) (hf : f_X3_notRight_65 h k5 l0 l1 l2 l3 l4 l5 = some r) : V 4 yX3_notRight cX3_notRight 7 (some .int) [] none 65 [(0, .ref l0), (1, .int l1), (2, .ref l2), (3, .int l3), (4, .int l4), (5, .int l5)] [] h (oI h r) := by
  unfold f_X3_notRight_65 at hf
  refine V.iconst (v := (0 : Int32)) dX3_notRight_65 (by decide) ?_
  exact w_X3_notRight_66 _ hk5 _ _ _ _ _ _ _ _ hf

set_option maxRecDepth 20000 in
theorem w_X3_notRight_5 (h : xH) : ∀ (n : Nat) (l0 : Nat) (l1 : Int32) (l2 : Nat) (l3 : Int32) (l4 : Int32) (r : Int32), f_X3_notRight_5 h n l0 l1 l2 l3 l4 = some r → V 4 yX3_notRight cX3_notRight 7 (some .int) [] none 5 [(0, .ref l0), (1, .int l1), (2, .ref l2), (3, .int l3), (4, .int l4)] [] h (oI h r) := by
  intro n
  induction n with
  | zero => intro l0 l1 l2 l3 l4 r hf; cases hf
  | succ n ih =>
    intro l0 l1 l2 l3 l4 r hf
    rw [f_X3_notRight_5] at hf
    refine V.iload dX3_notRight_5 4 rfl ?_
    refine V.aload_n dX3_notRight_7 rfl 0 rfl ?_
    obtain ⟨v1, e3, hf⟩ := bS hf
    refine V.xgI dX3_notRight_8 fl_RX3_27 e3 ?_
    refine V.icmp_ge (tgt := 96) dX3_notRight_11 (by decide) (fun c2 => ?_) (fun c2 => ?_)
    · rw [if_pos c2] at hf
      refine V.iload_n dX3_notRight_96 rfl 3 rfl ?_
      obtain rfl := Option.some.inj hf
      exact V.iret dX3_notRight_97
    · rw [if_neg c2] at hf
      refine V.aload_n dX3_notRight_14 rfl 0 rfl ?_
      obtain ⟨v3, e4, hf⟩ := bS hf
      refine V.xgR dX3_notRight_15 fl_RX3_40 e4 ?_
      refine V.iload dX3_notRight_18 4 rfl ?_
      refine V.iconst (v := (5 : Int32)) dX3_notRight_20 (by decide) ?_
      refine V.imul dX3_notRight_21 ?_
      obtain ⟨v4, e5, hf⟩ := bS hf
      refine V.xldI dX3_notRight_22 e5 ?_
      refine V.istore (lv' := [(5, .int v4), (0, .ref l0), (1, .int l1), (2, .ref l2), (3, .int l3), (4, .int l4)]) dX3_notRight_23 (by decide) rfl ?_
      refine V.aload_n dX3_notRight_25 rfl 3 rfl ?_
      refine V.iload dX3_notRight_26 0 rfl ?_
      obtain ⟨v5, e6, hf⟩ := bS hf
      refine V.xldI dX3_notRight_28 e6 ?_
      refine V.aload_n dX3_notRight_29 rfl 1 rfl ?_
      obtain ⟨v6, e7, hf⟩ := bS hf
      refine V.xgR dX3_notRight_30 fl_RX3_40 e7 ?_
      refine V.iload dX3_notRight_33 5 rfl ?_
      refine V.iconst (v := (5 : Int32)) dX3_notRight_35 (by decide) ?_
      refine V.imul dX3_notRight_36 ?_
      refine V.iconst (v := (1 : Int32)) dX3_notRight_37 (by decide) ?_
      refine V.iadd dX3_notRight_38 ?_
      obtain ⟨v7, e8, hf⟩ := bS hf
      refine V.xldI dX3_notRight_39 e8 ?_
      refine V.icmp_lt (tgt := 65) dX3_notRight_40 (by decide) (fun c8 => ?_) (fun c8 => ?_)
      · rw [if_pos c8] at hf
        refine V.sub [1, 2, 3, 4, 5, 0] rfl ?_
        exact w_X3_notRight_65 _ ih _ _ _ _ _ _ _ hf
      · rw [if_neg c8] at hf
        refine V.aload_n dX3_notRight_43 rfl 3 rfl ?_
        refine V.iload dX3_notRight_44 0 rfl ?_
        obtain ⟨v9, e9, hf⟩ := bS hf
        refine V.xldI dX3_notRight_46 e9 ?_
        refine V.aload_n dX3_notRight_47 rfl 1 rfl ?_
        obtain ⟨v10, e10, hf⟩ := bS hf
        refine V.xgR dX3_notRight_48 fl_RX3_40 e10 ?_
        refine V.iload dX3_notRight_51 5 rfl ?_
        refine V.iconst (v := (5 : Int32)) dX3_notRight_53 (by decide) ?_
        refine V.imul dX3_notRight_54 ?_
        refine V.iconst (v := (2 : Int32)) dX3_notRight_55 (by decide) ?_
        refine V.iadd dX3_notRight_56 ?_
        obtain ⟨v11, e11, hf⟩ := bS hf
        refine V.xldI dX3_notRight_57 e11 ?_
        refine V.icmp_gt (tgt := 65) dX3_notRight_58 (by decide) (fun c12 => ?_) (fun c12 => ?_)
        · rw [if_pos c12] at hf
          refine V.sub [1, 2, 3, 4, 5, 0] rfl ?_
          exact w_X3_notRight_65 _ ih _ _ _ _ _ _ _ hf
        · rw [if_neg c12] at hf
          refine V.iconst (v := (1 : Int32)) dX3_notRight_61 (by decide) ?_
          refine V.goto (tgt := 66) dX3_notRight_62 (by decide) ?_
          refine V.sub [1, 2, 3, 4, 5, 0] rfl ?_
          exact w_X3_notRight_66 _ ih _ _ _ _ _ _ _ _ hf

set_option maxRecDepth 20000 in
theorem w_X3_notRight (h : xH) (l0 : Nat) (l1 : Int32) (l2 : Nat) (r : Int32) (hf : f_X3_notRight h l0 l1 l2 = some r) : Ev 4 yX3_notRight cX3_notRight 7 (some .int) [] [.ref l0, .int l1, .ref l2] h (oI h r) := by
  refine Ev.of (by decide +kernel) (Nat.le_of_ble_eq_true rfl) ?_
  unfold f_X3_notRight at hf
  refine V.iconst (v := (0 : Int32)) dX3_notRight_0 (by decide) ?_
  refine V.istore_n (lv' := [(3, .int (0 : Int32)), (0, .ref l0), (1, .int l1), (2, .ref l2)]) dX3_notRight_1 rfl (by decide) rfl ?_
  refine V.iconst (v := (0 : Int32)) dX3_notRight_2 (by decide) ?_
  refine V.istore (lv' := [(4, .int (0 : Int32)), (3, .int (0 : Int32)), (0, .ref l0), (1, .int l1), (2, .ref l2)]) dX3_notRight_3 (by decide) rfl ?_
  refine V.sub [2, 3, 4, 1, 0] rfl ?_
  exact w_X3_notRight_5 h _ _ _ _ _ _ _ hf

def f_X3_shineInto_84 (k8 : xH → Nat → Nat → Nat → Int32 → Int32 → Option (xH)) (h : xH) (l0 : Nat) (l1 : Nat) (l2 : Nat) (l3 : Int32) (l4 : Int32) (l5 : Int32) (l6 : Int32) (l7 : Int32) : Option (xH) := (gR h l0 3 7).bind fun v1 => (ldI h .int v1 ((l4 * (4 : Int32)) + (3 : Int32))).bind fun v2 => (if v2 = (1 : Int32) then ((if ((l3 >>> (l6 &&& 31)) &&& (1 : Int32)) = 0 then (k8 h l0 l1 l2 l3 (l4 + 1)) else ((ldI h .int l1 l5).bind fun v5 => (ldI h .int l2 l6).bind fun v6 => (gO h l0 3).bind fun q7 => (f_X3_brightOf h l0 v6).bind fun r8 => (dvI (r8 * l7) (100 : Int32)).bind fun v9 => (stI h .int l1 l5 (v5 + v9)).bind fun h10 => k8 h10 l0 l1 l2 l3 (l4 + 1)))) else (k8 h l0 l1 l2 l3 (l4 + 1)))
def f_X3_shineInto_8 : Nat → xH → Nat → Nat → Nat → Int32 → Int32 → Option (xH)
  | 0, _, _, _, _, _, _ => none
  | n + 1, h, l0, l1, l2, l3, l4 => (gI h l0 3 3).bind fun v1 => (if v1 ≤ l4 then (some (h)) else ((gR h l0 3 7).bind fun v3 => (ldI h .int v3 (l4 * (4 : Int32))).bind fun v4 => (gR h l0 3 7).bind fun v5 => (ldI h .int v5 ((l4 * (4 : Int32)) + (1 : Int32))).bind fun v6 => (gR h l0 3 7).bind fun v7 => (ldI h .int v7 ((l4 * (4 : Int32)) + (2 : Int32))).bind fun v8 => (if ((l3 >>> (v4 &&& 31)) &&& (1 : Int32)) = 0 then (f_X3_shineInto_84 (f_X3_shineInto_8 n) h l0 l1 l2 l3 l4 v4 v6 v8) else ((ldI h .int l1 v6).bind fun v10 => (ldI h .int l2 v4).bind fun v11 => (gO h l0 3).bind fun q12 => (f_X3_brightOf h l0 v11).bind fun r13 => (dvI (r13 * v8) (100 : Int32)).bind fun v14 => (stI h .int l1 v6 (v10 + v14)).bind fun h15 => f_X3_shineInto_84 (f_X3_shineInto_8 n) h15 l0 l1 l2 l3 l4 v4 v6 v8))))
def f_X3_shineInto (h : xH) (l0 : Nat) (l1 : Nat) (l2 : Nat) (l3 : Int32) : Option (xH) := (f_J7_fill_53178 h l1 (0 : Int32)).bind fun r1 => f_X3_shineInto_8 xFU r1 l0 l1 l2 l3 (0 : Int32)
set_option maxRecDepth 20000 in
theorem w_X3_shineInto_84 (h : xH) {k8 : xH → Nat → Nat → Nat → Int32 → Int32 → Option (xH)} (hk8 : ∀ (h : xH) (l0 : Nat) (l1 : Nat) (l2 : Nat) (l3 : Int32) (l4 : Int32) (r : xH), k8 h l0 l1 l2 l3 l4 = some r → V 4 yX3_shineInto cX3_shineInto 8 none [] none 8 [(0, .ref l0), (1, .ref l1), (2, .ref l2), (3, .int l3), (4, .int l4)] [] h (oVh r)) (l0 : Nat) (l1 : Nat) (l2 : Nat) (l3 : Int32) (l4 : Int32) (l5 : Int32) (l6 : Int32) (l7 : Int32) (r : xH) (hf : f_X3_shineInto_84 k8 h l0 l1 l2 l3 l4 l5 l6 l7 = some r) : V 4 yX3_shineInto cX3_shineInto 8 none [] none 84 [(0, .ref l0), (1, .ref l1), (2, .ref l2), (3, .int l3), (4, .int l4), (5, .int l5), (6, .int l6), (7, .int l7)] [] h (oVh r) := by
  unfold f_X3_shineInto_84 at hf
  refine V.aload_n dX3_shineInto_84 rfl 0 rfl ?_
  obtain ⟨v1, e1, hf⟩ := bS hf
  refine V.xgR dX3_shineInto_85 fl_RX3_33 e1 ?_
  refine V.iload dX3_shineInto_88 4 rfl ?_
  refine V.iconst (v := (4 : Int32)) dX3_shineInto_90 (by decide) ?_
  refine V.imul dX3_shineInto_91 ?_
  refine V.iconst (v := (3 : Int32)) dX3_shineInto_92 (by decide) ?_
  refine V.iadd dX3_shineInto_93 ?_
  obtain ⟨v2, e2, hf⟩ := bS hf
  refine V.xldI dX3_shineInto_94 e2 ?_
  refine V.iconst (v := (1 : Int32)) dX3_shineInto_95 (by decide) ?_
  refine V.icmp_ne (tgt := 129) dX3_shineInto_96 (by decide) (fun c3 => ?_) (fun c3 => ?_)
  · rw [if_neg c3] at hf
    refine V.iinc (v := (l4 + 1)) (lv' := [(4, .int (l4 + 1)), (0, .ref l0), (1, .ref l1), (2, .ref l2), (3, .int l3), (5, .int l5), (6, .int l6), (7, .int l7)]) dX3_shineInto_129 4 rfl rfl (Nat.le_of_ble_eq_true rfl) rfl ?_
    refine V.goto (tgt := 8) dX3_shineInto_132 (by decide) ?_
    refine V.sub [1, 2, 3, 4, 0] rfl ?_
    exact hk8 _ _ _ _ _ _ _ hf
  · rw [if_pos c3] at hf
    refine V.iload_n dX3_shineInto_99 rfl 3 rfl ?_
    refine V.iload dX3_shineInto_100 6 rfl ?_
    refine V.ishr dX3_shineInto_102 ?_
    refine V.iconst (v := (1 : Int32)) dX3_shineInto_103 (by decide) ?_
    refine V.iand dX3_shineInto_104 ?_
    refine V.if_eq (tgt := 129) dX3_shineInto_105 (by decide) (fun c4 => ?_) (fun c4 => ?_)
    · rw [if_pos c4] at hf
      refine V.iinc (v := (l4 + 1)) (lv' := [(4, .int (l4 + 1)), (0, .ref l0), (1, .ref l1), (2, .ref l2), (3, .int l3), (5, .int l5), (6, .int l6), (7, .int l7)]) dX3_shineInto_129 4 rfl rfl (Nat.le_of_ble_eq_true rfl) rfl ?_
      refine V.goto (tgt := 8) dX3_shineInto_132 (by decide) ?_
      refine V.sub [1, 2, 3, 4, 0] rfl ?_
      exact hk8 _ _ _ _ _ _ _ hf
    · rw [if_neg c4] at hf
      refine V.aload_n dX3_shineInto_108 rfl 1 rfl ?_
      refine V.iload dX3_shineInto_109 5 rfl ?_
      refine V.dup2 dX3_shineInto_111 rfl rfl ?_
      obtain ⟨v5, e3, hf⟩ := bS hf
      refine V.xldI dX3_shineInto_112 e3 ?_
      refine V.aload_n dX3_shineInto_113 rfl 0 rfl ?_
      refine V.aload_n dX3_shineInto_114 rfl 2 rfl ?_
      refine V.iload dX3_shineInto_115 6 rfl ?_
      obtain ⟨v6, e4, hf⟩ := bS hf
      refine V.xldI dX3_shineInto_117 e4 ?_
      obtain ⟨q7, e5, hf⟩ := bS hf
      obtain ⟨r8, e6, hf⟩ := bS hf
      refine V.callV (As := [.int v6]) (st := [.int v5, .int l5, .ref l1]) dX3_shineInto_118 cl_RX3_76 sw_yX3_brightOf (by decide) rfl (Nat.le_of_ble_eq_true rfl) rfl (gO_some e5) rfl (w_X3_brightOf _ _ _ _ e6) ?_
      refine V.iload dX3_shineInto_121 7 rfl ?_
      refine V.imul dX3_shineInto_123 ?_
      refine V.bipush (v := (100 : Int32)) dX3_shineInto_124 (by decide) ?_
      obtain ⟨v9, e7, hf⟩ := bS hf
      refine V.xdvI dX3_shineInto_126 e7 ?_
      refine V.iadd dX3_shineInto_127 ?_
      obtain ⟨h10, e8, hf⟩ := bS hf
      refine V.xstI dX3_shineInto_128 e8 ?_
      refine V.iinc (v := (l4 + 1)) (lv' := [(4, .int (l4 + 1)), (0, .ref l0), (1, .ref l1), (2, .ref l2), (3, .int l3), (5, .int l5), (6, .int l6), (7, .int l7)]) dX3_shineInto_129 4 rfl rfl (Nat.le_of_ble_eq_true rfl) rfl ?_
      refine V.goto (tgt := 8) dX3_shineInto_132 (by decide) ?_
      refine V.sub [1, 2, 3, 4, 0] rfl ?_
      exact hk8 _ _ _ _ _ _ _ hf

set_option maxRecDepth 20000 in
theorem w_X3_shineInto_8 : ∀ (n : Nat) (h : xH) (l0 : Nat) (l1 : Nat) (l2 : Nat) (l3 : Int32) (l4 : Int32) (r : xH), f_X3_shineInto_8 n h l0 l1 l2 l3 l4 = some r → V 4 yX3_shineInto cX3_shineInto 8 none [] none 8 [(0, .ref l0), (1, .ref l1), (2, .ref l2), (3, .int l3), (4, .int l4)] [] h (oVh r) := by
  intro n
  induction n with
  | zero => intro h l0 l1 l2 l3 l4 r hf; cases hf
  | succ n ih =>
    intro h l0 l1 l2 l3 l4 r hf
    rw [f_X3_shineInto_8] at hf
    refine V.iload dX3_shineInto_8 4 rfl ?_
    refine V.aload_n dX3_shineInto_10 rfl 0 rfl ?_
    obtain ⟨v1, e9, hf⟩ := bS hf
    refine V.xgI dX3_shineInto_11 fl_RX3_21 e9 ?_
    refine V.icmp_ge (tgt := 135) dX3_shineInto_14 (by decide) (fun c2 => ?_) (fun c2 => ?_)
    · rw [if_pos c2] at hf
      obtain rfl := Option.some.inj hf
      exact V.vret dX3_shineInto_135
    · rw [if_neg c2] at hf
      refine V.aload_n dX3_shineInto_17 rfl 0 rfl ?_
      obtain ⟨v3, e10, hf⟩ := bS hf
      refine V.xgR dX3_shineInto_18 fl_RX3_33 e10 ?_
      refine V.iload dX3_shineInto_21 4 rfl ?_
      refine V.iconst (v := (4 : Int32)) dX3_shineInto_23 (by decide) ?_
      refine V.imul dX3_shineInto_24 ?_
      obtain ⟨v4, e11, hf⟩ := bS hf
      refine V.xldI dX3_shineInto_25 e11 ?_
      refine V.istore (lv' := [(5, .int v4), (0, .ref l0), (1, .ref l1), (2, .ref l2), (3, .int l3), (4, .int l4)]) dX3_shineInto_26 (by decide) rfl ?_
      refine V.aload_n dX3_shineInto_28 rfl 1 rfl ?_
      obtain ⟨v5, e12, hf⟩ := bS hf
      refine V.xgR dX3_shineInto_29 fl_RX3_33 e12 ?_
      refine V.iload dX3_shineInto_32 5 rfl ?_
      refine V.iconst (v := (4 : Int32)) dX3_shineInto_34 (by decide) ?_
      refine V.imul dX3_shineInto_35 ?_
      refine V.iconst (v := (1 : Int32)) dX3_shineInto_36 (by decide) ?_
      refine V.iadd dX3_shineInto_37 ?_
      obtain ⟨v6, e13, hf⟩ := bS hf
      refine V.xldI dX3_shineInto_38 e13 ?_
      refine V.istore (lv' := [(6, .int v6), (5, .int v4), (0, .ref l0), (1, .ref l1), (2, .ref l2), (3, .int l3), (4, .int l4)]) dX3_shineInto_39 (by decide) rfl ?_
      refine V.aload_n dX3_shineInto_41 rfl 2 rfl ?_
      obtain ⟨v7, e14, hf⟩ := bS hf
      refine V.xgR dX3_shineInto_42 fl_RX3_33 e14 ?_
      refine V.iload dX3_shineInto_45 6 rfl ?_
      refine V.iconst (v := (4 : Int32)) dX3_shineInto_47 (by decide) ?_
      refine V.imul dX3_shineInto_48 ?_
      refine V.iconst (v := (2 : Int32)) dX3_shineInto_49 (by decide) ?_
      refine V.iadd dX3_shineInto_50 ?_
      obtain ⟨v8, e15, hf⟩ := bS hf
      refine V.xldI dX3_shineInto_51 e15 ?_
      refine V.istore (lv' := [(7, .int v8), (6, .int v6), (5, .int v4), (0, .ref l0), (1, .ref l1), (2, .ref l2), (3, .int l3), (4, .int l4)]) dX3_shineInto_52 (by decide) rfl ?_
      refine V.iload_n dX3_shineInto_54 rfl 6 rfl ?_
      refine V.iload dX3_shineInto_55 2 rfl ?_
      refine V.ishr dX3_shineInto_57 ?_
      refine V.iconst (v := (1 : Int32)) dX3_shineInto_58 (by decide) ?_
      refine V.iand dX3_shineInto_59 ?_
      refine V.if_eq (tgt := 84) dX3_shineInto_60 (by decide) (fun c9 => ?_) (fun c9 => ?_)
      · rw [if_pos c9] at hf
        refine V.sub [3, 4, 5, 6, 7, 2, 1, 0] rfl ?_
        exact w_X3_shineInto_84 _ ih _ _ _ _ _ _ _ _ _ hf
      · rw [if_neg c9] at hf
        refine V.aload_n dX3_shineInto_63 rfl 4 rfl ?_
        refine V.iload dX3_shineInto_64 1 rfl ?_
        refine V.dup2 dX3_shineInto_66 rfl rfl ?_
        obtain ⟨v10, e16, hf⟩ := bS hf
        refine V.xldI dX3_shineInto_67 e16 ?_
        refine V.aload_n dX3_shineInto_68 rfl 3 rfl ?_
        refine V.aload_n dX3_shineInto_69 rfl 5 rfl ?_
        refine V.iload dX3_shineInto_70 2 rfl ?_
        obtain ⟨v11, e17, hf⟩ := bS hf
        refine V.xldI dX3_shineInto_72 e17 ?_
        obtain ⟨q12, e18, hf⟩ := bS hf
        obtain ⟨r13, e19, hf⟩ := bS hf
        refine V.callV (As := [.int v11]) (st := [.int v10, .int v6, .ref l1]) dX3_shineInto_73 cl_RX3_76 sw_yX3_brightOf (by decide) rfl (Nat.le_of_ble_eq_true rfl) rfl (gO_some e18) rfl (w_X3_brightOf _ _ _ _ e19) ?_
        refine V.iload dX3_shineInto_76 0 rfl ?_
        refine V.imul dX3_shineInto_78 ?_
        refine V.bipush (v := (100 : Int32)) dX3_shineInto_79 (by decide) ?_
        obtain ⟨v14, e20, hf⟩ := bS hf
        refine V.xdvI dX3_shineInto_81 e20 ?_
        refine V.iadd dX3_shineInto_82 ?_
        obtain ⟨h15, e21, hf⟩ := bS hf
        refine V.xstI dX3_shineInto_83 e21 ?_
        refine V.sub [3, 4, 5, 6, 7, 2, 1, 0] rfl ?_
        exact w_X3_shineInto_84 _ ih _ _ _ _ _ _ _ _ _ hf

set_option maxRecDepth 20000 in
theorem w_X3_shineInto (h : xH) (l0 : Nat) (l1 : Nat) (l2 : Nat) (l3 : Int32) (r : xH) (hf : f_X3_shineInto h l0 l1 l2 l3 = some r) : Ev 4 yX3_shineInto cX3_shineInto 8 none [] [.ref l0, .ref l1, .ref l2, .int l3] h (oVh r) := by
  refine Ev.of (by decide +kernel) (Nat.le_of_ble_eq_true rfl) ?_
  unfold f_X3_shineInto at hf
  refine V.aload_n dX3_shineInto_0 rfl 1 rfl ?_
  refine V.iconst (v := (0 : Int32)) dX3_shineInto_1 (by decide) ?_
  obtain ⟨r1, e22, hf⟩ := bS hf
  refine V.callS (As := [.ref l1, .int (0 : Int32)]) (st := []) dX3_shineInto_2 cl_RX3_61 sw_yJ7_fill_53178 (by decide) rfl (Nat.le_of_ble_eq_true rfl) rfl (w_J7_fill_53178 _ _ _ _ e22) ?_
  refine V.iconst (v := (0 : Int32)) dX3_shineInto_5 (by decide) ?_
  refine V.istore (lv' := [(4, .int (0 : Int32)), (0, .ref l0), (1, .ref l1), (2, .ref l2), (3, .int l3)]) dX3_shineInto_6 (by decide) rfl ?_
  refine V.sub [1, 2, 3, 4, 0] rfl ?_
  exact w_X3_shineInto_8 _ _ _ _ _ _ _ _ hf

def f_X3_oilOf (h : xH) (l0 : Nat) (l1 : Int32) : Option (Int32) := (if l1 < 0 then (some ((0 : Int32))) else ((gI h l0 3 4).bind fun v2 => (if v2 ≤ l1 then (some ((0 : Int32))) else ((gR h l0 3 8).bind fun v4 => (ldI h .int v4 ((l1 * (2 : Int32)) + (1 : Int32))).bind fun v5 => some (v5)))))
set_option maxRecDepth 20000 in
theorem w_X3_oilOf (h : xH) (l0 : Nat) (l1 : Int32) (r : Int32) (hf : f_X3_oilOf h l0 l1 = some r) : Ev 3 yX3_oilOf cX3_oilOf 2 (some .int) [] [.ref l0, .int l1] h (oI h r) := by
  refine Ev.of (by decide +kernel) (Nat.le_of_ble_eq_true rfl) ?_
  unfold f_X3_oilOf at hf
  refine V.iload_n dX3_oilOf_0 rfl 1 rfl ?_
  refine V.if_lt (tgt := 25) dX3_oilOf_1 (by decide) (fun c1 => ?_) (fun c1 => ?_)
  · rw [if_pos c1] at hf
    refine V.iconst (v := (0 : Int32)) dX3_oilOf_25 (by decide) ?_
    obtain rfl := Option.some.inj hf
    exact V.iret dX3_oilOf_26
  · rw [if_neg c1] at hf
    refine V.iload_n dX3_oilOf_4 rfl 1 rfl ?_
    refine V.aload_n dX3_oilOf_5 rfl 0 rfl ?_
    obtain ⟨v2, e1, hf⟩ := bS hf
    refine V.xgI dX3_oilOf_6 fl_RX3_24 e1 ?_
    refine V.icmp_ge (tgt := 25) dX3_oilOf_9 (by decide) (fun c3 => ?_) (fun c3 => ?_)
    · rw [if_pos c3] at hf
      refine V.iconst (v := (0 : Int32)) dX3_oilOf_25 (by decide) ?_
      obtain rfl := Option.some.inj hf
      exact V.iret dX3_oilOf_26
    · rw [if_neg c3] at hf
      refine V.aload_n dX3_oilOf_12 rfl 0 rfl ?_
      obtain ⟨v4, e2, hf⟩ := bS hf
      refine V.xgR dX3_oilOf_13 fl_RX3_37 e2 ?_
      refine V.iload_n dX3_oilOf_16 rfl 1 rfl ?_
      refine V.iconst (v := (2 : Int32)) dX3_oilOf_17 (by decide) ?_
      refine V.imul dX3_oilOf_18 ?_
      refine V.iconst (v := (1 : Int32)) dX3_oilOf_19 (by decide) ?_
      refine V.iadd dX3_oilOf_20 ?_
      obtain ⟨v5, e3, hf⟩ := bS hf
      refine V.xldI dX3_oilOf_21 e3 ?_
      refine V.goto (tgt := 26) dX3_oilOf_22 (by decide) ?_
      obtain rfl := Option.some.inj hf
      exact V.iret dX3_oilOf_26

def f_X3_wantsAt_4 (h : xH) : Nat → Nat → Int32 → Int32 → Int32 → Option (Int32)
  | 0, _, _, _, _ => none
  | n + 1, l0, l1, l2, l3 => (gI h l0 3 5).bind fun v1 => (if v1 ≤ l3 then (some (l2)) else ((gO h l0 3).bind fun q3 => (f_X3_wantedAt h l0 l3 l1).bind fun r4 => (if r4 = 0 then (f_X3_wantsAt_4 h n l0 l1 l2 (l3 + 1)) else (f_X3_wantsAt_4 h n l0 l1 (l2 ||| ((1 : Int32) <<< (l3 &&& 31))) (l3 + 1)))))
def f_X3_wantsAt (h : xH) (l0 : Nat) (l1 : Int32) : Option (Int32) := f_X3_wantsAt_4 h xFU l0 l1 (0 : Int32) (0 : Int32)
set_option maxRecDepth 20000 in
theorem w_X3_wantsAt_4 (h : xH) : ∀ (n : Nat) (l0 : Nat) (l1 : Int32) (l2 : Int32) (l3 : Int32) (r : Int32), f_X3_wantsAt_4 h n l0 l1 l2 l3 = some r → V 4 yX3_wantsAt cX3_wantsAt 4 (some .int) [] none 4 [(0, .ref l0), (1, .int l1), (2, .int l2), (3, .int l3)] [] h (oI h r) := by
  intro n
  induction n with
  | zero => intro l0 l1 l2 l3 r hf; cases hf
  | succ n ih =>
    intro l0 l1 l2 l3 r hf
    rw [f_X3_wantsAt_4] at hf
    refine V.iload_n dX3_wantsAt_4 rfl 3 rfl ?_
    refine V.aload_n dX3_wantsAt_5 rfl 0 rfl ?_
    obtain ⟨v1, e1, hf⟩ := bS hf
    refine V.xgI dX3_wantsAt_6 fl_RX3_27 e1 ?_
    refine V.icmp_ge (tgt := 33) dX3_wantsAt_9 (by decide) (fun c2 => ?_) (fun c2 => ?_)
    · rw [if_pos c2] at hf
      refine V.iload_n dX3_wantsAt_33 rfl 2 rfl ?_
      obtain rfl := Option.some.inj hf
      exact V.iret dX3_wantsAt_34
    · rw [if_neg c2] at hf
      refine V.aload_n dX3_wantsAt_12 rfl 0 rfl ?_
      refine V.iload_n dX3_wantsAt_13 rfl 3 rfl ?_
      refine V.iload_n dX3_wantsAt_14 rfl 1 rfl ?_
      obtain ⟨q3, e2, hf⟩ := bS hf
      obtain ⟨r4, e3, hf⟩ := bS hf
      refine V.callV (As := [.int l3, .int l1]) (st := []) dX3_wantsAt_15 cl_RX3_80 sw_yX3_wantedAt (by decide) rfl (Nat.le_of_ble_eq_true rfl) rfl (gO_some e2) rfl (w_X3_wantedAt _ _ _ _ _ e3) ?_
      refine V.if_eq (tgt := 27) dX3_wantsAt_18 (by decide) (fun c5 => ?_) (fun c5 => ?_)
      · rw [if_pos c5] at hf
        refine V.iinc (v := (l3 + 1)) (lv' := [(3, .int (l3 + 1)), (0, .ref l0), (1, .int l1), (2, .int l2)]) dX3_wantsAt_27 3 rfl rfl (Nat.le_of_ble_eq_true rfl) rfl ?_
        refine V.goto (tgt := 4) dX3_wantsAt_30 (by decide) ?_
        refine V.sub [1, 2, 3, 0] rfl ?_
        exact ih _ _ _ _ _ hf
      · rw [if_neg c5] at hf
        refine V.iload_n dX3_wantsAt_21 rfl 2 rfl ?_
        refine V.iconst (v := (1 : Int32)) dX3_wantsAt_22 (by decide) ?_
        refine V.iload_n dX3_wantsAt_23 rfl 3 rfl ?_
        refine V.ishl dX3_wantsAt_24 ?_
        refine V.ior dX3_wantsAt_25 ?_
        refine V.istore_n (lv' := [(2, .int (l2 ||| ((1 : Int32) <<< (l3 &&& 31)))), (0, .ref l0), (1, .int l1), (3, .int l3)]) dX3_wantsAt_26 rfl (by decide) rfl ?_
        refine V.iinc (v := (l3 + 1)) (lv' := [(3, .int (l3 + 1)), (2, .int (l2 ||| ((1 : Int32) <<< (l3 &&& 31)))), (0, .ref l0), (1, .int l1)]) dX3_wantsAt_27 3 rfl rfl (Nat.le_of_ble_eq_true rfl) rfl ?_
        refine V.goto (tgt := 4) dX3_wantsAt_30 (by decide) ?_
        refine V.sub [2, 3, 1, 0] rfl ?_
        exact ih _ _ _ _ _ hf

set_option maxRecDepth 20000 in
theorem w_X3_wantsAt (h : xH) (l0 : Nat) (l1 : Int32) (r : Int32) (hf : f_X3_wantsAt h l0 l1 = some r) : Ev 4 yX3_wantsAt cX3_wantsAt 4 (some .int) [] [.ref l0, .int l1] h (oI h r) := by
  refine Ev.of (by decide +kernel) (Nat.le_of_ble_eq_true rfl) ?_
  unfold f_X3_wantsAt at hf
  refine V.iconst (v := (0 : Int32)) dX3_wantsAt_0 (by decide) ?_
  refine V.istore_n (lv' := [(2, .int (0 : Int32)), (0, .ref l0), (1, .int l1)]) dX3_wantsAt_1 rfl (by decide) rfl ?_
  refine V.iconst (v := (0 : Int32)) dX3_wantsAt_2 (by decide) ?_
  refine V.istore_n (lv' := [(3, .int (0 : Int32)), (2, .int (0 : Int32)), (0, .ref l0), (1, .int l1)]) dX3_wantsAt_3 rfl (by decide) rfl ?_
  refine V.sub [2, 3, 1, 0] rfl ?_
  exact w_X3_wantsAt_4 h _ _ _ _ _ _ hf

def f_X3_litWithHole (h : xH) (l0 : Nat) (l1 : Int32) : Option (Nat × xH) := (gR h l0 3 14).bind fun v1 => (clI h v1).bind fun h2 => (gR h2 l0 3 10).bind fun v3 => (ldI h2 .int v3 (l1 * (5 : Int32))).bind fun v4 => (gR h2 l0 3 10).bind fun v5 => (ldI h2 .int v5 ((l1 * (5 : Int32)) + (1 : Int32))).bind fun v6 => (ldI h2 .int (h.1.length) v4).bind fun v7 => (stI h2 .int (h.1.length) v4 (v7 ||| ((1 : Int32) <<< (v6 &&& 31)))).bind fun h8 => (gR h8 l0 3 10).bind fun v9 => (ldI h8 .int v9 ((l1 * (5 : Int32)) + (4 : Int32))).bind fun v10 => (if v10 = (1 : Int32) then ((ldI h8 .int (h.1.length) v6).bind fun v12 => (stI h8 .int (h.1.length) v6 (v12 ||| ((1 : Int32) <<< (v4 &&& 31)))).bind fun h13 => some ((h.1.length, h13))) else (some ((h.1.length, h8))))
set_option maxRecDepth 20000 in
theorem w_X3_litWithHole (h : xH) (l0 : Nat) (l1 : Int32) (r : Nat × xH) (hf : f_X3_litWithHole h l0 l1 = some r) : Ev 4 yX3_litWithHole cX3_litWithHole 5 (some (.array .int)) [] [.ref l0, .int l1] h (oRh r) := by
  refine Ev.of (by decide +kernel) (Nat.le_of_ble_eq_true rfl) ?_
  unfold f_X3_litWithHole at hf
  refine V.aload_n dX3_litWithHole_0 rfl 0 rfl ?_
  obtain ⟨v1, e1, hf⟩ := bS hf
  refine V.xgR dX3_litWithHole_1 fl_RX3_55 e1 ?_
  obtain ⟨h2, e2, hf⟩ := bS hf
  refine V.xclI dX3_litWithHole_4 dX3_litWithHole_7 cln_RX3_71 cln_same cln_nat cln_inst cln_sel (by decide +kernel) cln_cl_RX3_72 (Nat.le_of_ble_eq_true rfl) e2 ?_
  refine V.astore_n (lv' := [(2, .ref h.1.length), (0, .ref l0), (1, .int l1)]) dX3_litWithHole_10 rfl (by decide) rfl ?_
  refine V.aload_n dX3_litWithHole_11 rfl 1 rfl ?_
  obtain ⟨v3, e3, hf⟩ := bS hf
  refine V.xgR dX3_litWithHole_12 fl_RX3_43 e3 ?_
  refine V.iload_n dX3_litWithHole_15 rfl 2 rfl ?_
  refine V.iconst (v := (5 : Int32)) dX3_litWithHole_16 (by decide) ?_
  refine V.imul dX3_litWithHole_17 ?_
  obtain ⟨v4, e4, hf⟩ := bS hf
  refine V.xldI dX3_litWithHole_18 e4 ?_
  refine V.istore_n (lv' := [(3, .int v4), (2, .ref h.1.length), (0, .ref l0), (1, .int l1)]) dX3_litWithHole_19 rfl (by decide) rfl ?_
  refine V.aload_n dX3_litWithHole_20 rfl 2 rfl ?_
  obtain ⟨v5, e5, hf⟩ := bS hf
  refine V.xgR dX3_litWithHole_21 fl_RX3_43 e5 ?_
  refine V.iload_n dX3_litWithHole_24 rfl 3 rfl ?_
  refine V.iconst (v := (5 : Int32)) dX3_litWithHole_25 (by decide) ?_
  refine V.imul dX3_litWithHole_26 ?_
  refine V.iconst (v := (1 : Int32)) dX3_litWithHole_27 (by decide) ?_
  refine V.iadd dX3_litWithHole_28 ?_
  obtain ⟨v6, e6, hf⟩ := bS hf
  refine V.xldI dX3_litWithHole_29 e6 ?_
  refine V.istore (lv' := [(4, .int v6), (3, .int v4), (2, .ref h.1.length), (0, .ref l0), (1, .int l1)]) dX3_litWithHole_30 (by decide) rfl ?_
  refine V.aload_n dX3_litWithHole_32 rfl 2 rfl ?_
  refine V.iload_n dX3_litWithHole_33 rfl 1 rfl ?_
  refine V.dup2 dX3_litWithHole_34 rfl rfl ?_
  obtain ⟨v7, e7, hf⟩ := bS hf
  refine V.xldI dX3_litWithHole_35 e7 ?_
  refine V.iconst (v := (1 : Int32)) dX3_litWithHole_36 (by decide) ?_
  refine V.iload dX3_litWithHole_37 0 rfl ?_
  refine V.ishl dX3_litWithHole_39 ?_
  refine V.ior dX3_litWithHole_40 ?_
  obtain ⟨h8, e8, hf⟩ := bS hf
  refine V.xstI dX3_litWithHole_41 e8 ?_
  refine V.aload_n dX3_litWithHole_42 rfl 3 rfl ?_
  obtain ⟨v9, e9, hf⟩ := bS hf
  refine V.xgR dX3_litWithHole_43 fl_RX3_43 e9 ?_
  refine V.iload_n dX3_litWithHole_46 rfl 4 rfl ?_
  refine V.iconst (v := (5 : Int32)) dX3_litWithHole_47 (by decide) ?_
  refine V.imul dX3_litWithHole_48 ?_
  refine V.iconst (v := (4 : Int32)) dX3_litWithHole_49 (by decide) ?_
  refine V.iadd dX3_litWithHole_50 ?_
  obtain ⟨v10, e10, hf⟩ := bS hf
  refine V.xldI dX3_litWithHole_51 e10 ?_
  refine V.iconst (v := (1 : Int32)) dX3_litWithHole_52 (by decide) ?_
  refine V.icmp_ne (tgt := 66) dX3_litWithHole_53 (by decide) (fun c11 => ?_) (fun c11 => ?_)
  · rw [if_neg c11] at hf
    refine V.aload_n dX3_litWithHole_66 rfl 2 rfl ?_
    obtain rfl := Option.some.inj hf
    exact V.aret dX3_litWithHole_67 (by first | exact Or.inl ⟨_, rfl⟩ | exact Or.inr ⟨_, rfl⟩)
  · rw [if_pos c11] at hf
    refine V.aload_n dX3_litWithHole_56 rfl 2 rfl ?_
    refine V.iload dX3_litWithHole_57 0 rfl ?_
    refine V.dup2 dX3_litWithHole_59 rfl rfl ?_
    obtain ⟨v12, e11, hf⟩ := bS hf
    refine V.xldI dX3_litWithHole_60 e11 ?_
    refine V.iconst (v := (1 : Int32)) dX3_litWithHole_61 (by decide) ?_
    refine V.iload_n dX3_litWithHole_62 rfl 1 rfl ?_
    refine V.ishl dX3_litWithHole_63 ?_
    refine V.ior dX3_litWithHole_64 ?_
    obtain ⟨h13, e12, hf⟩ := bS hf
    refine V.xstI dX3_litWithHole_65 e12 ?_
    refine V.aload_n dX3_litWithHole_66 rfl 2 rfl ?_
    obtain rfl := Option.some.inj hf
    exact V.aret dX3_litWithHole_67 (by first | exact Or.inl ⟨_, rfl⟩ | exact Or.inr ⟨_, rfl⟩)

def f_X3_join (h : xH) (l0 : Nat) (l1 : Int32) (l2 : Int32) : Option (xH) := (gR h l0 3 14).bind fun v1 => (ldI h .int v1 l1).bind fun v2 => (stI h .int v1 l1 (v2 ||| ((1 : Int32) <<< (l2 &&& 31)))).bind fun h3 => (gR h3 l0 3 13).bind fun v4 => (ldI h3 .int v4 l2).bind fun v5 => (stI h3 .int v4 l2 (v5 ||| ((1 : Int32) <<< (l1 &&& 31)))).bind fun h6 => some (h6)
set_option maxRecDepth 20000 in
theorem w_X3_join (h : xH) (l0 : Nat) (l1 : Int32) (l2 : Int32) (r : xH) (hf : f_X3_join h l0 l1 l2 = some r) : Ev 3 yX3_join cX3_join 3 none [] [.ref l0, .int l1, .int l2] h (oVh r) := by
  refine Ev.of (by decide +kernel) (Nat.le_of_ble_eq_true rfl) ?_
  unfold f_X3_join at hf
  refine V.aload_n dX3_join_0 rfl 0 rfl ?_
  obtain ⟨v1, e1, hf⟩ := bS hf
  refine V.xgR dX3_join_1 fl_RX3_55 e1 ?_
  refine V.iload_n dX3_join_4 rfl 1 rfl ?_
  refine V.dup2 dX3_join_5 rfl rfl ?_
  obtain ⟨v2, e2, hf⟩ := bS hf
  refine V.xldI dX3_join_6 e2 ?_
  refine V.iconst (v := (1 : Int32)) dX3_join_7 (by decide) ?_
  refine V.iload_n dX3_join_8 rfl 2 rfl ?_
  refine V.ishl dX3_join_9 ?_
  refine V.ior dX3_join_10 ?_
  obtain ⟨h3, e3, hf⟩ := bS hf
  refine V.xstI dX3_join_11 e3 ?_
  refine V.aload_n dX3_join_12 rfl 0 rfl ?_
  obtain ⟨v4, e4, hf⟩ := bS hf
  refine V.xgR dX3_join_13 fl_RX3_52 e4 ?_
  refine V.iload_n dX3_join_16 rfl 2 rfl ?_
  refine V.dup2 dX3_join_17 rfl rfl ?_
  obtain ⟨v5, e5, hf⟩ := bS hf
  refine V.xldI dX3_join_18 e5 ?_
  refine V.iconst (v := (1 : Int32)) dX3_join_19 (by decide) ?_
  refine V.iload_n dX3_join_20 rfl 1 rfl ?_
  refine V.ishl dX3_join_21 ?_
  refine V.ior dX3_join_22 ?_
  obtain ⟨h6, e6, hf⟩ := bS hf
  refine V.xstI dX3_join_23 e6 ?_
  obtain rfl := Option.some.inj hf
  exact V.vret dX3_join_24

def f_X3_findNext_2 : Nat → xH → Nat → Int32 → Option (xH)
  | 0, _, _, _ => none
  | n + 1, h, l0, l1 => (gI h l0 3 3).bind fun v1 => (if v1 ≤ l1 then (some (h)) else ((gR h l0 3 7).bind fun v3 => (ldI h .int v3 (l1 * (4 : Int32))).bind fun v4 => (gR h l0 3 7).bind fun v5 => (ldI h .int v5 ((l1 * (4 : Int32)) + (1 : Int32))).bind fun v6 => (gO h l0 3).bind fun q7 => (f_X3_join h l0 v4 v6).bind fun r8 => (gR r8 l0 3 7).bind fun v9 => (ldI r8 .int v9 ((l1 * (4 : Int32)) + (3 : Int32))).bind fun v10 => (if v10 = (1 : Int32) then ((gR r8 l0 3 7).bind fun v12 => (ldI r8 .int v12 ((l1 * (4 : Int32)) + (1 : Int32))).bind fun v13 => (gR r8 l0 3 7).bind fun v14 => (ldI r8 .int v14 (l1 * (4 : Int32))).bind fun v15 => (gO r8 l0 3).bind fun q16 => (f_X3_join r8 l0 v13 v15).bind fun r17 => f_X3_findNext_2 n r17 l0 (l1 + 1)) else (f_X3_findNext_2 n r8 l0 (l1 + 1)))))
def f_X3_findNext (h : xH) (l0 : Nat) : Option (xH) := f_X3_findNext_2 xFU h l0 (0 : Int32)
set_option maxRecDepth 20000 in
theorem w_X3_findNext_2 : ∀ (n : Nat) (h : xH) (l0 : Nat) (l1 : Int32) (r : xH), f_X3_findNext_2 n h l0 l1 = some r → V 4 yX3_findNext cX3_findNext 2 none [] none 2 [(0, .ref l0), (1, .int l1)] [] h (oVh r) := by
  intro n
  induction n with
  | zero => intro h l0 l1 r hf; cases hf
  | succ n ih =>
    intro h l0 l1 r hf
    rw [f_X3_findNext_2] at hf
    refine V.iload_n dX3_findNext_2 rfl 1 rfl ?_
    refine V.aload_n dX3_findNext_3 rfl 0 rfl ?_
    obtain ⟨v1, e1, hf⟩ := bS hf
    refine V.xgI dX3_findNext_4 fl_RX3_21 e1 ?_
    refine V.icmp_ge (tgt := 74) dX3_findNext_7 (by decide) (fun c2 => ?_) (fun c2 => ?_)
    · rw [if_pos c2] at hf
      obtain rfl := Option.some.inj hf
      exact V.vret dX3_findNext_74
    · rw [if_neg c2] at hf
      refine V.aload_n dX3_findNext_10 rfl 0 rfl ?_
      refine V.aload_n dX3_findNext_11 rfl 0 rfl ?_
      obtain ⟨v3, e2, hf⟩ := bS hf
      refine V.xgR dX3_findNext_12 fl_RX3_33 e2 ?_
      refine V.iload_n dX3_findNext_15 rfl 1 rfl ?_
      refine V.iconst (v := (4 : Int32)) dX3_findNext_16 (by decide) ?_
      refine V.imul dX3_findNext_17 ?_
      obtain ⟨v4, e3, hf⟩ := bS hf
      refine V.xldI dX3_findNext_18 e3 ?_
      refine V.aload_n dX3_findNext_19 rfl 0 rfl ?_
      obtain ⟨v5, e4, hf⟩ := bS hf
      refine V.xgR dX3_findNext_20 fl_RX3_33 e4 ?_
      refine V.iload_n dX3_findNext_23 rfl 1 rfl ?_
      refine V.iconst (v := (4 : Int32)) dX3_findNext_24 (by decide) ?_
      refine V.imul dX3_findNext_25 ?_
      refine V.iconst (v := (1 : Int32)) dX3_findNext_26 (by decide) ?_
      refine V.iadd dX3_findNext_27 ?_
      obtain ⟨v6, e5, hf⟩ := bS hf
      refine V.xldI dX3_findNext_28 e5 ?_
      obtain ⟨q7, e6, hf⟩ := bS hf
      obtain ⟨r8, e7, hf⟩ := bS hf
      refine V.callV (As := [.int v4, .int v6]) (st := []) dX3_findNext_29 cl_RX3_67 sw_yX3_join (by decide) rfl (Nat.le_of_ble_eq_true rfl) rfl (gO_some e6) rfl (w_X3_join _ _ _ _ _ e7) ?_
      refine V.aload_n dX3_findNext_32 rfl 0 rfl ?_
      obtain ⟨v9, e8, hf⟩ := bS hf
      refine V.xgR dX3_findNext_33 fl_RX3_33 e8 ?_
      refine V.iload_n dX3_findNext_36 rfl 1 rfl ?_
      refine V.iconst (v := (4 : Int32)) dX3_findNext_37 (by decide) ?_
      refine V.imul dX3_findNext_38 ?_
      refine V.iconst (v := (3 : Int32)) dX3_findNext_39 (by decide) ?_
      refine V.iadd dX3_findNext_40 ?_
      obtain ⟨v10, e9, hf⟩ := bS hf
      refine V.xldI dX3_findNext_41 e9 ?_
      refine V.iconst (v := (1 : Int32)) dX3_findNext_42 (by decide) ?_
      refine V.icmp_ne (tgt := 68) dX3_findNext_43 (by decide) (fun c11 => ?_) (fun c11 => ?_)
      · rw [if_neg c11] at hf
        refine V.iinc (v := (l1 + 1)) (lv' := [(1, .int (l1 + 1)), (0, .ref l0)]) dX3_findNext_68 1 rfl rfl (Nat.le_of_ble_eq_true rfl) rfl ?_
        refine V.goto (tgt := 2) dX3_findNext_71 (by decide) ?_
        refine V.sub [1, 0] rfl ?_
        exact ih _ _ _ _ hf
      · rw [if_pos c11] at hf
        refine V.aload_n dX3_findNext_46 rfl 0 rfl ?_
        refine V.aload_n dX3_findNext_47 rfl 0 rfl ?_
        obtain ⟨v12, e10, hf⟩ := bS hf
        refine V.xgR dX3_findNext_48 fl_RX3_33 e10 ?_
        refine V.iload_n dX3_findNext_51 rfl 1 rfl ?_
        refine V.iconst (v := (4 : Int32)) dX3_findNext_52 (by decide) ?_
        refine V.imul dX3_findNext_53 ?_
        refine V.iconst (v := (1 : Int32)) dX3_findNext_54 (by decide) ?_
        refine V.iadd dX3_findNext_55 ?_
        obtain ⟨v13, e11, hf⟩ := bS hf
        refine V.xldI dX3_findNext_56 e11 ?_
        refine V.aload_n dX3_findNext_57 rfl 0 rfl ?_
        obtain ⟨v14, e12, hf⟩ := bS hf
        refine V.xgR dX3_findNext_58 fl_RX3_33 e12 ?_
        refine V.iload_n dX3_findNext_61 rfl 1 rfl ?_
        refine V.iconst (v := (4 : Int32)) dX3_findNext_62 (by decide) ?_
        refine V.imul dX3_findNext_63 ?_
        obtain ⟨v15, e13, hf⟩ := bS hf
        refine V.xldI dX3_findNext_64 e13 ?_
        obtain ⟨q16, e14, hf⟩ := bS hf
        obtain ⟨r17, e15, hf⟩ := bS hf
        refine V.callV (As := [.int v13, .int v15]) (st := []) dX3_findNext_65 cl_RX3_67 sw_yX3_join (by decide) rfl (Nat.le_of_ble_eq_true rfl) rfl (gO_some e14) rfl (w_X3_join _ _ _ _ _ e15) ?_
        refine V.iinc (v := (l1 + 1)) (lv' := [(1, .int (l1 + 1)), (0, .ref l0)]) dX3_findNext_68 1 rfl rfl (Nat.le_of_ble_eq_true rfl) rfl ?_
        refine V.goto (tgt := 2) dX3_findNext_71 (by decide) ?_
        refine V.sub [1, 0] rfl ?_
        exact ih _ _ _ _ hf

set_option maxRecDepth 20000 in
theorem w_X3_findNext (h : xH) (l0 : Nat) (r : xH) (hf : f_X3_findNext h l0 = some r) : Ev 4 yX3_findNext cX3_findNext 2 none [] [.ref l0] h (oVh r) := by
  refine Ev.of (by decide +kernel) (Nat.le_of_ble_eq_true rfl) ?_
  unfold f_X3_findNext at hf
  refine V.iconst (v := (0 : Int32)) dX3_findNext_0 (by decide) ?_
  refine V.istore_n (lv' := [(1, .int (0 : Int32)), (0, .ref l0)]) dX3_findNext_1 rfl (by decide) rfl ?_
  refine V.sub [1, 0] rfl ?_
  exact w_X3_findNext_2 _ _ _ _ _ hf

def f_X3_findWalks_38 (k2 : xH → Nat → Int32 → Option (xH)) (k19 : xH → Nat → Int32 → Int32 → Int32 → Int32 → Option (xH)) : Nat → xH → Nat → Int32 → Int32 → Int32 → Int32 → Int32 → Int32 → Option (xH)
  | 0, _, _, _, _, _, _, _, _ => none
  | n + 1, h, l0, l1, l2, l3, l4, l5, l6 => (gI h l0 3 1).bind fun v1 => (if v1 ≤ l6 then (k19 h l0 l1 (l2 ||| (l5 &&& (l2 ^^^ (-1 : Int32)))) (l5 &&& (l2 ^^^ (-1 : Int32))) (l4 + 1)) else ((if ((l3 >>> (l6 &&& 31)) &&& (1 : Int32)) = 0 then (f_X3_findWalks_38 k2 k19 n h l0 l1 l2 l3 l4 l5 (l6 + 1)) else ((gR h l0 3 15).bind fun v4 => (stI h .int v4 ((l1 * (16 : Int32)) + l6) l4).bind fun h5 => (gR h5 l0 3 13).bind fun v6 => (ldI h5 .int v6 l6).bind fun v7 => (gR h5 l0 3 14).bind fun v8 => (ldI h5 .int v8 l6).bind fun v9 => f_X3_findWalks_38 k2 k19 n h5 l0 l1 l2 l3 l4 (l5 ||| (v7 ||| v9)) (l6 + 1)))))
def f_X3_findWalks_19 (k2 : xH → Nat → Int32 → Option (xH)) : Nat → xH → Nat → Int32 → Int32 → Int32 → Int32 → Option (xH)
  | 0, _, _, _, _, _, _ => none
  | n + 1, h, l0, l1, l2, l3, l4 => (gI h l0 3 1).bind fun v1 => (if v1 ≤ l4 then (k2 h l0 (l1 + 1)) else ((if l3 = 0 then (k2 h l0 (l1 + 1)) else (f_X3_findWalks_38 k2 (f_X3_findWalks_19 k2 n) xFU h l0 l1 l2 l3 l4 (0 : Int32) (0 : Int32)))))
def f_X3_findWalks_2 : Nat → xH → Nat → Int32 → Option (xH)
  | 0, _, _, _ => none
  | n + 1, h, l0, l1 => (gI h l0 3 1).bind fun v1 => (if v1 ≤ l1 then (some (h)) else (f_X3_findWalks_19 (f_X3_findWalks_2 n) xFU h l0 l1 ((1 : Int32) <<< (l1 &&& 31)) ((1 : Int32) <<< (l1 &&& 31)) (0 : Int32)))
def f_X3_findWalks (h : xH) (l0 : Nat) : Option (xH) := f_X3_findWalks_2 xFU h l0 (0 : Int32)
set_option maxRecDepth 20000 in
theorem w_X3_findWalks_38 {k2 : xH → Nat → Int32 → Option (xH)} (hk2 : ∀ (h : xH) (l0 : Nat) (l1 : Int32) (r : xH), k2 h l0 l1 = some r → V 3 yX3_findWalks cX3_findWalks 7 none [] none 2 [(0, .ref l0), (1, .int l1)] [] h (oVh r)) {k19 : xH → Nat → Int32 → Int32 → Int32 → Int32 → Option (xH)} (hk19 : ∀ (h : xH) (l0 : Nat) (l1 : Int32) (l2 : Int32) (l3 : Int32) (l4 : Int32) (r : xH), k19 h l0 l1 l2 l3 l4 = some r → V 3 yX3_findWalks cX3_findWalks 7 none [] none 19 [(0, .ref l0), (1, .int l1), (2, .int l2), (3, .int l3), (4, .int l4)] [] h (oVh r)) : ∀ (n : Nat) (h : xH) (l0 : Nat) (l1 : Int32) (l2 : Int32) (l3 : Int32) (l4 : Int32) (l5 : Int32) (l6 : Int32) (r : xH), f_X3_findWalks_38 k2 k19 n h l0 l1 l2 l3 l4 l5 l6 = some r → V 3 yX3_findWalks cX3_findWalks 7 none [] none 38 [(0, .ref l0), (1, .int l1), (2, .int l2), (3, .int l3), (4, .int l4), (5, .int l5), (6, .int l6)] [] h (oVh r) := by
  intro n
  induction n with
  | zero => intro h l0 l1 l2 l3 l4 l5 l6 r hf; cases hf
  | succ n ih =>
    intro h l0 l1 l2 l3 l4 l5 l6 r hf
    rw [f_X3_findWalks_38] at hf
    refine V.iload dX3_findWalks_38 6 rfl ?_
    refine V.aload_n dX3_findWalks_40 rfl 0 rfl ?_
    obtain ⟨v1, e1, hf⟩ := bS hf
    refine V.xgI dX3_findWalks_41 fl_RX3_15 e1 ?_
    refine V.icmp_ge (tgt := 96) dX3_findWalks_44 (by decide) (fun c2 => ?_) (fun c2 => ?_)
    · rw [if_pos c2] at hf
      refine V.iload dX3_findWalks_96 5 rfl ?_
      refine V.iload_n dX3_findWalks_98 rfl 2 rfl ?_
      refine V.iconst (v := (-1 : Int32)) dX3_findWalks_99 (by decide) ?_
      refine V.ixor dX3_findWalks_100 ?_
      refine V.iand dX3_findWalks_101 ?_
      refine V.istore_n (lv' := [(3, .int (l5 &&& (l2 ^^^ (-1 : Int32)))), (0, .ref l0), (1, .int l1), (2, .int l2), (4, .int l4), (5, .int l5), (6, .int l6)]) dX3_findWalks_102 rfl (by decide) rfl ?_
      refine V.iload_n dX3_findWalks_103 rfl 3 rfl ?_
      refine V.iload_n dX3_findWalks_104 rfl 0 rfl ?_
      refine V.ior dX3_findWalks_105 ?_
      refine V.istore_n (lv' := [(2, .int (l2 ||| (l5 &&& (l2 ^^^ (-1 : Int32))))), (3, .int (l5 &&& (l2 ^^^ (-1 : Int32)))), (0, .ref l0), (1, .int l1), (4, .int l4), (5, .int l5), (6, .int l6)]) dX3_findWalks_106 rfl (by decide) rfl ?_
      refine V.iinc (v := (l4 + 1)) (lv' := [(4, .int (l4 + 1)), (2, .int (l2 ||| (l5 &&& (l2 ^^^ (-1 : Int32))))), (3, .int (l5 &&& (l2 ^^^ (-1 : Int32)))), (0, .ref l0), (1, .int l1), (5, .int l5), (6, .int l6)]) dX3_findWalks_107 4 rfl rfl (Nat.le_of_ble_eq_true rfl) rfl ?_
      refine V.goto (tgt := 19) dX3_findWalks_110 (by decide) ?_
      refine V.sub [3, 4, 1, 2, 0] rfl ?_
      exact hk19 _ _ _ _ _ _ _ hf
    · rw [if_neg c2] at hf
      refine V.iload_n dX3_findWalks_47 rfl 3 rfl ?_
      refine V.iload dX3_findWalks_48 6 rfl ?_
      refine V.ishr dX3_findWalks_50 ?_
      refine V.iconst (v := (1 : Int32)) dX3_findWalks_51 (by decide) ?_
      refine V.iand dX3_findWalks_52 ?_
      refine V.if_eq (tgt := 90) dX3_findWalks_53 (by decide) (fun c3 => ?_) (fun c3 => ?_)
      · rw [if_pos c3] at hf
        refine V.iinc (v := (l6 + 1)) (lv' := [(6, .int (l6 + 1)), (0, .ref l0), (1, .int l1), (2, .int l2), (3, .int l3), (4, .int l4), (5, .int l5)]) dX3_findWalks_90 6 rfl rfl (Nat.le_of_ble_eq_true rfl) rfl ?_
        refine V.goto (tgt := 38) dX3_findWalks_93 (by decide) ?_
        refine V.sub [1, 2, 3, 4, 5, 6, 0] rfl ?_
        exact ih _ _ _ _ _ _ _ _ _ hf
      · rw [if_neg c3] at hf
        refine V.aload_n dX3_findWalks_56 rfl 0 rfl ?_
        obtain ⟨v4, e2, hf⟩ := bS hf
        refine V.xgR dX3_findWalks_57 fl_RX3_58 e2 ?_
        refine V.iload_n dX3_findWalks_60 rfl 1 rfl ?_
        refine V.bipush (v := (16 : Int32)) dX3_findWalks_61 (by decide) ?_
        refine V.imul dX3_findWalks_63 ?_
        refine V.iload dX3_findWalks_64 6 rfl ?_
        refine V.iadd dX3_findWalks_66 ?_
        refine V.iload dX3_findWalks_67 4 rfl ?_
        obtain ⟨h5, e3, hf⟩ := bS hf
        refine V.xstI dX3_findWalks_69 e3 ?_
        refine V.iload dX3_findWalks_70 5 rfl ?_
        refine V.aload_n dX3_findWalks_72 rfl 0 rfl ?_
        obtain ⟨v6, e4, hf⟩ := bS hf
        refine V.xgR dX3_findWalks_73 fl_RX3_52 e4 ?_
        refine V.iload dX3_findWalks_76 6 rfl ?_
        obtain ⟨v7, e5, hf⟩ := bS hf
        refine V.xldI dX3_findWalks_78 e5 ?_
        refine V.aload_n dX3_findWalks_79 rfl 0 rfl ?_
        obtain ⟨v8, e6, hf⟩ := bS hf
        refine V.xgR dX3_findWalks_80 fl_RX3_55 e6 ?_
        refine V.iload dX3_findWalks_83 6 rfl ?_
        obtain ⟨v9, e7, hf⟩ := bS hf
        refine V.xldI dX3_findWalks_85 e7 ?_
        refine V.ior dX3_findWalks_86 ?_
        refine V.ior dX3_findWalks_87 ?_
        refine V.istore (lv' := [(5, .int (l5 ||| (v7 ||| v9))), (0, .ref l0), (1, .int l1), (2, .int l2), (3, .int l3), (4, .int l4), (6, .int l6)]) dX3_findWalks_88 (by decide) rfl ?_
        refine V.iinc (v := (l6 + 1)) (lv' := [(6, .int (l6 + 1)), (5, .int (l5 ||| (v7 ||| v9))), (0, .ref l0), (1, .int l1), (2, .int l2), (3, .int l3), (4, .int l4)]) dX3_findWalks_90 6 rfl rfl (Nat.le_of_ble_eq_true rfl) rfl ?_
        refine V.goto (tgt := 38) dX3_findWalks_93 (by decide) ?_
        refine V.sub [2, 3, 4, 5, 6, 1, 0] rfl ?_
        exact ih _ _ _ _ _ _ _ _ _ hf

set_option maxRecDepth 20000 in
theorem w_X3_findWalks_19 {k2 : xH → Nat → Int32 → Option (xH)} (hk2 : ∀ (h : xH) (l0 : Nat) (l1 : Int32) (r : xH), k2 h l0 l1 = some r → V 3 yX3_findWalks cX3_findWalks 7 none [] none 2 [(0, .ref l0), (1, .int l1)] [] h (oVh r)) : ∀ (n : Nat) (h : xH) (l0 : Nat) (l1 : Int32) (l2 : Int32) (l3 : Int32) (l4 : Int32) (r : xH), f_X3_findWalks_19 k2 n h l0 l1 l2 l3 l4 = some r → V 3 yX3_findWalks cX3_findWalks 7 none [] none 19 [(0, .ref l0), (1, .int l1), (2, .int l2), (3, .int l3), (4, .int l4)] [] h (oVh r) := by
  intro n
  induction n with
  | zero => intro h l0 l1 l2 l3 l4 r hf; cases hf
  | succ n ih =>
    intro h l0 l1 l2 l3 l4 r hf
    rw [f_X3_findWalks_19] at hf
    refine V.iload dX3_findWalks_19 4 rfl ?_
    refine V.aload_n dX3_findWalks_21 rfl 0 rfl ?_
    obtain ⟨v1, e8, hf⟩ := bS hf
    refine V.xgI dX3_findWalks_22 fl_RX3_15 e8 ?_
    refine V.icmp_ge (tgt := 113) dX3_findWalks_25 (by decide) (fun c2 => ?_) (fun c2 => ?_)
    · rw [if_pos c2] at hf
      refine V.iinc (v := (l1 + 1)) (lv' := [(1, .int (l1 + 1)), (0, .ref l0), (2, .int l2), (3, .int l3), (4, .int l4)]) dX3_findWalks_113 1 rfl rfl (Nat.le_of_ble_eq_true rfl) rfl ?_
      refine V.goto (tgt := 2) dX3_findWalks_116 (by decide) ?_
      refine V.sub [1, 0] rfl ?_
      exact hk2 _ _ _ _ hf
    · rw [if_neg c2] at hf
      refine V.iload_n dX3_findWalks_28 rfl 3 rfl ?_
      refine V.if_eq (tgt := 113) dX3_findWalks_29 (by decide) (fun c3 => ?_) (fun c3 => ?_)
      · rw [if_pos c3] at hf
        refine V.iinc (v := (l1 + 1)) (lv' := [(1, .int (l1 + 1)), (0, .ref l0), (2, .int l2), (3, .int l3), (4, .int l4)]) dX3_findWalks_113 1 rfl rfl (Nat.le_of_ble_eq_true rfl) rfl ?_
        refine V.goto (tgt := 2) dX3_findWalks_116 (by decide) ?_
        refine V.sub [1, 0] rfl ?_
        exact hk2 _ _ _ _ hf
      · rw [if_neg c3] at hf
        refine V.iconst (v := (0 : Int32)) dX3_findWalks_32 (by decide) ?_
        refine V.istore (lv' := [(5, .int (0 : Int32)), (0, .ref l0), (1, .int l1), (2, .int l2), (3, .int l3), (4, .int l4)]) dX3_findWalks_33 (by decide) rfl ?_
        refine V.iconst (v := (0 : Int32)) dX3_findWalks_35 (by decide) ?_
        refine V.istore (lv' := [(6, .int (0 : Int32)), (5, .int (0 : Int32)), (0, .ref l0), (1, .int l1), (2, .int l2), (3, .int l3), (4, .int l4)]) dX3_findWalks_36 (by decide) rfl ?_
        refine V.sub [2, 3, 4, 5, 6, 1, 0] rfl ?_
        exact w_X3_findWalks_38 hk2 ih _ _ _ _ _ _ _ _ _ _ hf

set_option maxRecDepth 20000 in
theorem w_X3_findWalks_2 : ∀ (n : Nat) (h : xH) (l0 : Nat) (l1 : Int32) (r : xH), f_X3_findWalks_2 n h l0 l1 = some r → V 3 yX3_findWalks cX3_findWalks 7 none [] none 2 [(0, .ref l0), (1, .int l1)] [] h (oVh r) := by
  intro n
  induction n with
  | zero => intro h l0 l1 r hf; cases hf
  | succ n ih =>
    intro h l0 l1 r hf
    rw [f_X3_findWalks_2] at hf
    refine V.iload_n dX3_findWalks_2 rfl 1 rfl ?_
    refine V.aload_n dX3_findWalks_3 rfl 0 rfl ?_
    obtain ⟨v1, e9, hf⟩ := bS hf
    refine V.xgI dX3_findWalks_4 fl_RX3_15 e9 ?_
    refine V.icmp_ge (tgt := 119) dX3_findWalks_7 (by decide) (fun c2 => ?_) (fun c2 => ?_)
    · rw [if_pos c2] at hf
      obtain rfl := Option.some.inj hf
      exact V.vret dX3_findWalks_119
    · rw [if_neg c2] at hf
      refine V.iconst (v := (1 : Int32)) dX3_findWalks_10 (by decide) ?_
      refine V.iload_n dX3_findWalks_11 rfl 1 rfl ?_
      refine V.ishl dX3_findWalks_12 ?_
      refine V.istore_n (lv' := [(2, .int ((1 : Int32) <<< (l1 &&& 31))), (0, .ref l0), (1, .int l1)]) dX3_findWalks_13 rfl (by decide) rfl ?_
      refine V.iload_n dX3_findWalks_14 rfl 0 rfl ?_
      refine V.istore_n (lv' := [(3, .int ((1 : Int32) <<< (l1 &&& 31))), (2, .int ((1 : Int32) <<< (l1 &&& 31))), (0, .ref l0), (1, .int l1)]) dX3_findWalks_15 rfl (by decide) rfl ?_
      refine V.iconst (v := (0 : Int32)) dX3_findWalks_16 (by decide) ?_
      refine V.istore (lv' := [(4, .int (0 : Int32)), (3, .int ((1 : Int32) <<< (l1 &&& 31))), (2, .int ((1 : Int32) <<< (l1 &&& 31))), (0, .ref l0), (1, .int l1)]) dX3_findWalks_17 (by decide) rfl ?_
      refine V.sub [3, 4, 2, 1, 0] rfl ?_
      exact w_X3_findWalks_19 ih _ _ _ _ _ _ _ _ hf

set_option maxRecDepth 20000 in
theorem w_X3_findWalks (h : xH) (l0 : Nat) (r : xH) (hf : f_X3_findWalks h l0 = some r) : Ev 3 yX3_findWalks cX3_findWalks 7 none [] [.ref l0] h (oVh r) := by
  refine Ev.of (by decide +kernel) (Nat.le_of_ble_eq_true rfl) ?_
  unfold f_X3_findWalks at hf
  refine V.iconst (v := (0 : Int32)) dX3_findWalks_0 (by decide) ?_
  refine V.istore_n (lv' := [(1, .int (0 : Int32)), (0, .ref l0)]) dX3_findWalks_1 rfl (by decide) rfl ?_
  refine V.sub [1, 0] rfl ?_
  exact w_X3_findWalks_2 _ _ _ _ _ hf

def f_X3_litBy_4 (h : xH) : Nat → Nat → Int32 → Int32 → Int32 → Option (Int32)
  | 0, _, _, _, _ => none
  | n + 1, l0, l1, l2, l3 => (gI h l0 3 1).bind fun v1 => (if v1 ≤ l3 then (some (l2)) else ((if ((l1 >>> (l3 &&& 31)) &&& (1 : Int32)) = 0 then (f_X3_litBy_4 h n l0 l1 l2 (l3 + 1)) else ((gR h l0 3 14).bind fun v4 => (ldI h .int v4 l3).bind fun v5 => f_X3_litBy_4 h n l0 l1 (l2 ||| v5) (l3 + 1)))))
def f_X3_litBy (h : xH) (l0 : Nat) (l1 : Int32) : Option (Int32) := f_X3_litBy_4 h xFU l0 l1 (0 : Int32) (0 : Int32)
set_option maxRecDepth 20000 in
theorem w_X3_litBy_4 (h : xH) : ∀ (n : Nat) (l0 : Nat) (l1 : Int32) (l2 : Int32) (l3 : Int32) (r : Int32), f_X3_litBy_4 h n l0 l1 l2 l3 = some r → V 3 yX3_litBy cX3_litBy 4 (some .int) [] none 4 [(0, .ref l0), (1, .int l1), (2, .int l2), (3, .int l3)] [] h (oI h r) := by
  intro n
  induction n with
  | zero => intro l0 l1 l2 l3 r hf; cases hf
  | succ n ih =>
    intro l0 l1 l2 l3 r hf
    rw [f_X3_litBy_4] at hf
    refine V.iload_n dX3_litBy_4 rfl 3 rfl ?_
    refine V.aload_n dX3_litBy_5 rfl 0 rfl ?_
    obtain ⟨v1, e1, hf⟩ := bS hf
    refine V.xgI dX3_litBy_6 fl_RX3_15 e1 ?_
    refine V.icmp_ge (tgt := 35) dX3_litBy_9 (by decide) (fun c2 => ?_) (fun c2 => ?_)
    · rw [if_pos c2] at hf
      refine V.iload_n dX3_litBy_35 rfl 2 rfl ?_
      obtain rfl := Option.some.inj hf
      exact V.iret dX3_litBy_36
    · rw [if_neg c2] at hf
      refine V.iload_n dX3_litBy_12 rfl 1 rfl ?_
      refine V.iload_n dX3_litBy_13 rfl 3 rfl ?_
      refine V.ishr dX3_litBy_14 ?_
      refine V.iconst (v := (1 : Int32)) dX3_litBy_15 (by decide) ?_
      refine V.iand dX3_litBy_16 ?_
      refine V.if_eq (tgt := 29) dX3_litBy_17 (by decide) (fun c3 => ?_) (fun c3 => ?_)
      · rw [if_pos c3] at hf
        refine V.iinc (v := (l3 + 1)) (lv' := [(3, .int (l3 + 1)), (0, .ref l0), (1, .int l1), (2, .int l2)]) dX3_litBy_29 3 rfl rfl (Nat.le_of_ble_eq_true rfl) rfl ?_
        refine V.goto (tgt := 4) dX3_litBy_32 (by decide) ?_
        refine V.sub [1, 2, 3, 0] rfl ?_
        exact ih _ _ _ _ _ hf
      · rw [if_neg c3] at hf
        refine V.iload_n dX3_litBy_20 rfl 2 rfl ?_
        refine V.aload_n dX3_litBy_21 rfl 0 rfl ?_
        obtain ⟨v4, e2, hf⟩ := bS hf
        refine V.xgR dX3_litBy_22 fl_RX3_55 e2 ?_
        refine V.iload_n dX3_litBy_25 rfl 3 rfl ?_
        obtain ⟨v5, e3, hf⟩ := bS hf
        refine V.xldI dX3_litBy_26 e3 ?_
        refine V.ior dX3_litBy_27 ?_
        refine V.istore_n (lv' := [(2, .int (l2 ||| v5)), (0, .ref l0), (1, .int l1), (3, .int l3)]) dX3_litBy_28 rfl (by decide) rfl ?_
        refine V.iinc (v := (l3 + 1)) (lv' := [(3, .int (l3 + 1)), (2, .int (l2 ||| v5)), (0, .ref l0), (1, .int l1)]) dX3_litBy_29 3 rfl rfl (Nat.le_of_ble_eq_true rfl) rfl ?_
        refine V.goto (tgt := 4) dX3_litBy_32 (by decide) ?_
        refine V.sub [2, 3, 1, 0] rfl ?_
        exact ih _ _ _ _ _ hf

set_option maxRecDepth 20000 in
theorem w_X3_litBy (h : xH) (l0 : Nat) (l1 : Int32) (r : Int32) (hf : f_X3_litBy h l0 l1 = some r) : Ev 3 yX3_litBy cX3_litBy 4 (some .int) [] [.ref l0, .int l1] h (oI h r) := by
  refine Ev.of (by decide +kernel) (Nat.le_of_ble_eq_true rfl) ?_
  unfold f_X3_litBy at hf
  refine V.iconst (v := (0 : Int32)) dX3_litBy_0 (by decide) ?_
  refine V.istore_n (lv' := [(2, .int (0 : Int32)), (0, .ref l0), (1, .int l1)]) dX3_litBy_1 rfl (by decide) rfl ?_
  refine V.iconst (v := (0 : Int32)) dX3_litBy_2 (by decide) ?_
  refine V.istore_n (lv' := [(3, .int (0 : Int32)), (2, .int (0 : Int32)), (0, .ref l0), (1, .int l1)]) dX3_litBy_3 rfl (by decide) rfl ?_
  refine V.sub [2, 3, 1, 0] rfl ?_
  exact w_X3_litBy_4 h _ _ _ _ _ _ hf

def f_X3_holeCosts (h : xH) (l0 : Nat) (l1 : Int32) : Option (Int32) := (if l1 < 0 then (some ((0 : Int32))) else ((gI h l0 3 6).bind fun v2 => (if v2 ≤ l1 then (some ((0 : Int32))) else ((gR h l0 3 10).bind fun v4 => (ldI h .int v4 ((l1 * (5 : Int32)) + (3 : Int32))).bind fun v5 => some (v5)))))
set_option maxRecDepth 20000 in
theorem w_X3_holeCosts (h : xH) (l0 : Nat) (l1 : Int32) (r : Int32) (hf : f_X3_holeCosts h l0 l1 = some r) : Ev 3 yX3_holeCosts cX3_holeCosts 2 (some .int) [] [.ref l0, .int l1] h (oI h r) := by
  refine Ev.of (by decide +kernel) (Nat.le_of_ble_eq_true rfl) ?_
  unfold f_X3_holeCosts at hf
  refine V.iload_n dX3_holeCosts_0 rfl 1 rfl ?_
  refine V.if_lt (tgt := 25) dX3_holeCosts_1 (by decide) (fun c1 => ?_) (fun c1 => ?_)
  · rw [if_pos c1] at hf
    refine V.iconst (v := (0 : Int32)) dX3_holeCosts_25 (by decide) ?_
    obtain rfl := Option.some.inj hf
    exact V.iret dX3_holeCosts_26
  · rw [if_neg c1] at hf
    refine V.iload_n dX3_holeCosts_4 rfl 1 rfl ?_
    refine V.aload_n dX3_holeCosts_5 rfl 0 rfl ?_
    obtain ⟨v2, e1, hf⟩ := bS hf
    refine V.xgI dX3_holeCosts_6 fl_RX3_30 e1 ?_
    refine V.icmp_ge (tgt := 25) dX3_holeCosts_9 (by decide) (fun c3 => ?_) (fun c3 => ?_)
    · rw [if_pos c3] at hf
      refine V.iconst (v := (0 : Int32)) dX3_holeCosts_25 (by decide) ?_
      obtain rfl := Option.some.inj hf
      exact V.iret dX3_holeCosts_26
    · rw [if_neg c3] at hf
      refine V.aload_n dX3_holeCosts_12 rfl 0 rfl ?_
      obtain ⟨v4, e2, hf⟩ := bS hf
      refine V.xgR dX3_holeCosts_13 fl_RX3_43 e2 ?_
      refine V.iload_n dX3_holeCosts_16 rfl 1 rfl ?_
      refine V.iconst (v := (5 : Int32)) dX3_holeCosts_17 (by decide) ?_
      refine V.imul dX3_holeCosts_18 ?_
      refine V.iconst (v := (3 : Int32)) dX3_holeCosts_19 (by decide) ?_
      refine V.iadd dX3_holeCosts_20 ?_
      obtain ⟨v5, e3, hf⟩ := bS hf
      refine V.xldI dX3_holeCosts_21 e3 ?_
      refine V.goto (tgt := 26) dX3_holeCosts_22 (by decide) ?_
      obtain rfl := Option.some.inj hf
      exact V.iret dX3_holeCosts_26

