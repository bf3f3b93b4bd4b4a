def f_X12_lightOf_58 (h : xH) (k5 : Nat → Int32 → Int32 → Int32 → Option (Int32)) (l0 : Nat) (l1 : Int32) (l2 : Int32) (l3 : Int32) : Option (Int32) := (gR h l0 12 0).bind fun v1 => (ldI h .int v1 (l3 + (3 : Int32))).bind fun v2 => (if v2 = (1 : Int32) then ((gR h l0 12 0).bind fun v4 => (ldI h .int v4 l3).bind fun v5 => (if v5 = l1 then ((gR h l0 12 17).bind fun v7 => (gR h l0 12 0).bind fun v8 => (ldI h .int v8 (l3 + (1 : Int32))).bind fun v9 => (ldI h .int v7 v9).bind fun v10 => (gR h l0 12 0).bind fun v11 => (ldI h .int v11 (l3 + (2 : Int32))).bind fun v12 => (dvI (v10 * v12) (100 : Int32)).bind fun v13 => k5 l0 l1 (l2 + v13) (l3 + 4)) else (k5 l0 l1 l2 (l3 + 4)))) else (k5 l0 l1 l2 (l3 + 4)))
def f_X12_lightOf_5 (h : xH) : Nat → Nat → Int32 → Int32 → Int32 → Option (Int32)
  | 0, _, _, _, _ => none
  | n + 1, l0, l1, l2, l3 => (gR h l0 12 0).bind fun v1 => (ldI h .int v1 (2 : Int32)).bind fun v2 => (if ((8 : Int32) + ((4 : Int32) * v2)) ≤ l3 then (some (l2)) else ((gR h l0 12 0).bind fun v4 => (ldI h .int v4 (l3 + (1 : Int32))).bind fun v5 => (if v5 = l1 then ((gR h l0 12 17).bind fun v7 => (gR h l0 12 0).bind fun v8 => (ldI h .int v8 l3).bind fun v9 => (ldI h .int v7 v9).bind fun v10 => (gR h l0 12 0).bind fun v11 => (ldI h .int v11 (l3 + (2 : Int32))).bind fun v12 => (dvI (v10 * v12) (100 : Int32)).bind fun v13 => f_X12_lightOf_58 h (f_X12_lightOf_5 h n) l0 l1 (l2 + v13) l3) else (f_X12_lightOf_58 h (f_X12_lightOf_5 h n) l0 l1 l2 l3))))
def f_X12_lightOf (h : xH) (l0 : Nat) (l1 : Int32) : Option (Int32) := f_X12_lightOf_5 h xFU l0 l1 (0 : Int32) (8 : Int32)
set_option maxRecDepth 20000 in
theorem w_X12_lightOf_58 (h : xH) {k5 : Nat → Int32 → Int32 → Int32 → Option (Int32)} (hk5 : ∀ (l0 : Nat) (l1 : Int32) (l2 : Int32) (l3 : Int32) (r : Int32), k5 l0 l1 l2 l3 = some r → V 3 yX12_lightOf cX12_lightOf 4 (some .int) [] none 5 [(0, .ref l0), (1, .int l1), (2, .int l2), (3, .int l3)] [] h (oI h r)) (l0 : Nat) (l1 : Int32) (l2 : Int32) (l3 : Int32) (r : Int32) (hf : f_X12_lightOf_58 h k5 l0 l1 l2 l3 = some r) : V 3 yX12_lightOf cX12_lightOf 4 (some .int) [] none 58 [(0, .ref l0), (1, .int l1), (2, .int l2), (3, .int l3)] [] h (oI h r) := by
  unfold f_X12_lightOf_58 at hf
  refine V.aload_n dX12_lightOf_58 rfl 0 rfl ?_
  obtain ⟨v1, e1, hf⟩ := bS hf
  refine V.xgR dX12_lightOf_59 fl_RX12_9 e1 ?_
  refine V.iload_n dX12_lightOf_62 rfl 3 rfl ?_
  refine V.iconst (v := (3 : Int32)) dX12_lightOf_63 (by decide) ?_
  refine V.iadd dX12_lightOf_64 ?_
  obtain ⟨v2, e2, hf⟩ := bS hf
  refine V.xldI dX12_lightOf_65 e2 ?_
  refine V.iconst (v := (1 : Int32)) dX12_lightOf_66 (by decide) ?_
  refine V.icmp_ne (tgt := 108) dX12_lightOf_67 (by decide) (fun c3 => ?_) (fun c3 => ?_)
  · rw [if_neg c3] at hf
    refine V.iinc (v := (l3 + 4)) (lv' := [(3, .int (l3 + 4)), (0, .ref l0), (1, .int l1), (2, .int l2)]) dX12_lightOf_108 3 rfl rfl (Nat.le_of_ble_eq_true rfl) rfl ?_
    refine V.goto (tgt := 5) dX12_lightOf_111 (by decide) ?_
    refine V.sub [1, 2, 3, 0] rfl ?_
    exact hk5 _ _ _ _ _ hf
  · rw [if_pos c3] at hf
    refine V.aload_n dX12_lightOf_70 rfl 0 rfl ?_
    obtain ⟨v4, e3, hf⟩ := bS hf
    refine V.xgR dX12_lightOf_71 fl_RX12_9 e3 ?_
    refine V.iload_n dX12_lightOf_74 rfl 3 rfl ?_
    obtain ⟨v5, e4, hf⟩ := bS hf
    refine V.xldI dX12_lightOf_75 e4 ?_
    refine V.iload_n dX12_lightOf_76 rfl 1 rfl ?_
    refine V.icmp_ne (tgt := 108) dX12_lightOf_77 (by decide) (fun c6 => ?_) (fun c6 => ?_)
    · rw [if_neg c6] at hf
      refine V.iinc (v := (l3 + 4)) (lv' := [(3, .int (l3 + 4)), (0, .ref l0), (1, .int l1), (2, .int l2)]) dX12_lightOf_108 3 rfl rfl (Nat.le_of_ble_eq_true rfl) rfl ?_
      refine V.goto (tgt := 5) dX12_lightOf_111 (by decide) ?_
      refine V.sub [1, 2, 3, 0] rfl ?_
      exact hk5 _ _ _ _ _ hf
    · rw [if_pos c6] at hf
      refine V.iload_n dX12_lightOf_80 rfl 2 rfl ?_
      refine V.aload_n dX12_lightOf_81 rfl 0 rfl ?_
      obtain ⟨v7, e5, hf⟩ := bS hf
      refine V.xgR dX12_lightOf_82 fl_RX12_33 e5 ?_
      refine V.aload_n dX12_lightOf_85 rfl 0 rfl ?_
      obtain ⟨v8, e6, hf⟩ := bS hf
      refine V.xgR dX12_lightOf_86 fl_RX12_9 e6 ?_
      refine V.iload_n dX12_lightOf_89 rfl 3 rfl ?_
      refine V.iconst (v := (1 : Int32)) dX12_lightOf_90 (by decide) ?_
      refine V.iadd dX12_lightOf_91 ?_
      obtain ⟨v9, e7, hf⟩ := bS hf
      refine V.xldI dX12_lightOf_92 e7 ?_
      obtain ⟨v10, e8, hf⟩ := bS hf
      refine V.xldI dX12_lightOf_93 e8 ?_
      refine V.aload_n dX12_lightOf_94 rfl 0 rfl ?_
      obtain ⟨v11, e9, hf⟩ := bS hf
      refine V.xgR dX12_lightOf_95 fl_RX12_9 e9 ?_
      refine V.iload_n dX12_lightOf_98 rfl 3 rfl ?_
      refine V.iconst (v := (2 : Int32)) dX12_lightOf_99 (by decide) ?_
      refine V.iadd dX12_lightOf_100 ?_
      obtain ⟨v12, e10, hf⟩ := bS hf
      refine V.xldI dX12_lightOf_101 e10 ?_
      refine V.imul dX12_lightOf_102 ?_
      refine V.bipush (v := (100 : Int32)) dX12_lightOf_103 (by decide) ?_
      obtain ⟨v13, e11, hf⟩ := bS hf
      refine V.xdvI dX12_lightOf_105 e11 ?_
      refine V.iadd dX12_lightOf_106 ?_
      refine V.istore_n (lv' := [(2, .int (l2 + v13)), (0, .ref l0), (1, .int l1), (3, .int l3)]) dX12_lightOf_107 rfl (by decide) rfl ?_
      refine V.iinc (v := (l3 + 4)) (lv' := [(3, .int (l3 + 4)), (2, .int (l2 + v13)), (0, .ref l0), (1, .int l1)]) dX12_lightOf_108 3 rfl rfl (Nat.le_of_ble_eq_true rfl) rfl ?_
      refine V.goto (tgt := 5) dX12_lightOf_111 (by decide) ?_
      refine V.sub [2, 3, 1, 0] rfl ?_
      exact hk5 _ _ _ _ _ hf

set_option maxRecDepth 20000 in
theorem w_X12_lightOf_5 (h : xH) : ∀ (n : Nat) (l0 : Nat) (l1 : Int32) (l2 : Int32) (l3 : Int32) (r : Int32), f_X12_lightOf_5 h n l0 l1 l2 l3 = some r → V 3 yX12_lightOf cX12_lightOf 4 (some .int) [] none 5 [(0, .ref l0), (1, .int l1), (2, .int l2), (3, .int l3)] [] h (oI h r) := by
  intro n
  induction n with
  | zero => intro l0 l1 l2 l3 r hf; cases hf
  | succ n ih =>
    intro l0 l1 l2 l3 r hf
    rw [f_X12_lightOf_5] at hf
    refine V.iload_n dX12_lightOf_5 rfl 3 rfl ?_
    refine V.bipush (v := (8 : Int32)) dX12_lightOf_6 (by decide) ?_
    refine V.iconst (v := (4 : Int32)) dX12_lightOf_8 (by decide) ?_
    refine V.aload_n dX12_lightOf_9 rfl 0 rfl ?_
    obtain ⟨v1, e12, hf⟩ := bS hf
    refine V.xgR dX12_lightOf_10 fl_RX12_9 e12 ?_
    refine V.iconst (v := (2 : Int32)) dX12_lightOf_13 (by decide) ?_
    obtain ⟨v2, e13, hf⟩ := bS hf
    refine V.xldI dX12_lightOf_14 e13 ?_
    refine V.imul dX12_lightOf_15 ?_
    refine V.iadd dX12_lightOf_16 ?_
    refine V.icmp_ge (tgt := 114) dX12_lightOf_17 (by decide) (fun c3 => ?_) (fun c3 => ?_)
    · rw [if_pos c3] at hf
      refine V.iload_n dX12_lightOf_114 rfl 2 rfl ?_
      obtain rfl := Option.some.inj hf
      exact V.iret dX12_lightOf_115
    · rw [if_neg c3] at hf
      refine V.aload_n dX12_lightOf_20 rfl 0 rfl ?_
      obtain ⟨v4, e14, hf⟩ := bS hf
      refine V.xgR dX12_lightOf_21 fl_RX12_9 e14 ?_
      refine V.iload_n dX12_lightOf_24 rfl 3 rfl ?_
      refine V.iconst (v := (1 : Int32)) dX12_lightOf_25 (by decide) ?_
      refine V.iadd dX12_lightOf_26 ?_
      obtain ⟨v5, e15, hf⟩ := bS hf
      refine V.xldI dX12_lightOf_27 e15 ?_
      refine V.iload_n dX12_lightOf_28 rfl 1 rfl ?_
      refine V.icmp_ne (tgt := 58) dX12_lightOf_29 (by decide) (fun c6 => ?_) (fun c6 => ?_)
      · rw [if_neg c6] at hf
        exact w_X12_lightOf_58 _ ih _ _ _ _ _ hf
      · rw [if_pos c6] at hf
        refine V.iload_n dX12_lightOf_32 rfl 2 rfl ?_
        refine V.aload_n dX12_lightOf_33 rfl 0 rfl ?_
        obtain ⟨v7, e16, hf⟩ := bS hf
        refine V.xgR dX12_lightOf_34 fl_RX12_33 e16 ?_
        refine V.aload_n dX12_lightOf_37 rfl 0 rfl ?_
        obtain ⟨v8, e17, hf⟩ := bS hf
        refine V.xgR dX12_lightOf_38 fl_RX12_9 e17 ?_
        refine V.iload_n dX12_lightOf_41 rfl 3 rfl ?_
        obtain ⟨v9, e18, hf⟩ := bS hf
        refine V.xldI dX12_lightOf_42 e18 ?_
        obtain ⟨v10, e19, hf⟩ := bS hf
        refine V.xldI dX12_lightOf_43 e19 ?_
        refine V.aload_n dX12_lightOf_44 rfl 0 rfl ?_
        obtain ⟨v11, e20, hf⟩ := bS hf
        refine V.xgR dX12_lightOf_45 fl_RX12_9 e20 ?_
        refine V.iload_n dX12_lightOf_48 rfl 3 rfl ?_
        refine V.iconst (v := (2 : Int32)) dX12_lightOf_49 (by decide) ?_
        refine V.iadd dX12_lightOf_50 ?_
        obtain ⟨v12, e21, hf⟩ := bS hf
        refine V.xldI dX12_lightOf_51 e21 ?_
        refine V.imul dX12_lightOf_52 ?_
        refine V.bipush (v := (100 : Int32)) dX12_lightOf_53 (by decide) ?_
        obtain ⟨v13, e22, hf⟩ := bS hf
        refine V.xdvI dX12_lightOf_55 e22 ?_
        refine V.iadd dX12_lightOf_56 ?_
        refine V.istore_n (lv' := [(2, .int (l2 + v13)), (0, .ref l0), (1, .int l1), (3, .int l3)]) dX12_lightOf_57 rfl (by decide) rfl ?_
        refine V.sub [1, 2, 0, 3] rfl ?_
        exact w_X12_lightOf_58 _ ih _ _ _ _ _ hf

set_option maxRecDepth 20000 in
theorem w_X12_lightOf (h : xH) (l0 : Nat) (l1 : Int32) (r : Int32) (hf : f_X12_lightOf h l0 l1 = some r) : Ev 3 yX12_lightOf cX12_lightOf 4 (some .int) [] [.ref l0, .int l1] h (oI h r) := by
  refine Ev.of (by decide +kernel) (Nat.le_of_ble_eq_true rfl) ?_
  unfold f_X12_lightOf at hf
  refine V.iconst (v := (0 : Int32)) dX12_lightOf_0 (by decide) ?_
  refine V.istore_n (lv' := [(2, .int (0 : Int32)), (0, .ref l0), (1, .int l1)]) dX12_lightOf_1 rfl (by decide) rfl ?_
  refine V.bipush (v := (8 : Int32)) dX12_lightOf_2 (by decide) ?_
  refine V.istore_n (lv' := [(3, .int (8 : Int32)), (2, .int (0 : Int32)), (0, .ref l0), (1, .int l1)]) dX12_lightOf_4 rfl (by decide) rfl ?_
  refine V.sub [2, 3, 1, 0] rfl ?_
  exact w_X12_lightOf_5 h _ _ _ _ _ _ hf

def f_X12_darkBy_4 (h : xH) : Nat → Nat → Int32 → Int32 → Int32 → Option (Int32)
  | 0, _, _, _, _ => none
  | n + 1, l0, l1, l2, l3 => (gR h l0 12 0).bind fun v1 => (ldI h .int v1 (4 : Int32)).bind fun v2 => (if v2 ≤ l3 then (some (l2)) else ((gO h l0 12).bind fun q4 => (f_X12_isWanted h l0 l3 l1).bind fun r5 => (if r5 = 0 then (f_X12_darkBy_4 h n l0 l1 l2 (l3 + 1)) else ((gR h l0 12 0).bind fun v7 => (ldI h .int v7 ((256 : Int32) + ((5 : Int32) * l3))).bind fun v8 => (gO h l0 12).bind fun q9 => (f_X12_lightOf h l0 v8).bind fun r10 => (gR h l0 12 0).bind fun v11 => (ldI h .int v11 (((256 : Int32) + ((5 : Int32) * l3)) + (1 : Int32))).bind fun v12 => (gR h l0 12 0).bind fun v13 => (ldI h .int v13 (((256 : Int32) + ((5 : Int32) * l3)) + (2 : Int32))).bind fun v14 => (f_X12_within h (Int32.toInt64 r10) (Int32.toInt64 v12) (Int32.toInt64 v14)).bind fun r15 => (if r15 = 0 then (f_X12_darkBy_4 h n l0 l1 (l2 ||| ((1 : Int32) <<< (v8 &&& 31))) (l3 + 1)) else (f_X12_darkBy_4 h n l0 l1 l2 (l3 + 1)))))))
def f_X12_darkBy (h : xH) (l0 : Nat) (l1 : Int32) : Option (Int32) := f_X12_darkBy_4 h xFU l0 l1 (0 : Int32) (0 : Int32)
set_option maxRecDepth 20000 in
theorem w_X12_darkBy_4 (h : xH) : ∀ (n : Nat) (l0 : Nat) (l1 : Int32) (l2 : Int32) (l3 : Int32) (r : Int32), f_X12_darkBy_4 h n l0 l1 l2 l3 = some r → V 5 yX12_darkBy cX12_darkBy 5 (some .int) [] none 4 [(0, .ref l0), (1, .int l1), (2, .int l2), (3, .int l3)] [] h (oI h r) := by
  intro n
  induction n with
  | zero => intro l0 l1 l2 l3 r hf; cases hf
  | succ n ih =>
    intro l0 l1 l2 l3 r hf
    rw [f_X12_darkBy_4] at hf
    refine V.iload_n dX12_darkBy_4 rfl 3 rfl ?_
    refine V.aload_n dX12_darkBy_5 rfl 0 rfl ?_
    obtain ⟨v1, e1, hf⟩ := bS hf
    refine V.xgR dX12_darkBy_6 fl_RX12_9 e1 ?_
    refine V.iconst (v := (4 : Int32)) dX12_darkBy_9 (by decide) ?_
    obtain ⟨v2, e2, hf⟩ := bS hf
    refine V.xldI dX12_darkBy_10 e2 ?_
    refine V.icmp_ge (tgt := 96) dX12_darkBy_11 (by decide) (fun c3 => ?_) (fun c3 => ?_)
    · rw [if_pos c3] at hf
      refine V.iload_n dX12_darkBy_96 rfl 2 rfl ?_
      obtain rfl := Option.some.inj hf
      exact V.iret dX12_darkBy_97
    · rw [if_neg c3] at hf
      refine V.aload_n dX12_darkBy_14 rfl 0 rfl ?_
      refine V.iload_n dX12_darkBy_15 rfl 3 rfl ?_
      refine V.iload_n dX12_darkBy_16 rfl 1 rfl ?_
      obtain ⟨q4, e3, hf⟩ := bS hf
      obtain ⟨r5, e4, hf⟩ := bS hf
      refine V.callV (As := [.int l3, .int l1]) (st := []) dX12_darkBy_17 cl_RX12_250 sw_yX12_isWanted (by decide) rfl (Nat.le_of_ble_eq_true rfl) rfl (gO_some e3) rfl (w_X12_isWanted _ _ _ _ _ e4) ?_
      refine V.if_ne (tgt := 26) dX12_darkBy_20 (by decide) (fun c6 => ?_) (fun c6 => ?_)
      · rw [if_neg c6] at hf
        refine V.aload_n dX12_darkBy_26 rfl 0 rfl ?_
        obtain ⟨v7, e5, hf⟩ := bS hf
        refine V.xgR dX12_darkBy_27 fl_RX12_9 e5 ?_
        refine V.sipush (v := (256 : Int32)) dX12_darkBy_30 (by decide) ?_
        refine V.iconst (v := (5 : Int32)) dX12_darkBy_33 (by decide) ?_
        refine V.iload_n dX12_darkBy_34 rfl 3 rfl ?_
        refine V.imul dX12_darkBy_35 ?_
        refine V.iadd dX12_darkBy_36 ?_
        obtain ⟨v8, e6, hf⟩ := bS hf
        refine V.xldI dX12_darkBy_37 e6 ?_
        refine V.istore (lv' := [(4, .int v8), (0, .ref l0), (1, .int l1), (2, .int l2), (3, .int l3)]) dX12_darkBy_38 (by decide) rfl ?_
        refine V.aload_n dX12_darkBy_40 rfl 1 rfl ?_
        refine V.iload dX12_darkBy_41 0 rfl ?_
        obtain ⟨q9, e7, hf⟩ := bS hf
        obtain ⟨r10, e8, hf⟩ := bS hf
        refine V.callV (As := [.int v8]) (st := []) dX12_darkBy_43 cl_RX12_253 sw_yX12_lightOf (by decide) rfl (Nat.le_of_ble_eq_true rfl) rfl (gO_some e7) rfl (w_X12_lightOf _ _ _ _ e8) ?_
        refine V.i2l dX12_darkBy_46 ?_
        refine V.aload_n dX12_darkBy_47 rfl 1 rfl ?_
        obtain ⟨v11, e9, hf⟩ := bS hf
        refine V.xgR dX12_darkBy_48 fl_RX12_9 e9 ?_
        refine V.sipush (v := (256 : Int32)) dX12_darkBy_51 (by decide) ?_
        refine V.iconst (v := (5 : Int32)) dX12_darkBy_54 (by decide) ?_
        refine V.iload_n dX12_darkBy_55 rfl 4 rfl ?_
        refine V.imul dX12_darkBy_56 ?_
        refine V.iadd dX12_darkBy_57 ?_
        refine V.iconst (v := (1 : Int32)) dX12_darkBy_58 (by decide) ?_
        refine V.iadd dX12_darkBy_59 ?_
        obtain ⟨v12, e10, hf⟩ := bS hf
        refine V.xldI dX12_darkBy_60 e10 ?_
        refine V.i2l dX12_darkBy_61 ?_
        refine V.aload_n dX12_darkBy_62 rfl 1 rfl ?_
        obtain ⟨v13, e11, hf⟩ := bS hf
        refine V.xgR dX12_darkBy_63 fl_RX12_9 e11 ?_
        refine V.sipush (v := (256 : Int32)) dX12_darkBy_66 (by decide) ?_
        refine V.iconst (v := (5 : Int32)) dX12_darkBy_69 (by decide) ?_
        refine V.iload_n dX12_darkBy_70 rfl 4 rfl ?_
        refine V.imul dX12_darkBy_71 ?_
        refine V.iadd dX12_darkBy_72 ?_
        refine V.iconst (v := (2 : Int32)) dX12_darkBy_73 (by decide) ?_
        refine V.iadd dX12_darkBy_74 ?_
        obtain ⟨v14, e12, hf⟩ := bS hf
        refine V.xldI dX12_darkBy_75 e12 ?_
        refine V.i2l dX12_darkBy_76 ?_
        obtain ⟨r15, e13, hf⟩ := bS hf
        refine V.callS (As := [.long (Int32.toInt64 r10), .long (Int32.toInt64 v12), .long (Int32.toInt64 v14)]) (st := []) dX12_darkBy_77 cl_RX12_134 sw_yX12_within (by decide) rfl (Nat.le_of_ble_eq_true rfl) rfl (w_X12_within _ _ _ _ _ e13) ?_
        refine V.if_ne (tgt := 90) dX12_darkBy_80 (by decide) (fun c16 => ?_) (fun c16 => ?_)
        · rw [if_neg c16] at hf
          refine V.iinc (v := (l3 + 1)) (lv' := [(3, .int (l3 + 1)), (4, .int v8), (0, .ref l0), (1, .int l1), (2, .int l2)]) dX12_darkBy_90 4 rfl rfl (Nat.le_of_ble_eq_true rfl) rfl ?_
          refine V.goto (tgt := 4) dX12_darkBy_93 (by decide) ?_
          refine V.sub [2, 3, 4, 0] rfl ?_
          exact ih _ _ _ _ _ hf
        · rw [if_pos c16] at hf
          refine V.iload_n dX12_darkBy_83 rfl 3 rfl ?_
          refine V.iconst (v := (1 : Int32)) dX12_darkBy_84 (by decide) ?_
          refine V.iload dX12_darkBy_85 0 rfl ?_
          refine V.ishl dX12_darkBy_87 ?_
          refine V.ior dX12_darkBy_88 ?_
          refine V.istore_n (lv' := [(2, .int (l2 ||| ((1 : Int32) <<< (v8 &&& 31)))), (4, .int v8), (0, .ref l0), (1, .int l1), (3, .int l3)]) dX12_darkBy_89 rfl (by decide) rfl ?_
          refine V.iinc (v := (l3 + 1)) (lv' := [(3, .int (l3 + 1)), (2, .int (l2 ||| ((1 : Int32) <<< (v8 &&& 31)))), (4, .int v8), (0, .ref l0), (1, .int l1)]) dX12_darkBy_90 4 rfl rfl (Nat.le_of_ble_eq_true rfl) rfl ?_
          refine V.goto (tgt := 4) dX12_darkBy_93 (by decide) ?_
          refine V.sub [3, 4, 1, 0] rfl ?_
          exact ih _ _ _ _ _ hf
      · rw [if_pos c6] at hf
        refine V.goto (tgt := 90) dX12_darkBy_23 (by decide) ?_
        refine V.iinc (v := (l3 + 1)) (lv' := [(3, .int (l3 + 1)), (0, .ref l0), (1, .int l1), (2, .int l2)]) dX12_darkBy_90 3 rfl rfl (Nat.le_of_ble_eq_true rfl) rfl ?_
        refine V.goto (tgt := 4) dX12_darkBy_93 (by decide) ?_
        refine V.sub [1, 2, 3, 0] rfl ?_
        exact ih _ _ _ _ _ hf

set_option maxRecDepth 20000 in
theorem w_X12_darkBy (h : xH) (l0 : Nat) (l1 : Int32) (r : Int32) (hf : f_X12_darkBy h l0 l1 = some r) : Ev 5 yX12_darkBy cX12_darkBy 5 (some .int) [] [.ref l0, .int l1] h (oI h r) := by
  refine Ev.of (by decide +kernel) (Nat.le_of_ble_eq_true rfl) ?_
  unfold f_X12_darkBy at hf
  refine V.iconst (v := (0 : Int32)) dX12_darkBy_0 (by decide) ?_
  refine V.istore_n (lv' := [(2, .int (0 : Int32)), (0, .ref l0), (1, .int l1)]) dX12_darkBy_1 rfl (by decide) rfl ?_
  refine V.iconst (v := (0 : Int32)) dX12_darkBy_2 (by decide) ?_
  refine V.istore_n (lv' := [(3, .int (0 : Int32)), (2, .int (0 : Int32)), (0, .ref l0), (1, .int l1)]) dX12_darkBy_3 rfl (by decide) rfl ?_
  refine V.sub [2, 3, 1, 0] rfl ?_
  exact w_X12_darkBy_4 h _ _ _ _ _ _ hf

def f_X12_brightOf_78 (k5 : xH → Nat → Int32 → Int32 → Int32 → Int32 → Option (Int32 × xH)) (k37 : xH → Nat → Int32 → Int32 → Int32 → Int32 → Int32 → Option (Int32 × xH)) (h : xH) (l0 : Nat) (l1 : Int32) (l2 : Int32) (l3 : Int32) (l4 : Int32) (l5 : Int32) (s0 : Int32) (s1 : Int32) (s2 : Nat) : Option (Int32 × xH) := (stI h .int s2 s1 s0).bind fun h1 => k37 h1 l0 l1 l2 l3 l4 (l5 + 1)
def f_X12_brightOf_37 (k5 : xH → Nat → Int32 → Int32 → Int32 → Int32 → Option (Int32 × xH)) : Nat → xH → Nat → Int32 → Int32 → Int32 → Int32 → Int32 → Option (Int32 × xH)
  | 0, _, _, _, _, _, _, _ => none
  | n + 1, h, l0, l1, l2, l3, l4, l5 => (gO h l0 12).bind fun q1 => (f_X12_rooms h l0).bind fun r2 => (if r2 ≤ l5 then ((gO h l0 12).bind fun q4 => (f_X12_darkBy h l0 l2).bind fun r5 => (if r5 = 0 then (k5 h l0 l1 l2 l4 (l4 + 1)) else (k5 h l0 l1 l2 l3 (l4 + 1)))) else ((gR h l0 12 17).bind fun v7 => (f_X12_has h l4 l5).bind fun r8 => (if r8 = 0 then (f_X12_brightOf_78 k5 (f_X12_brightOf_37 k5 n) h l0 l1 l2 l3 l4 l5 (0 : Int32) l5 v7) else ((gR h l0 12 0).bind fun v10 => (ldI h .int v10 ((248 : Int32) + ((2 : Int32) * l1))).bind fun v11 => f_X12_brightOf_78 k5 (f_X12_brightOf_37 k5 n) h l0 l1 l2 l3 l4 l5 v11 l5 v7))))
def f_X12_brightOf_34 (k5 : xH → Nat → Int32 → Int32 → Int32 → Int32 → Option (Int32 × xH)) (h : xH) (l0 : Nat) (l1 : Int32) (l2 : Int32) (l3 : Int32) (l4 : Int32) : Option (Int32 × xH) := f_X12_brightOf_37 k5 xFU h l0 l1 l2 l3 l4 (0 : Int32)
def f_X12_brightOf_5 : Nat → xH → Nat → Int32 → Int32 → Int32 → Int32 → Option (Int32 × xH)
  | 0, _, _, _, _, _, _ => none
  | n + 1, h, l0, l1, l2, l3, l4 => (gO h l0 12).bind fun q1 => (f_X12_all h l0).bind fun r2 => (if r2 < l4 then (some ((l3, h))) else ((if l3 = (-1 : Int32) then (f_X12_brightOf_34 (f_X12_brightOf_5 n) h l0 l1 l2 l3 l4) else ((f_X12_ones h l4).bind fun r5 => (f_X12_ones h l3).bind fun r6 => (if r5 < r6 then (f_X12_brightOf_34 (f_X12_brightOf_5 n) h l0 l1 l2 l3 l4) else (f_X12_brightOf_5 n h l0 l1 l2 l3 (l4 + 1)))))))
def f_X12_brightOf (h : xH) (l0 : Nat) (l1 : Int32) (l2 : Int32) : Option (Int32 × xH) := f_X12_brightOf_5 xFU h l0 l1 l2 (-1 : Int32) (0 : Int32)
set_option maxRecDepth 20000 in
theorem w_X12_brightOf_78 (h : xH) {k5 : xH → Nat → Int32 → Int32 → Int32 → Int32 → Option (Int32 × xH)} (hk5 : ∀ (h : xH) (l0 : Nat) (l1 : Int32) (l2 : Int32) (l3 : Int32) (l4 : Int32) (r : Int32 × xH), k5 h l0 l1 l2 l3 l4 = some r → V 6 yX12_brightOf cX12_brightOf 6 (some .int) [] none 5 [(0, .ref l0), (1, .int l1), (2, .int l2), (3, .int l3), (4, .int l4)] [] h (oIh r)) {k37 : xH → Nat → Int32 → Int32 → Int32 → Int32 → Int32 → Option (Int32 × xH)} (hk37 : ∀ (h : xH) (l0 : Nat) (l1 : Int32) (l2 : Int32) (l3 : Int32) (l4 : Int32) (l5 : Int32) (r : Int32 × xH), k37 h l0 l1 l2 l3 l4 l5 = some r → V 6 yX12_brightOf cX12_brightOf 6 (some .int) [] none 37 [(0, .ref l0), (1, .int l1), (2, .int l2), (3, .int l3), (4, .int l4), (5, .int l5)] [] h (oIh r)) (l0 : Nat) (l1 : Int32) (l2 : Int32) (l3 : Int32) (l4 : Int32) (l5 : Int32) (s0 : Int32) (s1 : Int32) (s2 : Nat) (r : Int32 × xH) (hf : f_X12_brightOf_78 k5 k37 h l0 l1 l2 l3 l4 l5 s0 s1 s2 = some r) : V 6 yX12_brightOf cX12_brightOf 6 (some .int) [] none 78 [(0, .ref l0), (1, .int l1), (2, .int l2), (3, .int l3), (4, .int l4), (5, .int l5)] [.int s0, .int s1, .ref s2] h (oIh r) := by
  unfold f_X12_brightOf_78 at hf
  obtain ⟨h1, e1, hf⟩ := bS hf
  refine V.xstI dX12_brightOf_78 e1 ?_
  refine V.iinc (v := (l5 + 1)) (lv' := [(5, .int (l5 + 1)), (0, .ref l0), (1, .int l1), (2, .int l2), (3, .int l3), (4, .int l4)]) dX12_brightOf_79 5 rfl rfl (Nat.le_of_ble_eq_true rfl) rfl ?_
  refine V.goto (tgt := 37) dX12_brightOf_82 (by decide) ?_
  refine V.sub [1, 2, 3, 4, 5, 0] rfl ?_
  exact hk37 _ _ _ _ _ _ _ _ hf

set_option maxRecDepth 20000 in
theorem w_X12_brightOf_37 {k5 : xH → Nat → Int32 → Int32 → Int32 → Int32 → Option (Int32 × xH)} (hk5 : ∀ (h : xH) (l0 : Nat) (l1 : Int32) (l2 : Int32) (l3 : Int32) (l4 : Int32) (r : Int32 × xH), k5 h l0 l1 l2 l3 l4 = some r → V 6 yX12_brightOf cX12_brightOf 6 (some .int) [] none 5 [(0, .ref l0), (1, .int l1), (2, .int l2), (3, .int l3), (4, .int l4)] [] h (oIh r)) : ∀ (n : Nat) (h : xH) (l0 : Nat) (l1 : Int32) (l2 : Int32) (l3 : Int32) (l4 : Int32) (l5 : Int32) (r : Int32 × xH), f_X12_brightOf_37 k5 n h l0 l1 l2 l3 l4 l5 = some r → V 6 yX12_brightOf cX12_brightOf 6 (some .int) [] none 37 [(0, .ref l0), (1, .int l1), (2, .int l2), (3, .int l3), (4, .int l4), (5, .int l5)] [] h (oIh r) := by
  intro n
  induction n with
  | zero => intro h l0 l1 l2 l3 l4 l5 r hf; cases hf
  | succ n ih =>
    intro h l0 l1 l2 l3 l4 l5 r hf
    rw [f_X12_brightOf_37] at hf
    refine V.iload dX12_brightOf_37 5 rfl ?_
    refine V.aload_n dX12_brightOf_39 rfl 0 rfl ?_
    obtain ⟨q1, e2, hf⟩ := bS hf
    obtain ⟨r2, e3, hf⟩ := bS hf
    refine V.callV (As := []) (st := [.int l5]) dX12_brightOf_40 cl_RX12_228 sw_yX12_rooms (by decide) rfl (Nat.le_of_ble_eq_true rfl) rfl (gO_some e2) rfl (w_X12_rooms _ _ _ e3) ?_
    refine V.icmp_ge (tgt := 85) dX12_brightOf_43 (by decide) (fun c3 => ?_) (fun c3 => ?_)
    · rw [if_pos c3] at hf
      refine V.aload_n dX12_brightOf_85 rfl 0 rfl ?_
      refine V.iload_n dX12_brightOf_86 rfl 2 rfl ?_
      obtain ⟨q4, e4, hf⟩ := bS hf
      obtain ⟨r5, e5, hf⟩ := bS hf
      refine V.callV (As := [.int l2]) (st := []) dX12_brightOf_87 cl_RX12_259 sw_yX12_darkBy (by decide) rfl (Nat.le_of_ble_eq_true rfl) rfl (gO_some e4) rfl (w_X12_darkBy _ _ _ _ e5) ?_
      refine V.if_ne (tgt := 96) dX12_brightOf_90 (by decide) (fun c6 => ?_) (fun c6 => ?_)
      · rw [if_neg c6] at hf
        refine V.iinc (v := (l4 + 1)) (lv' := [(4, .int (l4 + 1)), (0, .ref l0), (1, .int l1), (2, .int l2), (3, .int l3), (5, .int l5)]) dX12_brightOf_96 4 rfl rfl (Nat.le_of_ble_eq_true rfl) rfl ?_
        refine V.goto (tgt := 5) dX12_brightOf_99 (by decide) ?_
        refine V.sub [1, 2, 3, 4, 0] rfl ?_
        exact hk5 _ _ _ _ _ _ _ hf
      · rw [if_pos c6] at hf
        refine V.iload dX12_brightOf_93 4 rfl ?_
        refine V.istore_n (lv' := [(3, .int l4), (0, .ref l0), (1, .int l1), (2, .int l2), (4, .int l4), (5, .int l5)]) dX12_brightOf_95 rfl (by decide) rfl ?_
        refine V.iinc (v := (l4 + 1)) (lv' := [(4, .int (l4 + 1)), (3, .int l4), (0, .ref l0), (1, .int l1), (2, .int l2), (5, .int l5)]) dX12_brightOf_96 4 rfl rfl (Nat.le_of_ble_eq_true rfl) rfl ?_
        refine V.goto (tgt := 5) dX12_brightOf_99 (by decide) ?_
        refine V.sub [2, 3, 4, 1, 0] rfl ?_
        exact hk5 _ _ _ _ _ _ _ hf
    · rw [if_neg c3] at hf
      refine V.aload_n dX12_brightOf_46 rfl 0 rfl ?_
      obtain ⟨v7, e6, hf⟩ := bS hf
      refine V.xgR dX12_brightOf_47 fl_RX12_33 e6 ?_
      refine V.iload dX12_brightOf_50 5 rfl ?_
      refine V.iload dX12_brightOf_52 4 rfl ?_
      refine V.iload dX12_brightOf_54 5 rfl ?_
      obtain ⟨r8, e7, hf⟩ := bS hf
      refine V.callS (As := [.int l4, .int l5]) (st := [.int l5, .ref v7]) dX12_brightOf_56 cl_RX12_246 sw_yX12_has (by decide) rfl (Nat.le_of_ble_eq_true rfl) rfl (w_X12_has _ _ _ _ e7) ?_
      refine V.if_eq (tgt := 77) dX12_brightOf_59 (by decide) (fun c9 => ?_) (fun c9 => ?_)
      · rw [if_pos c9] at hf
        refine V.iconst (v := (0 : Int32)) dX12_brightOf_77 (by decide) ?_
        exact w_X12_brightOf_78 _ hk5 ih _ _ _ _ _ _ _ _ _ _ hf
      · rw [if_neg c9] at hf
        refine V.aload_n dX12_brightOf_62 rfl 0 rfl ?_
        obtain ⟨v10, e8, hf⟩ := bS hf
        refine V.xgR dX12_brightOf_63 fl_RX12_9 e8 ?_
        refine V.sipush (v := (248 : Int32)) dX12_brightOf_66 (by decide) ?_
        refine V.iconst (v := (2 : Int32)) dX12_brightOf_69 (by decide) ?_
        refine V.iload_n dX12_brightOf_70 rfl 1 rfl ?_
        refine V.imul dX12_brightOf_71 ?_
        refine V.iadd dX12_brightOf_72 ?_
        obtain ⟨v11, e9, hf⟩ := bS hf
        refine V.xldI dX12_brightOf_73 e9 ?_
        refine V.goto (tgt := 78) dX12_brightOf_74 (by decide) ?_
        exact w_X12_brightOf_78 _ hk5 ih _ _ _ _ _ _ _ _ _ _ hf

set_option maxRecDepth 20000 in
theorem w_X12_brightOf_34 (h : xH) {k5 : xH → Nat → Int32 → Int32 → Int32 → Int32 → Option (Int32 × xH)} (hk5 : ∀ (h : xH) (l0 : Nat) (l1 : Int32) (l2 : Int32) (l3 : Int32) (l4 : Int32) (r : Int32 × xH), k5 h l0 l1 l2 l3 l4 = some r → V 6 yX12_brightOf cX12_brightOf 6 (some .int) [] none 5 [(0, .ref l0), (1, .int l1), (2, .int l2), (3, .int l3), (4, .int l4)] [] h (oIh r)) (l0 : Nat) (l1 : Int32) (l2 : Int32) (l3 : Int32) (l4 : Int32) (r : Int32 × xH) (hf : f_X12_brightOf_34 k5 h l0 l1 l2 l3 l4 = some r) : V 6 yX12_brightOf cX12_brightOf 6 (some .int) [] none 34 [(0, .ref l0), (1, .int l1), (2, .int l2), (3, .int l3), (4, .int l4)] [] h (oIh r) := by
  unfold f_X12_brightOf_34 at hf
  refine V.iconst (v := (0 : Int32)) dX12_brightOf_34 (by decide) ?_
  refine V.istore (lv' := [(5, .int (0 : Int32)), (0, .ref l0), (1, .int l1), (2, .int l2), (3, .int l3), (4, .int l4)]) dX12_brightOf_35 (by decide) rfl ?_
  refine V.sub [1, 2, 3, 4, 5, 0] rfl ?_
  exact w_X12_brightOf_37 hk5 _ _ _ _ _ _ _ _ _ hf

set_option maxRecDepth 20000 in
theorem w_X12_brightOf_5 : ∀ (n : Nat) (h : xH) (l0 : Nat) (l1 : Int32) (l2 : Int32) (l3 : Int32) (l4 : Int32) (r : Int32 × xH), f_X12_brightOf_5 n h l0 l1 l2 l3 l4 = some r → V 6 yX12_brightOf cX12_brightOf 6 (some .int) [] none 5 [(0, .ref l0), (1, .int l1), (2, .int l2), (3, .int l3), (4, .int l4)] [] h (oIh r) := by
  intro n
  induction n with
  | zero => intro h l0 l1 l2 l3 l4 r hf; cases hf
  | succ n ih =>
    intro h l0 l1 l2 l3 l4 r hf
    rw [f_X12_brightOf_5] at hf
    refine V.iload dX12_brightOf_5 4 rfl ?_
    refine V.aload_n dX12_brightOf_7 rfl 0 rfl ?_
    obtain ⟨q1, e10, hf⟩ := bS hf
    obtain ⟨r2, e11, hf⟩ := bS hf
    refine V.callV (As := []) (st := [.int l4]) dX12_brightOf_8 cl_RX12_230 sw_yX12_all (by decide) rfl (Nat.le_of_ble_eq_true rfl) rfl (gO_some e10) rfl (w_X12_all _ _ _ e11) ?_
    refine V.icmp_gt (tgt := 102) dX12_brightOf_11 (by decide) (fun c3 => ?_) (fun c3 => ?_)
    · rw [if_pos c3] at hf
      refine V.iload_n dX12_brightOf_102 rfl 3 rfl ?_
      obtain rfl := Option.some.inj hf
      exact V.iret dX12_brightOf_103
    · rw [if_neg c3] at hf
      refine V.iload_n dX12_brightOf_14 rfl 3 rfl ?_
      refine V.iconst (v := (-1 : Int32)) dX12_brightOf_15 (by decide) ?_
      refine V.icmp_eq (tgt := 34) dX12_brightOf_16 (by decide) (fun c4 => ?_) (fun c4 => ?_)
      · rw [if_pos c4] at hf
        exact w_X12_brightOf_34 _ ih _ _ _ _ _ _ hf
      · rw [if_neg c4] at hf
        refine V.iload dX12_brightOf_19 4 rfl ?_
        obtain ⟨r5, e12, hf⟩ := bS hf
        refine V.callS (As := [.int l4]) (st := []) dX12_brightOf_21 cl_RX12_285 sw_yX12_ones (by decide) rfl (Nat.le_of_ble_eq_true rfl) rfl (w_X12_ones _ _ _ e12) ?_
        refine V.iload_n dX12_brightOf_24 rfl 3 rfl ?_
        obtain ⟨r6, e13, hf⟩ := bS hf
        refine V.callS (As := [.int l3]) (st := [.int r5]) dX12_brightOf_25 cl_RX12_285 sw_yX12_ones (by decide) rfl (Nat.le_of_ble_eq_true rfl) rfl (w_X12_ones _ _ _ e13) ?_
        refine V.icmp_lt (tgt := 34) dX12_brightOf_28 (by decide) (fun c7 => ?_) (fun c7 => ?_)
        · rw [if_pos c7] at hf
          exact w_X12_brightOf_34 _ ih _ _ _ _ _ _ hf
        · rw [if_neg c7] at hf
          refine V.goto (tgt := 96) dX12_brightOf_31 (by decide) ?_
          refine V.iinc (v := (l4 + 1)) (lv' := [(4, .int (l4 + 1)), (0, .ref l0), (1, .int l1), (2, .int l2), (3, .int l3)]) dX12_brightOf_96 4 rfl rfl (Nat.le_of_ble_eq_true rfl) rfl ?_
          refine V.goto (tgt := 5) dX12_brightOf_99 (by decide) ?_
          refine V.sub [1, 2, 3, 4, 0] rfl ?_
          exact ih _ _ _ _ _ _ _ hf

set_option maxRecDepth 20000 in
theorem w_X12_brightOf (h : xH) (l0 : Nat) (l1 : Int32) (l2 : Int32) (r : Int32 × xH) (hf : f_X12_brightOf h l0 l1 l2 = some r) : Ev 6 yX12_brightOf cX12_brightOf 6 (some .int) [] [.ref l0, .int l1, .int l2] h (oIh r) := by
  refine Ev.of (by decide +kernel) (Nat.le_of_ble_eq_true rfl) ?_
  unfold f_X12_brightOf at hf
  refine V.iconst (v := (-1 : Int32)) dX12_brightOf_0 (by decide) ?_
  refine V.istore_n (lv' := [(3, .int (-1 : Int32)), (0, .ref l0), (1, .int l1), (2, .int l2)]) dX12_brightOf_1 rfl (by decide) rfl ?_
  refine V.iconst (v := (0 : Int32)) dX12_brightOf_2 (by decide) ?_
  refine V.istore (lv' := [(4, .int (0 : Int32)), (3, .int (-1 : Int32)), (0, .ref l0), (1, .int l1), (2, .int l2)]) dX12_brightOf_3 (by decide) rfl ?_
  refine V.sub [2, 3, 4, 1, 0] rfl ?_
  exact w_X12_brightOf_5 _ _ _ _ _ _ _ _ hf

def f_X12_isKind (h : xH) (l0 : Nat) (l1 : Int32) : Option (Int32) := (gR h l0 12 0).bind fun v1 => (ldI h .int v1 (3 : Int32)).bind fun v2 => (f_X12_within h (Int32.toInt64 l1) (0 : Int64) (Int32.toInt64 (v2 - (1 : Int32)))).bind fun r3 => (if narrow .boolean (.int r3) = .int r3 then some r3 else none)
set_option maxRecDepth 20000 in
theorem w_X12_isKind (h : xH) (l0 : Nat) (l1 : Int32) (r : Int32) (hf : f_X12_isKind h l0 l1 = some r) : Ev 4 yX12_isKind cX12_isKind 2 (some .boolean) [] [.ref l0, .int l1] h (oI h r) := by
  refine Ev.of (by decide +kernel) (Nat.le_of_ble_eq_true rfl) ?_
  unfold f_X12_isKind at hf
  refine V.iload_n dX12_isKind_0 rfl 1 rfl ?_
  refine V.i2l dX12_isKind_1 ?_
  refine V.lconst (v := 0) dX12_isKind_2 (by decide) ?_
  refine V.aload_n dX12_isKind_3 rfl 0 rfl ?_
  obtain ⟨v1, e1, hf⟩ := bS hf
  refine V.xgR dX12_isKind_4 fl_RX12_9 e1 ?_
  refine V.iconst (v := (3 : Int32)) dX12_isKind_7 (by decide) ?_
  obtain ⟨v2, e2, hf⟩ := bS hf
  refine V.xldI dX12_isKind_8 e2 ?_
  refine V.iconst (v := (1 : Int32)) dX12_isKind_9 (by decide) ?_
  refine V.isub dX12_isKind_10 ?_
  refine V.i2l dX12_isKind_11 ?_
  obtain ⟨r3, e3, hf⟩ := bS hf
  refine V.callS (As := [.long (Int32.toInt64 l1), .long (0 : Int64), .long (Int32.toInt64 (v2 - (1 : Int32)))]) (st := []) dX12_isKind_12 cl_RX12_134 sw_yX12_within (by decide) rfl (Nat.le_of_ble_eq_true rfl) rfl (w_X12_within _ _ _ _ _ e3) ?_
  by_cases c4 : narrow .boolean (.int r3) = .int r3
  · rw [if_pos c4] at hf
    obtain rfl := Option.some.inj hf
    exact V.zret dX12_isKind_15 c4
  · rw [if_neg c4] at hf
    cases hf

def f_X12_bright_25 (h : xH) (l0 : Nat) (l1 : Int32) (l2 : Int32) (s0 : Int32) (s1 : Nat) : Option (Int32 × xH) := (pF h s1 12 4 (.int s0)).bind fun h1 => (gI h1 l0 12 4).bind fun v2 => (if v2 ≤ 0 then ((gO h1 l0 12).bind fun q4 => (f_X12_brightOf h1 l0 l1 l2).bind fun r5 => some ((r5.1, r5.2))) else (some (((0 : Int32), h1))))
def f_X12_bright (h : xH) (l0 : Nat) (l1 : Int32) (l2 : Int32) : Option (Int32 × xH) := (gO h l0 12).bind fun q1 => (f_X12_isKind h l0 l1).bind fun r2 => (if r2 = 0 then (f_X12_bright_25 h l0 l1 l2 (1 : Int32) l0) else ((f_X12_isHour h l2).bind fun r4 => (if r4 = 0 then (f_X12_bright_25 h l0 l1 l2 (2 : Int32) l0) else (f_X12_bright_25 h l0 l1 l2 (0 : Int32) l0))))
set_option maxRecDepth 20000 in
theorem w_X12_bright_25 (h : xH) (l0 : Nat) (l1 : Int32) (l2 : Int32) (s0 : Int32) (s1 : Nat) (r : Int32 × xH) (hf : f_X12_bright_25 h l0 l1 l2 s0 s1 = some r) : V 7 yX12_bright cX12_bright 3 (some .int) [] none 25 [(0, .ref l0), (1, .int l1), (2, .int l2)] [.int s0, .ref s1] h (oIh r) := by
  unfold f_X12_bright_25 at hf
  obtain ⟨h1, e1, hf⟩ := bS hf
  refine V.xpF dX12_bright_25 fl_RX12_75 (fun h9 => nomatch h9) (fun _ => rfl) (fun _ => rfl) e1 ?_
  refine V.aload_n dX12_bright_28 rfl 0 rfl ?_
  obtain ⟨v2, e2, hf⟩ := bS hf
  refine V.xgI dX12_bright_29 fl_RX12_75 e2 ?_
  refine V.if_le (tgt := 39) dX12_bright_32 (by decide) (fun c3 => ?_) (fun c3 => ?_)
  · rw [if_pos c3] at hf
    refine V.aload_n dX12_bright_39 rfl 0 rfl ?_
    refine V.iload_n dX12_bright_40 rfl 1 rfl ?_
    refine V.iload_n dX12_bright_41 rfl 2 rfl ?_
    obtain ⟨q4, e3, hf⟩ := bS hf
    obtain ⟨r5, e4, hf⟩ := bS hf
    refine V.callV (As := [.int l1, .int l2]) (st := []) dX12_bright_42 cl_RX12_312 sw_yX12_brightOf (by decide) rfl (Nat.le_of_ble_eq_true rfl) rfl (gO_some e3) rfl (w_X12_brightOf _ _ _ _ _ e4) ?_
    obtain rfl := Option.some.inj hf
    exact V.iret dX12_bright_45
  · rw [if_neg c3] at hf
    refine V.iconst (v := (0 : Int32)) dX12_bright_35 (by decide) ?_
    refine V.goto (tgt := 45) dX12_bright_36 (by decide) ?_
    obtain rfl := Option.some.inj hf
    exact V.iret dX12_bright_45

set_option maxRecDepth 20000 in
theorem w_X12_bright (h : xH) (l0 : Nat) (l1 : Int32) (l2 : Int32) (r : Int32 × xH) (hf : f_X12_bright h l0 l1 l2 = some r) : Ev 7 yX12_bright cX12_bright 3 (some .int) [] [.ref l0, .int l1, .int l2] h (oIh r) := by
  refine Ev.of (by decide +kernel) (Nat.le_of_ble_eq_true rfl) ?_
  unfold f_X12_bright at hf
  refine V.aload_n dX12_bright_0 rfl 0 rfl ?_
  refine V.aload_n dX12_bright_1 rfl 0 rfl ?_
  refine V.iload_n dX12_bright_2 rfl 1 rfl ?_
  obtain ⟨q1, e5, hf⟩ := bS hf
  obtain ⟨r2, e6, hf⟩ := bS hf
  refine V.callV (As := [.int l1]) (st := [.ref l0]) dX12_bright_3 cl_RX12_237 sw_yX12_isKind (by decide) rfl (Nat.le_of_ble_eq_true rfl) rfl (gO_some e5) rfl (w_X12_isKind _ _ _ _ e6) ?_
  refine V.if_ne (tgt := 13) dX12_bright_6 (by decide) (fun c3 => ?_) (fun c3 => ?_)
  · rw [if_neg c3] at hf
    refine V.iload_n dX12_bright_13 rfl 2 rfl ?_
    obtain ⟨r4, e7, hf⟩ := bS hf
    refine V.callS (As := [.int l2]) (st := [.ref l0]) dX12_bright_14 cl_RX12_270 sw_yX12_isHour (by decide) rfl (Nat.le_of_ble_eq_true rfl) rfl (w_X12_isHour _ _ _ e7) ?_
    refine V.if_eq (tgt := 24) dX12_bright_17 (by decide) (fun c5 => ?_) (fun c5 => ?_)
    · rw [if_pos c5] at hf
      refine V.iconst (v := (2 : Int32)) dX12_bright_24 (by decide) ?_
      exact w_X12_bright_25 _ _ _ _ _ _ _ hf
    · rw [if_neg c5] at hf
      refine V.iconst (v := (0 : Int32)) dX12_bright_20 (by decide) ?_
      refine V.goto (tgt := 25) dX12_bright_21 (by decide) ?_
      exact w_X12_bright_25 _ _ _ _ _ _ _ hf
  · rw [if_pos c3] at hf
    refine V.iconst (v := (1 : Int32)) dX12_bright_9 (by decide) ?_
    refine V.goto (tgt := 25) dX12_bright_10 (by decide) ?_
    exact w_X12_bright_25 _ _ _ _ _ _ _ hf

def f_X12_roomHour (h : xH) (l0 : Nat) (l1 : Int32) (l2 : Int32) : Option (Int32) := (gO h l0 12).bind fun q1 => (f_X12_isRoom h l0 l1).bind fun r2 => (if r2 = 0 then (some ((1 : Int32))) else ((f_X12_isHour h l2).bind fun r4 => (if r4 = 0 then (some ((2 : Int32))) else (some ((0 : Int32))))))
set_option maxRecDepth 20000 in
theorem w_X12_roomHour (h : xH) (l0 : Nat) (l1 : Int32) (l2 : Int32) (r : Int32) (hf : f_X12_roomHour h l0 l1 l2 = some r) : Ev 5 yX12_roomHour cX12_roomHour 3 (some .int) [] [.ref l0, .int l1, .int l2] h (oI h r) := by
  refine Ev.of (by decide +kernel) (Nat.le_of_ble_eq_true rfl) ?_
  unfold f_X12_roomHour at hf
  refine V.aload_n dX12_roomHour_0 rfl 0 rfl ?_
  refine V.iload_n dX12_roomHour_1 rfl 1 rfl ?_
  obtain ⟨q1, e1, hf⟩ := bS hf
  obtain ⟨r2, e2, hf⟩ := bS hf
  refine V.callV (As := [.int l1]) (st := []) dX12_roomHour_2 cl_RX12_240 sw_yX12_isRoom (by decide) rfl (Nat.le_of_ble_eq_true rfl) rfl (gO_some e1) rfl (w_X12_isRoom _ _ _ _ e2) ?_
  refine V.if_ne (tgt := 12) dX12_roomHour_5 (by decide) (fun c3 => ?_) (fun c3 => ?_)
  · rw [if_neg c3] at hf
    refine V.iload_n dX12_roomHour_12 rfl 2 rfl ?_
    obtain ⟨r4, e3, hf⟩ := bS hf
    refine V.callS (As := [.int l2]) (st := []) dX12_roomHour_13 cl_RX12_270 sw_yX12_isHour (by decide) rfl (Nat.le_of_ble_eq_true rfl) rfl (w_X12_isHour _ _ _ e3) ?_
    refine V.if_eq (tgt := 23) dX12_roomHour_16 (by decide) (fun c5 => ?_) (fun c5 => ?_)
    · rw [if_pos c5] at hf
      refine V.iconst (v := (2 : Int32)) dX12_roomHour_23 (by decide) ?_
      obtain rfl := Option.some.inj hf
      exact V.iret dX12_roomHour_24
    · rw [if_neg c5] at hf
      refine V.iconst (v := (0 : Int32)) dX12_roomHour_19 (by decide) ?_
      refine V.goto (tgt := 24) dX12_roomHour_20 (by decide) ?_
      obtain rfl := Option.some.inj hf
      exact V.iret dX12_roomHour_24
  · rw [if_pos c3] at hf
    refine V.iconst (v := (1 : Int32)) dX12_roomHour_8 (by decide) ?_
    refine V.goto (tgt := 24) dX12_roomHour_9 (by decide) ?_
    obtain rfl := Option.some.inj hf
    exact V.iret dX12_roomHour_24

def f_X12_by (h : xH) (l0 : Nat) (l1 : Int32) (l2 : Int32) : Option (Int32 × xH) := (gO h l0 12).bind fun q1 => (f_X12_roomHour h l0 l1 l2).bind fun r2 => (pF h l0 12 4 (.int r2)).bind fun h3 => (gI h3 l0 12 4).bind fun v4 => (if v4 ≤ 0 then ((gO h3 l0 12).bind fun q6 => (f_X12_layShine h3 l0 l2).bind fun r7 => (gO r7 l0 12).bind fun q8 => (f_X12_nextOf r7 l0 l1).bind fun r9 => (gO r7 l0 12).bind fun q10 => (f_X12_shining r7 l0).bind fun r11 => some (((r9 &&& r11), r7))) else (some (((0 : Int32), h3))))
set_option maxRecDepth 20000 in
theorem w_X12_by (h : xH) (l0 : Nat) (l1 : Int32) (l2 : Int32) (r : Int32 × xH) (hf : f_X12_by h l0 l1 l2 = some r) : Ev 6 yX12_by cX12_by 3 (some .int) [] [.ref l0, .int l1, .int l2] h (oIh r) := by
  refine Ev.of (by decide +kernel) (Nat.le_of_ble_eq_true rfl) ?_
  unfold f_X12_by at hf
  refine V.aload_n dX12_by_0 rfl 0 rfl ?_
  refine V.aload_n dX12_by_1 rfl 0 rfl ?_
  refine V.iload_n dX12_by_2 rfl 1 rfl ?_
  refine V.iload_n dX12_by_3 rfl 2 rfl ?_
  obtain ⟨q1, e1, hf⟩ := bS hf
  obtain ⟨r2, e2, hf⟩ := bS hf
  refine V.callV (As := [.int l1, .int l2]) (st := [.ref l0]) dX12_by_4 cl_RX12_273 sw_yX12_roomHour (by decide) rfl (Nat.le_of_ble_eq_true rfl) rfl (gO_some e1) rfl (w_X12_roomHour _ _ _ _ _ e2) ?_
  obtain ⟨h3, e3, hf⟩ := bS hf
  refine V.xpF dX12_by_7 fl_RX12_75 (fun h9 => nomatch h9) (fun _ => rfl) (fun _ => rfl) e3 ?_
  refine V.aload_n dX12_by_10 rfl 0 rfl ?_
  obtain ⟨v4, e4, hf⟩ := bS hf
  refine V.xgI dX12_by_11 fl_RX12_75 e4 ?_
  refine V.if_le (tgt := 19) dX12_by_14 (by decide) (fun c5 => ?_) (fun c5 => ?_)
  · rw [if_pos c5] at hf
    refine V.aload_n dX12_by_19 rfl 0 rfl ?_
    refine V.iload_n dX12_by_20 rfl 2 rfl ?_
    obtain ⟨q6, e5, hf⟩ := bS hf
    obtain ⟨r7, e6, hf⟩ := bS hf
    refine V.callV (As := [.int l2]) (st := []) dX12_by_21 cl_RX12_256 sw_yX12_layShine (by decide) rfl (Nat.le_of_ble_eq_true rfl) rfl (gO_some e5) rfl (w_X12_layShine _ _ _ _ e6) ?_
    refine V.aload_n dX12_by_24 rfl 0 rfl ?_
    refine V.iload_n dX12_by_25 rfl 1 rfl ?_
    obtain ⟨q8, e7, hf⟩ := bS hf
    obtain ⟨r9, e8, hf⟩ := bS hf
    refine V.callV (As := [.int l1]) (st := []) dX12_by_26 cl_RX12_243 sw_yX12_nextOf (by decide) rfl (Nat.le_of_ble_eq_true rfl) rfl (gO_some e7) rfl (w_X12_nextOf _ _ _ _ e8) ?_
    refine V.aload_n dX12_by_29 rfl 0 rfl ?_
    obtain ⟨q10, e9, hf⟩ := bS hf
    obtain ⟨r11, e10, hf⟩ := bS hf
    refine V.callV (As := []) (st := [.int r9]) dX12_by_30 cl_RX12_276 sw_yX12_shining (by decide) rfl (Nat.le_of_ble_eq_true rfl) rfl (gO_some e9) rfl (w_X12_shining _ _ _ e10) ?_
    refine V.iand dX12_by_33 ?_
    obtain rfl := Option.some.inj hf
    exact V.iret dX12_by_34
  · rw [if_neg c5] at hf
    refine V.iconst (v := (0 : Int32)) dX12_by_17 (by decide) ?_
    obtain rfl := Option.some.inj hf
    exact V.iret dX12_by_18

def f_X12_isPlace (h : xH) (l0 : Nat) (l1 : Int32) (l2 : Int32) : Option (Int32) := (dvI l2 (16 : Int32)).bind fun v1 => (gO h l0 12).bind fun q2 => (f_X12_rooms h l0).bind fun r3 => (if r3 ≤ v1 then (some ((0 : Int32))) else ((if l1 = (1 : Int32) then ((rmI l2 (16 : Int32)).bind fun v10 => (if v10 = 0 then (some ((1 : Int32))) else (some ((0 : Int32))))) else ((rmI l2 (16 : Int32)).bind fun v6 => (gO h l0 12).bind fun q7 => (f_X12_rooms h l0).bind fun r8 => (if r8 ≤ v6 then (some ((0 : Int32))) else (some ((1 : Int32))))))))
set_option maxRecDepth 20000 in
theorem w_X12_isPlace (h : xH) (l0 : Nat) (l1 : Int32) (l2 : Int32) (r : Int32) (hf : f_X12_isPlace h l0 l1 l2 = some r) : Ev 4 yX12_isPlace cX12_isPlace 3 (some .boolean) [] [.ref l0, .int l1, .int l2] h (oI h r) := by
  refine Ev.of (by decide +kernel) (Nat.le_of_ble_eq_true rfl) ?_
  unfold f_X12_isPlace at hf
  refine V.iload_n dX12_isPlace_0 rfl 2 rfl ?_
  refine V.bipush (v := (16 : Int32)) dX12_isPlace_1 (by decide) ?_
  obtain ⟨v1, e1, hf⟩ := bS hf
  refine V.xdvI dX12_isPlace_3 e1 ?_
  refine V.aload_n dX12_isPlace_4 rfl 0 rfl ?_
  obtain ⟨q2, e2, hf⟩ := bS hf
  obtain ⟨r3, e3, hf⟩ := bS hf
  refine V.callV (As := []) (st := [.int v1]) dX12_isPlace_5 cl_RX12_228 sw_yX12_rooms (by decide) rfl (Nat.le_of_ble_eq_true rfl) rfl (gO_some e2) rfl (w_X12_rooms _ _ _ e3) ?_
  refine V.icmp_ge (tgt := 41) dX12_isPlace_8 (by decide) (fun c4 => ?_) (fun c4 => ?_)
  · rw [if_pos c4] at hf
    refine V.iconst (v := (0 : Int32)) dX12_isPlace_41 (by decide) ?_
    obtain rfl := Option.some.inj hf
    exact V.zret dX12_isPlace_42 (by first | rfl | assumption)
  · rw [if_neg c4] at hf
    refine V.iload_n dX12_isPlace_11 rfl 1 rfl ?_
    refine V.iconst (v := (1 : Int32)) dX12_isPlace_12 (by decide) ?_
    refine V.icmp_ne (tgt := 26) dX12_isPlace_13 (by decide) (fun c5 => ?_) (fun c5 => ?_)
    · rw [if_neg c5] at hf
      refine V.iload_n dX12_isPlace_26 rfl 2 rfl ?_
      refine V.bipush (v := (16 : Int32)) dX12_isPlace_27 (by decide) ?_
      obtain ⟨v6, e4, hf⟩ := bS hf
      refine V.xrmI dX12_isPlace_29 e4 ?_
      refine V.aload_n dX12_isPlace_30 rfl 0 rfl ?_
      obtain ⟨q7, e5, hf⟩ := bS hf
      obtain ⟨r8, e6, hf⟩ := bS hf
      refine V.callV (As := []) (st := [.int v6]) dX12_isPlace_31 cl_RX12_228 sw_yX12_rooms (by decide) rfl (Nat.le_of_ble_eq_true rfl) rfl (gO_some e5) rfl (w_X12_rooms _ _ _ e6) ?_
      refine V.icmp_ge (tgt := 41) dX12_isPlace_34 (by decide) (fun c9 => ?_) (fun c9 => ?_)
      · rw [if_pos c9] at hf
        refine V.iconst (v := (0 : Int32)) dX12_isPlace_41 (by decide) ?_
        obtain rfl := Option.some.inj hf
        exact V.zret dX12_isPlace_42 (by first | rfl | assumption)
      · rw [if_neg c9] at hf
        refine V.iconst (v := (1 : Int32)) dX12_isPlace_37 (by decide) ?_
        refine V.goto (tgt := 42) dX12_isPlace_38 (by decide) ?_
        obtain rfl := Option.some.inj hf
        exact V.zret dX12_isPlace_42 (by first | rfl | assumption)
    · rw [if_pos c5] at hf
      refine V.iload_n dX12_isPlace_16 rfl 2 rfl ?_
      refine V.bipush (v := (16 : Int32)) dX12_isPlace_17 (by decide) ?_
      obtain ⟨v10, e7, hf⟩ := bS hf
      refine V.xrmI dX12_isPlace_19 e7 ?_
      refine V.if_ne (tgt := 41) dX12_isPlace_20 (by decide) (fun c11 => ?_) (fun c11 => ?_)
      · rw [if_neg c11] at hf
        refine V.iconst (v := (0 : Int32)) dX12_isPlace_41 (by decide) ?_
        obtain rfl := Option.some.inj hf
        exact V.zret dX12_isPlace_42 (by first | rfl | assumption)
      · rw [if_pos c11] at hf
        refine V.goto (tgt := 37) dX12_isPlace_23 (by decide) ?_
        refine V.iconst (v := (1 : Int32)) dX12_isPlace_37 (by decide) ?_
        refine V.goto (tgt := 42) dX12_isPlace_38 (by decide) ?_
        obtain rfl := Option.some.inj hf
        exact V.zret dX12_isPlace_42 (by first | rfl | assumption)

def f_X12_bits_21 (h : xH) (s0 : Int32) (s1 : Int32) : Option (Int32) := some ((s1 ||| s0))
def f_X12_bits (h : xH) (l0 : Int32) (l1 : Int32) : Option (Int32) := (dvI l1 (16 : Int32)).bind fun v1 => (if l0 = (2 : Int32) then ((rmI l1 (16 : Int32)).bind fun v3 => f_X12_bits_21 h ((1 : Int32) <<< (v3 &&& 31)) ((1 : Int32) <<< (v1 &&& 31))) else (f_X12_bits_21 h (0 : Int32) ((1 : Int32) <<< (v1 &&& 31))))
set_option maxRecDepth 20000 in
theorem w_X12_bits_21 (h : xH) (s0 : Int32) (s1 : Int32) (r : Int32) (hf : f_X12_bits_21 h s0 s1 = some r) : V 3 yX12_bits cX12_bits 2 (some .int) [] none 21 [] [.int s0, .int s1] h (oI h r) := by
  unfold f_X12_bits_21 at hf
  refine V.ior dX12_bits_21 ?_
  obtain rfl := Option.some.inj hf
  exact V.iret dX12_bits_22

set_option maxRecDepth 20000 in
theorem w_X12_bits (h : xH) (l0 : Int32) (l1 : Int32) (r : Int32) (hf : f_X12_bits h l0 l1 = some r) : Ev 3 yX12_bits cX12_bits 2 (some .int) [] [.int l0, .int l1] h (oI h r) := by
  refine Ev.of (by decide +kernel) (Nat.le_of_ble_eq_true rfl) ?_
  unfold f_X12_bits at hf
  refine V.iconst (v := (1 : Int32)) dX12_bits_0 (by decide) ?_
  refine V.iload_n dX12_bits_1 rfl 1 rfl ?_
  refine V.bipush (v := (16 : Int32)) dX12_bits_2 (by decide) ?_
  obtain ⟨v1, e1, hf⟩ := bS hf
  refine V.xdvI dX12_bits_4 e1 ?_
  refine V.ishl dX12_bits_5 ?_
  refine V.iload_n dX12_bits_6 rfl 0 rfl ?_
  refine V.iconst (v := (2 : Int32)) dX12_bits_7 (by decide) ?_
  refine V.icmp_ne (tgt := 20) dX12_bits_8 (by decide) (fun c2 => ?_) (fun c2 => ?_)
  · rw [if_neg c2] at hf
    refine V.iconst (v := (0 : Int32)) dX12_bits_20 (by decide) ?_
    refine V.sub [] rfl ?_
    exact w_X12_bits_21 _ _ _ _ hf
  · rw [if_pos c2] at hf
    refine V.iconst (v := (1 : Int32)) dX12_bits_11 (by decide) ?_
    refine V.iload_n dX12_bits_12 rfl 1 rfl ?_
    refine V.bipush (v := (16 : Int32)) dX12_bits_13 (by decide) ?_
    obtain ⟨v3, e2, hf⟩ := bS hf
    refine V.xrmI dX12_bits_15 e2 ?_
    refine V.ishl dX12_bits_16 ?_
    refine V.goto (tgt := 21) dX12_bits_17 (by decide) ?_
    refine V.sub [] rfl ?_
    exact w_X12_bits_21 _ _ _ _ hf

def f_X12_layWalks_38 (k2 : xH → Nat → Int32 → Option (xH)) (k10 : xH → Nat → Int32 → Int32 → Option (xH)) (h : xH) (l0 : Nat) (l1 : Int32) (l2 : Int32) (s0 : Int32) (s1 : Int32) (s2 : Nat) : Option (xH) := (stI h .int s2 s1 s0).bind fun h1 => k10 h1 l0 l1 (l2 + 1)
def f_X12_layWalks_10 (k2 : xH → Nat → Int32 → Option (xH)) : Nat → xH → Nat → Int32 → Int32 → Option (xH)
  | 0, _, _, _, _ => none
  | n + 1, h, l0, l1, l2 => (if (16 : Int32) ≤ l2 then (k2 h l0 (l1 + 1)) else ((gR h l0 12 21).bind fun v2 => (if l1 = l2 then (f_X12_layWalks_38 k2 (f_X12_layWalks_10 k2 n) h l0 l1 l2 (0 : Int32) (((16 : Int32) * l1) + l2) v2) else (f_X12_layWalks_38 k2 (f_X12_layWalks_10 k2 n) h l0 l1 l2 (1000000 : Int32) (((16 : Int32) * l1) + l2) v2))))
def f_X12_layWalks_145 (k125 : xH → Nat → Int32 → Option (xH)) (k135 : xH → Nat → Int32 → Int32 → Option (xH)) : Nat → xH → Nat → Int32 → Int32 → Int32 → Option (xH)
  | 0, _, _, _, _, _ => none
  | n + 1, h, l0, l1, l2, l3 => (gO h l0 12).bind fun q1 => (f_X12_rooms h l0).bind fun r2 => (if r2 ≤ l3 then (k135 h l0 l1 (l2 + 1)) else ((gR h l0 12 21).bind fun v4 => (gR h l0 12 21).bind fun v5 => (ldI h .int v5 (((16 : Int32) * l2) + l3)).bind fun v6 => (gR h l0 12 21).bind fun v7 => (ldI h .int v7 (((16 : Int32) * l2) + l1)).bind fun v8 => (gR h l0 12 21).bind fun v9 => (ldI h .int v9 (((16 : Int32) * l1) + l3)).bind fun v10 => (stI h .int v4 (((16 : Int32) * l2) + l3) (if (v8 + v10) < v6 then (v8 + v10) else v6)).bind fun h11 => f_X12_layWalks_145 k125 k135 n h11 l0 l1 l2 (l3 + 1)))
def f_X12_layWalks_135 (k125 : xH → Nat → Int32 → Option (xH)) : Nat → xH → Nat → Int32 → Int32 → Option (xH)
  | 0, _, _, _, _ => none
  | n + 1, h, l0, l1, l2 => (gO h l0 12).bind fun q1 => (f_X12_rooms h l0).bind fun r2 => (if r2 ≤ l2 then (k125 h l0 (l1 + 1)) else (f_X12_layWalks_145 k125 (f_X12_layWalks_135 k125 n) xFU h l0 l1 l2 (0 : Int32)))
def f_X12_layWalks_125 : Nat → xH → Nat → Int32 → Option (xH)
  | 0, _, _, _ => none
  | n + 1, h, l0, l1 => (gO h l0 12).bind fun q1 => (f_X12_rooms h l0).bind fun r2 => (if r2 ≤ l1 then (some (h)) else (f_X12_layWalks_135 (f_X12_layWalks_125 n) xFU h l0 l1 (0 : Int32)))
def f_X12_layWalks_54 : Nat → xH → Nat → Int32 → Option (xH)
  | 0, _, _, _ => none
  | n + 1, h, l0, l1 => (gR h l0 12 0).bind fun v1 => (ldI h .int v1 (2 : Int32)).bind fun v2 => (if ((8 : Int32) + ((4 : Int32) * v2)) ≤ l1 then (f_X12_layWalks_125 xFU h l0 (0 : Int32)) else ((gR h l0 12 21).bind fun v4 => (gR h l0 12 0).bind fun v5 => (ldI h .int v5 l1).bind fun v6 => (gR h l0 12 0).bind fun v7 => (ldI h .int v7 (l1 + (1 : Int32))).bind fun v8 => (stI h .int v4 (((16 : Int32) * v6) + v8) (1 : Int32)).bind fun h9 => (gR h9 l0 12 21).bind fun v10 => (gR h9 l0 12 0).bind fun v11 => (ldI h9 .int v11 (l1 + (1 : Int32))).bind fun v12 => (gR h9 l0 12 0).bind fun v13 => (ldI h9 .int v13 l1).bind fun v14 => (stI h9 .int v10 (((16 : Int32) * v12) + v14) (1 : Int32)).bind fun h15 => f_X12_layWalks_54 n h15 l0 (l1 + 4)))
def f_X12_layWalks_2 : Nat → xH → Nat → Int32 → Option (xH)
  | 0, _, _, _ => none
  | n + 1, h, l0, l1 => (if (16 : Int32) ≤ l1 then (f_X12_layWalks_54 xFU h l0 (8 : Int32)) else (f_X12_layWalks_10 (f_X12_layWalks_2 n) xFU h l0 l1 (0 : Int32)))
def f_X12_layWalks (h : xH) (l0 : Nat) : Option (xH) := f_X12_layWalks_2 xFU h l0 (0 : Int32)
set_option maxRecDepth 20000 in
theorem w_X12_layWalks_38 (h : xH) {k2 : xH → Nat → Int32 → Option (xH)} (hk2 : ∀ (h : xH) (l0 : Nat) (l1 : Int32) (r : xH), k2 h l0 l1 = some r → V 4 yX12_layWalks cX12_layWalks 4 none [] none 2 [(0, .ref l0), (1, .int l1)] [] h (oVh r)) {k10 : xH → Nat → Int32 → Int32 → Option (xH)} (hk10 : ∀ (h : xH) (l0 : Nat) (l1 : Int32) (l2 : Int32) (r : xH), k10 h l0 l1 l2 = some r → V 4 yX12_layWalks cX12_layWalks 4 none [] none 10 [(0, .ref l0), (1, .int l1), (2, .int l2)] [] h (oVh r)) (l0 : Nat) (l1 : Int32) (l2 : Int32) (s0 : Int32) (s1 : Int32) (s2 : Nat) (r : xH) (hf : f_X12_layWalks_38 k2 k10 h l0 l1 l2 s0 s1 s2 = some r) : V 4 yX12_layWalks cX12_layWalks 4 none [] none 38 [(0, .ref l0), (1, .int l1), (2, .int l2)] [.int s0, .int s1, .ref s2] h (oVh r) := by
  unfold f_X12_layWalks_38 at hf
  obtain ⟨h1, e1, hf⟩ := bS hf
  refine V.xstI dX12_layWalks_38 e1 ?_
  refine V.iinc (v := (l2 + 1)) (lv' := [(2, .int (l2 + 1)), (0, .ref l0), (1, .int l1)]) dX12_layWalks_39 2 rfl rfl (Nat.le_of_ble_eq_true rfl) rfl ?_
  refine V.goto (tgt := 10) dX12_layWalks_42 (by decide) ?_
  refine V.sub [1, 2, 0] rfl ?_
  exact hk10 _ _ _ _ _ hf

set_option maxRecDepth 20000 in
theorem w_X12_layWalks_10 {k2 : xH → Nat → Int32 → Option (xH)} (hk2 : ∀ (h : xH) (l0 : Nat) (l1 : Int32) (r : xH), k2 h l0 l1 = some r → V 4 yX12_layWalks cX12_layWalks 4 none [] none 2 [(0, .ref l0), (1, .int l1)] [] h (oVh r)) : ∀ (n : Nat) (h : xH) (l0 : Nat) (l1 : Int32) (l2 : Int32) (r : xH), f_X12_layWalks_10 k2 n h l0 l1 l2 = some r → V 4 yX12_layWalks cX12_layWalks 4 none [] none 10 [(0, .ref l0), (1, .int l1), (2, .int l2)] [] h (oVh r) := by
  intro n
  induction n with
  | zero => intro h l0 l1 l2 r hf; cases hf
  | succ n ih =>
    intro h l0 l1 l2 r hf
    rw [f_X12_layWalks_10] at hf
    refine V.iload_n dX12_layWalks_10 rfl 2 rfl ?_
    refine V.bipush (v := (16 : Int32)) dX12_layWalks_11 (by decide) ?_
    refine V.icmp_ge (tgt := 45) dX12_layWalks_13 (by decide) (fun c1 => ?_) (fun c1 => ?_)
    · rw [if_pos c1] at hf
      refine V.iinc (v := (l1 + 1)) (lv' := [(1, .int (l1 + 1)), (0, .ref l0), (2, .int l2)]) dX12_layWalks_45 1 rfl rfl (Nat.le_of_ble_eq_true rfl) rfl ?_
      refine V.goto (tgt := 2) dX12_layWalks_48 (by decide) ?_
      refine V.sub [1, 0] rfl ?_
      exact hk2 _ _ _ _ hf
    · rw [if_neg c1] at hf
      refine V.aload_n dX12_layWalks_16 rfl 0 rfl ?_
      obtain ⟨v2, e2, hf⟩ := bS hf
      refine V.xgR dX12_layWalks_17 fl_RX12_45 e2 ?_
      refine V.bipush (v := (16 : Int32)) dX12_layWalks_20 (by decide) ?_
      refine V.iload_n dX12_layWalks_22 rfl 1 rfl ?_
      refine V.imul dX12_layWalks_23 ?_
      refine V.iload_n dX12_layWalks_24 rfl 2 rfl ?_
      refine V.iadd dX12_layWalks_25 ?_
      refine V.iload_n dX12_layWalks_26 rfl 1 rfl ?_
      refine V.iload_n dX12_layWalks_27 rfl 2 rfl ?_
      refine V.icmp_ne (tgt := 35) dX12_layWalks_28 (by decide) (fun c3 => ?_) (fun c3 => ?_)
      · rw [if_neg c3] at hf
        refine V.ldcw (v := 1000000) dX12_layWalks_35 co_RX12_343 ?_
        exact w_X12_layWalks_38 _ hk2 ih _ _ _ _ _ _ _ hf
      · rw [if_pos c3] at hf
        refine V.iconst (v := (0 : Int32)) dX12_layWalks_31 (by decide) ?_
        refine V.goto (tgt := 38) dX12_layWalks_32 (by decide) ?_
        exact w_X12_layWalks_38 _ hk2 ih _ _ _ _ _ _ _ hf

set_option maxRecDepth 20000 in
theorem w_X12_layWalks_145 {k125 : xH → Nat → Int32 → Option (xH)} (hk125 : ∀ (h : xH) (l0 : Nat) (l1 : Int32) (r : xH), k125 h l0 l1 = some r → V 4 yX12_layWalks cX12_layWalks 4 none [] none 125 [(0, .ref l0), (1, .int l1)] [] h (oVh r)) {k135 : xH → Nat → Int32 → Int32 → Option (xH)} (hk135 : ∀ (h : xH) (l0 : Nat) (l1 : Int32) (l2 : Int32) (r : xH), k135 h l0 l1 l2 = some r → V 4 yX12_layWalks cX12_layWalks 4 none [] none 135 [(0, .ref l0), (1, .int l1), (2, .int l2)] [] h (oVh r)) : ∀ (n : Nat) (h : xH) (l0 : Nat) (l1 : Int32) (l2 : Int32) (l3 : Int32) (r : xH), f_X12_layWalks_145 k125 k135 n h l0 l1 l2 l3 = some r → V 4 yX12_layWalks cX12_layWalks 4 none [] none 145 [(0, .ref l0), (1, .int l1), (2, .int l2), (3, .int l3)] [] h (oVh r) := by
  intro n
  induction n with
  | zero => intro h l0 l1 l2 l3 r hf; cases hf
  | succ n ih =>
    intro h l0 l1 l2 l3 r hf
    rw [f_X12_layWalks_145] at hf
    refine V.iload_n dX12_layWalks_145 rfl 3 rfl ?_
    refine V.aload_n dX12_layWalks_146 rfl 0 rfl ?_
    obtain ⟨q1, e3, hf⟩ := bS hf
    obtain ⟨r2, e4, hf⟩ := bS hf
    refine V.callV (As := []) (st := [.int l3]) dX12_layWalks_147 cl_RX12_228 sw_yX12_rooms (by decide) rfl (Nat.le_of_ble_eq_true rfl) rfl (gO_some e3) rfl (w_X12_rooms _ _ _ e4) ?_
    refine V.icmp_ge (tgt := 207) dX12_layWalks_150 (by decide) (fun c3 => ?_) (fun c3 => ?_)
    · rw [if_pos c3] at hf
      refine V.iinc (v := (l2 + 1)) (lv' := [(2, .int (l2 + 1)), (0, .ref l0), (1, .int l1), (3, .int l3)]) dX12_layWalks_207 2 rfl rfl (Nat.le_of_ble_eq_true rfl) rfl ?_
      refine V.goto (tgt := 135) dX12_layWalks_210 (by decide) ?_
      refine V.sub [1, 2, 0] rfl ?_
      exact hk135 _ _ _ _ _ hf
    · rw [if_neg c3] at hf
      refine V.aload_n dX12_layWalks_153 rfl 0 rfl ?_
      obtain ⟨v4, e5, hf⟩ := bS hf
      refine V.xgR dX12_layWalks_154 fl_RX12_45 e5 ?_
      refine V.bipush (v := (16 : Int32)) dX12_layWalks_157 (by decide) ?_
      refine V.iload_n dX12_layWalks_159 rfl 2 rfl ?_
      refine V.imul dX12_layWalks_160 ?_
      refine V.iload_n dX12_layWalks_161 rfl 3 rfl ?_
      refine V.iadd dX12_layWalks_162 ?_
      refine V.aload_n dX12_layWalks_163 rfl 0 rfl ?_
      obtain ⟨v5, e6, hf⟩ := bS hf
      refine V.xgR dX12_layWalks_164 fl_RX12_45 e6 ?_
      refine V.bipush (v := (16 : Int32)) dX12_layWalks_167 (by decide) ?_
      refine V.iload_n dX12_layWalks_169 rfl 2 rfl ?_
      refine V.imul dX12_layWalks_170 ?_
      refine V.iload_n dX12_layWalks_171 rfl 3 rfl ?_
      refine V.iadd dX12_layWalks_172 ?_
      obtain ⟨v6, e7, hf⟩ := bS hf
      refine V.xldI dX12_layWalks_173 e7 ?_
      refine V.aload_n dX12_layWalks_174 rfl 0 rfl ?_
      obtain ⟨v7, e8, hf⟩ := bS hf
      refine V.xgR dX12_layWalks_175 fl_RX12_45 e8 ?_
      refine V.bipush (v := (16 : Int32)) dX12_layWalks_178 (by decide) ?_
      refine V.iload_n dX12_layWalks_180 rfl 2 rfl ?_
      refine V.imul dX12_layWalks_181 ?_
      refine V.iload_n dX12_layWalks_182 rfl 1 rfl ?_
      refine V.iadd dX12_layWalks_183 ?_
      obtain ⟨v8, e9, hf⟩ := bS hf
      refine V.xldI dX12_layWalks_184 e9 ?_
      refine V.aload_n dX12_layWalks_185 rfl 0 rfl ?_
      obtain ⟨v9, e10, hf⟩ := bS hf
      refine V.xgR dX12_layWalks_186 fl_RX12_45 e10 ?_
      refine V.bipush (v := (16 : Int32)) dX12_layWalks_189 (by decide) ?_
      refine V.iload_n dX12_layWalks_191 rfl 1 rfl ?_
      refine V.imul dX12_layWalks_192 ?_
      refine V.iload_n dX12_layWalks_193 rfl 3 rfl ?_
      refine V.iadd dX12_layWalks_194 ?_
      obtain ⟨v10, e11, hf⟩ := bS hf
      refine V.xldI dX12_layWalks_195 e11 ?_
      refine V.iadd dX12_layWalks_196 ?_
      refine V.mmin dX12_layWalks_197 ml_RX12_344 ms_min mi_ mc_min (Nat.le_of_ble_eq_true rfl) ?_
      obtain ⟨h11, e12, hf⟩ := bS hf
      refine V.xstI dX12_layWalks_200 e12 ?_
      refine V.iinc (v := (l3 + 1)) (lv' := [(3, .int (l3 + 1)), (0, .ref l0), (1, .int l1), (2, .int l2)]) dX12_layWalks_201 3 rfl rfl (Nat.le_of_ble_eq_true rfl) rfl ?_
      refine V.goto (tgt := 145) dX12_layWalks_204 (by decide) ?_
      refine V.sub [1, 2, 3, 0] rfl ?_
      exact ih _ _ _ _ _ _ hf

set_option maxRecDepth 20000 in
theorem w_X12_layWalks_135 {k125 : xH → Nat → Int32 → Option (xH)} (hk125 : ∀ (h : xH) (l0 : Nat) (l1 : Int32) (r : xH), k125 h l0 l1 = some r → V 4 yX12_layWalks cX12_layWalks 4 none [] none 125 [(0, .ref l0), (1, .int l1)] [] h (oVh r)) : ∀ (n : Nat) (h : xH) (l0 : Nat) (l1 : Int32) (l2 : Int32) (r : xH), f_X12_layWalks_135 k125 n h l0 l1 l2 = some r → V 4 yX12_layWalks cX12_layWalks 4 none [] none 135 [(0, .ref l0), (1, .int l1), (2, .int l2)] [] h (oVh r) := by
  intro n
  induction n with
  | zero => intro h l0 l1 l2 r hf; cases hf
  | succ n ih =>
    intro h l0 l1 l2 r hf
    rw [f_X12_layWalks_135] at hf
    refine V.iload_n dX12_layWalks_135 rfl 2 rfl ?_
    refine V.aload_n dX12_layWalks_136 rfl 0 rfl ?_
    obtain ⟨q1, e13, hf⟩ := bS hf
    obtain ⟨r2, e14, hf⟩ := bS hf
    refine V.callV (As := []) (st := [.int l2]) dX12_layWalks_137 cl_RX12_228 sw_yX12_rooms (by decide) rfl (Nat.le_of_ble_eq_true rfl) rfl (gO_some e13) rfl (w_X12_rooms _ _ _ e14) ?_
    refine V.icmp_ge (tgt := 213) dX12_layWalks_140 (by decide) (fun c3 => ?_) (fun c3 => ?_)
    · rw [if_pos c3] at hf
      refine V.iinc (v := (l1 + 1)) (lv' := [(1, .int (l1 + 1)), (0, .ref l0), (2, .int l2)]) dX12_layWalks_213 1 rfl rfl (Nat.le_of_ble_eq_true rfl) rfl ?_
      refine V.goto (tgt := 125) dX12_layWalks_216 (by decide) ?_
      refine V.sub [1, 0] rfl ?_
      exact hk125 _ _ _ _ hf
    · rw [if_neg c3] at hf
      refine V.iconst (v := (0 : Int32)) dX12_layWalks_143 (by decide) ?_
      refine V.istore_n (lv' := [(3, .int (0 : Int32)), (0, .ref l0), (1, .int l1), (2, .int l2)]) dX12_layWalks_144 rfl (by decide) rfl ?_
      refine V.sub [1, 2, 3, 0] rfl ?_
      exact w_X12_layWalks_145 hk125 ih _ _ _ _ _ _ _ hf

set_option maxRecDepth 20000 in
theorem w_X12_layWalks_125 : ∀ (n : Nat) (h : xH) (l0 : Nat) (l1 : Int32) (r : xH), f_X12_layWalks_125 n h l0 l1 = some r → V 4 yX12_layWalks cX12_layWalks 4 none [] none 125 [(0, .ref l0), (1, .int l1)] [] h (oVh r) := by
  intro n
  induction n with
  | zero => intro h l0 l1 r hf; cases hf
  | succ n ih =>
    intro h l0 l1 r hf
    rw [f_X12_layWalks_125] at hf
    refine V.iload_n dX12_layWalks_125 rfl 1 rfl ?_
    refine V.aload_n dX12_layWalks_126 rfl 0 rfl ?_
    obtain ⟨q1, e15, hf⟩ := bS hf
    obtain ⟨r2, e16, hf⟩ := bS hf
    refine V.callV (As := []) (st := [.int l1]) dX12_layWalks_127 cl_RX12_228 sw_yX12_rooms (by decide) rfl (Nat.le_of_ble_eq_true rfl) rfl (gO_some e15) rfl (w_X12_rooms _ _ _ e16) ?_
    refine V.icmp_ge (tgt := 219) dX12_layWalks_130 (by decide) (fun c3 => ?_) (fun c3 => ?_)
    · rw [if_pos c3] at hf
      obtain rfl := Option.some.inj hf
      exact V.vret dX12_layWalks_219
    · rw [if_neg c3] at hf
      refine V.iconst (v := (0 : Int32)) dX12_layWalks_133 (by decide) ?_
      refine V.istore_n (lv' := [(2, .int (0 : Int32)), (0, .ref l0), (1, .int l1)]) dX12_layWalks_134 rfl (by decide) rfl ?_
      refine V.sub [1, 2, 0] rfl ?_
      exact w_X12_layWalks_135 ih _ _ _ _ _ _ hf

set_option maxRecDepth 20000 in
theorem w_X12_layWalks_54 : ∀ (n : Nat) (h : xH) (l0 : Nat) (l1 : Int32) (r : xH), f_X12_layWalks_54 n h l0 l1 = some r → V 4 yX12_layWalks cX12_layWalks 4 none [] none 54 [(0, .ref l0), (1, .int l1)] [] h (oVh r) := by
  intro n
  induction n with
  | zero => intro h l0 l1 r hf; cases hf
  | succ n ih =>
    intro h l0 l1 r hf
    rw [f_X12_layWalks_54] at hf
    refine V.iload_n dX12_layWalks_54 rfl 1 rfl ?_
    refine V.bipush (v := (8 : Int32)) dX12_layWalks_55 (by decide) ?_
    refine V.iconst (v := (4 : Int32)) dX12_layWalks_57 (by decide) ?_
    refine V.aload_n dX12_layWalks_58 rfl 0 rfl ?_
    obtain ⟨v1, e17, hf⟩ := bS hf
    refine V.xgR dX12_layWalks_59 fl_RX12_9 e17 ?_
    refine V.iconst (v := (2 : Int32)) dX12_layWalks_62 (by decide) ?_
    obtain ⟨v2, e18, hf⟩ := bS hf
    refine V.xldI dX12_layWalks_63 e18 ?_
    refine V.imul dX12_layWalks_64 ?_
    refine V.iadd dX12_layWalks_65 ?_
    refine V.icmp_ge (tgt := 123) dX12_layWalks_66 (by decide) (fun c3 => ?_) (fun c3 => ?_)
    · rw [if_pos c3] at hf
      refine V.iconst (v := (0 : Int32)) dX12_layWalks_123 (by decide) ?_
      refine V.istore_n (lv' := [(1, .int (0 : Int32)), (0, .ref l0)]) dX12_layWalks_124 rfl (by decide) rfl ?_
      refine V.sub [1, 0] rfl ?_
      exact w_X12_layWalks_125 _ _ _ _ _ hf
    · rw [if_neg c3] at hf
      refine V.aload_n dX12_layWalks_69 rfl 0 rfl ?_
      obtain ⟨v4, e19, hf⟩ := bS hf
      refine V.xgR dX12_layWalks_70 fl_RX12_45 e19 ?_
      refine V.bipush (v := (16 : Int32)) dX12_layWalks_73 (by decide) ?_
      refine V.aload_n dX12_layWalks_75 rfl 0 rfl ?_
      obtain ⟨v5, e20, hf⟩ := bS hf
      refine V.xgR dX12_layWalks_76 fl_RX12_9 e20 ?_
      refine V.iload_n dX12_layWalks_79 rfl 1 rfl ?_
      obtain ⟨v6, e21, hf⟩ := bS hf
      refine V.xldI dX12_layWalks_80 e21 ?_
      refine V.imul dX12_layWalks_81 ?_
      refine V.aload_n dX12_layWalks_82 rfl 0 rfl ?_
      obtain ⟨v7, e22, hf⟩ := bS hf
      refine V.xgR dX12_layWalks_83 fl_RX12_9 e22 ?_
      refine V.iload_n dX12_layWalks_86 rfl 1 rfl ?_
      refine V.iconst (v := (1 : Int32)) dX12_layWalks_87 (by decide) ?_
      refine V.iadd dX12_layWalks_88 ?_
      obtain ⟨v8, e23, hf⟩ := bS hf
      refine V.xldI dX12_layWalks_89 e23 ?_
      refine V.iadd dX12_layWalks_90 ?_
      refine V.iconst (v := (1 : Int32)) dX12_layWalks_91 (by decide) ?_
      obtain ⟨h9, e24, hf⟩ := bS hf
      refine V.xstI dX12_layWalks_92 e24 ?_
      refine V.aload_n dX12_layWalks_93 rfl 0 rfl ?_
      obtain ⟨v10, e25, hf⟩ := bS hf
      refine V.xgR dX12_layWalks_94 fl_RX12_45 e25 ?_
      refine V.bipush (v := (16 : Int32)) dX12_layWalks_97 (by decide) ?_
      refine V.aload_n dX12_layWalks_99 rfl 0 rfl ?_
      obtain ⟨v11, e26, hf⟩ := bS hf
      refine V.xgR dX12_layWalks_100 fl_RX12_9 e26 ?_
      refine V.iload_n dX12_layWalks_103 rfl 1 rfl ?_
      refine V.iconst (v := (1 : Int32)) dX12_layWalks_104 (by decide) ?_
      refine V.iadd dX12_layWalks_105 ?_
      obtain ⟨v12, e27, hf⟩ := bS hf
      refine V.xldI dX12_layWalks_106 e27 ?_
      refine V.imul dX12_layWalks_107 ?_
      refine V.aload_n dX12_layWalks_108 rfl 0 rfl ?_
      obtain ⟨v13, e28, hf⟩ := bS hf
      refine V.xgR dX12_layWalks_109 fl_RX12_9 e28 ?_
      refine V.iload_n dX12_layWalks_112 rfl 1 rfl ?_
      obtain ⟨v14, e29, hf⟩ := bS hf
      refine V.xldI dX12_layWalks_113 e29 ?_
      refine V.iadd dX12_layWalks_114 ?_
      refine V.iconst (v := (1 : Int32)) dX12_layWalks_115 (by decide) ?_
      obtain ⟨h15, e30, hf⟩ := bS hf
      refine V.xstI dX12_layWalks_116 e30 ?_
      refine V.iinc (v := (l1 + 4)) (lv' := [(1, .int (l1 + 4)), (0, .ref l0)]) dX12_layWalks_117 1 rfl rfl (Nat.le_of_ble_eq_true rfl) rfl ?_
      refine V.goto (tgt := 54) dX12_layWalks_120 (by decide) ?_
      refine V.sub [1, 0] rfl ?_
      exact ih _ _ _ _ hf

set_option maxRecDepth 20000 in
theorem w_X12_layWalks_2 : ∀ (n : Nat) (h : xH) (l0 : Nat) (l1 : Int32) (r : xH), f_X12_layWalks_2 n h l0 l1 = some r → V 4 yX12_layWalks cX12_layWalks 4 none [] none 2 [(0, .ref l0), (1, .int l1)] [] h (oVh r) := by
  intro n
  induction n with
  | zero => intro h l0 l1 r hf; cases hf
  | succ n ih =>
    intro h l0 l1 r hf
    rw [f_X12_layWalks_2] at hf
    refine V.iload_n dX12_layWalks_2 rfl 1 rfl ?_
    refine V.bipush (v := (16 : Int32)) dX12_layWalks_3 (by decide) ?_
    refine V.icmp_ge (tgt := 51) dX12_layWalks_5 (by decide) (fun c1 => ?_) (fun c1 => ?_)
    · rw [if_pos c1] at hf
      refine V.bipush (v := (8 : Int32)) dX12_layWalks_51 (by decide) ?_
      refine V.istore_n (lv' := [(1, .int (8 : Int32)), (0, .ref l0)]) dX12_layWalks_53 rfl (by decide) rfl ?_
      refine V.sub [1, 0] rfl ?_
      exact w_X12_layWalks_54 _ _ _ _ _ hf
    · rw [if_neg c1] at hf
      refine V.iconst (v := (0 : Int32)) dX12_layWalks_8 (by decide) ?_
      refine V.istore_n (lv' := [(2, .int (0 : Int32)), (0, .ref l0), (1, .int l1)]) dX12_layWalks_9 rfl (by decide) rfl ?_
      refine V.sub [1, 2, 0] rfl ?_
      exact w_X12_layWalks_10 ih _ _ _ _ _ _ hf

set_option maxRecDepth 20000 in
theorem w_X12_layWalks (h : xH) (l0 : Nat) (r : xH) (hf : f_X12_layWalks h l0 = some r) : Ev 4 yX12_layWalks cX12_layWalks 4 none [] [.ref l0] h (oVh r) := by
  refine Ev.of (by decide +kernel) (Nat.le_of_ble_eq_true rfl) ?_
  unfold f_X12_layWalks at hf
  refine V.iconst (v := (0 : Int32)) dX12_layWalks_0 (by decide) ?_
  refine V.istore_n (lv' := [(1, .int (0 : Int32)), (0, .ref l0)]) dX12_layWalks_1 rfl (by decide) rfl ?_
  refine V.sub [1, 0] rfl ?_
  exact w_X12_layWalks_2 _ _ _ _ _ hf

def f_X12_needed_4 (h : xH) : Nat → Nat → Int32 → Int32 → Int32 → Option (Int32)
  | 0, _, _, _, _ => none
  | n + 1, l0, l1, l2, l3 => (gR h l0 12 0).bind fun v1 => (ldI h .int v1 (4 : Int32)).bind fun v2 => (if v2 ≤ l3 then (some (l2)) else ((gO h l0 12).bind fun q4 => (f_X12_isWanted h l0 l3 l1).bind fun r5 => (if r5 = 0 then (f_X12_needed_4 h n l0 l1 l2 (l3 + 1)) else ((gR h l0 12 0).bind fun v7 => (ldI h .int v7 (((256 : Int32) + ((5 : Int32) * l3)) + (1 : Int32))).bind fun v8 => (if v8 ≤ 0 then (f_X12_needed_4 h n l0 l1 l2 (l3 + 1)) else ((gR h l0 12 0).bind fun v10 => (ldI h .int v10 ((256 : Int32) + ((5 : Int32) * l3))).bind fun v11 => f_X12_needed_4 h n l0 l1 (l2 ||| ((1 : Int32) <<< (v11 &&& 31))) (l3 + 1)))))))
def f_X12_needed (h : xH) (l0 : Nat) (l1 : Int32) : Option (Int32) := f_X12_needed_4 h xFU l0 l1 (0 : Int32) (0 : Int32)
set_option maxRecDepth 20000 in
theorem w_X12_needed_4 (h : xH) : ∀ (n : Nat) (l0 : Nat) (l1 : Int32) (l2 : Int32) (l3 : Int32) (r : Int32), f_X12_needed_4 h n l0 l1 l2 l3 = some r → V 5 yX12_needed cX12_needed 4 (some .int) [] none 4 [(0, .ref l0), (1, .int l1), (2, .int l2), (3, .int l3)] [] h (oI h r) := by
  intro n
  induction n with
  | zero => intro l0 l1 l2 l3 r hf; cases hf
  | succ n ih =>
    intro l0 l1 l2 l3 r hf
    rw [f_X12_needed_4] at hf
    refine V.iload_n dX12_needed_4 rfl 3 rfl ?_
    refine V.aload_n dX12_needed_5 rfl 0 rfl ?_
    obtain ⟨v1, e1, hf⟩ := bS hf
    refine V.xgR dX12_needed_6 fl_RX12_9 e1 ?_
    refine V.iconst (v := (4 : Int32)) dX12_needed_9 (by decide) ?_
    obtain ⟨v2, e2, hf⟩ := bS hf
    refine V.xldI dX12_needed_10 e2 ?_
    refine V.icmp_ge (tgt := 63) dX12_needed_11 (by decide) (fun c3 => ?_) (fun c3 => ?_)
    · rw [if_pos c3] at hf
      refine V.iload_n dX12_needed_63 rfl 2 rfl ?_
      obtain rfl := Option.some.inj hf
      exact V.iret dX12_needed_64
    · rw [if_neg c3] at hf
      refine V.aload_n dX12_needed_14 rfl 0 rfl ?_
      refine V.iload_n dX12_needed_15 rfl 3 rfl ?_
      refine V.iload_n dX12_needed_16 rfl 1 rfl ?_
      obtain ⟨q4, e3, hf⟩ := bS hf
      obtain ⟨r5, e4, hf⟩ := bS hf
      refine V.callV (As := [.int l3, .int l1]) (st := []) dX12_needed_17 cl_RX12_250 sw_yX12_isWanted (by decide) rfl (Nat.le_of_ble_eq_true rfl) rfl (gO_some e3) rfl (w_X12_isWanted _ _ _ _ _ e4) ?_
      refine V.if_eq (tgt := 57) dX12_needed_20 (by decide) (fun c6 => ?_) (fun c6 => ?_)
      · rw [if_pos c6] at hf
        refine V.iinc (v := (l3 + 1)) (lv' := [(3, .int (l3 + 1)), (0, .ref l0), (1, .int l1), (2, .int l2)]) dX12_needed_57 3 rfl rfl (Nat.le_of_ble_eq_true rfl) rfl ?_
        refine V.goto (tgt := 4) dX12_needed_60 (by decide) ?_
        refine V.sub [1, 2, 3, 0] rfl ?_
        exact ih _ _ _ _ _ hf
      · rw [if_neg c6] at hf
        refine V.aload_n dX12_needed_23 rfl 0 rfl ?_
        obtain ⟨v7, e5, hf⟩ := bS hf
        refine V.xgR dX12_needed_24 fl_RX12_9 e5 ?_
        refine V.sipush (v := (256 : Int32)) dX12_needed_27 (by decide) ?_
        refine V.iconst (v := (5 : Int32)) dX12_needed_30 (by decide) ?_
        refine V.iload_n dX12_needed_31 rfl 3 rfl ?_
        refine V.imul dX12_needed_32 ?_
        refine V.iadd dX12_needed_33 ?_
        refine V.iconst (v := (1 : Int32)) dX12_needed_34 (by decide) ?_
        refine V.iadd dX12_needed_35 ?_
        obtain ⟨v8, e6, hf⟩ := bS hf
        refine V.xldI dX12_needed_36 e6 ?_
        refine V.if_le (tgt := 57) dX12_needed_37 (by decide) (fun c9 => ?_) (fun c9 => ?_)
        · rw [if_pos c9] at hf
          refine V.iinc (v := (l3 + 1)) (lv' := [(3, .int (l3 + 1)), (0, .ref l0), (1, .int l1), (2, .int l2)]) dX12_needed_57 3 rfl rfl (Nat.le_of_ble_eq_true rfl) rfl ?_
          refine V.goto (tgt := 4) dX12_needed_60 (by decide) ?_
          refine V.sub [1, 2, 3, 0] rfl ?_
          exact ih _ _ _ _ _ hf
        · rw [if_neg c9] at hf
          refine V.iload_n dX12_needed_40 rfl 2 rfl ?_
          refine V.iconst (v := (1 : Int32)) dX12_needed_41 (by decide) ?_
          refine V.aload_n dX12_needed_42 rfl 0 rfl ?_
          obtain ⟨v10, e7, hf⟩ := bS hf
          refine V.xgR dX12_needed_43 fl_RX12_9 e7 ?_
          refine V.sipush (v := (256 : Int32)) dX12_needed_46 (by decide) ?_
          refine V.iconst (v := (5 : Int32)) dX12_needed_49 (by decide) ?_
          refine V.iload_n dX12_needed_50 rfl 3 rfl ?_
          refine V.imul dX12_needed_51 ?_
          refine V.iadd dX12_needed_52 ?_
          obtain ⟨v11, e8, hf⟩ := bS hf
          refine V.xldI dX12_needed_53 e8 ?_
          refine V.ishl dX12_needed_54 ?_
          refine V.ior dX12_needed_55 ?_
          refine V.istore_n (lv' := [(2, .int (l2 ||| ((1 : Int32) <<< (v11 &&& 31)))), (0, .ref l0), (1, .int l1), (3, .int l3)]) dX12_needed_56 rfl (by decide) rfl ?_
          refine V.iinc (v := (l3 + 1)) (lv' := [(3, .int (l3 + 1)), (2, .int (l2 ||| ((1 : Int32) <<< (v11 &&& 31)))), (0, .ref l0), (1, .int l1)]) dX12_needed_57 3 rfl rfl (Nat.le_of_ble_eq_true rfl) rfl ?_
          refine V.goto (tgt := 4) dX12_needed_60 (by decide) ?_
          refine V.sub [2, 3, 1, 0] rfl ?_
          exact ih _ _ _ _ _ hf

set_option maxRecDepth 20000 in
theorem w_X12_needed (h : xH) (l0 : Nat) (l1 : Int32) (r : Int32) (hf : f_X12_needed h l0 l1 = some r) : Ev 5 yX12_needed cX12_needed 4 (some .int) [] [.ref l0, .int l1] h (oI h r) := by
  refine Ev.of (by decide +kernel) (Nat.le_of_ble_eq_true rfl) ?_
  unfold f_X12_needed at hf
  refine V.iconst (v := (0 : Int32)) dX12_needed_0 (by decide) ?_
  refine V.istore_n (lv' := [(2, .int (0 : Int32)), (0, .ref l0), (1, .int l1)]) dX12_needed_1 rfl (by decide) rfl ?_
  refine V.iconst (v := (0 : Int32)) dX12_needed_2 (by decide) ?_
  refine V.istore_n (lv' := [(3, .int (0 : Int32)), (2, .int (0 : Int32)), (0, .ref l0), (1, .int l1)]) dX12_needed_3 rfl (by decide) rfl ?_
  refine V.sub [2, 3, 1, 0] rfl ?_
  exact w_X12_needed_4 h _ _ _ _ _ _ hf

def f_X12_walked_43 (h : xH) (s0 : Int32) (s1 : Int32) : Option (Int32) := some ((s1 + s0))
def f_X12_walked (h : xH) (l0 : Nat) (l1 : Int32) (l2 : Int32) (l3 : Int32) : Option (Int32) := (gR h l0 12 21).bind fun v1 => (dvI l2 (16 : Int32)).bind fun v2 => (dvI l3 (16 : Int32)).bind fun v3 => (ldI h .int v1 (((16 : Int32) * v2) + v3)).bind fun v4 => (if l1 = (2 : Int32) then ((gR h l0 12 21).bind fun v6 => (rmI l2 (16 : Int32)).bind fun v7 => (rmI l3 (16 : Int32)).bind fun v8 => (ldI h .int v6 (((16 : Int32) * v7) + v8)).bind fun v9 => f_X12_walked_43 h v9 v4) else (f_X12_walked_43 h (0 : Int32) v4))
set_option maxRecDepth 20000 in
theorem w_X12_walked_43 (h : xH) (s0 : Int32) (s1 : Int32) (r : Int32) (hf : f_X12_walked_43 h s0 s1 = some r) : V 3 yX12_walked cX12_walked 4 (some .int) [] none 43 [] [.int s0, .int s1] h (oI h r) := by
  unfold f_X12_walked_43 at hf
  refine V.iadd dX12_walked_43 ?_
  obtain rfl := Option.some.inj hf
  exact V.iret dX12_walked_44

set_option maxRecDepth 20000 in
theorem w_X12_walked (h : xH) (l0 : Nat) (l1 : Int32) (l2 : Int32) (l3 : Int32) (r : Int32) (hf : f_X12_walked h l0 l1 l2 l3 = some r) : Ev 3 yX12_walked cX12_walked 4 (some .int) [] [.ref l0, .int l1, .int l2, .int l3] h (oI h r) := by
  refine Ev.of (by decide +kernel) (Nat.le_of_ble_eq_true rfl) ?_
  unfold f_X12_walked at hf
  refine V.aload_n dX12_walked_0 rfl 0 rfl ?_
  obtain ⟨v1, e1, hf⟩ := bS hf
  refine V.xgR dX12_walked_1 fl_RX12_45 e1 ?_
  refine V.bipush (v := (16 : Int32)) dX12_walked_4 (by decide) ?_
  refine V.iload_n dX12_walked_6 rfl 2 rfl ?_
  refine V.bipush (v := (16 : Int32)) dX12_walked_7 (by decide) ?_
  obtain ⟨v2, e2, hf⟩ := bS hf
  refine V.xdvI dX12_walked_9 e2 ?_
  refine V.imul dX12_walked_10 ?_
  refine V.iload_n dX12_walked_11 rfl 3 rfl ?_
  refine V.bipush (v := (16 : Int32)) dX12_walked_12 (by decide) ?_
  obtain ⟨v3, e3, hf⟩ := bS hf
  refine V.xdvI dX12_walked_14 e3 ?_
  refine V.iadd dX12_walked_15 ?_
  obtain ⟨v4, e4, hf⟩ := bS hf
  refine V.xldI dX12_walked_16 e4 ?_
  refine V.iload_n dX12_walked_17 rfl 1 rfl ?_
  refine V.iconst (v := (2 : Int32)) dX12_walked_18 (by decide) ?_
  refine V.icmp_ne (tgt := 42) dX12_walked_19 (by decide) (fun c5 => ?_) (fun c5 => ?_)
  · rw [if_neg c5] at hf
    refine V.iconst (v := (0 : Int32)) dX12_walked_42 (by decide) ?_
    refine V.sub [] rfl ?_
    exact w_X12_walked_43 _ _ _ _ hf
  · rw [if_pos c5] at hf
    refine V.aload_n dX12_walked_22 rfl 0 rfl ?_
    obtain ⟨v6, e5, hf⟩ := bS hf
    refine V.xgR dX12_walked_23 fl_RX12_45 e5 ?_
    refine V.bipush (v := (16 : Int32)) dX12_walked_26 (by decide) ?_
    refine V.iload_n dX12_walked_28 rfl 2 rfl ?_
    refine V.bipush (v := (16 : Int32)) dX12_walked_29 (by decide) ?_
    obtain ⟨v7, e6, hf⟩ := bS hf
    refine V.xrmI dX12_walked_31 e6 ?_
    refine V.imul dX12_walked_32 ?_
    refine V.iload_n dX12_walked_33 rfl 3 rfl ?_
    refine V.bipush (v := (16 : Int32)) dX12_walked_34 (by decide) ?_
    obtain ⟨v8, e7, hf⟩ := bS hf
    refine V.xrmI dX12_walked_36 e7 ?_
    refine V.iadd dX12_walked_37 ?_
    obtain ⟨v9, e8, hf⟩ := bS hf
    refine V.xldI dX12_walked_38 e8 ?_
    refine V.goto (tgt := 43) dX12_walked_39 (by decide) ?_
    refine V.sub [] rfl ?_
    exact w_X12_walked_43 _ _ _ _ hf

def f_X12_onward_8 (h : xH) : Nat → Nat → Int32 → Int32 → Int32 → Int32 → Int32 → Option (Int32)
  | 0, _, _, _, _, _, _ => none
  | n + 1, l0, l1, l2, l3, l4, l5 => (if (256 : Int32) ≤ l5 then (some (l4)) else ((gO h l0 12).bind fun q2 => (f_X12_isPlace h l0 l1 l5).bind fun r3 => (if r3 = 0 then (f_X12_onward_8 h n l0 l1 l2 l3 l4 (l5 + 1)) else ((gO h l0 12).bind fun q5 => (f_X12_walked h l0 l1 l2 l5).bind fun r6 => (gR h l0 12 22).bind fun v7 => (ldI h .int v7 (((256 : Int32) * (l3 + (1 : Int32))) + l5)).bind fun v8 => f_X12_onward_8 h n l0 l1 l2 l3 (if (r6 + v8) < l4 then (r6 + v8) else l4) (l5 + 1)))))
def f_X12_onward (h : xH) (l0 : Nat) (l1 : Int32) (l2 : Int32) (l3 : Int32) : Option (Int32) := f_X12_onward_8 h xFU l0 l1 l2 l3 (1000000 : Int32) (0 : Int32)
set_option maxRecDepth 20000 in
theorem w_X12_onward_8 (h : xH) : ∀ (n : Nat) (l0 : Nat) (l1 : Int32) (l2 : Int32) (l3 : Int32) (l4 : Int32) (l5 : Int32) (r : Int32), f_X12_onward_8 h n l0 l1 l2 l3 l4 l5 = some r → V 5 yX12_onward cX12_onward 6 (some .int) [] none 8 [(0, .ref l0), (1, .int l1), (2, .int l2), (3, .int l3), (4, .int l4), (5, .int l5)] [] h (oI h r) := by
  intro n
  induction n with
  | zero => intro l0 l1 l2 l3 l4 l5 r hf; cases hf
  | succ n ih =>
    intro l0 l1 l2 l3 l4 l5 r hf
    rw [f_X12_onward_8] at hf
    refine V.iload dX12_onward_8 5 rfl ?_
    refine V.sipush (v := (256 : Int32)) dX12_onward_10 (by decide) ?_
    refine V.icmp_ge (tgt := 63) dX12_onward_13 (by decide) (fun c1 => ?_) (fun c1 => ?_)
    · rw [if_pos c1] at hf
      refine V.iload dX12_onward_63 4 rfl ?_
      obtain rfl := Option.some.inj hf
      exact V.iret dX12_onward_65
    · rw [if_neg c1] at hf
      refine V.aload_n dX12_onward_16 rfl 0 rfl ?_
      refine V.iload_n dX12_onward_17 rfl 1 rfl ?_
      refine V.iload dX12_onward_18 5 rfl ?_
      obtain ⟨q2, e1, hf⟩ := bS hf
      obtain ⟨r3, e2, hf⟩ := bS hf
      refine V.callV (As := [.int l1, .int l5]) (st := []) dX12_onward_20 cl_RX12_353 sw_yX12_isPlace (by decide) rfl (Nat.le_of_ble_eq_true rfl) rfl (gO_some e1) rfl (w_X12_isPlace _ _ _ _ _ e2) ?_
      refine V.if_eq (tgt := 57) dX12_onward_23 (by decide) (fun c4 => ?_) (fun c4 => ?_)
      · rw [if_pos c4] at hf
        refine V.iinc (v := (l5 + 1)) (lv' := [(5, .int (l5 + 1)), (0, .ref l0), (1, .int l1), (2, .int l2), (3, .int l3), (4, .int l4)]) dX12_onward_57 5 rfl rfl (Nat.le_of_ble_eq_true rfl) rfl ?_
        refine V.goto (tgt := 8) dX12_onward_60 (by decide) ?_
        refine V.sub [1, 2, 3, 4, 5, 0] rfl ?_
        exact ih _ _ _ _ _ _ _ hf
      · rw [if_neg c4] at hf
        refine V.iload dX12_onward_26 4 rfl ?_
        refine V.aload_n dX12_onward_28 rfl 0 rfl ?_
        refine V.iload_n dX12_onward_29 rfl 1 rfl ?_
        refine V.iload_n dX12_onward_30 rfl 2 rfl ?_
        refine V.iload dX12_onward_31 5 rfl ?_
        obtain ⟨q5, e3, hf⟩ := bS hf
        obtain ⟨r6, e4, hf⟩ := bS hf
        refine V.callV (As := [.int l1, .int l2, .int l5]) (st := [.int l4]) dX12_onward_33 cl_RX12_362 sw_yX12_walked (by decide) rfl (Nat.le_of_ble_eq_true rfl) rfl (gO_some e3) rfl (w_X12_walked _ _ _ _ _ _ e4) ?_
        refine V.aload_n dX12_onward_36 rfl 0 rfl ?_
        obtain ⟨v7, e5, hf⟩ := bS hf
        refine V.xgR dX12_onward_37 fl_RX12_48 e5 ?_
        refine V.sipush (v := (256 : Int32)) dX12_onward_40 (by decide) ?_
        refine V.iload_n dX12_onward_43 rfl 3 rfl ?_
        refine V.iconst (v := (1 : Int32)) dX12_onward_44 (by decide) ?_
        refine V.iadd dX12_onward_45 ?_
        refine V.imul dX12_onward_46 ?_
        refine V.iload dX12_onward_47 5 rfl ?_
        refine V.iadd dX12_onward_49 ?_
        obtain ⟨v8, e6, hf⟩ := bS hf
        refine V.xldI dX12_onward_50 e6 ?_
        refine V.iadd dX12_onward_51 ?_
        refine V.mmin dX12_onward_52 ml_RX12_344 ms_min mi_ mc_min (Nat.le_of_ble_eq_true rfl) ?_
        refine V.istore (lv' := [(4, .int (if (r6 + v8) < l4 then (r6 + v8) else l4)), (0, .ref l0), (1, .int l1), (2, .int l2), (3, .int l3), (5, .int l5)]) dX12_onward_55 (by decide) rfl ?_
        refine V.iinc (v := (l5 + 1)) (lv' := [(5, .int (l5 + 1)), (4, .int (if (r6 + v8) < l4 then (r6 + v8) else l4)), (0, .ref l0), (1, .int l1), (2, .int l2), (3, .int l3)]) dX12_onward_57 5 rfl rfl (Nat.le_of_ble_eq_true rfl) rfl ?_
        refine V.goto (tgt := 8) dX12_onward_60 (by decide) ?_
        refine V.sub [2, 3, 4, 5, 1, 0] rfl ?_
        exact ih _ _ _ _ _ _ _ hf

set_option maxRecDepth 20000 in
theorem w_X12_onward (h : xH) (l0 : Nat) (l1 : Int32) (l2 : Int32) (l3 : Int32) (r : Int32) (hf : f_X12_onward h l0 l1 l2 l3 = some r) : Ev 5 yX12_onward cX12_onward 6 (some .int) [] [.ref l0, .int l1, .int l2, .int l3] h (oI h r) := by
  refine Ev.of (by decide +kernel) (Nat.le_of_ble_eq_true rfl) ?_
  unfold f_X12_onward at hf
  refine V.ldcw (v := 1000000) dX12_onward_0 co_RX12_343 ?_
  refine V.istore (lv' := [(4, .int (1000000 : Int32)), (0, .ref l0), (1, .int l1), (2, .int l2), (3, .int l3)]) dX12_onward_3 (by decide) rfl ?_
  refine V.iconst (v := (0 : Int32)) dX12_onward_5 (by decide) ?_
  refine V.istore (lv' := [(5, .int (0 : Int32)), (4, .int (1000000 : Int32)), (0, .ref l0), (1, .int l1), (2, .int l2), (3, .int l3)]) dX12_onward_6 (by decide) rfl ?_
  refine V.sub [2, 3, 4, 5, 1, 0] rfl ?_
  exact w_X12_onward_8 h _ _ _ _ _ _ _ _ hf

def f_X12_layCarried_88 (k11 : xH → Nat → Int32 → Int32 → Int32 → Int32 → Option (xH)) (k28 : xH → Nat → Int32 → Int32 → Int32 → Int32 → Int32 → Int32 → Option (xH)) (h : xH) (l0 : Nat) (l1 : Int32) (l2 : Int32) (l3 : Int32) (l4 : Int32) (l5 : Int32) (l6 : Int32) (s0 : Int32) : Option (xH) := (gR h l0 12 22).bind fun v1 => (stI h .int v1 (((256 : Int32) * (l4 - l2)) + l6) s0).bind fun h2 => k28 h2 l0 l1 l2 l3 l4 l5 (l6 + 1)
def f_X12_layCarried_61 (k11 : xH → Nat → Int32 → Int32 → Int32 → Int32 → Option (xH)) (k28 : xH → Nat → Int32 → Int32 → Int32 → Int32 → Int32 → Int32 → Option (xH)) (h : xH) (l0 : Nat) (l1 : Int32) (l2 : Int32) (l3 : Int32) (l4 : Int32) (l5 : Int32) (l6 : Int32) : Option (xH) := f_X12_layCarried_88 k11 k28 h l0 l1 l2 l3 l4 l5 l6 (1000000 : Int32)
def f_X12_layCarried_28 (k11 : xH → Nat → Int32 → Int32 → Int32 → Int32 → Option (xH)) : Nat → xH → Nat → Int32 → Int32 → Int32 → Int32 → Int32 → Int32 → Option (xH)
  | 0, _, _, _, _, _, _, _, _ => none
  | n + 1, h, l0, l1, l2, l3, l4, l5, l6 => (if (256 : Int32) ≤ l6 then (k11 h l0 l1 l2 l3 (l4 + (-1))) else ((gO h l0 12).bind fun q2 => (f_X12_isPlace h l0 l1 l6).bind fun r3 => (if r3 = 0 then (f_X12_layCarried_61 k11 (f_X12_layCarried_28 k11 n) h l0 l1 l2 l3 l4 l5 l6) else ((f_X12_bits h l1 l6).bind fun r5 => (gO h l0 12).bind fun q6 => (f_X12_isLit h l0 r5 l5).bind fun r7 => (if r7 = 0 then (f_X12_layCarried_61 k11 (f_X12_layCarried_28 k11 n) h l0 l1 l2 l3 l4 l5 l6) else ((if l4 = l3 then (f_X12_layCarried_88 k11 (f_X12_layCarried_28 k11 n) h l0 l1 l2 l3 l4 l5 l6 (0 : Int32)) else ((gO h l0 12).bind fun q10 => (f_X12_onward h l0 l1 l6 (l4 - l2)).bind fun r11 => f_X12_layCarried_88 k11 (f_X12_layCarried_28 k11 n) h l0 l1 l2 l3 l4 l5 l6 r11))))))))
def f_X12_layCarried_11 : Nat → xH → Nat → Int32 → Int32 → Int32 → Int32 → Option (xH)
  | 0, _, _, _, _, _, _ => none
  | n + 1, h, l0, l1, l2, l3, l4 => (if l4 < l2 then (some (h)) else ((gO h l0 12).bind fun q2 => (f_X12_needed h l0 l4).bind fun r3 => f_X12_layCarried_28 (f_X12_layCarried_11 n) xFU h l0 l1 l2 l3 l4 r3 (0 : Int32)))
def f_X12_layCarried (h : xH) (l0 : Nat) (l1 : Int32) (l2 : Int32) (l3 : Int32) : Option (xH) := (gO h l0 12).bind fun q1 => (f_X12_layWalks h l0).bind fun r2 => (gO r2 l0 12).bind fun q3 => (f_X12_layNexts r2 l0).bind fun r4 => f_X12_layCarried_11 xFU r4 l0 l1 l2 l3 l3
set_option maxRecDepth 20000 in
theorem w_X12_layCarried_88 (h : xH) {k11 : xH → Nat → Int32 → Int32 → Int32 → Int32 → Option (xH)} (hk11 : ∀ (h : xH) (l0 : Nat) (l1 : Int32) (l2 : Int32) (l3 : Int32) (l4 : Int32) (r : xH), k11 h l0 l1 l2 l3 l4 = some r → V 6 yX12_layCarried cX12_layCarried 8 none [] none 11 [(0, .ref l0), (1, .int l1), (2, .int l2), (3, .int l3), (4, .int l4)] [] h (oVh r)) {k28 : xH → Nat → Int32 → Int32 → Int32 → Int32 → Int32 → Int32 → Option (xH)} (hk28 : ∀ (h : xH) (l0 : Nat) (l1 : Int32) (l2 : Int32) (l3 : Int32) (l4 : Int32) (l5 : Int32) (l6 : Int32) (r : xH), k28 h l0 l1 l2 l3 l4 l5 l6 = some r → V 6 yX12_layCarried cX12_layCarried 8 none [] none 28 [(0, .ref l0), (1, .int l1), (2, .int l2), (3, .int l3), (4, .int l4), (5, .int l5), (6, .int l6)] [] h (oVh r)) (l0 : Nat) (l1 : Int32) (l2 : Int32) (l3 : Int32) (l4 : Int32) (l5 : Int32) (l6 : Int32) (s0 : Int32) (r : xH) (hf : f_X12_layCarried_88 k11 k28 h l0 l1 l2 l3 l4 l5 l6 s0 = some r) : V 6 yX12_layCarried cX12_layCarried 8 none [] none 88 [(0, .ref l0), (1, .int l1), (2, .int l2), (3, .int l3), (4, .int l4), (5, .int l5), (6, .int l6)] [.int s0] h (oVh r) := by
  unfold f_X12_layCarried_88 at hf
  refine V.istore (lv' := [(7, .int s0), (0, .ref l0), (1, .int l1), (2, .int l2), (3, .int l3), (4, .int l4), (5, .int l5), (6, .int l6)]) dX12_layCarried_88 (by decide) rfl ?_
  refine V.aload_n dX12_layCarried_90 rfl 1 rfl ?_
  obtain ⟨v1, e1, hf⟩ := bS hf
  refine V.xgR dX12_layCarried_91 fl_RX12_48 e1 ?_
  refine V.sipush (v := (256 : Int32)) dX12_layCarried_94 (by decide) ?_
  refine V.iload dX12_layCarried_97 5 rfl ?_
  refine V.iload_n dX12_layCarried_99 rfl 3 rfl ?_
  refine V.isub dX12_layCarried_100 ?_
  refine V.imul dX12_layCarried_101 ?_
  refine V.iload dX12_layCarried_102 7 rfl ?_
  refine V.iadd dX12_layCarried_104 ?_
  refine V.iload dX12_layCarried_105 0 rfl ?_
  obtain ⟨h2, e2, hf⟩ := bS hf
  refine V.xstI dX12_layCarried_107 e2 ?_
  refine V.iinc (v := (l6 + 1)) (lv' := [(6, .int (l6 + 1)), (7, .int s0), (0, .ref l0), (1, .int l1), (2, .int l2), (3, .int l3), (4, .int l4), (5, .int l5)]) dX12_layCarried_108 7 rfl rfl (Nat.le_of_ble_eq_true rfl) rfl ?_
  refine V.goto (tgt := 28) dX12_layCarried_111 (by decide) ?_
  refine V.sub [2, 3, 4, 5, 6, 7, 0] rfl ?_
  exact hk28 _ _ _ _ _ _ _ _ _ hf

set_option maxRecDepth 20000 in
theorem w_X12_layCarried_61 (h : xH) {k11 : xH → Nat → Int32 → Int32 → Int32 → Int32 → Option (xH)} (hk11 : ∀ (h : xH) (l0 : Nat) (l1 : Int32) (l2 : Int32) (l3 : Int32) (l4 : Int32) (r : xH), k11 h l0 l1 l2 l3 l4 = some r → V 6 yX12_layCarried cX12_layCarried 8 none [] none 11 [(0, .ref l0), (1, .int l1), (2, .int l2), (3, .int l3), (4, .int l4)] [] h (oVh r)) {k28 : xH → Nat → Int32 → Int32 → Int32 → Int32 → Int32 → Int32 → Option (xH)} (hk28 : ∀ (h : xH) (l0 : Nat) (l1 : Int32) (l2 : Int32) (l3 : Int32) (l4 : Int32) (l5 : Int32) (l6 : Int32) (r : xH), k28 h l0 l1 l2 l3 l4 l5 l6 = some r → V 6 yX12_layCarried cX12_layCarried 8 none [] none 28 [(0, .ref l0), (1, .int l1), (2, .int l2), (3, .int l3), (4, .int l4), (5, .int l5), (6, .int l6)] [] h (oVh r)) (l0 : Nat) (l1 : Int32) (l2 : Int32) (l3 : Int32) (l4 : Int32) (l5 : Int32) (l6 : Int32) (r : xH) (hf : f_X12_layCarried_61 k11 k28 h l0 l1 l2 l3 l4 l5 l6 = some r) : V 6 yX12_layCarried cX12_layCarried 8 none [] none 61 [(0, .ref l0), (1, .int l1), (2, .int l2), (3, .int l3), (4, .int l4), (5, .int l5), (6, .int l6)] [] h (oVh r) := by
  unfold f_X12_layCarried_61 at hf
  refine V.ldcw (v := 1000000) dX12_layCarried_61 co_RX12_343 ?_
  refine V.goto (tgt := 88) dX12_layCarried_64 (by decide) ?_
  exact w_X12_layCarried_88 _ hk11 hk28 _ _ _ _ _ _ _ _ _ hf

set_option maxRecDepth 20000 in
theorem w_X12_layCarried_28 {k11 : xH → Nat → Int32 → Int32 → Int32 → Int32 → Option (xH)} (hk11 : ∀ (h : xH) (l0 : Nat) (l1 : Int32) (l2 : Int32) (l3 : Int32) (l4 : Int32) (r : xH), k11 h l0 l1 l2 l3 l4 = some r → V 6 yX12_layCarried cX12_layCarried 8 none [] none 11 [(0, .ref l0), (1, .int l1), (2, .int l2), (3, .int l3), (4, .int l4)] [] h (oVh r)) : ∀ (n : Nat) (h : xH) (l0 : Nat) (l1 : Int32) (l2 : Int32) (l3 : Int32) (l4 : Int32) (l5 : Int32) (l6 : Int32) (r : xH), f_X12_layCarried_28 k11 n h l0 l1 l2 l3 l4 l5 l6 = some r → V 6 yX12_layCarried cX12_layCarried 8 none [] none 28 [(0, .ref l0), (1, .int l1), (2, .int l2), (3, .int l3), (4, .int l4), (5, .int l5), (6, .int l6)] [] h (oVh r) := by
  intro n
  induction n with
  | zero => intro h l0 l1 l2 l3 l4 l5 l6 r hf; cases hf
  | succ n ih =>
    intro h l0 l1 l2 l3 l4 l5 l6 r hf
    rw [f_X12_layCarried_28] at hf
    refine V.iload dX12_layCarried_28 6 rfl ?_
    refine V.sipush (v := (256 : Int32)) dX12_layCarried_30 (by decide) ?_
    refine V.icmp_ge (tgt := 114) dX12_layCarried_33 (by decide) (fun c1 => ?_) (fun c1 => ?_)
    · rw [if_pos c1] at hf
      refine V.iinc (v := (l4 + (-1))) (lv' := [(4, .int (l4 + (-1))), (0, .ref l0), (1, .int l1), (2, .int l2), (3, .int l3), (5, .int l5), (6, .int l6)]) dX12_layCarried_114 4 rfl rfl (Nat.le_of_ble_eq_true rfl) rfl ?_
      refine V.goto (tgt := 11) dX12_layCarried_117 (by decide) ?_
      refine V.sub [1, 2, 3, 4, 0] rfl ?_
      exact hk11 _ _ _ _ _ _ _ hf
    · rw [if_neg c1] at hf
      refine V.aload_n dX12_layCarried_36 rfl 0 rfl ?_
      refine V.iload_n dX12_layCarried_37 rfl 1 rfl ?_
      refine V.iload dX12_layCarried_38 6 rfl ?_
      obtain ⟨q2, e3, hf⟩ := bS hf
      obtain ⟨r3, e4, hf⟩ := bS hf
      refine V.callV (As := [.int l1, .int l6]) (st := []) dX12_layCarried_40 cl_RX12_353 sw_yX12_isPlace (by decide) rfl (Nat.le_of_ble_eq_true rfl) rfl (gO_some e3) rfl (w_X12_isPlace _ _ _ _ _ e4) ?_
      refine V.if_eq (tgt := 61) dX12_layCarried_43 (by decide) (fun c4 => ?_) (fun c4 => ?_)
      · rw [if_pos c4] at hf
        exact w_X12_layCarried_61 _ hk11 ih _ _ _ _ _ _ _ _ hf
      · rw [if_neg c4] at hf
        refine V.aload_n dX12_layCarried_46 rfl 0 rfl ?_
        refine V.iload_n dX12_layCarried_47 rfl 1 rfl ?_
        refine V.iload dX12_layCarried_48 6 rfl ?_
        obtain ⟨r5, e5, hf⟩ := bS hf
        refine V.callS (As := [.int l1, .int l6]) (st := [.ref l0]) dX12_layCarried_50 cl_RX12_356 sw_yX12_bits (by decide) rfl (Nat.le_of_ble_eq_true rfl) rfl (w_X12_bits _ _ _ _ e5) ?_
        refine V.iload dX12_layCarried_53 5 rfl ?_
        obtain ⟨q6, e6, hf⟩ := bS hf
        obtain ⟨r7, e7, hf⟩ := bS hf
        refine V.callV (As := [.int r5, .int l5]) (st := []) dX12_layCarried_55 cl_RX12_294 sw_yX12_isLit (by decide) rfl (Nat.le_of_ble_eq_true rfl) rfl (gO_some e6) rfl (w_X12_isLit _ _ _ _ _ e7) ?_
        refine V.if_ne (tgt := 67) dX12_layCarried_58 (by decide) (fun c8 => ?_) (fun c8 => ?_)
        · rw [if_neg c8] at hf
          refine V.iload dX12_layCarried_67 4 rfl ?_
          refine V.iload_n dX12_layCarried_69 rfl 3 rfl ?_
          refine V.icmp_ne (tgt := 77) dX12_layCarried_70 (by decide) (fun c9 => ?_) (fun c9 => ?_)
          · rw [if_neg c9] at hf
            refine V.aload_n dX12_layCarried_77 rfl 0 rfl ?_
            refine V.iload_n dX12_layCarried_78 rfl 1 rfl ?_
            refine V.iload dX12_layCarried_79 6 rfl ?_
            refine V.iload dX12_layCarried_81 4 rfl ?_
            refine V.iload_n dX12_layCarried_83 rfl 2 rfl ?_
            refine V.isub dX12_layCarried_84 ?_
            obtain ⟨q10, e8, hf⟩ := bS hf
            obtain ⟨r11, e9, hf⟩ := bS hf
            refine V.callV (As := [.int l1, .int l6, .int (l4 - l2)]) (st := []) dX12_layCarried_85 cl_RX12_359 sw_yX12_onward (by decide) rfl (Nat.le_of_ble_eq_true rfl) rfl (gO_some e8) rfl (w_X12_onward _ _ _ _ _ _ e9) ?_
            exact w_X12_layCarried_88 _ hk11 ih _ _ _ _ _ _ _ _ _ hf
          · rw [if_pos c9] at hf
            refine V.iconst (v := (0 : Int32)) dX12_layCarried_73 (by decide) ?_
            refine V.goto (tgt := 88) dX12_layCarried_74 (by decide) ?_
            exact w_X12_layCarried_88 _ hk11 ih _ _ _ _ _ _ _ _ _ hf
        · rw [if_pos c8] at hf
          exact w_X12_layCarried_61 _ hk11 ih _ _ _ _ _ _ _ _ hf

set_option maxRecDepth 20000 in
theorem w_X12_layCarried_11 : ∀ (n : Nat) (h : xH) (l0 : Nat) (l1 : Int32) (l2 : Int32) (l3 : Int32) (l4 : Int32) (r : xH), f_X12_layCarried_11 n h l0 l1 l2 l3 l4 = some r → V 6 yX12_layCarried cX12_layCarried 8 none [] none 11 [(0, .ref l0), (1, .int l1), (2, .int l2), (3, .int l3), (4, .int l4)] [] h (oVh r) := by
  intro n
  induction n with
  | zero => intro h l0 l1 l2 l3 l4 r hf; cases hf
  | succ n ih =>
    intro h l0 l1 l2 l3 l4 r hf
    rw [f_X12_layCarried_11] at hf
    refine V.iload dX12_layCarried_11 4 rfl ?_
    refine V.iload_n dX12_layCarried_13 rfl 2 rfl ?_
    refine V.icmp_lt (tgt := 120) dX12_layCarried_14 (by decide) (fun c1 => ?_) (fun c1 => ?_)
    · rw [if_pos c1] at hf
      obtain rfl := Option.some.inj hf
      exact V.vret dX12_layCarried_120
    · rw [if_neg c1] at hf
      refine V.aload_n dX12_layCarried_17 rfl 0 rfl ?_
      refine V.iload dX12_layCarried_18 4 rfl ?_
      obtain ⟨q2, e10, hf⟩ := bS hf
      obtain ⟨r3, e11, hf⟩ := bS hf
      refine V.callV (As := [.int l4]) (st := []) dX12_layCarried_20 cl_RX12_350 sw_yX12_needed (by decide) rfl (Nat.le_of_ble_eq_true rfl) rfl (gO_some e10) rfl (w_X12_needed _ _ _ _ e11) ?_
      refine V.istore (lv' := [(5, .int r3), (0, .ref l0), (1, .int l1), (2, .int l2), (3, .int l3), (4, .int l4)]) dX12_layCarried_23 (by decide) rfl ?_
      refine V.iconst (v := (0 : Int32)) dX12_layCarried_25 (by decide) ?_
      refine V.istore (lv' := [(6, .int (0 : Int32)), (5, .int r3), (0, .ref l0), (1, .int l1), (2, .int l2), (3, .int l3), (4, .int l4)]) dX12_layCarried_26 (by decide) rfl ?_
      refine V.sub [2, 3, 4, 5, 6, 1, 0] rfl ?_
      exact w_X12_layCarried_28 ih _ _ _ _ _ _ _ _ _ _ hf

set_option maxRecDepth 20000 in
theorem w_X12_layCarried (h : xH) (l0 : Nat) (l1 : Int32) (l2 : Int32) (l3 : Int32) (r : xH) (hf : f_X12_layCarried h l0 l1 l2 l3 = some r) : Ev 6 yX12_layCarried cX12_layCarried 8 none [] [.ref l0, .int l1, .int l2, .int l3] h (oVh r) := by
  refine Ev.of (by decide +kernel) (Nat.le_of_ble_eq_true rfl) ?_
  unfold f_X12_layCarried at hf
  refine V.aload_n dX12_layCarried_0 rfl 0 rfl ?_
  obtain ⟨q1, e12, hf⟩ := bS hf
  obtain ⟨r2, e13, hf⟩ := bS hf
  refine V.callV (As := []) (st := []) dX12_layCarried_1 cl_RX12_347 sw_yX12_layWalks (by decide) rfl (Nat.le_of_ble_eq_true rfl) rfl (gO_some e12) rfl (w_X12_layWalks _ _ _ e13) ?_
  refine V.aload_n dX12_layCarried_4 rfl 0 rfl ?_
  obtain ⟨q3, e14, hf⟩ := bS hf
  obtain ⟨r4, e15, hf⟩ := bS hf
  refine V.callV (As := []) (st := []) dX12_layCarried_5 cl_RX12_291 sw_yX12_layNexts (by decide) rfl (Nat.le_of_ble_eq_true rfl) rfl (gO_some e14) rfl (w_X12_layNexts _ _ _ e15) ?_
  refine V.iload_n dX12_layCarried_8 rfl 3 rfl ?_
  refine V.istore (lv' := [(4, .int l3), (0, .ref l0), (1, .int l1), (2, .int l2), (3, .int l3)]) dX12_layCarried_9 (by decide) rfl ?_
  refine V.sub [1, 2, 3, 4, 0] rfl ?_
  exact w_X12_layCarried_11 _ _ _ _ _ _ _ _ hf

def f_X12_carry_196 (k168 : xH → Nat → Int32 → Int32 → Int32 → Int32 → Option (Int32 × xH)) : Nat → xH → Nat → Int32 → Int32 → Int32 → Int32 → Int32 → Int32 → Option (Int32 × xH)
  | 0, _, _, _, _, _, _, _, _ => none
  | n + 1, h, l0, l1, l4, l6, l7, l8, l9 => (gO h l0 12).bind fun q1 => (f_X12_isPlace h l0 l1 l9).bind fun r2 => (if r2 = 0 then (f_X12_carry_196 k168 n h l0 l1 l4 l6 l7 l8 (l9 + 1)) else ((gO h l0 12).bind fun q4 => (f_X12_walked h l0 l1 l6 l9).bind fun r5 => (gR h l0 12 22).bind fun v6 => (ldI h .int v6 (((256 : Int32) * (l7 + (1 : Int32))) + l9)).bind fun v7 => (if (r5 + v7) = l8 then (k168 h l0 l1 l4 l9 (l7 + 1)) else (f_X12_carry_196 k168 n h l0 l1 l4 l6 l7 l8 (l9 + 1)))))
def f_X12_carry_168 : Nat → xH → Nat → Int32 → Int32 → Int32 → Int32 → Option (Int32 × xH)
  | 0, _, _, _, _, _, _ => none
  | n + 1, h, l0, l1, l4, l6, l7 => (dvI l4 l1).bind fun v1 => (if v1 ≤ l7 then ((rmI l4 l1).bind fun v3 => (if v3 = 0 then ((dvI l6 (16 : Int32)).bind fun v6 => some ((v6, h))) else ((rmI l6 (16 : Int32)).bind fun v5 => some ((v5, h))))) else ((gR h l0 12 22).bind fun v7 => (ldI h .int v7 (((256 : Int32) * l7) + l6)).bind fun v8 => f_X12_carry_196 (f_X12_carry_168 n) xFU h l0 l1 l4 l6 l7 v8 (0 : Int32)))
def f_X12_carry_85 : Nat → xH → Nat → Int32 → Int32 → Int32 → Int32 → Option (Int32 × xH)
  | 0, _, _, _, _, _, _ => none
  | n + 1, h, l0, l1, l4, l5, l6 => (if (256 : Int32) ≤ l6 then ((gO h l0 12).bind fun q2 => (f_X12_rooms h l0).bind fun r3 => (if r3 = 0 then (some (((-1 : Int32), h))) else ((gR h l0 12 22).bind fun v5 => (ldI h .int v5 l5).bind fun v6 => (if v6 < (1000000 : Int32) then ((if l4 = (-1 : Int32) then ((gR h l0 12 22).bind fun v9 => (ldI h .int v9 l5).bind fun v10 => some ((v10, h))) else (f_X12_carry_168 xFU h l0 l1 l4 l5 (0 : Int32)))) else (some (((-1 : Int32), h))))))) else ((gR h l0 12 22).bind fun v11 => (ldI h .int v11 l6).bind fun v12 => (gR h l0 12 22).bind fun v13 => (ldI h .int v13 l5).bind fun v14 => (if v14 ≤ v12 then (f_X12_carry_85 n h l0 l1 l4 l5 (l6 + 1)) else (f_X12_carry_85 n h l0 l1 l4 l6 (l6 + 1)))))
def f_X12_carry_60 (h : xH) (l0 : Nat) (l1 : Int32) (l2 : Int32) (l3 : Int32) (l4 : Int32) (s0 : Int32) (s1 : Nat) : Option (Int32 × xH) := (pF h s1 12 4 (.int s0)).bind fun h1 => (gI h1 l0 12 4).bind fun v2 => (if v2 ≤ 0 then ((gO h1 l0 12).bind fun q4 => (f_X12_layCarried h1 l0 l1 l2 l3).bind fun r5 => f_X12_carry_85 xFU r5 l0 l1 l4 (0 : Int32) (1 : Int32)) else (some (((0 : Int32), h1))))
def f_X12_carry_59 (h : xH) (l0 : Nat) (l1 : Int32) (l2 : Int32) (l3 : Int32) (l4 : Int32) (s0 : Nat) : Option (Int32 × xH) := f_X12_carry_60 h l0 l1 l2 l3 l4 (1 : Int32) s0
def f_X12_carry (h : xH) (l0 : Nat) (l1 : Int32) (l2 : Int32) (l3 : Int32) (l4 : Int32) : Option (Int32 × xH) := (f_X12_within h (Int32.toInt64 l1) (1 : Int64) (2 : Int64)).bind fun r1 => (if r1 = 0 then (f_X12_carry_59 h l0 l1 l2 l3 l4 l0) else ((f_X12_isHour h l2).bind fun r3 => (if r3 = 0 then (f_X12_carry_59 h l0 l1 l2 l3 l4 l0) else ((f_X12_within h (Int32.toInt64 l3) (Int32.toInt64 l2) (23 : Int64)).bind fun r5 => (if r5 = 0 then (f_X12_carry_59 h l0 l1 l2 l3 l4 l0) else ((f_X12_within h (Int32.toInt64 l4) (-1 : Int64) (Int32.toInt64 ((((l3 - l2) + (1 : Int32)) * l1) - (1 : Int32)))).bind fun r7 => (if r7 = 0 then (f_X12_carry_59 h l0 l1 l2 l3 l4 l0) else (f_X12_carry_60 h l0 l1 l2 l3 l4 (0 : Int32) l0))))))))
set_option maxRecDepth 20000 in
theorem w_X12_carry_196 {k168 : xH → Nat → Int32 → Int32 → Int32 → Int32 → Option (Int32 × xH)} (hk168 : ∀ (h : xH) (l0 : Nat) (l1 : Int32) (l4 : Int32) (l6 : Int32) (l7 : Int32) (r : Int32 × xH), k168 h l0 l1 l4 l6 l7 = some r → V 7 yX12_carry cX12_carry 10 (some .int) [] none 168 [(0, .ref l0), (1, .int l1), (4, .int l4), (6, .int l6), (7, .int l7)] [] h (oIh r)) : ∀ (n : Nat) (h : xH) (l0 : Nat) (l1 : Int32) (l4 : Int32) (l6 : Int32) (l7 : Int32) (l8 : Int32) (l9 : Int32) (r : Int32 × xH), f_X12_carry_196 k168 n h l0 l1 l4 l6 l7 l8 l9 = some r → V 7 yX12_carry cX12_carry 10 (some .int) [] none 196 [(0, .ref l0), (1, .int l1), (4, .int l4), (6, .int l6), (7, .int l7), (8, .int l8), (9, .int l9)] [] h (oIh r) := by
  intro n
  induction n with
  | zero => intro h l0 l1 l4 l6 l7 l8 l9 r hf; cases hf
  | succ n ih =>
    intro h l0 l1 l4 l6 l7 l8 l9 r hf
    rw [f_X12_carry_196] at hf
    refine V.aload_n dX12_carry_196 rfl 0 rfl ?_
    refine V.iload_n dX12_carry_197 rfl 1 rfl ?_
    refine V.iload dX12_carry_198 6 rfl ?_
    obtain ⟨q1, e1, hf⟩ := bS hf
    obtain ⟨r2, e2, hf⟩ := bS hf
    refine V.callV (As := [.int l1, .int l9]) (st := []) dX12_carry_200 cl_RX12_353 sw_yX12_isPlace (by decide) rfl (Nat.le_of_ble_eq_true rfl) rfl (gO_some e1) rfl (w_X12_isPlace _ _ _ _ _ e2) ?_
    refine V.if_eq (tgt := 237) dX12_carry_203 (by decide) (fun c3 => ?_) (fun c3 => ?_)
    · rw [if_pos c3] at hf
      refine V.iinc (v := (l9 + 1)) (lv' := [(9, .int (l9 + 1)), (0, .ref l0), (1, .int l1), (4, .int l4), (6, .int l6), (7, .int l7), (8, .int l8)]) dX12_carry_237 6 rfl rfl (Nat.le_of_ble_eq_true rfl) rfl ?_
      refine V.goto (tgt := 196) dX12_carry_240 (by decide) ?_
      refine V.sub [1, 2, 3, 4, 5, 6, 0] rfl ?_
      exact ih _ _ _ _ _ _ _ _ _ hf
    · rw [if_neg c3] at hf
      refine V.aload_n dX12_carry_206 rfl 0 rfl ?_
      refine V.iload_n dX12_carry_207 rfl 1 rfl ?_
      refine V.iload dX12_carry_208 3 rfl ?_
      refine V.iload dX12_carry_210 6 rfl ?_
      obtain ⟨q4, e3, hf⟩ := bS hf
      obtain ⟨r5, e4, hf⟩ := bS hf
      refine V.callV (As := [.int l1, .int l6, .int l9]) (st := []) dX12_carry_212 cl_RX12_362 sw_yX12_walked (by decide) rfl (Nat.le_of_ble_eq_true rfl) rfl (gO_some e3) rfl (w_X12_walked _ _ _ _ _ _ e4) ?_
      refine V.aload_n dX12_carry_215 rfl 0 rfl ?_
      obtain ⟨v6, e5, hf⟩ := bS hf
      refine V.xgR dX12_carry_216 fl_RX12_48 e5 ?_
      refine V.sipush (v := (256 : Int32)) dX12_carry_219 (by decide) ?_
      refine V.iload dX12_carry_222 4 rfl ?_
      refine V.iconst (v := (1 : Int32)) dX12_carry_224 (by decide) ?_
      refine V.iadd dX12_carry_225 ?_
      refine V.imul dX12_carry_226 ?_
      refine V.iload dX12_carry_227 6 rfl ?_
      refine V.iadd dX12_carry_229 ?_
      obtain ⟨v7, e6, hf⟩ := bS hf
      refine V.xldI dX12_carry_230 e6 ?_
      refine V.iadd dX12_carry_231 ?_
      refine V.iload dX12_carry_232 5 rfl ?_
      refine V.icmp_eq (tgt := 243) dX12_carry_234 (by decide) (fun c8 => ?_) (fun c8 => ?_)
      · rw [if_pos c8] at hf
        refine V.iload dX12_carry_243 6 rfl ?_
        refine V.istore (lv' := [(6, .int l9), (0, .ref l0), (1, .int l1), (4, .int l4), (7, .int l7), (8, .int l8), (9, .int l9)]) dX12_carry_245 (by decide) rfl ?_
        refine V.iinc (v := (l7 + 1)) (lv' := [(7, .int (l7 + 1)), (6, .int l9), (0, .ref l0), (1, .int l1), (4, .int l4), (8, .int l8), (9, .int l9)]) dX12_carry_247 4 rfl rfl (Nat.le_of_ble_eq_true rfl) rfl ?_
        refine V.goto (tgt := 168) dX12_carry_250 (by decide) ?_
        refine V.sub [2, 3, 4, 1, 0] rfl ?_
        exact hk168 _ _ _ _ _ _ _ hf
      · rw [if_neg c8] at hf
        refine V.iinc (v := (l9 + 1)) (lv' := [(9, .int (l9 + 1)), (0, .ref l0), (1, .int l1), (4, .int l4), (6, .int l6), (7, .int l7), (8, .int l8)]) dX12_carry_237 6 rfl rfl (Nat.le_of_ble_eq_true rfl) rfl ?_
        refine V.goto (tgt := 196) dX12_carry_240 (by decide) ?_
        refine V.sub [1, 2, 3, 4, 5, 6, 0] rfl ?_
        exact ih _ _ _ _ _ _ _ _ _ hf

set_option maxRecDepth 20000 in
theorem w_X12_carry_168 : ∀ (n : Nat) (h : xH) (l0 : Nat) (l1 : Int32) (l4 : Int32) (l6 : Int32) (l7 : Int32) (r : Int32 × xH), f_X12_carry_168 n h l0 l1 l4 l6 l7 = some r → V 7 yX12_carry cX12_carry 10 (some .int) [] none 168 [(0, .ref l0), (1, .int l1), (4, .int l4), (6, .int l6), (7, .int l7)] [] h (oIh r) := by
  intro n
  induction n with
  | zero => intro h l0 l1 l4 l6 l7 r hf; cases hf
  | succ n ih =>
    intro h l0 l1 l4 l6 l7 r hf
    rw [f_X12_carry_168] at hf
    refine V.iload dX12_carry_168 4 rfl ?_
    refine V.iload dX12_carry_170 2 rfl ?_
    refine V.iload_n dX12_carry_172 rfl 1 rfl ?_
    obtain ⟨v1, e7, hf⟩ := bS hf
    refine V.xdvI dX12_carry_173 e7 ?_
    refine V.icmp_ge (tgt := 253) dX12_carry_174 (by decide) (fun c2 => ?_) (fun c2 => ?_)
    · rw [if_pos c2] at hf
      refine V.iload dX12_carry_253 2 rfl ?_
      refine V.iload_n dX12_carry_255 rfl 1 rfl ?_
      obtain ⟨v3, e8, hf⟩ := bS hf
      refine V.xrmI dX12_carry_256 e8 ?_
      refine V.if_ne (tgt := 268) dX12_carry_257 (by decide) (fun c4 => ?_) (fun c4 => ?_)
      · rw [if_neg c4] at hf
        refine V.iload dX12_carry_268 3 rfl ?_
        refine V.bipush (v := (16 : Int32)) dX12_carry_270 (by decide) ?_
        obtain ⟨v5, e9, hf⟩ := bS hf
        refine V.xrmI dX12_carry_272 e9 ?_
        obtain rfl := Option.some.inj hf
        exact V.iret dX12_carry_273
      · rw [if_pos c4] at hf
        refine V.iload dX12_carry_260 3 rfl ?_
        refine V.bipush (v := (16 : Int32)) dX12_carry_262 (by decide) ?_
        obtain ⟨v6, e10, hf⟩ := bS hf
        refine V.xdvI dX12_carry_264 e10 ?_
        refine V.goto (tgt := 273) dX12_carry_265 (by decide) ?_
        obtain rfl := Option.some.inj hf
        exact V.iret dX12_carry_273
    · rw [if_neg c2] at hf
      refine V.aload_n dX12_carry_177 rfl 0 rfl ?_
      obtain ⟨v7, e11, hf⟩ := bS hf
      refine V.xgR dX12_carry_178 fl_RX12_48 e11 ?_
      refine V.sipush (v := (256 : Int32)) dX12_carry_181 (by decide) ?_
      refine V.iload dX12_carry_184 4 rfl ?_
      refine V.imul dX12_carry_186 ?_
      refine V.iload dX12_carry_187 3 rfl ?_
      refine V.iadd dX12_carry_189 ?_
      obtain ⟨v8, e12, hf⟩ := bS hf
      refine V.xldI dX12_carry_190 e12 ?_
      refine V.istore (lv' := [(8, .int v8), (0, .ref l0), (1, .int l1), (4, .int l4), (6, .int l6), (7, .int l7)]) dX12_carry_191 (by decide) rfl ?_
      refine V.iconst (v := (0 : Int32)) dX12_carry_193 (by decide) ?_
      refine V.istore (lv' := [(9, .int (0 : Int32)), (8, .int v8), (0, .ref l0), (1, .int l1), (4, .int l4), (6, .int l6), (7, .int l7)]) dX12_carry_194 (by decide) rfl ?_
      refine V.sub [2, 3, 4, 5, 6, 1, 0] rfl ?_
      exact w_X12_carry_196 ih _ _ _ _ _ _ _ _ _ _ hf

set_option maxRecDepth 20000 in
theorem w_X12_carry_85 : ∀ (n : Nat) (h : xH) (l0 : Nat) (l1 : Int32) (l4 : Int32) (l5 : Int32) (l6 : Int32) (r : Int32 × xH), f_X12_carry_85 n h l0 l1 l4 l5 l6 = some r → V 7 yX12_carry cX12_carry 10 (some .int) [] none 85 [(0, .ref l0), (1, .int l1), (4, .int l4), (5, .int l5), (6, .int l6)] [] h (oIh r) := by
  intro n
  induction n with
  | zero => intro h l0 l1 l4 l5 l6 r hf; cases hf
  | succ n ih =>
    intro h l0 l1 l4 l5 l6 r hf
    rw [f_X12_carry_85] at hf
    refine V.iload dX12_carry_85 4 rfl ?_
    refine V.sipush (v := (256 : Int32)) dX12_carry_87 (by decide) ?_
    refine V.icmp_ge (tgt := 125) dX12_carry_90 (by decide) (fun c1 => ?_) (fun c1 => ?_)
    · rw [if_pos c1] at hf
      refine V.aload_n dX12_carry_125 rfl 0 rfl ?_
      obtain ⟨q2, e13, hf⟩ := bS hf
      obtain ⟨r3, e14, hf⟩ := bS hf
      refine V.callV (As := []) (st := []) dX12_carry_126 cl_RX12_228 sw_yX12_rooms (by decide) rfl (Nat.le_of_ble_eq_true rfl) rfl (gO_some e13) rfl (w_X12_rooms _ _ _ e14) ?_
      refine V.if_eq (tgt := 145) dX12_carry_129 (by decide) (fun c4 => ?_) (fun c4 => ?_)
      · rw [if_pos c4] at hf
        refine V.iconst (v := (-1 : Int32)) dX12_carry_145 (by decide) ?_
        obtain rfl := Option.some.inj hf
        exact V.iret dX12_carry_146
      · rw [if_neg c4] at hf
        refine V.aload_n dX12_carry_132 rfl 0 rfl ?_
        obtain ⟨v5, e15, hf⟩ := bS hf
        refine V.xgR dX12_carry_133 fl_RX12_48 e15 ?_
        refine V.iload dX12_carry_136 3 rfl ?_
        obtain ⟨v6, e16, hf⟩ := bS hf
        refine V.xldI dX12_carry_138 e16 ?_
        refine V.ldcw (v := 1000000) dX12_carry_139 co_RX12_343 ?_
        refine V.icmp_lt (tgt := 147) dX12_carry_142 (by decide) (fun c7 => ?_) (fun c7 => ?_)
        · rw [if_pos c7] at hf
          refine V.iload dX12_carry_147 2 rfl ?_
          refine V.iconst (v := (-1 : Int32)) dX12_carry_149 (by decide) ?_
          refine V.icmp_ne (tgt := 161) dX12_carry_150 (by decide) (fun c8 => ?_) (fun c8 => ?_)
          · rw [if_neg c8] at hf
            refine V.iload dX12_carry_161 3 rfl ?_
            refine V.istore (lv' := [(6, .int l5), (0, .ref l0), (1, .int l1), (4, .int l4), (5, .int l5)]) dX12_carry_163 (by decide) rfl ?_
            refine V.iconst (v := (0 : Int32)) dX12_carry_165 (by decide) ?_
            refine V.istore (lv' := [(7, .int (0 : Int32)), (6, .int l5), (0, .ref l0), (1, .int l1), (4, .int l4), (5, .int l5)]) dX12_carry_166 (by decide) rfl ?_
            refine V.sub [2, 3, 4, 1, 0] rfl ?_
            exact w_X12_carry_168 _ _ _ _ _ _ _ _ hf
          · rw [if_pos c8] at hf
            refine V.aload_n dX12_carry_153 rfl 0 rfl ?_
            obtain ⟨v9, e17, hf⟩ := bS hf
            refine V.xgR dX12_carry_154 fl_RX12_48 e17 ?_
            refine V.iload dX12_carry_157 3 rfl ?_
            obtain ⟨v10, e18, hf⟩ := bS hf
            refine V.xldI dX12_carry_159 e18 ?_
            obtain rfl := Option.some.inj hf
            exact V.iret dX12_carry_160
        · rw [if_neg c7] at hf
          refine V.iconst (v := (-1 : Int32)) dX12_carry_145 (by decide) ?_
          obtain rfl := Option.some.inj hf
          exact V.iret dX12_carry_146
    · rw [if_neg c1] at hf
      refine V.aload_n dX12_carry_93 rfl 0 rfl ?_
      obtain ⟨v11, e19, hf⟩ := bS hf
      refine V.xgR dX12_carry_94 fl_RX12_48 e19 ?_
      refine V.iload dX12_carry_97 4 rfl ?_
      obtain ⟨v12, e20, hf⟩ := bS hf
      refine V.xldI dX12_carry_99 e20 ?_
      refine V.aload_n dX12_carry_100 rfl 0 rfl ?_
      obtain ⟨v13, e21, hf⟩ := bS hf
      refine V.xgR dX12_carry_101 fl_RX12_48 e21 ?_
      refine V.iload dX12_carry_104 3 rfl ?_
      obtain ⟨v14, e22, hf⟩ := bS hf
      refine V.xldI dX12_carry_106 e22 ?_
      refine V.icmp_ge (tgt := 115) dX12_carry_107 (by decide) (fun c15 => ?_) (fun c15 => ?_)
      · rw [if_pos c15] at hf
        refine V.iload dX12_carry_115 3 rfl ?_
        refine V.istore (lv' := [(5, .int l5), (0, .ref l0), (1, .int l1), (4, .int l4), (6, .int l6)]) dX12_carry_117 (by decide) rfl ?_
        refine V.iinc (v := (l6 + 1)) (lv' := [(6, .int (l6 + 1)), (5, .int l5), (0, .ref l0), (1, .int l1), (4, .int l4)]) dX12_carry_119 4 rfl rfl (Nat.le_of_ble_eq_true rfl) rfl ?_
        refine V.goto (tgt := 85) dX12_carry_122 (by decide) ?_
        refine V.sub [2, 3, 4, 1, 0] rfl ?_
        exact ih _ _ _ _ _ _ _ hf
      · rw [if_neg c15] at hf
        refine V.iload dX12_carry_110 4 rfl ?_
        refine V.goto (tgt := 117) dX12_carry_112 (by decide) ?_
        refine V.istore (lv' := [(5, .int l6), (0, .ref l0), (1, .int l1), (4, .int l4), (6, .int l6)]) dX12_carry_117 (by decide) rfl ?_
        refine V.iinc (v := (l6 + 1)) (lv' := [(6, .int (l6 + 1)), (5, .int l6), (0, .ref l0), (1, .int l1), (4, .int l4)]) dX12_carry_119 4 rfl rfl (Nat.le_of_ble_eq_true rfl) rfl ?_
        refine V.goto (tgt := 85) dX12_carry_122 (by decide) ?_
        refine V.sub [2, 3, 4, 1, 0] rfl ?_
        exact ih _ _ _ _ _ _ _ hf

set_option maxRecDepth 20000 in
theorem w_X12_carry_60 (h : xH) (l0 : Nat) (l1 : Int32) (l2 : Int32) (l3 : Int32) (l4 : Int32) (s0 : Int32) (s1 : Nat) (r : Int32 × xH) (hf : f_X12_carry_60 h l0 l1 l2 l3 l4 s0 s1 = some r) : V 7 yX12_carry cX12_carry 10 (some .int) [] none 60 [(0, .ref l0), (1, .int l1), (2, .int l2), (3, .int l3), (4, .int l4)] [.int s0, .ref s1] h (oIh r) := by
  unfold f_X12_carry_60 at hf
  obtain ⟨h1, e23, hf⟩ := bS hf
  refine V.xpF dX12_carry_60 fl_RX12_75 (fun h9 => nomatch h9) (fun _ => rfl) (fun _ => rfl) e23 ?_
  refine V.aload_n dX12_carry_63 rfl 0 rfl ?_
  obtain ⟨v2, e24, hf⟩ := bS hf
  refine V.xgI dX12_carry_64 fl_RX12_75 e24 ?_
  refine V.if_le (tgt := 72) dX12_carry_67 (by decide) (fun c3 => ?_) (fun c3 => ?_)
  · rw [if_pos c3] at hf
    refine V.aload_n dX12_carry_72 rfl 0 rfl ?_
    refine V.iload_n dX12_carry_73 rfl 1 rfl ?_
    refine V.iload_n dX12_carry_74 rfl 2 rfl ?_
    refine V.iload_n dX12_carry_75 rfl 3 rfl ?_
    obtain ⟨q4, e25, hf⟩ := bS hf
    obtain ⟨r5, e26, hf⟩ := bS hf
    refine V.callV (As := [.int l1, .int l2, .int l3]) (st := []) dX12_carry_76 cl_RX12_367 sw_yX12_layCarried (by decide) rfl (Nat.le_of_ble_eq_true rfl) rfl (gO_some e25) rfl (w_X12_layCarried _ _ _ _ _ _ e26) ?_
    refine V.iconst (v := (0 : Int32)) dX12_carry_79 (by decide) ?_
    refine V.istore (lv' := [(5, .int (0 : Int32)), (0, .ref l0), (1, .int l1), (2, .int l2), (3, .int l3), (4, .int l4)]) dX12_carry_80 (by decide) rfl ?_
    refine V.iconst (v := (1 : Int32)) dX12_carry_82 (by decide) ?_
    refine V.istore (lv' := [(6, .int (1 : Int32)), (5, .int (0 : Int32)), (0, .ref l0), (1, .int l1), (2, .int l2), (3, .int l3), (4, .int l4)]) dX12_carry_83 (by decide) rfl ?_
    refine V.sub [2, 3, 6, 1, 0] rfl ?_
    exact w_X12_carry_85 _ _ _ _ _ _ _ _ hf
  · rw [if_neg c3] at hf
    refine V.iconst (v := (0 : Int32)) dX12_carry_70 (by decide) ?_
    obtain rfl := Option.some.inj hf
    exact V.iret dX12_carry_71

set_option maxRecDepth 20000 in
theorem w_X12_carry_59 (h : xH) (l0 : Nat) (l1 : Int32) (l2 : Int32) (l3 : Int32) (l4 : Int32) (s0 : Nat) (r : Int32 × xH) (hf : f_X12_carry_59 h l0 l1 l2 l3 l4 s0 = some r) : V 7 yX12_carry cX12_carry 10 (some .int) [] none 59 [(0, .ref l0), (1, .int l1), (2, .int l2), (3, .int l3), (4, .int l4)] [.ref s0] h (oIh r) := by
  unfold f_X12_carry_59 at hf
  refine V.iconst (v := (1 : Int32)) dX12_carry_59 (by decide) ?_
  exact w_X12_carry_60 _ _ _ _ _ _ _ _ _ hf

set_option maxRecDepth 20000 in
theorem w_X12_carry (h : xH) (l0 : Nat) (l1 : Int32) (l2 : Int32) (l3 : Int32) (l4 : Int32) (r : Int32 × xH) (hf : f_X12_carry h l0 l1 l2 l3 l4 = some r) : Ev 7 yX12_carry cX12_carry 10 (some .int) [] [.ref l0, .int l1, .int l2, .int l3, .int l4] h (oIh r) := by
  refine Ev.of (by decide +kernel) (Nat.le_of_ble_eq_true rfl) ?_
  unfold f_X12_carry at hf
  refine V.aload_n dX12_carry_0 rfl 0 rfl ?_
  refine V.iload_n dX12_carry_1 rfl 1 rfl ?_
  refine V.i2l dX12_carry_2 ?_
  refine V.lconst (v := 1) dX12_carry_3 (by decide) ?_
  refine V.ldc2 (v := (2 : Int64)) dX12_carry_4 cj_RX12_268 ?_
  obtain ⟨r1, e27, hf⟩ := bS hf
  refine V.callS (As := [.long (Int32.toInt64 l1), .long (1 : Int64), .long (2 : Int64)]) (st := [.ref l0]) dX12_carry_7 cl_RX12_134 sw_yX12_within (by decide) rfl (Nat.le_of_ble_eq_true rfl) rfl (w_X12_within _ _ _ _ _ e27) ?_
  refine V.if_eq (tgt := 59) dX12_carry_10 (by decide) (fun c2 => ?_) (fun c2 => ?_)
  · rw [if_pos c2] at hf
    exact w_X12_carry_59 _ _ _ _ _ _ _ _ hf
  · rw [if_neg c2] at hf
    refine V.iload_n dX12_carry_13 rfl 2 rfl ?_
    obtain ⟨r3, e28, hf⟩ := bS hf
    refine V.callS (As := [.int l2]) (st := [.ref l0]) dX12_carry_14 cl_RX12_270 sw_yX12_isHour (by decide) rfl (Nat.le_of_ble_eq_true rfl) rfl (w_X12_isHour _ _ _ e28) ?_
    refine V.if_eq (tgt := 59) dX12_carry_17 (by decide) (fun c4 => ?_) (fun c4 => ?_)
    · rw [if_pos c4] at hf
      exact w_X12_carry_59 _ _ _ _ _ _ _ _ hf
    · rw [if_neg c4] at hf
      refine V.iload_n dX12_carry_20 rfl 3 rfl ?_
      refine V.i2l dX12_carry_21 ?_
      refine V.iload_n dX12_carry_22 rfl 2 rfl ?_
      refine V.i2l dX12_carry_23 ?_
      refine V.ldc2 (v := (23 : Int64)) dX12_carry_24 cj_RX12_233 ?_
      obtain ⟨r5, e29, hf⟩ := bS hf
      refine V.callS (As := [.long (Int32.toInt64 l3), .long (Int32.toInt64 l2), .long (23 : Int64)]) (st := [.ref l0]) dX12_carry_27 cl_RX12_134 sw_yX12_within (by decide) rfl (Nat.le_of_ble_eq_true rfl) rfl (w_X12_within _ _ _ _ _ e29) ?_
      refine V.if_eq (tgt := 59) dX12_carry_30 (by decide) (fun c6 => ?_) (fun c6 => ?_)
      · rw [if_pos c6] at hf
        exact w_X12_carry_59 _ _ _ _ _ _ _ _ hf
      · rw [if_neg c6] at hf
        refine V.iload dX12_carry_33 4 rfl ?_
        refine V.i2l dX12_carry_35 ?_
        refine V.ldc2 (v := (-1 : Int64)) dX12_carry_36 cj_RX12_365 ?_
        refine V.iload_n dX12_carry_39 rfl 3 rfl ?_
        refine V.iload_n dX12_carry_40 rfl 2 rfl ?_
        refine V.isub dX12_carry_41 ?_
        refine V.iconst (v := (1 : Int32)) dX12_carry_42 (by decide) ?_
        refine V.iadd dX12_carry_43 ?_
        refine V.iload_n dX12_carry_44 rfl 1 rfl ?_
        refine V.imul dX12_carry_45 ?_
        refine V.iconst (v := (1 : Int32)) dX12_carry_46 (by decide) ?_
        refine V.isub dX12_carry_47 ?_
        refine V.i2l dX12_carry_48 ?_
        obtain ⟨r7, e30, hf⟩ := bS hf
        refine V.callS (As := [.long (Int32.toInt64 l4), .long (-1 : Int64), .long (Int32.toInt64 ((((l3 - l2) + (1 : Int32)) * l1) - (1 : Int32)))]) (st := [.ref l0]) dX12_carry_49 cl_RX12_134 sw_yX12_within (by decide) rfl (Nat.le_of_ble_eq_true rfl) rfl (w_X12_within _ _ _ _ _ e30) ?_
        refine V.if_eq (tgt := 59) dX12_carry_52 (by decide) (fun c8 => ?_) (fun c8 => ?_)
        · rw [if_pos c8] at hf
          exact w_X12_carry_59 _ _ _ _ _ _ _ _ hf
        · rw [if_neg c8] at hf
          refine V.iconst (v := (0 : Int32)) dX12_carry_55 (by decide) ?_
          refine V.goto (tgt := 60) dX12_carry_56 (by decide) ?_
          exact w_X12_carry_60 _ _ _ _ _ _ _ _ _ hf

def f_X12_costOf_59 (h : xH) (k15 : Nat → Int32 → Int32 → Int32 → Option (Int32)) (k25 : Nat → Int32 → Int32 → Int32 → Int32 → Int32 → Option (Int32)) (l0 : Nat) (l1 : Int32) (l2 : Int32) (l3 : Int32) (l4 : Int32) (l5 : Int32) : Option (Int32) := (f_X12_has h l1 l5).bind fun r1 => (if r1 = 0 then (k25 l0 l1 l2 l3 l4 (l5 + 1)) else ((gR h l0 12 16).bind fun v3 => (ldI h .int v3 l5).bind fun v4 => (if (v4 &&& l3) = 0 then ((gR h l0 12 0).bind fun v6 => (ldI h .int v6 (6 : Int32)).bind fun v7 => k25 l0 l1 l2 l3 (l4 + v7) (l5 + 1)) else (k25 l0 l1 l2 l3 l4 (l5 + 1)))))
def f_X12_costOf_25 (h : xH) (k15 : Nat → Int32 → Int32 → Int32 → Option (Int32)) : Nat → Nat → Int32 → Int32 → Int32 → Int32 → Int32 → Option (Int32)
  | 0, _, _, _, _, _, _ => none
  | n + 1, l0, l1, l2, l3, l4, l5 => (gO h l0 12).bind fun q1 => (f_X12_rooms h l0).bind fun r2 => (if r2 ≤ l5 then (k15 l0 l1 (if l4 < l2 then l4 else l2) ((l3 - (1 : Int32)) &&& l1)) else ((f_X12_has h l3 l5).bind fun r4 => (if r4 = 0 then (f_X12_costOf_59 h k15 (f_X12_costOf_25 h k15 n) l0 l1 l2 l3 l4 l5) else ((gR h l0 12 0).bind fun v6 => (ldI h .int v6 ((416 : Int32) + l5)).bind fun v7 => f_X12_costOf_59 h k15 (f_X12_costOf_25 h k15 n) l0 l1 l2 l3 (l4 + v7) l5))))
def f_X12_costOf_15 (h : xH) : Nat → Nat → Int32 → Int32 → Int32 → Option (Int32)
  | 0, _, _, _, _ => none
  | n + 1, l0, l1, l2, l3 => (if l3 ≤ 0 then (some (l2)) else (f_X12_costOf_25 h (f_X12_costOf_15 h n) xFU l0 l1 l2 l3 (0 : Int32) (0 : Int32)))
def f_X12_costOf (h : xH) (l0 : Nat) (l1 : Int32) : Option (Int32) := (gR h l0 12 0).bind fun v1 => (ldI h .int v1 (6 : Int32)).bind fun v2 => (f_X12_ones h l1).bind fun r3 => f_X12_costOf_15 h xFU l0 l1 (v2 * r3) l1
set_option maxRecDepth 20000 in
theorem w_X12_costOf_59 (h : xH) {k15 : Nat → Int32 → Int32 → Int32 → Option (Int32)} (hk15 : ∀ (l0 : Nat) (l1 : Int32) (l2 : Int32) (l3 : Int32) (r : Int32), k15 l0 l1 l2 l3 = some r → V 4 yX12_costOf cX12_costOf 6 (some .int) [] none 15 [(0, .ref l0), (1, .int l1), (2, .int l2), (3, .int l3)] [] h (oI h r)) {k25 : Nat → Int32 → Int32 → Int32 → Int32 → Int32 → Option (Int32)} (hk25 : ∀ (l0 : Nat) (l1 : Int32) (l2 : Int32) (l3 : Int32) (l4 : Int32) (l5 : Int32) (r : Int32), k25 l0 l1 l2 l3 l4 l5 = some r → V 4 yX12_costOf cX12_costOf 6 (some .int) [] none 25 [(0, .ref l0), (1, .int l1), (2, .int l2), (3, .int l3), (4, .int l4), (5, .int l5)] [] h (oI h r)) (l0 : Nat) (l1 : Int32) (l2 : Int32) (l3 : Int32) (l4 : Int32) (l5 : Int32) (r : Int32) (hf : f_X12_costOf_59 h k15 k25 l0 l1 l2 l3 l4 l5 = some r) : V 4 yX12_costOf cX12_costOf 6 (some .int) [] none 59 [(0, .ref l0), (1, .int l1), (2, .int l2), (3, .int l3), (4, .int l4), (5, .int l5)] [] h (oI h r) := by
  unfold f_X12_costOf_59 at hf
  refine V.iload_n dX12_costOf_59 rfl 1 rfl ?_
  refine V.iload dX12_costOf_60 5 rfl ?_
  obtain ⟨r1, e1, hf⟩ := bS hf
  refine V.callS (As := [.int l1, .int l5]) (st := []) dX12_costOf_62 cl_RX12_246 sw_yX12_has (by decide) rfl (Nat.le_of_ble_eq_true rfl) rfl (w_X12_has _ _ _ _ e1) ?_
  refine V.if_eq (tgt := 92) dX12_costOf_65 (by decide) (fun c2 => ?_) (fun c2 => ?_)
  · rw [if_pos c2] at hf
    refine V.iinc (v := (l5 + 1)) (lv' := [(5, .int (l5 + 1)), (0, .ref l0), (1, .int l1), (2, .int l2), (3, .int l3), (4, .int l4)]) dX12_costOf_92 5 rfl rfl (Nat.le_of_ble_eq_true rfl) rfl ?_
    refine V.goto (tgt := 25) dX12_costOf_95 (by decide) ?_
    refine V.sub [1, 2, 3, 4, 5, 0] rfl ?_
    exact hk25 _ _ _ _ _ _ _ hf
  · rw [if_neg c2] at hf
    refine V.aload_n dX12_costOf_68 rfl 0 rfl ?_
    obtain ⟨v3, e2, hf⟩ := bS hf
    refine V.xgR dX12_costOf_69 fl_RX12_30 e2 ?_
    refine V.iload dX12_costOf_72 5 rfl ?_
    obtain ⟨v4, e3, hf⟩ := bS hf
    refine V.xldI dX12_costOf_74 e3 ?_
    refine V.iload_n dX12_costOf_75 rfl 3 rfl ?_
    refine V.iand dX12_costOf_76 ?_
    refine V.if_ne (tgt := 92) dX12_costOf_77 (by decide) (fun c5 => ?_) (fun c5 => ?_)
    · rw [if_neg c5] at hf
      refine V.iinc (v := (l5 + 1)) (lv' := [(5, .int (l5 + 1)), (0, .ref l0), (1, .int l1), (2, .int l2), (3, .int l3), (4, .int l4)]) dX12_costOf_92 5 rfl rfl (Nat.le_of_ble_eq_true rfl) rfl ?_
      refine V.goto (tgt := 25) dX12_costOf_95 (by decide) ?_
      refine V.sub [1, 2, 3, 4, 5, 0] rfl ?_
      exact hk25 _ _ _ _ _ _ _ hf
    · rw [if_pos c5] at hf
      refine V.iload dX12_costOf_80 4 rfl ?_
      refine V.aload_n dX12_costOf_82 rfl 0 rfl ?_
      obtain ⟨v6, e4, hf⟩ := bS hf
      refine V.xgR dX12_costOf_83 fl_RX12_9 e4 ?_
      refine V.bipush (v := (6 : Int32)) dX12_costOf_86 (by decide) ?_
      obtain ⟨v7, e5, hf⟩ := bS hf
      refine V.xldI dX12_costOf_88 e5 ?_
      refine V.iadd dX12_costOf_89 ?_
      refine V.istore (lv' := [(4, .int (l4 + v7)), (0, .ref l0), (1, .int l1), (2, .int l2), (3, .int l3), (5, .int l5)]) dX12_costOf_90 (by decide) rfl ?_
      refine V.iinc (v := (l5 + 1)) (lv' := [(5, .int (l5 + 1)), (4, .int (l4 + v7)), (0, .ref l0), (1, .int l1), (2, .int l2), (3, .int l3)]) dX12_costOf_92 5 rfl rfl (Nat.le_of_ble_eq_true rfl) rfl ?_
      refine V.goto (tgt := 25) dX12_costOf_95 (by decide) ?_
      refine V.sub [2, 3, 4, 5, 1, 0] rfl ?_
      exact hk25 _ _ _ _ _ _ _ hf

set_option maxRecDepth 20000 in
theorem w_X12_costOf_25 (h : xH) {k15 : Nat → Int32 → Int32 → Int32 → Option (Int32)} (hk15 : ∀ (l0 : Nat) (l1 : Int32) (l2 : Int32) (l3 : Int32) (r : Int32), k15 l0 l1 l2 l3 = some r → V 4 yX12_costOf cX12_costOf 6 (some .int) [] none 15 [(0, .ref l0), (1, .int l1), (2, .int l2), (3, .int l3)] [] h (oI h r)) : ∀ (n : Nat) (l0 : Nat) (l1 : Int32) (l2 : Int32) (l3 : Int32) (l4 : Int32) (l5 : Int32) (r : Int32), f_X12_costOf_25 h k15 n l0 l1 l2 l3 l4 l5 = some r → V 4 yX12_costOf cX12_costOf 6 (some .int) [] none 25 [(0, .ref l0), (1, .int l1), (2, .int l2), (3, .int l3), (4, .int l4), (5, .int l5)] [] h (oI h r) := by
  intro n
  induction n with
  | zero => intro l0 l1 l2 l3 l4 l5 r hf; cases hf
  | succ n ih =>
    intro l0 l1 l2 l3 l4 l5 r hf
    rw [f_X12_costOf_25] at hf
    refine V.iload dX12_costOf_25 5 rfl ?_
    refine V.aload_n dX12_costOf_27 rfl 0 rfl ?_
    obtain ⟨q1, e6, hf⟩ := bS hf
    obtain ⟨r2, e7, hf⟩ := bS hf
    refine V.callV (As := []) (st := [.int l5]) dX12_costOf_28 cl_RX12_228 sw_yX12_rooms (by decide) rfl (Nat.le_of_ble_eq_true rfl) rfl (gO_some e6) rfl (w_X12_rooms _ _ _ e7) ?_
    refine V.icmp_ge (tgt := 98) dX12_costOf_31 (by decide) (fun c3 => ?_) (fun c3 => ?_)
    · rw [if_pos c3] at hf
      refine V.iload_n dX12_costOf_98 rfl 2 rfl ?_
      refine V.iload dX12_costOf_99 4 rfl ?_
      refine V.mmin dX12_costOf_101 ml_RX12_344 ms_min mi_ mc_min (Nat.le_of_ble_eq_true rfl) ?_
      refine V.istore_n (lv' := [(2, .int (if l4 < l2 then l4 else l2)), (0, .ref l0), (1, .int l1), (3, .int l3), (4, .int l4), (5, .int l5)]) dX12_costOf_104 rfl (by decide) rfl ?_
      refine V.iload_n dX12_costOf_105 rfl 3 rfl ?_
      refine V.iconst (v := (1 : Int32)) dX12_costOf_106 (by decide) ?_
      refine V.isub dX12_costOf_107 ?_
      refine V.iload_n dX12_costOf_108 rfl 2 rfl ?_
      refine V.iand dX12_costOf_109 ?_
      refine V.istore_n (lv' := [(3, .int ((l3 - (1 : Int32)) &&& l1)), (2, .int (if l4 < l2 then l4 else l2)), (0, .ref l0), (1, .int l1), (4, .int l4), (5, .int l5)]) dX12_costOf_110 rfl (by decide) rfl ?_
      refine V.goto (tgt := 15) dX12_costOf_111 (by decide) ?_
      refine V.sub [2, 3, 1, 0] rfl ?_
      exact hk15 _ _ _ _ _ hf
    · rw [if_neg c3] at hf
      refine V.iload_n dX12_costOf_34 rfl 3 rfl ?_
      refine V.iload dX12_costOf_35 5 rfl ?_
      obtain ⟨r4, e8, hf⟩ := bS hf
      refine V.callS (As := [.int l3, .int l5]) (st := []) dX12_costOf_37 cl_RX12_246 sw_yX12_has (by decide) rfl (Nat.le_of_ble_eq_true rfl) rfl (w_X12_has _ _ _ _ e8) ?_
      refine V.if_eq (tgt := 59) dX12_costOf_40 (by decide) (fun c5 => ?_) (fun c5 => ?_)
      · rw [if_pos c5] at hf
        exact w_X12_costOf_59 _ hk15 ih _ _ _ _ _ _ _ hf
      · rw [if_neg c5] at hf
        refine V.iload dX12_costOf_43 4 rfl ?_
        refine V.aload_n dX12_costOf_45 rfl 0 rfl ?_
        obtain ⟨v6, e9, hf⟩ := bS hf
        refine V.xgR dX12_costOf_46 fl_RX12_9 e9 ?_
        refine V.sipush (v := (416 : Int32)) dX12_costOf_49 (by decide) ?_
        refine V.iload dX12_costOf_52 5 rfl ?_
        refine V.iadd dX12_costOf_54 ?_
        obtain ⟨v7, e10, hf⟩ := bS hf
        refine V.xldI dX12_costOf_55 e10 ?_
        refine V.iadd dX12_costOf_56 ?_
        refine V.istore (lv' := [(4, .int (l4 + v7)), (0, .ref l0), (1, .int l1), (2, .int l2), (3, .int l3), (5, .int l5)]) dX12_costOf_57 (by decide) rfl ?_
        refine V.sub [1, 2, 3, 4, 0, 5] rfl ?_
        exact w_X12_costOf_59 _ hk15 ih _ _ _ _ _ _ _ hf

set_option maxRecDepth 20000 in
theorem w_X12_costOf_15 (h : xH) : ∀ (n : Nat) (l0 : Nat) (l1 : Int32) (l2 : Int32) (l3 : Int32) (r : Int32), f_X12_costOf_15 h n l0 l1 l2 l3 = some r → V 4 yX12_costOf cX12_costOf 6 (some .int) [] none 15 [(0, .ref l0), (1, .int l1), (2, .int l2), (3, .int l3)] [] h (oI h r) := by
  intro n
  induction n with
  | zero => intro l0 l1 l2 l3 r hf; cases hf
  | succ n ih =>
    intro l0 l1 l2 l3 r hf
    rw [f_X12_costOf_15] at hf
    refine V.iload_n dX12_costOf_15 rfl 3 rfl ?_
    refine V.if_le (tgt := 114) dX12_costOf_16 (by decide) (fun c1 => ?_) (fun c1 => ?_)
    · rw [if_pos c1] at hf
      refine V.iload_n dX12_costOf_114 rfl 2 rfl ?_
      obtain rfl := Option.some.inj hf
      exact V.iret dX12_costOf_115
    · rw [if_neg c1] at hf
      refine V.iconst (v := (0 : Int32)) dX12_costOf_19 (by decide) ?_
      refine V.istore (lv' := [(4, .int (0 : Int32)), (0, .ref l0), (1, .int l1), (2, .int l2), (3, .int l3)]) dX12_costOf_20 (by decide) rfl ?_
      refine V.iconst (v := (0 : Int32)) dX12_costOf_22 (by decide) ?_
      refine V.istore (lv' := [(5, .int (0 : Int32)), (4, .int (0 : Int32)), (0, .ref l0), (1, .int l1), (2, .int l2), (3, .int l3)]) dX12_costOf_23 (by decide) rfl ?_
      refine V.sub [2, 3, 4, 5, 1, 0] rfl ?_
      exact w_X12_costOf_25 h ih _ _ _ _ _ _ _ _ hf

set_option maxRecDepth 20000 in
theorem w_X12_costOf (h : xH) (l0 : Nat) (l1 : Int32) (r : Int32) (hf : f_X12_costOf h l0 l1 = some r) : Ev 4 yX12_costOf cX12_costOf 6 (some .int) [] [.ref l0, .int l1] h (oI h r) := by
  refine Ev.of (by decide +kernel) (Nat.le_of_ble_eq_true rfl) ?_
  unfold f_X12_costOf at hf
  refine V.aload_n dX12_costOf_0 rfl 0 rfl ?_
  obtain ⟨v1, e11, hf⟩ := bS hf
  refine V.xgR dX12_costOf_1 fl_RX12_9 e11 ?_
  refine V.bipush (v := (6 : Int32)) dX12_costOf_4 (by decide) ?_
  obtain ⟨v2, e12, hf⟩ := bS hf
  refine V.xldI dX12_costOf_6 e12 ?_
  refine V.iload_n dX12_costOf_7 rfl 1 rfl ?_
  obtain ⟨r3, e13, hf⟩ := bS hf
  refine V.callS (As := [.int l1]) (st := [.int v2]) dX12_costOf_8 cl_RX12_285 sw_yX12_ones (by decide) rfl (Nat.le_of_ble_eq_true rfl) rfl (w_X12_ones _ _ _ e13) ?_
  refine V.imul dX12_costOf_11 ?_
  refine V.istore_n (lv' := [(2, .int (v2 * r3)), (0, .ref l0), (1, .int l1)]) dX12_costOf_12 rfl (by decide) rfl ?_
  refine V.iload_n dX12_costOf_13 rfl 2 rfl ?_
  refine V.istore_n (lv' := [(3, .int l1), (2, .int (v2 * r3)), (0, .ref l0), (1, .int l1)]) dX12_costOf_14 rfl (by decide) rfl ?_
  refine V.sub [2, 3, 1, 0] rfl ?_
  exact w_X12_costOf_15 h _ _ _ _ _ _ hf

def f_X12_isSet (h : xH) (l0 : Nat) (l1 : Int32) : Option (Int32) := (gO h l0 12).bind fun q1 => (f_X12_all h l0).bind fun r2 => (f_X12_within h (Int32.toInt64 l1) (0 : Int64) (Int32.toInt64 r2)).bind fun r3 => (if narrow .boolean (.int r3) = .int r3 then some r3 else none)
set_option maxRecDepth 20000 in
theorem w_X12_isSet (h : xH) (l0 : Nat) (l1 : Int32) (r : Int32) (hf : f_X12_isSet h l0 l1 = some r) : Ev 5 yX12_isSet cX12_isSet 2 (some .boolean) [] [.ref l0, .int l1] h (oI h r) := by
  refine Ev.of (by decide +kernel) (Nat.le_of_ble_eq_true rfl) ?_
  unfold f_X12_isSet at hf
  refine V.iload_n dX12_isSet_0 rfl 1 rfl ?_
  refine V.i2l dX12_isSet_1 ?_
  refine V.lconst (v := 0) dX12_isSet_2 (by decide) ?_
  refine V.aload_n dX12_isSet_3 rfl 0 rfl ?_
  obtain ⟨q1, e1, hf⟩ := bS hf
  obtain ⟨r2, e2, hf⟩ := bS hf
  refine V.callV (As := []) (st := [.long (0 : Int64), .long (Int32.toInt64 l1)]) dX12_isSet_4 cl_RX12_230 sw_yX12_all (by decide) rfl (Nat.le_of_ble_eq_true rfl) rfl (gO_some e1) rfl (w_X12_all _ _ _ e2) ?_
  refine V.i2l dX12_isSet_7 ?_
  obtain ⟨r3, e3, hf⟩ := bS hf
  refine V.callS (As := [.long (Int32.toInt64 l1), .long (0 : Int64), .long (Int32.toInt64 r2)]) (st := []) dX12_isSet_8 cl_RX12_134 sw_yX12_within (by decide) rfl (Nat.le_of_ble_eq_true rfl) rfl (w_X12_within _ _ _ _ _ e3) ?_
  by_cases c4 : narrow .boolean (.int r3) = .int r3
  · rw [if_pos c4] at hf
    obtain rfl := Option.some.inj hf
    exact V.zret dX12_isSet_11 c4
  · rw [if_neg c4] at hf
    cases hf

def f_X12_cost_14 (h : xH) (l0 : Nat) (l1 : Int32) (s0 : Int32) (s1 : Nat) : Option (Int32 × xH) := (pF h s1 12 4 (.int s0)).bind fun h1 => (gI h1 l0 12 4).bind fun v2 => (if v2 ≤ 0 then ((gO h1 l0 12).bind fun q4 => (f_X12_layNexts h1 l0).bind fun r5 => (gO r5 l0 12).bind fun q6 => (f_X12_costOf r5 l0 l1).bind fun r7 => some ((r7, r5))) else (some (((0 : Int32), h1))))
def f_X12_cost (h : xH) (l0 : Nat) (l1 : Int32) : Option (Int32 × xH) := (gO h l0 12).bind fun q1 => (f_X12_isSet h l0 l1).bind fun r2 => (if r2 = 0 then (f_X12_cost_14 h l0 l1 (1 : Int32) l0) else (f_X12_cost_14 h l0 l1 (0 : Int32) l0))
set_option maxRecDepth 20000 in
theorem w_X12_cost_14 (h : xH) (l0 : Nat) (l1 : Int32) (s0 : Int32) (s1 : Nat) (r : Int32 × xH) (hf : f_X12_cost_14 h l0 l1 s0 s1 = some r) : V 6 yX12_cost cX12_cost 2 (some .int) [] none 14 [(0, .ref l0), (1, .int l1)] [.int s0, .ref s1] h (oIh r) := by
  unfold f_X12_cost_14 at hf
  obtain ⟨h1, e1, hf⟩ := bS hf
  refine V.xpF dX12_cost_14 fl_RX12_75 (fun h9 => nomatch h9) (fun _ => rfl) (fun _ => rfl) e1 ?_
  refine V.aload_n dX12_cost_17 rfl 0 rfl ?_
  obtain ⟨v2, e2, hf⟩ := bS hf
  refine V.xgI dX12_cost_18 fl_RX12_75 e2 ?_
  refine V.if_le (tgt := 26) dX12_cost_21 (by decide) (fun c3 => ?_) (fun c3 => ?_)
  · rw [if_pos c3] at hf
    refine V.aload_n dX12_cost_26 rfl 0 rfl ?_
    obtain ⟨q4, e3, hf⟩ := bS hf
    obtain ⟨r5, e4, hf⟩ := bS hf
    refine V.callV (As := []) (st := []) dX12_cost_27 cl_RX12_291 sw_yX12_layNexts (by decide) rfl (Nat.le_of_ble_eq_true rfl) rfl (gO_some e3) rfl (w_X12_layNexts _ _ _ e4) ?_
    refine V.aload_n dX12_cost_30 rfl 0 rfl ?_
    refine V.iload_n dX12_cost_31 rfl 1 rfl ?_
    obtain ⟨q6, e5, hf⟩ := bS hf
    obtain ⟨r7, e6, hf⟩ := bS hf
    refine V.callV (As := [.int l1]) (st := []) dX12_cost_32 cl_RX12_370 sw_yX12_costOf (by decide) rfl (Nat.le_of_ble_eq_true rfl) rfl (gO_some e5) rfl (w_X12_costOf _ _ _ _ e6) ?_
    obtain rfl := Option.some.inj hf
    exact V.iret dX12_cost_35
  · rw [if_neg c3] at hf
    refine V.iconst (v := (0 : Int32)) dX12_cost_24 (by decide) ?_
    obtain rfl := Option.some.inj hf
    exact V.iret dX12_cost_25

set_option maxRecDepth 20000 in
theorem w_X12_cost (h : xH) (l0 : Nat) (l1 : Int32) (r : Int32 × xH) (hf : f_X12_cost h l0 l1 = some r) : Ev 6 yX12_cost cX12_cost 2 (some .int) [] [.ref l0, .int l1] h (oIh r) := by
  refine Ev.of (by decide +kernel) (Nat.le_of_ble_eq_true rfl) ?_
  unfold f_X12_cost at hf
  refine V.aload_n dX12_cost_0 rfl 0 rfl ?_
  refine V.aload_n dX12_cost_1 rfl 0 rfl ?_
  refine V.iload_n dX12_cost_2 rfl 1 rfl ?_
  obtain ⟨q1, e7, hf⟩ := bS hf
  obtain ⟨r2, e8, hf⟩ := bS hf
  refine V.callV (As := [.int l1]) (st := [.ref l0]) dX12_cost_3 cl_RX12_288 sw_yX12_isSet (by decide) rfl (Nat.le_of_ble_eq_true rfl) rfl (gO_some e7) rfl (w_X12_isSet _ _ _ _ e8) ?_
  refine V.if_eq (tgt := 13) dX12_cost_6 (by decide) (fun c3 => ?_) (fun c3 => ?_)
  · rw [if_pos c3] at hf
    refine V.iconst (v := (1 : Int32)) dX12_cost_13 (by decide) ?_
    exact w_X12_cost_14 _ _ _ _ _ _ hf
  · rw [if_neg c3] at hf
    refine V.iconst (v := (0 : Int32)) dX12_cost_9 (by decide) ?_
    refine V.goto (tgt := 14) dX12_cost_10 (by decide) ?_
    exact w_X12_cost_14 _ _ _ _ _ _ hf

def f_X12_count_39 (k9 : xH → Nat → Int32 → Int32 → Int32 → Option (Int32 × xH)) (h : xH) (l0 : Nat) (l1 : Int32) (l3 : Int32) (s0 : Int32) (s1 : Int32) : Option (Int32 × xH) := k9 h l0 l1 (s1 + s0) (l3 + 1)
def f_X12_count_9 : Nat → xH → Nat → Int32 → Int32 → Int32 → Option (Int32 × xH)
  | 0, _, _, _, _, _ => none
  | n + 1, h, l0, l1, l2, l3 => (gO h l0 12).bind fun q1 => (f_X12_rooms h l0).bind fun r2 => (if r2 ≤ l3 then ((f_X12_within h (Int32.toInt64 l1) (0 : Int64) (6 : Int64)).bind fun r4 => (if r4 = 0 then ((if l1 = (7 : Int32) then (some ((l2, h))) else ((if l1 = (8 : Int32) then ((gI h l0 12 6).bind fun v8 => some ((v8, h))) else (some (((-1 : Int32), h))))))) else ((gR h l0 12 0).bind fun v9 => (ldI h .int v9 l1).bind fun v10 => some ((v10, h))))) else ((gR h l0 12 0).bind fun v11 => (ldI h .int v11 ((448 : Int32) + ((2 : Int32) * l3))).bind fun v12 => (if v12 = (-1 : Int32) then (f_X12_count_39 (f_X12_count_9 n) h l0 l1 l3 (0 : Int32) l2) else (f_X12_count_39 (f_X12_count_9 n) h l0 l1 l3 (1 : Int32) l2))))
def f_X12_count (h : xH) (l0 : Nat) (l1 : Int32) : Option (Int32 × xH) := (pF h l0 12 4 (.int (0 : Int32))).bind fun h1 => f_X12_count_9 xFU h1 l0 l1 (0 : Int32) (0 : Int32)
set_option maxRecDepth 20000 in
theorem w_X12_count_39 (h : xH) {k9 : xH → Nat → Int32 → Int32 → Int32 → Option (Int32 × xH)} (hk9 : ∀ (h : xH) (l0 : Nat) (l1 : Int32) (l2 : Int32) (l3 : Int32) (r : Int32 × xH), k9 h l0 l1 l2 l3 = some r → V 4 yX12_count cX12_count 4 (some .int) [] none 9 [(0, .ref l0), (1, .int l1), (2, .int l2), (3, .int l3)] [] h (oIh r)) (l0 : Nat) (l1 : Int32) (l3 : Int32) (s0 : Int32) (s1 : Int32) (r : Int32 × xH) (hf : f_X12_count_39 k9 h l0 l1 l3 s0 s1 = some r) : V 4 yX12_count cX12_count 4 (some .int) [] none 39 [(0, .ref l0), (1, .int l1), (3, .int l3)] [.int s0, .int s1] h (oIh r) := by
  unfold f_X12_count_39 at hf
  refine V.iadd dX12_count_39 ?_
  refine V.istore_n (lv' := [(2, .int (s1 + s0)), (0, .ref l0), (1, .int l1), (3, .int l3)]) dX12_count_40 rfl (by decide) rfl ?_
  refine V.iinc (v := (l3 + 1)) (lv' := [(3, .int (l3 + 1)), (2, .int (s1 + s0)), (0, .ref l0), (1, .int l1)]) dX12_count_41 3 rfl rfl (Nat.le_of_ble_eq_true rfl) rfl ?_
  refine V.goto (tgt := 9) dX12_count_44 (by decide) ?_
  refine V.sub [2, 3, 1, 0] rfl ?_
  exact hk9 _ _ _ _ _ _ hf

set_option maxRecDepth 20000 in
theorem w_X12_count_9 : ∀ (n : Nat) (h : xH) (l0 : Nat) (l1 : Int32) (l2 : Int32) (l3 : Int32) (r : Int32 × xH), f_X12_count_9 n h l0 l1 l2 l3 = some r → V 4 yX12_count cX12_count 4 (some .int) [] none 9 [(0, .ref l0), (1, .int l1), (2, .int l2), (3, .int l3)] [] h (oIh r) := by
  intro n
  induction n with
  | zero => intro h l0 l1 l2 l3 r hf; cases hf
  | succ n ih =>
    intro h l0 l1 l2 l3 r hf
    rw [f_X12_count_9] at hf
    refine V.iload_n dX12_count_9 rfl 3 rfl ?_
    refine V.aload_n dX12_count_10 rfl 0 rfl ?_
    obtain ⟨q1, e1, hf⟩ := bS hf
    obtain ⟨r2, e2, hf⟩ := bS hf
    refine V.callV (As := []) (st := [.int l3]) dX12_count_11 cl_RX12_228 sw_yX12_rooms (by decide) rfl (Nat.le_of_ble_eq_true rfl) rfl (gO_some e1) rfl (w_X12_rooms _ _ _ e2) ?_
    refine V.icmp_ge (tgt := 47) dX12_count_14 (by decide) (fun c3 => ?_) (fun c3 => ?_)
    · rw [if_pos c3] at hf
      refine V.iload_n dX12_count_47 rfl 1 rfl ?_
      refine V.i2l dX12_count_48 ?_
      refine V.lconst (v := 0) dX12_count_49 (by decide) ?_
      refine V.ldc2 (v := (6 : Int64)) dX12_count_50 cj_RX12_430 ?_
      obtain ⟨r4, e3, hf⟩ := bS hf
      refine V.callS (As := [.long (Int32.toInt64 l1), .long (0 : Int64), .long (6 : Int64)]) (st := []) dX12_count_53 cl_RX12_134 sw_yX12_within (by decide) rfl (Nat.le_of_ble_eq_true rfl) rfl (w_X12_within _ _ _ _ _ e3) ?_
      refine V.if_eq (tgt := 68) dX12_count_56 (by decide) (fun c5 => ?_) (fun c5 => ?_)
      · rw [if_pos c5] at hf
        refine V.iload_n dX12_count_68 rfl 1 rfl ?_
        refine V.bipush (v := (7 : Int32)) dX12_count_69 (by decide) ?_
        refine V.icmp_ne (tgt := 78) dX12_count_71 (by decide) (fun c6 => ?_) (fun c6 => ?_)
        · rw [if_neg c6] at hf
          refine V.iload_n dX12_count_78 rfl 1 rfl ?_
          refine V.bipush (v := (8 : Int32)) dX12_count_79 (by decide) ?_
          refine V.icmp_ne (tgt := 91) dX12_count_81 (by decide) (fun c7 => ?_) (fun c7 => ?_)
          · rw [if_neg c7] at hf
            refine V.iconst (v := (-1 : Int32)) dX12_count_91 (by decide) ?_
            obtain rfl := Option.some.inj hf
            exact V.iret dX12_count_92
          · rw [if_pos c7] at hf
            refine V.aload_n dX12_count_84 rfl 0 rfl ?_
            obtain ⟨v8, e4, hf⟩ := bS hf
            refine V.xgI dX12_count_85 fl_RX12_78 e4 ?_
            refine V.goto (tgt := 92) dX12_count_88 (by decide) ?_
            obtain rfl := Option.some.inj hf
            exact V.iret dX12_count_92
        · rw [if_pos c6] at hf
          refine V.iload_n dX12_count_74 rfl 2 rfl ?_
          refine V.goto (tgt := 92) dX12_count_75 (by decide) ?_
          obtain rfl := Option.some.inj hf
          exact V.iret dX12_count_92
      · rw [if_neg c5] at hf
        refine V.aload_n dX12_count_59 rfl 0 rfl ?_
        obtain ⟨v9, e5, hf⟩ := bS hf
        refine V.xgR dX12_count_60 fl_RX12_9 e5 ?_
        refine V.iload_n dX12_count_63 rfl 1 rfl ?_
        obtain ⟨v10, e6, hf⟩ := bS hf
        refine V.xldI dX12_count_64 e6 ?_
        refine V.goto (tgt := 92) dX12_count_65 (by decide) ?_
        obtain rfl := Option.some.inj hf
        exact V.iret dX12_count_92
    · rw [if_neg c3] at hf
      refine V.iload_n dX12_count_17 rfl 2 rfl ?_
      refine V.aload_n dX12_count_18 rfl 0 rfl ?_
      obtain ⟨v11, e7, hf⟩ := bS hf
      refine V.xgR dX12_count_19 fl_RX12_9 e7 ?_
      refine V.sipush (v := (448 : Int32)) dX12_count_22 (by decide) ?_
      refine V.iconst (v := (2 : Int32)) dX12_count_25 (by decide) ?_
      refine V.iload_n dX12_count_26 rfl 3 rfl ?_
      refine V.imul dX12_count_27 ?_
      refine V.iadd dX12_count_28 ?_
      obtain ⟨v12, e8, hf⟩ := bS hf
      refine V.xldI dX12_count_29 e8 ?_
      refine V.iconst (v := (-1 : Int32)) dX12_count_30 (by decide) ?_
      refine V.icmp_eq (tgt := 38) dX12_count_31 (by decide) (fun c13 => ?_) (fun c13 => ?_)
      · rw [if_pos c13] at hf
        refine V.iconst (v := (0 : Int32)) dX12_count_38 (by decide) ?_
        refine V.sub [0, 1, 3] rfl ?_
        exact w_X12_count_39 _ ih _ _ _ _ _ _ hf
      · rw [if_neg c13] at hf
        refine V.iconst (v := (1 : Int32)) dX12_count_34 (by decide) ?_
        refine V.goto (tgt := 39) dX12_count_35 (by decide) ?_
        refine V.sub [0, 1, 3] rfl ?_
        exact w_X12_count_39 _ ih _ _ _ _ _ _ hf

set_option maxRecDepth 20000 in
theorem w_X12_count (h : xH) (l0 : Nat) (l1 : Int32) (r : Int32 × xH) (hf : f_X12_count h l0 l1 = some r) : Ev 4 yX12_count cX12_count 4 (some .int) [] [.ref l0, .int l1] h (oIh r) := by
  refine Ev.of (by decide +kernel) (Nat.le_of_ble_eq_true rfl) ?_
  unfold f_X12_count at hf
  refine V.aload_n dX12_count_0 rfl 0 rfl ?_
  refine V.iconst (v := (0 : Int32)) dX12_count_1 (by decide) ?_
  obtain ⟨h1, e9, hf⟩ := bS hf
  refine V.xpF dX12_count_2 fl_RX12_75 (fun h9 => nomatch h9) (fun _ => rfl) (fun _ => rfl) e9 ?_
  refine V.iconst (v := (0 : Int32)) dX12_count_5 (by decide) ?_
  refine V.istore_n (lv' := [(2, .int (0 : Int32)), (0, .ref l0), (1, .int l1)]) dX12_count_6 rfl (by decide) rfl ?_
  refine V.iconst (v := (0 : Int32)) dX12_count_7 (by decide) ?_
  refine V.istore_n (lv' := [(3, .int (0 : Int32)), (2, .int (0 : Int32)), (0, .ref l0), (1, .int l1)]) dX12_count_8 rfl (by decide) rfl ?_
  refine V.sub [2, 3, 1, 0] rfl ?_
  exact w_X12_count_9 _ _ _ _ _ _ _ hf

def f_X12_darkIn (h : xH) (l0 : Nat) (l1 : Int32) : Option (Int32 × xH) := (gO h l0 12).bind fun q1 => (f_X12_layShine h l0 l1).bind fun r2 => (gO r2 l0 12).bind fun q3 => (f_X12_darkBy r2 l0 l1).bind fun r4 => some ((r4, r2))
set_option maxRecDepth 20000 in
theorem w_X12_darkIn (h : xH) (l0 : Nat) (l1 : Int32) (r : Int32 × xH) (hf : f_X12_darkIn h l0 l1 = some r) : Ev 6 yX12_darkIn cX12_darkIn 2 (some .int) [] [.ref l0, .int l1] h (oIh r) := by
  refine Ev.of (by decide +kernel) (Nat.le_of_ble_eq_true rfl) ?_
  unfold f_X12_darkIn at hf
  refine V.aload_n dX12_darkIn_0 rfl 0 rfl ?_
  refine V.iload_n dX12_darkIn_1 rfl 1 rfl ?_
  obtain ⟨q1, e1, hf⟩ := bS hf
  obtain ⟨r2, e2, hf⟩ := bS hf
  refine V.callV (As := [.int l1]) (st := []) dX12_darkIn_2 cl_RX12_256 sw_yX12_layShine (by decide) rfl (Nat.le_of_ble_eq_true rfl) rfl (gO_some e1) rfl (w_X12_layShine _ _ _ _ e2) ?_
  refine V.aload_n dX12_darkIn_5 rfl 0 rfl ?_
  refine V.iload_n dX12_darkIn_6 rfl 1 rfl ?_
  obtain ⟨q3, e3, hf⟩ := bS hf
  obtain ⟨r4, e4, hf⟩ := bS hf
  refine V.callV (As := [.int l1]) (st := []) dX12_darkIn_7 cl_RX12_259 sw_yX12_darkBy (by decide) rfl (Nat.le_of_ble_eq_true rfl) rfl (gO_some e3) rfl (w_X12_darkBy _ _ _ _ e4) ?_
  obtain rfl := Option.some.inj hf
  exact V.iret dX12_darkIn_10

def f_X12_dark (h : xH) (l0 : Nat) (l1 : Int32) : Option (Int32 × xH) := (pF h l0 12 4 (.int (0 : Int32))).bind fun h1 => (f_X12_isHour h1 l1).bind fun r2 => (if r2 = 0 then ((gO h1 l0 12).bind fun q4 => (f_X12_fails h1 l0 (1 : Int32)).bind fun r5 => some ((r5.1, r5.2))) else ((gO h1 l0 12).bind fun q6 => (f_X12_darkIn h1 l0 l1).bind fun r7 => some ((r7.1, r7.2))))
set_option maxRecDepth 20000 in
theorem w_X12_dark (h : xH) (l0 : Nat) (l1 : Int32) (r : Int32 × xH) (hf : f_X12_dark h l0 l1 = some r) : Ev 7 yX12_dark cX12_dark 2 (some .int) [] [.ref l0, .int l1] h (oIh r) := by
  refine Ev.of (by decide +kernel) (Nat.le_of_ble_eq_true rfl) ?_
  unfold f_X12_dark at hf
  refine V.aload_n dX12_dark_0 rfl 0 rfl ?_
  refine V.iconst (v := (0 : Int32)) dX12_dark_1 (by decide) ?_
  obtain ⟨h1, e1, hf⟩ := bS hf
  refine V.xpF dX12_dark_2 fl_RX12_75 (fun h9 => nomatch h9) (fun _ => rfl) (fun _ => rfl) e1 ?_
  refine V.iload_n dX12_dark_5 rfl 1 rfl ?_
  obtain ⟨r2, e2, hf⟩ := bS hf
  refine V.callS (As := [.int l1]) (st := []) dX12_dark_6 cl_RX12_270 sw_yX12_isHour (by decide) rfl (Nat.le_of_ble_eq_true rfl) rfl (w_X12_isHour _ _ _ e2) ?_
  refine V.if_eq (tgt := 20) dX12_dark_9 (by decide) (fun c3 => ?_) (fun c3 => ?_)
  · rw [if_pos c3] at hf
    refine V.aload_n dX12_dark_20 rfl 0 rfl ?_
    refine V.iconst (v := (1 : Int32)) dX12_dark_21 (by decide) ?_
    obtain ⟨q4, e3, hf⟩ := bS hf
    obtain ⟨r5, e4, hf⟩ := bS hf
    refine V.callV (As := [.int (1 : Int32)]) (st := []) dX12_dark_22 cl_RX12_219 sw_yX12_fails (by decide) rfl (Nat.le_of_ble_eq_true rfl) rfl (gO_some e3) rfl (w_X12_fails _ _ _ _ e4) ?_
    obtain rfl := Option.some.inj hf
    exact V.iret dX12_dark_25
  · rw [if_neg c3] at hf
    refine V.aload_n dX12_dark_12 rfl 0 rfl ?_
    refine V.iload_n dX12_dark_13 rfl 1 rfl ?_
    obtain ⟨q6, e5, hf⟩ := bS hf
    obtain ⟨r7, e6, hf⟩ := bS hf
    refine V.callV (As := [.int l1]) (st := []) dX12_dark_14 cl_RX12_279 sw_yX12_darkIn (by decide) rfl (Nat.le_of_ble_eq_true rfl) rfl (gO_some e5) rfl (w_X12_darkIn _ _ _ _ e6) ?_
    refine V.goto (tgt := 25) dX12_dark_17 (by decide) ?_
    obtain rfl := Option.some.inj hf
    exact V.iret dX12_dark_25

def f_X12_day_30 : Nat → xH → Nat → Int32 → Int32 → Int32 → Option (Int32 × xH)
  | 0, _, _, _, _, _ => none
  | n + 1, h, l0, l1, l2, l3 => (if (24 : Int32) ≤ l3 then (some ((l2, h))) else ((gO h l0 12).bind fun q2 => (f_X12_brightOf h l0 l1 l3).bind fun r3 => (if r3.1 = (-1 : Int32) then (some (((-1 : Int32), r3.2))) else ((f_X12_ones r3.2 (r3.1)).bind fun r5 => (gR r3.2 l0 12 0).bind fun v6 => (ldI r3.2 .int v6 (((248 : Int32) + ((2 : Int32) * l1)) + (1 : Int32))).bind fun v7 => f_X12_day_30 n r3.2 l0 l1 (l2 + (r5 * v7)) (l3 + 1)))))
def f_X12_day_14 (h : xH) (l0 : Nat) (l1 : Int32) (s0 : Int32) (s1 : Nat) : Option (Int32 × xH) := (pF h s1 12 4 (.int s0)).bind fun h1 => (gI h1 l0 12 4).bind fun v2 => (if v2 ≤ 0 then (f_X12_day_30 xFU h1 l0 l1 (0 : Int32) (0 : Int32)) else (some (((0 : Int32), h1))))
def f_X12_day (h : xH) (l0 : Nat) (l1 : Int32) : Option (Int32 × xH) := (gO h l0 12).bind fun q1 => (f_X12_isKind h l0 l1).bind fun r2 => (if r2 = 0 then (f_X12_day_14 h l0 l1 (1 : Int32) l0) else (f_X12_day_14 h l0 l1 (0 : Int32) l0))
set_option maxRecDepth 20000 in
theorem w_X12_day_30 : ∀ (n : Nat) (h : xH) (l0 : Nat) (l1 : Int32) (l2 : Int32) (l3 : Int32) (r : Int32 × xH), f_X12_day_30 n h l0 l1 l2 l3 = some r → V 7 yX12_day cX12_day 5 (some .int) [] none 30 [(0, .ref l0), (1, .int l1), (2, .int l2), (3, .int l3)] [] h (oIh r) := by
  intro n
  induction n with
  | zero => intro h l0 l1 l2 l3 r hf; cases hf
  | succ n ih =>
    intro h l0 l1 l2 l3 r hf
    rw [f_X12_day_30] at hf
    refine V.iload_n dX12_day_30 rfl 3 rfl ?_
    refine V.bipush (v := (24 : Int32)) dX12_day_31 (by decide) ?_
    refine V.icmp_ge (tgt := 81) dX12_day_33 (by decide) (fun c1 => ?_) (fun c1 => ?_)
    · rw [if_pos c1] at hf
      refine V.iload_n dX12_day_81 rfl 2 rfl ?_
      obtain rfl := Option.some.inj hf
      exact V.iret dX12_day_82
    · rw [if_neg c1] at hf
      refine V.aload_n dX12_day_36 rfl 0 rfl ?_
      refine V.iload_n dX12_day_37 rfl 1 rfl ?_
      refine V.iload_n dX12_day_38 rfl 3 rfl ?_
      obtain ⟨q2, e1, hf⟩ := bS hf
      obtain ⟨r3, e2, hf⟩ := bS hf
      refine V.callV (As := [.int l1, .int l3]) (st := []) dX12_day_39 cl_RX12_312 sw_yX12_brightOf (by decide) rfl (Nat.le_of_ble_eq_true rfl) rfl (gO_some e1) rfl (w_X12_brightOf _ _ _ _ _ e2) ?_
      refine V.istore (lv' := [(4, .int r3.1), (0, .ref l0), (1, .int l1), (2, .int l2), (3, .int l3)]) dX12_day_42 (by decide) rfl ?_
      refine V.iload dX12_day_44 0 rfl ?_
      refine V.iconst (v := (-1 : Int32)) dX12_day_46 (by decide) ?_
      refine V.icmp_ne (tgt := 52) dX12_day_47 (by decide) (fun c4 => ?_) (fun c4 => ?_)
      · rw [if_neg c4] at hf
        refine V.iload_n dX12_day_52 rfl 3 rfl ?_
        refine V.iload dX12_day_53 0 rfl ?_
        obtain ⟨r5, e3, hf⟩ := bS hf
        refine V.callS (As := [.int (r3.1)]) (st := [.int l2]) dX12_day_55 cl_RX12_285 sw_yX12_ones (by decide) rfl (Nat.le_of_ble_eq_true rfl) rfl (w_X12_ones _ _ _ e3) ?_
        refine V.aload_n dX12_day_58 rfl 1 rfl ?_
        obtain ⟨v6, e4, hf⟩ := bS hf
        refine V.xgR dX12_day_59 fl_RX12_9 e4 ?_
        refine V.sipush (v := (248 : Int32)) dX12_day_62 (by decide) ?_
        refine V.iconst (v := (2 : Int32)) dX12_day_65 (by decide) ?_
        refine V.iload_n dX12_day_66 rfl 2 rfl ?_
        refine V.imul dX12_day_67 ?_
        refine V.iadd dX12_day_68 ?_
        refine V.iconst (v := (1 : Int32)) dX12_day_69 (by decide) ?_
        refine V.iadd dX12_day_70 ?_
        obtain ⟨v7, e5, hf⟩ := bS hf
        refine V.xldI dX12_day_71 e5 ?_
        refine V.imul dX12_day_72 ?_
        refine V.iadd dX12_day_73 ?_
        refine V.istore_n (lv' := [(2, .int (l2 + (r5 * v7))), (4, .int r3.1), (0, .ref l0), (1, .int l1), (3, .int l3)]) dX12_day_74 rfl (by decide) rfl ?_
        refine V.iinc (v := (l3 + 1)) (lv' := [(3, .int (l3 + 1)), (2, .int (l2 + (r5 * v7))), (4, .int r3.1), (0, .ref l0), (1, .int l1)]) dX12_day_75 4 rfl rfl (Nat.le_of_ble_eq_true rfl) rfl ?_
        refine V.goto (tgt := 30) dX12_day_78 (by decide) ?_
        refine V.sub [3, 4, 1, 0] rfl ?_
        exact ih _ _ _ _ _ _ hf
      · rw [if_pos c4] at hf
        refine V.iconst (v := (-1 : Int32)) dX12_day_50 (by decide) ?_
        obtain rfl := Option.some.inj hf
        exact V.iret dX12_day_51

set_option maxRecDepth 20000 in
theorem w_X12_day_14 (h : xH) (l0 : Nat) (l1 : Int32) (s0 : Int32) (s1 : Nat) (r : Int32 × xH) (hf : f_X12_day_14 h l0 l1 s0 s1 = some r) : V 7 yX12_day cX12_day 5 (some .int) [] none 14 [(0, .ref l0), (1, .int l1)] [.int s0, .ref s1] h (oIh r) := by
  unfold f_X12_day_14 at hf
  obtain ⟨h1, e6, hf⟩ := bS hf
  refine V.xpF dX12_day_14 fl_RX12_75 (fun h9 => nomatch h9) (fun _ => rfl) (fun _ => rfl) e6 ?_
  refine V.aload_n dX12_day_17 rfl 0 rfl ?_
  obtain ⟨v2, e7, hf⟩ := bS hf
  refine V.xgI dX12_day_18 fl_RX12_75 e7 ?_
  refine V.if_le (tgt := 26) dX12_day_21 (by decide) (fun c3 => ?_) (fun c3 => ?_)
  · rw [if_pos c3] at hf
    refine V.iconst (v := (0 : Int32)) dX12_day_26 (by decide) ?_
    refine V.istore_n (lv' := [(2, .int (0 : Int32)), (0, .ref l0), (1, .int l1)]) dX12_day_27 rfl (by decide) rfl ?_
    refine V.iconst (v := (0 : Int32)) dX12_day_28 (by decide) ?_
    refine V.istore_n (lv' := [(3, .int (0 : Int32)), (2, .int (0 : Int32)), (0, .ref l0), (1, .int l1)]) dX12_day_29 rfl (by decide) rfl ?_
    refine V.sub [2, 3, 1, 0] rfl ?_
    exact w_X12_day_30 _ _ _ _ _ _ _ hf
  · rw [if_neg c3] at hf
    refine V.iconst (v := (0 : Int32)) dX12_day_24 (by decide) ?_
    obtain rfl := Option.some.inj hf
    exact V.iret dX12_day_25

set_option maxRecDepth 20000 in
theorem w_X12_day (h : xH) (l0 : Nat) (l1 : Int32) (r : Int32 × xH) (hf : f_X12_day h l0 l1 = some r) : Ev 7 yX12_day cX12_day 5 (some .int) [] [.ref l0, .int l1] h (oIh r) := by
  refine Ev.of (by decide +kernel) (Nat.le_of_ble_eq_true rfl) ?_
  unfold f_X12_day at hf
  refine V.aload_n dX12_day_0 rfl 0 rfl ?_
  refine V.aload_n dX12_day_1 rfl 0 rfl ?_
  refine V.iload_n dX12_day_2 rfl 1 rfl ?_
  obtain ⟨q1, e8, hf⟩ := bS hf
  obtain ⟨r2, e9, hf⟩ := bS hf
  refine V.callV (As := [.int l1]) (st := [.ref l0]) dX12_day_3 cl_RX12_237 sw_yX12_isKind (by decide) rfl (Nat.le_of_ble_eq_true rfl) rfl (gO_some e8) rfl (w_X12_isKind _ _ _ _ e9) ?_
  refine V.if_eq (tgt := 13) dX12_day_6 (by decide) (fun c3 => ?_) (fun c3 => ?_)
  · rw [if_pos c3] at hf
    refine V.iconst (v := (1 : Int32)) dX12_day_13 (by decide) ?_
    exact w_X12_day_14 _ _ _ _ _ _ hf
  · rw [if_neg c3] at hf
    refine V.iconst (v := (0 : Int32)) dX12_day_9 (by decide) ?_
    refine V.goto (tgt := 14) dX12_day_10 (by decide) ?_
    exact w_X12_day_14 _ _ _ _ _ _ hf

def f_X12_ever (h : xH) (l0 : Nat) : Option (Int32 × xH) := (pF h l0 12 4 (.int (0 : Int32))).bind fun h1 => (gO h1 l0 12).bind fun q2 => (f_X12_among h1 l0 (0 : Int32)).bind fun r3 => some ((r3.1, r3.2))
set_option maxRecDepth 20000 in
theorem w_X12_ever (h : xH) (l0 : Nat) (r : Int32 × xH) (hf : f_X12_ever h l0 = some r) : Ev 9 yX12_ever cX12_ever 1 (some .int) [] [.ref l0] h (oIh r) := by
  refine Ev.of (by decide +kernel) (Nat.le_of_ble_eq_true rfl) ?_
  unfold f_X12_ever at hf
  refine V.aload_n dX12_ever_0 rfl 0 rfl ?_
  refine V.iconst (v := (0 : Int32)) dX12_ever_1 (by decide) ?_
  obtain ⟨h1, e1, hf⟩ := bS hf
  refine V.xpF dX12_ever_2 fl_RX12_75 (fun h9 => nomatch h9) (fun _ => rfl) (fun _ => rfl) e1 ?_
  refine V.aload_n dX12_ever_5 rfl 0 rfl ?_
  refine V.iconst (v := (0 : Int32)) dX12_ever_6 (by decide) ?_
  obtain ⟨q2, e2, hf⟩ := bS hf
  obtain ⟨r3, e3, hf⟩ := bS hf
  refine V.callV (As := [.int (0 : Int32)]) (st := []) dX12_ever_7 cl_RX12_315 sw_yX12_among (by decide) rfl (Nat.le_of_ble_eq_true rfl) rfl (gO_some e2) rfl (w_X12_among _ _ _ _ e3) ?_
  obtain rfl := Option.some.inj hf
  exact V.iret dX12_ever_10

def f_X12_fault (h : xH) (l0 : Nat) (l1 : Int32) : Option (Int32 × xH) := (pF h l0 12 4 (.int (0 : Int32))).bind fun h1 => (if l1 = 0 then ((gI h1 l0 12 14).bind fun v5 => some ((v5, h1))) else ((if l1 = (1 : Int32) then ((gI h1 l0 12 15).bind fun v4 => some ((v4, h1))) else (some (((-1 : Int32), h1))))))
set_option maxRecDepth 20000 in
theorem w_X12_fault (h : xH) (l0 : Nat) (l1 : Int32) (r : Int32 × xH) (hf : f_X12_fault h l0 l1 = some r) : Ev 3 yX12_fault cX12_fault 2 (some .int) [] [.ref l0, .int l1] h (oIh r) := by
  refine Ev.of (by decide +kernel) (Nat.le_of_ble_eq_true rfl) ?_
  unfold f_X12_fault at hf
  refine V.aload_n dX12_fault_0 rfl 0 rfl ?_
  refine V.iconst (v := (0 : Int32)) dX12_fault_1 (by decide) ?_
  obtain ⟨h1, e1, hf⟩ := bS hf
  refine V.xpF dX12_fault_2 fl_RX12_75 (fun h9 => nomatch h9) (fun _ => rfl) (fun _ => rfl) e1 ?_
  refine V.iload_n dX12_fault_5 rfl 1 rfl ?_
  refine V.if_ne (tgt := 16) dX12_fault_6 (by decide) (fun c2 => ?_) (fun c2 => ?_)
  · rw [if_neg c2] at hf
    refine V.iload_n dX12_fault_16 rfl 1 rfl ?_
    refine V.iconst (v := (1 : Int32)) dX12_fault_17 (by decide) ?_
    refine V.icmp_ne (tgt := 28) dX12_fault_18 (by decide) (fun c3 => ?_) (fun c3 => ?_)
    · rw [if_neg c3] at hf
      refine V.iconst (v := (-1 : Int32)) dX12_fault_28 (by decide) ?_
      obtain rfl := Option.some.inj hf
      exact V.iret dX12_fault_29
    · rw [if_pos c3] at hf
      refine V.aload_n dX12_fault_21 rfl 0 rfl ?_
      obtain ⟨v4, e2, hf⟩ := bS hf
      refine V.xgI dX12_fault_22 fl_RX12_26 e2 ?_
      refine V.goto (tgt := 29) dX12_fault_25 (by decide) ?_
      obtain rfl := Option.some.inj hf
      exact V.iret dX12_fault_29
  · rw [if_pos c2] at hf
    refine V.aload_n dX12_fault_9 rfl 0 rfl ?_
    obtain ⟨v5, e3, hf⟩ := bS hf
    refine V.xgI dX12_fault_10 fl_RX12_225 e3 ?_
    refine V.goto (tgt := 29) dX12_fault_13 (by decide) ?_
    obtain rfl := Option.some.inj hf
    exact V.iret dX12_fault_29

def f_X12_feed_76 (k23 : xH → Nat → Int32 → Int32 → Int32 → Int32 → Int32 → Int32 → Option (Int32 × xH)) (h : xH) (l0 : Nat) (l1 : Int32) (l2 : Int32) (l3 : Int32) (l4 : Int32) (l5 : Int32) (l6 : Int32) (s0 : Int32) : Option (Int32 × xH) := (gR h l0 12 5).bind fun v1 => (gI h l0 12 6).bind fun v2 => (stI h .int v1 v2 ((UInt32.toInt32 (Int32.toUInt32 s0 >>> (Int32.toUInt32 ((24 : Int32) - ((8 : Int32) * (l6 &&& (3 : Int32)))) &&& Int32.toUInt32 31))) &&& (255 : Int32))).bind fun h3 => (gI h3 l0 12 6).bind fun v4 => (pF h3 l0 12 6 (.int (v4 + (1 : Int32)))).bind fun h5 => k23 h5 l0 l1 l2 l3 l4 l5 (l6 + 1)
def f_X12_feed_23 : Nat → xH → Nat → Int32 → Int32 → Int32 → Int32 → Int32 → Int32 → Option (Int32 × xH)
  | 0, _, _, _, _, _, _, _, _ => none
  | n + 1, h, l0, l1, l2, l3, l4, l5, l6 => (if (20 : Int32) ≤ l6 then ((gI h l0 12 6).bind fun v2 => some ((v2, h))) else ((if (4 : Int32) ≤ l6 then ((if (8 : Int32) ≤ l6 then ((if (12 : Int32) ≤ l6 then ((if (16 : Int32) ≤ l6 then (f_X12_feed_76 (f_X12_feed_23 n) h l0 l1 l2 l3 l4 l5 l6 l5) else (f_X12_feed_76 (f_X12_feed_23 n) h l0 l1 l2 l3 l4 l5 l6 l4))) else (f_X12_feed_76 (f_X12_feed_23 n) h l0 l1 l2 l3 l4 l5 l6 l3))) else (f_X12_feed_76 (f_X12_feed_23 n) h l0 l1 l2 l3 l4 l5 l6 l2))) else (f_X12_feed_76 (f_X12_feed_23 n) h l0 l1 l2 l3 l4 l5 l6 l1))))
def f_X12_feed (h : xH) (l0 : Nat) (l1 : Int32) (l2 : Int32) (l3 : Int32) (l4 : Int32) (l5 : Int32) : Option (Int32 × xH) := (pF h l0 12 4 (.int (0 : Int32))).bind fun h1 => (gI h1 l0 12 6).bind fun v2 => (if (v2 + (20 : Int32)) ≤ (800 : Int32) then (f_X12_feed_23 xFU h1 l0 l1 l2 l3 l4 l5 (0 : Int32)) else (some (((-1 : Int32), h1))))
set_option maxRecDepth 20000 in
theorem w_X12_feed_76 (h : xH) {k23 : xH → Nat → Int32 → Int32 → Int32 → Int32 → Int32 → Int32 → Option (Int32 × xH)} (hk23 : ∀ (h : xH) (l0 : Nat) (l1 : Int32) (l2 : Int32) (l3 : Int32) (l4 : Int32) (l5 : Int32) (l6 : Int32) (r : Int32 × xH), k23 h l0 l1 l2 l3 l4 l5 l6 = some r → V 3 yX12_feed cX12_feed 8 (some .int) [] none 23 [(0, .ref l0), (1, .int l1), (2, .int l2), (3, .int l3), (4, .int l4), (5, .int l5), (6, .int l6)] [] h (oIh r)) (l0 : Nat) (l1 : Int32) (l2 : Int32) (l3 : Int32) (l4 : Int32) (l5 : Int32) (l6 : Int32) (s0 : Int32) (r : Int32 × xH) (hf : f_X12_feed_76 k23 h l0 l1 l2 l3 l4 l5 l6 s0 = some r) : V 3 yX12_feed cX12_feed 8 (some .int) [] none 76 [(0, .ref l0), (1, .int l1), (2, .int l2), (3, .int l3), (4, .int l4), (5, .int l5), (6, .int l6)] [.int s0] h (oIh r) := by
  unfold f_X12_feed_76 at hf
  refine V.istore (lv' := [(7, .int s0), (0, .ref l0), (1, .int l1), (2, .int l2), (3, .int l3), (4, .int l4), (5, .int l5), (6, .int l6)]) dX12_feed_76 (by decide) rfl ?_
  refine V.aload_n dX12_feed_78 rfl 1 rfl ?_
  obtain ⟨v1, e1, hf⟩ := bS hf
  refine V.xgR dX12_feed_79 fl_RX12_23 e1 ?_
  refine V.aload_n dX12_feed_82 rfl 1 rfl ?_
  obtain ⟨v2, e2, hf⟩ := bS hf
  refine V.xgI dX12_feed_83 fl_RX12_78 e2 ?_
  refine V.iload dX12_feed_86 0 rfl ?_
  refine V.bipush (v := (24 : Int32)) dX12_feed_88 (by decide) ?_
  refine V.bipush (v := (8 : Int32)) dX12_feed_90 (by decide) ?_
  refine V.iload dX12_feed_92 7 rfl ?_
  refine V.iconst (v := (3 : Int32)) dX12_feed_94 (by decide) ?_
  refine V.iand dX12_feed_95 ?_
  refine V.imul dX12_feed_96 ?_
  refine V.isub dX12_feed_97 ?_
  refine V.iushr dX12_feed_98 ?_
  refine V.sipush (v := (255 : Int32)) dX12_feed_99 (by decide) ?_
  refine V.iand dX12_feed_102 ?_
  obtain ⟨h3, e3, hf⟩ := bS hf
  refine V.xstI dX12_feed_103 e3 ?_
  refine V.aload_n dX12_feed_104 rfl 1 rfl ?_
  refine V.dup dX12_feed_105 rfl ?_
  obtain ⟨v4, e4, hf⟩ := bS hf
  refine V.xgI dX12_feed_106 fl_RX12_78 e4 ?_
  refine V.iconst (v := (1 : Int32)) dX12_feed_109 (by decide) ?_
  refine V.iadd dX12_feed_110 ?_
  obtain ⟨h5, e5, hf⟩ := bS hf
  refine V.xpF dX12_feed_111 fl_RX12_78 (fun h9 => nomatch h9) (fun _ => rfl) (fun _ => rfl) e5 ?_
  refine V.iinc (v := (l6 + 1)) (lv' := [(6, .int (l6 + 1)), (7, .int s0), (0, .ref l0), (1, .int l1), (2, .int l2), (3, .int l3), (4, .int l4), (5, .int l5)]) dX12_feed_114 7 rfl rfl (Nat.le_of_ble_eq_true rfl) rfl ?_
  refine V.goto (tgt := 23) dX12_feed_117 (by decide) ?_
  refine V.sub [2, 3, 4, 5, 6, 7, 0] rfl ?_
  exact hk23 _ _ _ _ _ _ _ _ _ hf

set_option maxRecDepth 20000 in
theorem w_X12_feed_23 : ∀ (n : Nat) (h : xH) (l0 : Nat) (l1 : Int32) (l2 : Int32) (l3 : Int32) (l4 : Int32) (l5 : Int32) (l6 : Int32) (r : Int32 × xH), f_X12_feed_23 n h l0 l1 l2 l3 l4 l5 l6 = some r → V 3 yX12_feed cX12_feed 8 (some .int) [] none 23 [(0, .ref l0), (1, .int l1), (2, .int l2), (3, .int l3), (4, .int l4), (5, .int l5), (6, .int l6)] [] h (oIh r) := by
  intro n
  induction n with
  | zero => intro h l0 l1 l2 l3 l4 l5 l6 r hf; cases hf
  | succ n ih =>
    intro h l0 l1 l2 l3 l4 l5 l6 r hf
    rw [f_X12_feed_23] at hf
    refine V.iload dX12_feed_23 6 rfl ?_
    refine V.bipush (v := (20 : Int32)) dX12_feed_25 (by decide) ?_
    refine V.icmp_ge (tgt := 120) dX12_feed_27 (by decide) (fun c1 => ?_) (fun c1 => ?_)
    · rw [if_pos c1] at hf
      refine V.aload_n dX12_feed_120 rfl 0 rfl ?_
      obtain ⟨v2, e6, hf⟩ := bS hf
      refine V.xgI dX12_feed_121 fl_RX12_78 e6 ?_
      obtain rfl := Option.some.inj hf
      exact V.iret dX12_feed_124
    · rw [if_neg c1] at hf
      refine V.iload dX12_feed_30 6 rfl ?_
      refine V.iconst (v := (4 : Int32)) dX12_feed_32 (by decide) ?_
      refine V.icmp_ge (tgt := 40) dX12_feed_33 (by decide) (fun c3 => ?_) (fun c3 => ?_)
      · rw [if_pos c3] at hf
        refine V.iload dX12_feed_40 6 rfl ?_
        refine V.bipush (v := (8 : Int32)) dX12_feed_42 (by decide) ?_
        refine V.icmp_ge (tgt := 51) dX12_feed_44 (by decide) (fun c4 => ?_) (fun c4 => ?_)
        · rw [if_pos c4] at hf
          refine V.iload dX12_feed_51 6 rfl ?_
          refine V.bipush (v := (12 : Int32)) dX12_feed_53 (by decide) ?_
          refine V.icmp_ge (tgt := 62) dX12_feed_55 (by decide) (fun c5 => ?_) (fun c5 => ?_)
          · rw [if_pos c5] at hf
            refine V.iload dX12_feed_62 6 rfl ?_
            refine V.bipush (v := (16 : Int32)) dX12_feed_64 (by decide) ?_
            refine V.icmp_ge (tgt := 74) dX12_feed_66 (by decide) (fun c6 => ?_) (fun c6 => ?_)
            · rw [if_pos c6] at hf
              refine V.iload dX12_feed_74 5 rfl ?_
              exact w_X12_feed_76 _ ih _ _ _ _ _ _ _ _ _ hf
            · rw [if_neg c6] at hf
              refine V.iload dX12_feed_69 4 rfl ?_
              refine V.goto (tgt := 76) dX12_feed_71 (by decide) ?_
              exact w_X12_feed_76 _ ih _ _ _ _ _ _ _ _ _ hf
          · rw [if_neg c5] at hf
            refine V.iload_n dX12_feed_58 rfl 3 rfl ?_
            refine V.goto (tgt := 76) dX12_feed_59 (by decide) ?_
            exact w_X12_feed_76 _ ih _ _ _ _ _ _ _ _ _ hf
        · rw [if_neg c4] at hf
          refine V.iload_n dX12_feed_47 rfl 2 rfl ?_
          refine V.goto (tgt := 76) dX12_feed_48 (by decide) ?_
          exact w_X12_feed_76 _ ih _ _ _ _ _ _ _ _ _ hf
      · rw [if_neg c3] at hf
        refine V.iload_n dX12_feed_36 rfl 1 rfl ?_
        refine V.goto (tgt := 76) dX12_feed_37 (by decide) ?_
        exact w_X12_feed_76 _ ih _ _ _ _ _ _ _ _ _ hf

set_option maxRecDepth 20000 in
theorem w_X12_feed (h : xH) (l0 : Nat) (l1 : Int32) (l2 : Int32) (l3 : Int32) (l4 : Int32) (l5 : Int32) (r : Int32 × xH) (hf : f_X12_feed h l0 l1 l2 l3 l4 l5 = some r) : Ev 3 yX12_feed cX12_feed 8 (some .int) [] [.ref l0, .int l1, .int l2, .int l3, .int l4, .int l5] h (oIh r) := by
  refine Ev.of (by decide +kernel) (Nat.le_of_ble_eq_true rfl) ?_
  unfold f_X12_feed at hf
  refine V.aload_n dX12_feed_0 rfl 0 rfl ?_
  refine V.iconst (v := (0 : Int32)) dX12_feed_1 (by decide) ?_
  obtain ⟨h1, e7, hf⟩ := bS hf
  refine V.xpF dX12_feed_2 fl_RX12_75 (fun h9 => nomatch h9) (fun _ => rfl) (fun _ => rfl) e7 ?_
  refine V.aload_n dX12_feed_5 rfl 0 rfl ?_
  obtain ⟨v2, e8, hf⟩ := bS hf
  refine V.xgI dX12_feed_6 fl_RX12_78 e8 ?_
  refine V.bipush (v := (20 : Int32)) dX12_feed_9 (by decide) ?_
  refine V.iadd dX12_feed_11 ?_
  refine V.sipush (v := (800 : Int32)) dX12_feed_12 (by decide) ?_
  refine V.icmp_le (tgt := 20) dX12_feed_15 (by decide) (fun c3 => ?_) (fun c3 => ?_)
  · rw [if_pos c3] at hf
    refine V.iconst (v := (0 : Int32)) dX12_feed_20 (by decide) ?_
    refine V.istore (lv' := [(6, .int (0 : Int32)), (0, .ref l0), (1, .int l1), (2, .int l2), (3, .int l3), (4, .int l4), (5, .int l5)]) dX12_feed_21 (by decide) rfl ?_
    refine V.sub [1, 2, 3, 4, 5, 6, 0] rfl ?_
    exact w_X12_feed_23 _ _ _ _ _ _ _ _ _ _ hf
  · rw [if_neg c3] at hf
    refine V.iconst (v := (-1 : Int32)) dX12_feed_18 (by decide) ?_
    obtain rfl := Option.some.inj hf
    exact V.iret dX12_feed_19

def f_X12_gap (h : xH) (l0 : Nat) : Option (Int32 × xH) := (pF h l0 12 4 (.int (0 : Int32))).bind fun h1 => (gO h1 l0 12).bind fun q2 => (f_X12_layNexts h1 l0).bind fun r3 => (gO r3 l0 12).bind fun q4 => (f_X12_bestOf r3 l0 (0 : Int32)).bind fun r5 => (if r5 = (-1 : Int32) then (some (((-1 : Int32), r3))) else ((f_X12_ones r3 r5).bind fun r7 => (gO r3 l0 12).bind fun q8 => (f_X12_bestOf r3 l0 (3 : Int32)).bind fun r9 => (f_X12_ones r3 r9).bind fun r10 => some (((r7 - r10), r3))))
set_option maxRecDepth 20000 in
theorem w_X12_gap (h : xH) (l0 : Nat) (r : Int32 × xH) (hf : f_X12_gap h l0 = some r) : Ev 8 yX12_gap cX12_gap 2 (some .int) [] [.ref l0] h (oIh r) := by
  refine Ev.of (by decide +kernel) (Nat.le_of_ble_eq_true rfl) ?_
  unfold f_X12_gap at hf
  refine V.aload_n dX12_gap_0 rfl 0 rfl ?_
  refine V.iconst (v := (0 : Int32)) dX12_gap_1 (by decide) ?_
  obtain ⟨h1, e1, hf⟩ := bS hf
  refine V.xpF dX12_gap_2 fl_RX12_75 (fun h9 => nomatch h9) (fun _ => rfl) (fun _ => rfl) e1 ?_
  refine V.aload_n dX12_gap_5 rfl 0 rfl ?_
  obtain ⟨q2, e2, hf⟩ := bS hf
  obtain ⟨r3, e3, hf⟩ := bS hf
  refine V.callV (As := []) (st := []) dX12_gap_6 cl_RX12_291 sw_yX12_layNexts (by decide) rfl (Nat.le_of_ble_eq_true rfl) rfl (gO_some e2) rfl (w_X12_layNexts _ _ _ e3) ?_
  refine V.aload_n dX12_gap_9 rfl 0 rfl ?_
  refine V.iconst (v := (0 : Int32)) dX12_gap_10 (by decide) ?_
  obtain ⟨q4, e4, hf⟩ := bS hf
  obtain ⟨r5, e5, hf⟩ := bS hf
  refine V.callV (As := [.int (0 : Int32)]) (st := []) dX12_gap_11 cl_RX12_309 sw_yX12_bestOf (by decide) rfl (Nat.le_of_ble_eq_true rfl) rfl (gO_some e4) rfl (w_X12_bestOf _ _ _ _ e5) ?_
  refine V.istore_n (lv' := [(1, .int r5), (0, .ref l0)]) dX12_gap_14 rfl (by decide) rfl ?_
  refine V.iload_n dX12_gap_15 rfl 0 rfl ?_
  refine V.iconst (v := (-1 : Int32)) dX12_gap_16 (by decide) ?_
  refine V.icmp_ne (tgt := 24) dX12_gap_17 (by decide) (fun c6 => ?_) (fun c6 => ?_)
  · rw [if_neg c6] at hf
    refine V.iload_n dX12_gap_24 rfl 0 rfl ?_
    obtain ⟨r7, e6, hf⟩ := bS hf
    refine V.callS (As := [.int r5]) (st := []) dX12_gap_25 cl_RX12_285 sw_yX12_ones (by decide) rfl (Nat.le_of_ble_eq_true rfl) rfl (w_X12_ones _ _ _ e6) ?_
    refine V.aload_n dX12_gap_28 rfl 1 rfl ?_
    refine V.iconst (v := (3 : Int32)) dX12_gap_29 (by decide) ?_
    obtain ⟨q8, e7, hf⟩ := bS hf
    obtain ⟨r9, e8, hf⟩ := bS hf
    refine V.callV (As := [.int (3 : Int32)]) (st := [.int r7]) dX12_gap_30 cl_RX12_309 sw_yX12_bestOf (by decide) rfl (Nat.le_of_ble_eq_true rfl) rfl (gO_some e7) rfl (w_X12_bestOf _ _ _ _ e8) ?_
    obtain ⟨r10, e9, hf⟩ := bS hf
    refine V.callS (As := [.int r9]) (st := [.int r7]) dX12_gap_33 cl_RX12_285 sw_yX12_ones (by decide) rfl (Nat.le_of_ble_eq_true rfl) rfl (w_X12_ones _ _ _ e9) ?_
    refine V.isub dX12_gap_36 ?_
    obtain rfl := Option.some.inj hf
    exact V.iret dX12_gap_37
  · rw [if_pos c6] at hf
    refine V.iconst (v := (-1 : Int32)) dX12_gap_20 (by decide) ?_
    refine V.goto (tgt := 37) dX12_gap_21 (by decide) ?_
    obtain rfl := Option.some.inj hf
    exact V.iret dX12_gap_37

