def f_X12_readWant_114 (h : xH) (l0 : Nat) (l1 : Int32) (l2 : Int32) (l3 : Int32) (l4 : Int32) (l6 : Int32) (s0 : Int32) : Option (xH) := (gI h l0 12 12).bind fun v1 => (if v1 = 0 then ((gR h l0 12 2).bind fun v3 => (stI h .int v3 l1 l2).bind fun h4 => (gR h4 l0 12 2).bind fun v5 => (stI h4 .int v5 (l1 + (1 : Int32)) l3).bind fun h6 => (gR h6 l0 12 2).bind fun v7 => (stI h6 .int v7 (l1 + (2 : Int32)) l4).bind fun h8 => (gR h8 l0 12 2).bind fun v9 => (stI h8 .int v9 (l1 + (3 : Int32)) l6).bind fun h10 => (gR h10 l0 12 2).bind fun v11 => (stI h10 .int v11 (l1 + (4 : Int32)) s0).bind fun h12 => (gR h12 l0 12 2).bind fun v13 => (ldI h12 .int v13 (4 : Int32)).bind fun v14 => (stI h12 .int v13 (4 : Int32) (v14 + (1 : Int32))).bind fun h15 => some (h15)) else (some (h)))
def f_X12_readWant_92 (h : xH) (l0 : Nat) (l1 : Int32) (l2 : Int32) (l3 : Int32) (l4 : Int32) (l5 : Int32) (s0 : Int32) : Option (xH) := (if l5 = 0 then (f_X12_readWant_114 h l0 l1 l2 l3 l4 s0 (23 : Int32)) else ((gO h l0 12).bind fun q2 => (f_X12_told h l0 (xS0 + 2 * 2) s0 (23 : Int32)).bind fun r3 => f_X12_readWant_114 r3.2 l0 l1 l2 l3 l4 s0 (r3.1)))
def f_X12_readWant_66 (h : xH) (l0 : Nat) (l1 : Int32) (l2 : Int32) (l3 : Int32) (s0 : Int32) : Option (xH) := (gO h l0 12).bind fun q1 => (f_X12_took h l0 (xS0 + 2 * 11)).bind fun r2 => (if r2.1 = 0 then (f_X12_readWant_92 r2.2 l0 l1 l2 l3 s0 (r2.1) (0 : Int32)) else ((gO r2.2 l0 12).bind fun q4 => (f_X12_number r2.2 l0 (0 : Int32) (23 : Int32)).bind fun r5 => f_X12_readWant_92 r5.2 l0 l1 l2 l3 s0 (r2.1) (r5.1)))
def f_X12_readWant (h : xH) (l0 : Nat) : Option (xH) := (gO h l0 12).bind fun q1 => (f_X12_begins_ h l0 (4 : Int32) (24 : Int32)).bind fun r2 => (gI r2 l0 12 12).bind fun v3 => (if v3 = 0 then ((gR r2 l0 12 2).bind fun v5 => (ldI r2 .int v5 (4 : Int32)).bind fun v6 => (gO r2 l0 12).bind fun q7 => (f_X12_room r2 l0).bind fun r8 => (gO r8.2 l0 12).bind fun q9 => (f_X12_told r8.2 l0 (xS0 + 2 * 9) (0 : Int32) (9999 : Int32)).bind fun r10 => (gO r10.2 l0 12).bind fun q11 => (f_X12_took r10.2 l0 (xS0 + 2 * 10)).bind fun r12 => (if r12.1 = 0 then (f_X12_readWant_66 r12.2 l0 ((256 : Int32) + ((5 : Int32) * v6)) (r8.1) (r10.1) (99999 : Int32)) else ((gO r12.2 l0 12).bind fun q14 => (f_X12_number r12.2 l0 (r10.1) (9999 : Int32)).bind fun r15 => f_X12_readWant_66 r15.2 l0 ((256 : Int32) + ((5 : Int32) * v6)) (r8.1) (r10.1) (r15.1)))) else (some (r2)))
set_option maxRecDepth 20000 in
theorem w_X12_readWant_114 (h : xH) (l0 : Nat) (l1 : Int32) (l2 : Int32) (l3 : Int32) (l4 : Int32) (l6 : Int32) (s0 : Int32) (r : xH) (hf : f_X12_readWant_114 h l0 l1 l2 l3 l4 l6 s0 = some r) : V 10 yX12_readWant cX12_readWant 8 none [] none 114 [(0, .ref l0), (1, .int l1), (2, .int l2), (3, .int l3), (4, .int l4), (6, .int l6)] [.int s0] h (oVh r) := by
  unfold f_X12_readWant_114 at hf
  refine V.istore (lv' := [(7, .int s0), (0, .ref l0), (1, .int l1), (2, .int l2), (3, .int l3), (4, .int l4), (6, .int l6)]) dX12_readWant_114 (by decide) rfl ?_
  refine V.aload_n dX12_readWant_116 rfl 1 rfl ?_
  obtain ⟨v1, e1, hf⟩ := bS hf
  refine V.xgI dX12_readWant_117 fl_RX12_107 e1 ?_
  refine V.if_eq (tgt := 124) dX12_readWant_120 (by decide) (fun c2 => ?_) (fun c2 => ?_)
  · rw [if_pos c2] at hf
    refine V.aload_n dX12_readWant_124 rfl 1 rfl ?_
    obtain ⟨v3, e2, hf⟩ := bS hf
    refine V.xgR dX12_readWant_125 fl_RX12_16 e2 ?_
    refine V.iload_n dX12_readWant_128 rfl 2 rfl ?_
    refine V.iload_n dX12_readWant_129 rfl 3 rfl ?_
    obtain ⟨h4, e3, hf⟩ := bS hf
    refine V.xstI dX12_readWant_130 e3 ?_
    refine V.aload_n dX12_readWant_131 rfl 1 rfl ?_
    obtain ⟨v5, e4, hf⟩ := bS hf
    refine V.xgR dX12_readWant_132 fl_RX12_16 e4 ?_
    refine V.iload_n dX12_readWant_135 rfl 2 rfl ?_
    refine V.iconst (v := (1 : Int32)) dX12_readWant_136 (by decide) ?_
    refine V.iadd dX12_readWant_137 ?_
    refine V.iload_n dX12_readWant_138 rfl 4 rfl ?_
    obtain ⟨h6, e5, hf⟩ := bS hf
    refine V.xstI dX12_readWant_139 e5 ?_
    refine V.aload_n dX12_readWant_140 rfl 1 rfl ?_
    obtain ⟨v7, e6, hf⟩ := bS hf
    refine V.xgR dX12_readWant_141 fl_RX12_16 e6 ?_
    refine V.iload_n dX12_readWant_144 rfl 2 rfl ?_
    refine V.iconst (v := (2 : Int32)) dX12_readWant_145 (by decide) ?_
    refine V.iadd dX12_readWant_146 ?_
    refine V.iload dX12_readWant_147 5 rfl ?_
    obtain ⟨h8, e7, hf⟩ := bS hf
    refine V.xstI dX12_readWant_149 e7 ?_
    refine V.aload_n dX12_readWant_150 rfl 1 rfl ?_
    obtain ⟨v9, e8, hf⟩ := bS hf
    refine V.xgR dX12_readWant_151 fl_RX12_16 e8 ?_
    refine V.iload_n dX12_readWant_154 rfl 2 rfl ?_
    refine V.iconst (v := (3 : Int32)) dX12_readWant_155 (by decide) ?_
    refine V.iadd dX12_readWant_156 ?_
    refine V.iload dX12_readWant_157 6 rfl ?_
    obtain ⟨h10, e9, hf⟩ := bS hf
    refine V.xstI dX12_readWant_159 e9 ?_
    refine V.aload_n dX12_readWant_160 rfl 1 rfl ?_
    obtain ⟨v11, e10, hf⟩ := bS hf
    refine V.xgR dX12_readWant_161 fl_RX12_16 e10 ?_
    refine V.iload_n dX12_readWant_164 rfl 2 rfl ?_
    refine V.iconst (v := (4 : Int32)) dX12_readWant_165 (by decide) ?_
    refine V.iadd dX12_readWant_166 ?_
    refine V.iload dX12_readWant_167 0 rfl ?_
    obtain ⟨h12, e11, hf⟩ := bS hf
    refine V.xstI dX12_readWant_169 e11 ?_
    refine V.aload_n dX12_readWant_170 rfl 1 rfl ?_
    obtain ⟨v13, e12, hf⟩ := bS hf
    refine V.xgR dX12_readWant_171 fl_RX12_16 e12 ?_
    refine V.iconst (v := (4 : Int32)) dX12_readWant_174 (by decide) ?_
    refine V.dup2 dX12_readWant_175 rfl rfl ?_
    obtain ⟨v14, e13, hf⟩ := bS hf
    refine V.xldI dX12_readWant_176 e13 ?_
    refine V.iconst (v := (1 : Int32)) dX12_readWant_177 (by decide) ?_
    refine V.iadd dX12_readWant_178 ?_
    obtain ⟨h15, e14, hf⟩ := bS hf
    refine V.xstI dX12_readWant_179 e14 ?_
    obtain rfl := Option.some.inj hf
    exact V.vret dX12_readWant_180
  · rw [if_neg c2] at hf
    obtain rfl := Option.some.inj hf
    exact V.vret dX12_readWant_123

set_option maxRecDepth 20000 in
theorem w_X12_readWant_92 (h : xH) (l0 : Nat) (l1 : Int32) (l2 : Int32) (l3 : Int32) (l4 : Int32) (l5 : Int32) (s0 : Int32) (r : xH) (hf : f_X12_readWant_92 h l0 l1 l2 l3 l4 l5 s0 = some r) : V 10 yX12_readWant cX12_readWant 8 none [] none 92 [(0, .ref l0), (1, .int l1), (2, .int l2), (3, .int l3), (4, .int l4), (5, .int l5)] [.int s0] h (oVh r) := by
  unfold f_X12_readWant_92 at hf
  refine V.istore (lv' := [(6, .int s0), (0, .ref l0), (1, .int l1), (2, .int l2), (3, .int l3), (4, .int l4), (5, .int l5)]) dX12_readWant_92 (by decide) rfl ?_
  refine V.iload dX12_readWant_94 6 rfl ?_
  refine V.if_eq (tgt := 112) dX12_readWant_96 (by decide) (fun c1 => ?_) (fun c1 => ?_)
  · rw [if_pos c1] at hf
    refine V.bipush (v := (23 : Int32)) dX12_readWant_112 (by decide) ?_
    refine V.sub [1, 2, 3, 4, 5, 0] rfl ?_
    exact w_X12_readWant_114 _ _ _ _ _ _ _ _ _ hf
  · rw [if_neg c1] at hf
    refine V.aload_n dX12_readWant_99 rfl 1 rfl ?_
    refine V.ldcS (i := 2) dX12_readWant_100 (by decide) ?_
    refine V.iload dX12_readWant_102 0 rfl ?_
    refine V.bipush (v := (23 : Int32)) dX12_readWant_104 (by decide) ?_
    obtain ⟨q2, e15, hf⟩ := bS hf
    obtain ⟨r3, e16, hf⟩ := bS hf
    refine V.callV (As := [.ref (xS0 + 2 * 2), .int s0, .int (23 : Int32)]) (st := []) dX12_readWant_106 cl_RX12_156 sw_yX12_told (by decide) rfl (Nat.le_of_ble_eq_true rfl) rfl (gO_some e15) rfl (w_X12_told _ _ _ _ _ _ e16) ?_
    refine V.goto (tgt := 114) dX12_readWant_109 (by decide) ?_
    refine V.sub [1, 2, 3, 4, 5, 0] rfl ?_
    exact w_X12_readWant_114 _ _ _ _ _ _ _ _ _ hf

set_option maxRecDepth 20000 in
theorem w_X12_readWant_66 (h : xH) (l0 : Nat) (l1 : Int32) (l2 : Int32) (l3 : Int32) (s0 : Int32) (r : xH) (hf : f_X12_readWant_66 h l0 l1 l2 l3 s0 = some r) : V 10 yX12_readWant cX12_readWant 8 none [] none 66 [(0, .ref l0), (1, .int l1), (2, .int l2), (3, .int l3)] [.int s0] h (oVh r) := by
  unfold f_X12_readWant_66 at hf
  refine V.istore (lv' := [(4, .int s0), (0, .ref l0), (1, .int l1), (2, .int l2), (3, .int l3)]) dX12_readWant_66 (by decide) rfl ?_
  refine V.aload_n dX12_readWant_68 rfl 1 rfl ?_
  refine V.ldcS (i := 11) dX12_readWant_69 (by decide) ?_
  obtain ⟨q1, e17, hf⟩ := bS hf
  obtain ⟨r2, e18, hf⟩ := bS hf
  refine V.callV (As := [.ref (xS0 + 2 * 11)]) (st := []) dX12_readWant_71 cl_RX12_142 sw_yX12_took (by decide) rfl (Nat.le_of_ble_eq_true rfl) rfl (gO_some e17) rfl (w_X12_took _ _ _ _ e18) ?_
  refine V.istore (lv' := [(5, .int r2.1), (4, .int s0), (0, .ref l0), (1, .int l1), (2, .int l2), (3, .int l3)]) dX12_readWant_74 (by decide) rfl ?_
  refine V.iload dX12_readWant_76 0 rfl ?_
  refine V.if_eq (tgt := 91) dX12_readWant_78 (by decide) (fun c3 => ?_) (fun c3 => ?_)
  · rw [if_pos c3] at hf
    refine V.iconst (v := (0 : Int32)) dX12_readWant_91 (by decide) ?_
    refine V.sub [2, 3, 4, 5, 1, 0] rfl ?_
    exact w_X12_readWant_92 _ _ _ _ _ _ _ _ _ hf
  · rw [if_neg c3] at hf
    refine V.aload_n dX12_readWant_81 rfl 2 rfl ?_
    refine V.iconst (v := (0 : Int32)) dX12_readWant_82 (by decide) ?_
    refine V.bipush (v := (23 : Int32)) dX12_readWant_83 (by decide) ?_
    obtain ⟨q4, e19, hf⟩ := bS hf
    obtain ⟨r5, e20, hf⟩ := bS hf
    refine V.callV (As := [.int (0 : Int32), .int (23 : Int32)]) (st := []) dX12_readWant_85 cl_RX12_145 sw_yX12_number (by decide) rfl (Nat.le_of_ble_eq_true rfl) rfl (gO_some e19) rfl (w_X12_number _ _ _ _ _ e20) ?_
    refine V.goto (tgt := 92) dX12_readWant_88 (by decide) ?_
    refine V.sub [2, 3, 4, 5, 1, 0] rfl ?_
    exact w_X12_readWant_92 _ _ _ _ _ _ _ _ _ hf

set_option maxRecDepth 20000 in
theorem w_X12_readWant (h : xH) (l0 : Nat) (r : xH) (hf : f_X12_readWant h l0 = some r) : Ev 10 yX12_readWant cX12_readWant 8 none [] [.ref l0] h (oVh r) := by
  refine Ev.of (by decide +kernel) (Nat.le_of_ble_eq_true rfl) ?_
  unfold f_X12_readWant at hf
  refine V.aload_n dX12_readWant_0 rfl 0 rfl ?_
  refine V.iconst (v := (4 : Int32)) dX12_readWant_1 (by decide) ?_
  refine V.bipush (v := (24 : Int32)) dX12_readWant_2 (by decide) ?_
  obtain ⟨q1, e21, hf⟩ := bS hf
  obtain ⟨r2, e22, hf⟩ := bS hf
  refine V.callV (As := [.int (4 : Int32), .int (24 : Int32)]) (st := []) dX12_readWant_4 cl_RX12_159 sw_yX12_begins_ (by decide) rfl (Nat.le_of_ble_eq_true rfl) rfl (gO_some e21) rfl (w_X12_begins_ _ _ _ _ _ e22) ?_
  refine V.aload_n dX12_readWant_7 rfl 0 rfl ?_
  obtain ⟨v3, e23, hf⟩ := bS hf
  refine V.xgI dX12_readWant_8 fl_RX12_107 e23 ?_
  refine V.if_eq (tgt := 15) dX12_readWant_11 (by decide) (fun c4 => ?_) (fun c4 => ?_)
  · rw [if_pos c4] at hf
    refine V.sipush (v := (256 : Int32)) dX12_readWant_15 (by decide) ?_
    refine V.iconst (v := (5 : Int32)) dX12_readWant_18 (by decide) ?_
    refine V.aload_n dX12_readWant_19 rfl 0 rfl ?_
    obtain ⟨v5, e24, hf⟩ := bS hf
    refine V.xgR dX12_readWant_20 fl_RX12_16 e24 ?_
    refine V.iconst (v := (4 : Int32)) dX12_readWant_23 (by decide) ?_
    obtain ⟨v6, e25, hf⟩ := bS hf
    refine V.xldI dX12_readWant_24 e25 ?_
    refine V.imul dX12_readWant_25 ?_
    refine V.iadd dX12_readWant_26 ?_
    refine V.istore_n (lv' := [(1, .int ((256 : Int32) + ((5 : Int32) * v6))), (0, .ref l0)]) dX12_readWant_27 rfl (by decide) rfl ?_
    refine V.aload_n dX12_readWant_28 rfl 1 rfl ?_
    obtain ⟨q7, e26, hf⟩ := bS hf
    obtain ⟨r8, e27, hf⟩ := bS hf
    refine V.callV (As := []) (st := []) dX12_readWant_29 cl_RX12_149 sw_yX12_room (by decide) rfl (Nat.le_of_ble_eq_true rfl) rfl (gO_some e26) rfl (w_X12_room _ _ _ e27) ?_
    refine V.istore_n (lv' := [(2, .int r8.1), (1, .int ((256 : Int32) + ((5 : Int32) * v6))), (0, .ref l0)]) dX12_readWant_32 rfl (by decide) rfl ?_
    refine V.aload_n dX12_readWant_33 rfl 2 rfl ?_
    refine V.ldcS (i := 9) dX12_readWant_34 (by decide) ?_
    refine V.iconst (v := (0 : Int32)) dX12_readWant_36 (by decide) ?_
    refine V.sipush (v := (9999 : Int32)) dX12_readWant_37 (by decide) ?_
    obtain ⟨q9, e28, hf⟩ := bS hf
    obtain ⟨r10, e29, hf⟩ := bS hf
    refine V.callV (As := [.ref (xS0 + 2 * 9), .int (0 : Int32), .int (9999 : Int32)]) (st := []) dX12_readWant_40 cl_RX12_156 sw_yX12_told (by decide) rfl (Nat.le_of_ble_eq_true rfl) rfl (gO_some e28) rfl (w_X12_told _ _ _ _ _ _ e29) ?_
    refine V.istore_n (lv' := [(3, .int r10.1), (2, .int r8.1), (1, .int ((256 : Int32) + ((5 : Int32) * v6))), (0, .ref l0)]) dX12_readWant_43 rfl (by decide) rfl ?_
    refine V.aload_n dX12_readWant_44 rfl 3 rfl ?_
    refine V.ldcS (i := 10) dX12_readWant_45 (by decide) ?_
    obtain ⟨q11, e30, hf⟩ := bS hf
    obtain ⟨r12, e31, hf⟩ := bS hf
    refine V.callV (As := [.ref (xS0 + 2 * 10)]) (st := []) dX12_readWant_47 cl_RX12_142 sw_yX12_took (by decide) rfl (Nat.le_of_ble_eq_true rfl) rfl (gO_some e30) rfl (w_X12_took _ _ _ _ e31) ?_
    refine V.if_eq (tgt := 64) dX12_readWant_50 (by decide) (fun c13 => ?_) (fun c13 => ?_)
    · rw [if_pos c13] at hf
      refine V.ldc (v := 99999) dX12_readWant_64 co_RX12_177 ?_
      refine V.sub [3, 2, 1, 0] rfl ?_
      exact w_X12_readWant_66 _ _ _ _ _ _ _ hf
    · rw [if_neg c13] at hf
      refine V.aload_n dX12_readWant_53 rfl 3 rfl ?_
      refine V.iload_n dX12_readWant_54 rfl 0 rfl ?_
      refine V.sipush (v := (9999 : Int32)) dX12_readWant_55 (by decide) ?_
      obtain ⟨q14, e32, hf⟩ := bS hf
      obtain ⟨r15, e33, hf⟩ := bS hf
      refine V.callV (As := [.int (r10.1), .int (9999 : Int32)]) (st := []) dX12_readWant_58 cl_RX12_145 sw_yX12_number (by decide) rfl (Nat.le_of_ble_eq_true rfl) rfl (gO_some e32) rfl (w_X12_number _ _ _ _ _ e33) ?_
      refine V.goto (tgt := 66) dX12_readWant_61 (by decide) ?_
      refine V.sub [3, 2, 1, 0] rfl ?_
      exact w_X12_readWant_66 _ _ _ _ _ _ _ hf
  · rw [if_neg c4] at hf
    obtain rfl := Option.some.inj hf
    exact V.vret dX12_readWant_14

def f_X12_readLine_174 (h : xH) (l0 : Nat) : Option (xH) := (gI h l0 12 12).bind fun v1 => (if v1 = 0 then ((gO h l0 12).bind fun q3 => (f_X12_reads h l0).bind fun r4 => (gR r4 l0 12 2).bind fun v5 => (ldI r4 .int v5 (0 : Int32)).bind fun v6 => (stI r4 .int v5 (0 : Int32) (v6 + (1 : Int32))).bind fun h7 => some (h7)) else (some (h)))
def f_X12_readLine_161 (h : xH) (l0 : Nat) : Option (xH) := (gI h l0 12 10).bind fun v1 => (if v1 = (3 : Int32) then (f_X12_readLine_174 h l0) else ((gO h l0 12).bind fun q3 => (f_X12_blames h l0 (2 : Int32)).bind fun r4 => f_X12_readLine_174 r4 l0))
def f_X12_readLine (h : xH) (l0 : Nat) : Option (xH) := (gO h l0 12).bind fun q1 => (f_X12_isWord h l0 (xS0 + 2 * 0)).bind fun r2 => (if r2 = 0 then ((gO h l0 12).bind fun q4 => (f_X12_isWord h l0 (xS0 + 2 * 5)).bind fun r5 => (if r5 = 0 then ((gO h l0 12).bind fun q7 => (f_X12_took h l0 (xS0 + 2 * 17)).bind fun r8 => (if r8.1 = 0 then ((gR r8.2 l0 12 2).bind fun v10 => (ldI r8.2 .int v10 (1 : Int32)).bind fun v11 => (if v11 = 0 then ((gO r8.2 l0 12).bind fun q40 => (f_X12_blames r8.2 l0 (2 : Int32)).bind fun r41 => f_X12_readLine_161 r41 l0) else ((gO r8.2 l0 12).bind fun q13 => (f_X12_isWord r8.2 l0 (xS0 + 2 * 1)).bind fun r14 => (if r14 = 0 then ((gO r8.2 l0 12).bind fun q16 => (f_X12_isWord r8.2 l0 (xS0 + 2 * 8)).bind fun r17 => (if r17 = 0 then ((gO r8.2 l0 12).bind fun q19 => (f_X12_isWord r8.2 l0 (xS0 + 2 * 12)).bind fun r20 => (if r20 = 0 then ((gO r8.2 l0 12).bind fun q22 => (f_X12_isWord r8.2 l0 (xS0 + 2 * 14)).bind fun r23 => (if r23 = 0 then ((gO r8.2 l0 12).bind fun q25 => (f_X12_isWord r8.2 l0 (xS0 + 2 * 16)).bind fun r26 => (if r26 = 0 then ((gO r8.2 l0 12).bind fun q28 => (f_X12_blames r8.2 l0 (2 : Int32)).bind fun r29 => f_X12_readLine_161 r29 l0) else ((gO r8.2 l0 12).bind fun q30 => (f_X12_readHates r8.2 l0).bind fun r31 => f_X12_readLine_161 r31 l0))) else ((gO r8.2 l0 12).bind fun q32 => (f_X12_readBurns r8.2 l0).bind fun r33 => f_X12_readLine_161 r33 l0))) else ((gO r8.2 l0 12).bind fun q34 => (f_X12_readHole r8.2 l0).bind fun r35 => f_X12_readLine_161 r35 l0))) else ((gO r8.2 l0 12).bind fun q36 => (f_X12_readWant r8.2 l0).bind fun r37 => f_X12_readLine_161 r37 l0))) else ((gO r8.2 l0 12).bind fun q38 => (f_X12_readPane r8.2 l0).bind fun r39 => f_X12_readLine_161 r39 l0))))) else ((gR r8.2 l0 12 2).bind fun v42 => (gO r8.2 l0 12).bind fun q43 => (f_X12_number r8.2 l0 (0 : Int32) (999 : Int32)).bind fun r44 => (stI r44.2 .int v42 (6 : Int32) (r44.1)).bind fun h45 => f_X12_readLine_161 h45 l0))) else ((gO h l0 12).bind fun q46 => (f_X12_readLamp h l0).bind fun r47 => f_X12_readLine_161 r47 l0))) else ((gO h l0 12).bind fun q48 => (f_X12_readRooms h l0).bind fun r49 => f_X12_readLine_161 r49 l0))
set_option maxRecDepth 20000 in
theorem w_X12_readLine_174 (h : xH) (l0 : Nat) (r : xH) (hf : f_X12_readLine_174 h l0 = some r) : V 12 yX12_readLine cX12_readLine 1 none [] none 174 [(0, .ref l0)] [] h (oVh r) := by
  unfold f_X12_readLine_174 at hf
  refine V.aload_n dX12_readLine_174 rfl 0 rfl ?_
  obtain ⟨v1, e1, hf⟩ := bS hf
  refine V.xgI dX12_readLine_175 fl_RX12_107 e1 ?_
  refine V.if_eq (tgt := 182) dX12_readLine_178 (by decide) (fun c2 => ?_) (fun c2 => ?_)
  · rw [if_pos c2] at hf
    refine V.aload_n dX12_readLine_182 rfl 0 rfl ?_
    obtain ⟨q3, e2, hf⟩ := bS hf
    obtain ⟨r4, e3, hf⟩ := bS hf
    refine V.callV (As := []) (st := []) dX12_readLine_183 cl_RX12_127 sw_yX12_reads (by decide) rfl (Nat.le_of_ble_eq_true rfl) rfl (gO_some e2) rfl (w_X12_reads _ _ _ e3) ?_
    refine V.aload_n dX12_readLine_186 rfl 0 rfl ?_
    obtain ⟨v5, e4, hf⟩ := bS hf
    refine V.xgR dX12_readLine_187 fl_RX12_16 e4 ?_
    refine V.iconst (v := (0 : Int32)) dX12_readLine_190 (by decide) ?_
    refine V.dup2 dX12_readLine_191 rfl rfl ?_
    obtain ⟨v6, e5, hf⟩ := bS hf
    refine V.xldI dX12_readLine_192 e5 ?_
    refine V.iconst (v := (1 : Int32)) dX12_readLine_193 (by decide) ?_
    refine V.iadd dX12_readLine_194 ?_
    obtain ⟨h7, e6, hf⟩ := bS hf
    refine V.xstI dX12_readLine_195 e6 ?_
    obtain rfl := Option.some.inj hf
    exact V.vret dX12_readLine_196
  · rw [if_neg c2] at hf
    obtain rfl := Option.some.inj hf
    exact V.vret dX12_readLine_181

set_option maxRecDepth 20000 in
theorem w_X12_readLine_161 (h : xH) (l0 : Nat) (r : xH) (hf : f_X12_readLine_161 h l0 = some r) : V 12 yX12_readLine cX12_readLine 1 none [] none 161 [(0, .ref l0)] [] h (oVh r) := by
  unfold f_X12_readLine_161 at hf
  refine V.aload_n dX12_readLine_161 rfl 0 rfl ?_
  obtain ⟨v1, e7, hf⟩ := bS hf
  refine V.xgI dX12_readLine_162 fl_RX12_90 e7 ?_
  refine V.iconst (v := (3 : Int32)) dX12_readLine_165 (by decide) ?_
  refine V.icmp_eq (tgt := 174) dX12_readLine_166 (by decide) (fun c2 => ?_) (fun c2 => ?_)
  · rw [if_pos c2] at hf
    exact w_X12_readLine_174 _ _ _ hf
  · rw [if_neg c2] at hf
    refine V.aload_n dX12_readLine_169 rfl 0 rfl ?_
    refine V.iconst (v := (2 : Int32)) dX12_readLine_170 (by decide) ?_
    obtain ⟨q3, e8, hf⟩ := bS hf
    obtain ⟨r4, e9, hf⟩ := bS hf
    refine V.callV (As := [.int (2 : Int32)]) (st := []) dX12_readLine_171 cl_RX12_130 sw_yX12_blames (by decide) rfl (Nat.le_of_ble_eq_true rfl) rfl (gO_some e8) rfl (w_X12_blames _ _ _ _ e9) ?_
    exact w_X12_readLine_174 _ _ _ hf

set_option maxRecDepth 20000 in
theorem w_X12_readLine (h : xH) (l0 : Nat) (r : xH) (hf : f_X12_readLine h l0 = some r) : Ev 12 yX12_readLine cX12_readLine 1 none [] [.ref l0] h (oVh r) := by
  refine Ev.of (by decide +kernel) (Nat.le_of_ble_eq_true rfl) ?_
  unfold f_X12_readLine at hf
  refine V.aload_n dX12_readLine_0 rfl 0 rfl ?_
  refine V.ldcS (i := 0) dX12_readLine_1 (by decide) ?_
  obtain ⟨q1, e10, hf⟩ := bS hf
  obtain ⟨r2, e11, hf⟩ := bS hf
  refine V.callV (As := [.ref (xS0 + 2 * 0)]) (st := []) dX12_readLine_3 cl_RX12_123 sw_yX12_isWord (by decide) rfl (Nat.le_of_ble_eq_true rfl) rfl (gO_some e10) rfl (w_X12_isWord _ _ _ _ e11) ?_
  refine V.if_eq (tgt := 16) dX12_readLine_6 (by decide) (fun c3 => ?_) (fun c3 => ?_)
  · rw [if_pos c3] at hf
    refine V.aload_n dX12_readLine_16 rfl 0 rfl ?_
    refine V.ldcS (i := 5) dX12_readLine_17 (by decide) ?_
    obtain ⟨q4, e12, hf⟩ := bS hf
    obtain ⟨r5, e13, hf⟩ := bS hf
    refine V.callV (As := [.ref (xS0 + 2 * 5)]) (st := []) dX12_readLine_19 cl_RX12_123 sw_yX12_isWord (by decide) rfl (Nat.le_of_ble_eq_true rfl) rfl (gO_some e12) rfl (w_X12_isWord _ _ _ _ e13) ?_
    refine V.if_eq (tgt := 32) dX12_readLine_22 (by decide) (fun c6 => ?_) (fun c6 => ?_)
    · rw [if_pos c6] at hf
      refine V.aload_n dX12_readLine_32 rfl 0 rfl ?_
      refine V.ldcS (i := 17) dX12_readLine_33 (by decide) ?_
      obtain ⟨q7, e14, hf⟩ := bS hf
      obtain ⟨r8, e15, hf⟩ := bS hf
      refine V.callV (As := [.ref (xS0 + 2 * 17)]) (st := []) dX12_readLine_35 cl_RX12_142 sw_yX12_took (by decide) rfl (Nat.le_of_ble_eq_true rfl) rfl (gO_some e14) rfl (w_X12_took _ _ _ _ e15) ?_
      refine V.if_eq (tgt := 59) dX12_readLine_38 (by decide) (fun c9 => ?_) (fun c9 => ?_)
      · rw [if_pos c9] at hf
        refine V.aload_n dX12_readLine_59 rfl 0 rfl ?_
        obtain ⟨v10, e16, hf⟩ := bS hf
        refine V.xgR dX12_readLine_60 fl_RX12_16 e16 ?_
        refine V.iconst (v := (1 : Int32)) dX12_readLine_63 (by decide) ?_
        obtain ⟨v11, e17, hf⟩ := bS hf
        refine V.xldI dX12_readLine_64 e17 ?_
        refine V.if_ne (tgt := 76) dX12_readLine_65 (by decide) (fun c12 => ?_) (fun c12 => ?_)
        · rw [if_neg c12] at hf
          refine V.aload_n dX12_readLine_76 rfl 0 rfl ?_
          refine V.ldcS (i := 1) dX12_readLine_77 (by decide) ?_
          obtain ⟨q13, e18, hf⟩ := bS hf
          obtain ⟨r14, e19, hf⟩ := bS hf
          refine V.callV (As := [.ref (xS0 + 2 * 1)]) (st := []) dX12_readLine_79 cl_RX12_123 sw_yX12_isWord (by decide) rfl (Nat.le_of_ble_eq_true rfl) rfl (gO_some e18) rfl (w_X12_isWord _ _ _ _ e19) ?_
          refine V.if_eq (tgt := 92) dX12_readLine_82 (by decide) (fun c15 => ?_) (fun c15 => ?_)
          · rw [if_pos c15] at hf
            refine V.aload_n dX12_readLine_92 rfl 0 rfl ?_
            refine V.ldcS (i := 8) dX12_readLine_93 (by decide) ?_
            obtain ⟨q16, e20, hf⟩ := bS hf
            obtain ⟨r17, e21, hf⟩ := bS hf
            refine V.callV (As := [.ref (xS0 + 2 * 8)]) (st := []) dX12_readLine_95 cl_RX12_123 sw_yX12_isWord (by decide) rfl (Nat.le_of_ble_eq_true rfl) rfl (gO_some e20) rfl (w_X12_isWord _ _ _ _ e21) ?_
            refine V.if_eq (tgt := 108) dX12_readLine_98 (by decide) (fun c18 => ?_) (fun c18 => ?_)
            · rw [if_pos c18] at hf
              refine V.aload_n dX12_readLine_108 rfl 0 rfl ?_
              refine V.ldcS (i := 12) dX12_readLine_109 (by decide) ?_
              obtain ⟨q19, e22, hf⟩ := bS hf
              obtain ⟨r20, e23, hf⟩ := bS hf
              refine V.callV (As := [.ref (xS0 + 2 * 12)]) (st := []) dX12_readLine_111 cl_RX12_123 sw_yX12_isWord (by decide) rfl (Nat.le_of_ble_eq_true rfl) rfl (gO_some e22) rfl (w_X12_isWord _ _ _ _ e23) ?_
              refine V.if_eq (tgt := 124) dX12_readLine_114 (by decide) (fun c21 => ?_) (fun c21 => ?_)
              · rw [if_pos c21] at hf
                refine V.aload_n dX12_readLine_124 rfl 0 rfl ?_
                refine V.ldcS (i := 14) dX12_readLine_125 (by decide) ?_
                obtain ⟨q22, e24, hf⟩ := bS hf
                obtain ⟨r23, e25, hf⟩ := bS hf
                refine V.callV (As := [.ref (xS0 + 2 * 14)]) (st := []) dX12_readLine_127 cl_RX12_123 sw_yX12_isWord (by decide) rfl (Nat.le_of_ble_eq_true rfl) rfl (gO_some e24) rfl (w_X12_isWord _ _ _ _ e25) ?_
                refine V.if_eq (tgt := 140) dX12_readLine_130 (by decide) (fun c24 => ?_) (fun c24 => ?_)
                · rw [if_pos c24] at hf
                  refine V.aload_n dX12_readLine_140 rfl 0 rfl ?_
                  refine V.ldcS (i := 16) dX12_readLine_141 (by decide) ?_
                  obtain ⟨q25, e26, hf⟩ := bS hf
                  obtain ⟨r26, e27, hf⟩ := bS hf
                  refine V.callV (As := [.ref (xS0 + 2 * 16)]) (st := []) dX12_readLine_143 cl_RX12_123 sw_yX12_isWord (by decide) rfl (Nat.le_of_ble_eq_true rfl) rfl (gO_some e26) rfl (w_X12_isWord _ _ _ _ e27) ?_
                  refine V.if_eq (tgt := 156) dX12_readLine_146 (by decide) (fun c27 => ?_) (fun c27 => ?_)
                  · rw [if_pos c27] at hf
                    refine V.aload_n dX12_readLine_156 rfl 0 rfl ?_
                    refine V.iconst (v := (2 : Int32)) dX12_readLine_157 (by decide) ?_
                    obtain ⟨q28, e28, hf⟩ := bS hf
                    obtain ⟨r29, e29, hf⟩ := bS hf
                    refine V.callV (As := [.int (2 : Int32)]) (st := []) dX12_readLine_158 cl_RX12_130 sw_yX12_blames (by decide) rfl (Nat.le_of_ble_eq_true rfl) rfl (gO_some e28) rfl (w_X12_blames _ _ _ _ e29) ?_
                    exact w_X12_readLine_161 _ _ _ hf
                  · rw [if_neg c27] at hf
                    refine V.aload_n dX12_readLine_149 rfl 0 rfl ?_
                    obtain ⟨q30, e30, hf⟩ := bS hf
                    obtain ⟨r31, e31, hf⟩ := bS hf
                    refine V.callV (As := []) (st := []) dX12_readLine_150 cl_RX12_216 sw_yX12_readHates (by decide) rfl (Nat.le_of_ble_eq_true rfl) rfl (gO_some e30) rfl (w_X12_readHates _ _ _ e31) ?_
                    refine V.goto (tgt := 161) dX12_readLine_153 (by decide) ?_
                    exact w_X12_readLine_161 _ _ _ hf
                · rw [if_neg c24] at hf
                  refine V.aload_n dX12_readLine_133 rfl 0 rfl ?_
                  obtain ⟨q32, e32, hf⟩ := bS hf
                  obtain ⟨r33, e33, hf⟩ := bS hf
                  refine V.callV (As := []) (st := []) dX12_readLine_134 cl_RX12_211 sw_yX12_readBurns (by decide) rfl (Nat.le_of_ble_eq_true rfl) rfl (gO_some e32) rfl (w_X12_readBurns _ _ _ e33) ?_
                  refine V.goto (tgt := 161) dX12_readLine_137 (by decide) ?_
                  exact w_X12_readLine_161 _ _ _ hf
              · rw [if_neg c21] at hf
                refine V.aload_n dX12_readLine_117 rfl 0 rfl ?_
                obtain ⟨q34, e34, hf⟩ := bS hf
                obtain ⟨r35, e35, hf⟩ := bS hf
                refine V.callV (As := []) (st := []) dX12_readLine_118 cl_RX12_206 sw_yX12_readHole (by decide) rfl (Nat.le_of_ble_eq_true rfl) rfl (gO_some e34) rfl (w_X12_readHole _ _ _ e35) ?_
                refine V.goto (tgt := 161) dX12_readLine_121 (by decide) ?_
                exact w_X12_readLine_161 _ _ _ hf
            · rw [if_neg c18] at hf
              refine V.aload_n dX12_readLine_101 rfl 0 rfl ?_
              obtain ⟨q36, e36, hf⟩ := bS hf
              obtain ⟨r37, e37, hf⟩ := bS hf
              refine V.callV (As := []) (st := []) dX12_readLine_102 cl_RX12_201 sw_yX12_readWant (by decide) rfl (Nat.le_of_ble_eq_true rfl) rfl (gO_some e36) rfl (w_X12_readWant _ _ _ e37) ?_
              refine V.goto (tgt := 161) dX12_readLine_105 (by decide) ?_
              exact w_X12_readLine_161 _ _ _ hf
          · rw [if_neg c15] at hf
            refine V.aload_n dX12_readLine_85 rfl 0 rfl ?_
            obtain ⟨q38, e38, hf⟩ := bS hf
            obtain ⟨r39, e39, hf⟩ := bS hf
            refine V.callV (As := []) (st := []) dX12_readLine_86 cl_RX12_196 sw_yX12_readPane (by decide) rfl (Nat.le_of_ble_eq_true rfl) rfl (gO_some e38) rfl (w_X12_readPane _ _ _ e39) ?_
            refine V.goto (tgt := 161) dX12_readLine_89 (by decide) ?_
            exact w_X12_readLine_161 _ _ _ hf
        · rw [if_pos c12] at hf
          refine V.aload_n dX12_readLine_68 rfl 0 rfl ?_
          refine V.iconst (v := (2 : Int32)) dX12_readLine_69 (by decide) ?_
          obtain ⟨q40, e40, hf⟩ := bS hf
          obtain ⟨r41, e41, hf⟩ := bS hf
          refine V.callV (As := [.int (2 : Int32)]) (st := []) dX12_readLine_70 cl_RX12_130 sw_yX12_blames (by decide) rfl (Nat.le_of_ble_eq_true rfl) rfl (gO_some e40) rfl (w_X12_blames _ _ _ _ e41) ?_
          refine V.goto (tgt := 161) dX12_readLine_73 (by decide) ?_
          exact w_X12_readLine_161 _ _ _ hf
      · rw [if_neg c9] at hf
        refine V.aload_n dX12_readLine_41 rfl 0 rfl ?_
        obtain ⟨v42, e42, hf⟩ := bS hf
        refine V.xgR dX12_readLine_42 fl_RX12_16 e42 ?_
        refine V.bipush (v := (6 : Int32)) dX12_readLine_45 (by decide) ?_
        refine V.aload_n dX12_readLine_47 rfl 0 rfl ?_
        refine V.iconst (v := (0 : Int32)) dX12_readLine_48 (by decide) ?_
        refine V.sipush (v := (999 : Int32)) dX12_readLine_49 (by decide) ?_
        obtain ⟨q43, e43, hf⟩ := bS hf
        obtain ⟨r44, e44, hf⟩ := bS hf
        refine V.callV (As := [.int (0 : Int32), .int (999 : Int32)]) (st := [.int (6 : Int32), .ref v42]) dX12_readLine_52 cl_RX12_145 sw_yX12_number (by decide) rfl (Nat.le_of_ble_eq_true rfl) rfl (gO_some e43) rfl (w_X12_number _ _ _ _ _ e44) ?_
        obtain ⟨h45, e45, hf⟩ := bS hf
        refine V.xstI dX12_readLine_55 e45 ?_
        refine V.goto (tgt := 161) dX12_readLine_56 (by decide) ?_
        exact w_X12_readLine_161 _ _ _ hf
    · rw [if_neg c6] at hf
      refine V.aload_n dX12_readLine_25 rfl 0 rfl ?_
      obtain ⟨q46, e46, hf⟩ := bS hf
      obtain ⟨r47, e47, hf⟩ := bS hf
      refine V.callV (As := []) (st := []) dX12_readLine_26 cl_RX12_189 sw_yX12_readLamp (by decide) rfl (Nat.le_of_ble_eq_true rfl) rfl (gO_some e46) rfl (w_X12_readLamp _ _ _ e47) ?_
      refine V.goto (tgt := 161) dX12_readLine_29 (by decide) ?_
      exact w_X12_readLine_161 _ _ _ hf
  · rw [if_neg c3] at hf
    refine V.aload_n dX12_readLine_9 rfl 0 rfl ?_
    obtain ⟨q48, e48, hf⟩ := bS hf
    obtain ⟨r49, e49, hf⟩ := bS hf
    refine V.callV (As := []) (st := []) dX12_readLine_10 cl_RX12_184 sw_yX12_readRooms (by decide) rfl (Nat.le_of_ble_eq_true rfl) rfl (gO_some e48) rfl (w_X12_readRooms _ _ _ e49) ?_
    refine V.goto (tgt := 161) dX12_readLine_13 (by decide) ?_
    exact w_X12_readLine_161 _ _ _ hf

def f_X12_house_121 : Nat → xH → Nat → Int32 → Option (Int32 × xH)
  | 0, _, _, _ => none
  | n + 1, h, l0, l2 => (if (480 : Int32) ≤ l2 then ((gR h l0 12 0).bind fun v2 => (ldI h .int v2 (0 : Int32)).bind fun v3 => some ((v3, h))) else ((gR h l0 12 0).bind fun v4 => (gR h l0 12 2).bind fun v5 => (ldI h .int v5 l2).bind fun v6 => (stI h .int v4 l2 v6).bind fun h7 => f_X12_house_121 n h7 l0 (l2 + 1)))
def f_X12_house_101 (h : xH) (l0 : Nat) (s0 : Int32) (s1 : Nat) : Option (Int32 × xH) := (pF h s1 12 15 (.int s0)).bind fun h1 => (gI h1 l0 12 12).bind fun v2 => (if v2 = 0 then (f_X12_house_121 xFU h1 l0 (0 : Int32)) else ((gI h1 l0 12 12).bind fun v4 => some ((((-10 : Int32) - v4), h1))))
def f_X12_house_77 (h : xH) (l0 : Nat) : Option (Int32 × xH) := (gI h l0 12 12).bind fun v1 => (pF h l0 12 14 (.int v1)).bind fun h2 => (gI h2 l0 12 12).bind fun v3 => (if v3 = 0 then (f_X12_house_101 h2 l0 (-1 : Int32) l0) else ((gI h2 l0 12 13).bind fun v5 => f_X12_house_101 h2 l0 v5 l0))
def f_X12_house_56 : Nat → xH → Nat → Option (Int32 × xH)
  | 0, _, _ => none
  | n + 1, h, l0 => (gI h l0 12 12).bind fun v1 => (if v1 = 0 then ((gI h l0 12 10).bind fun v3 => (if v3 = 0 then (f_X12_house_77 h l0) else ((gO h l0 12).bind fun q5 => (f_X12_readLine h l0).bind fun r6 => f_X12_house_56 n r6 l0))) else (f_X12_house_77 h l0))
def f_X12_house (h : xH) (l0 : Nat) (l1 : Int32) : Option (Int32 × xH) := (pF h l0 12 4 (.int (0 : Int32))).bind fun h1 => (gI h1 l0 12 6).bind fun v2 => (f_X12_within h1 (Int32.toInt64 l1) (0 : Int64) (Int32.toInt64 v2)).bind fun r3 => (if r3 = 0 then ((gO h1 l0 12).bind fun q13 => (f_X12_fails h1 l0 (1 : Int32)).bind fun r14 => some ((r14.1, r14.2))) else ((pF h1 l0 12 7 (.int l1)).bind fun h5 => (pF h5 l0 12 6 (.int (0 : Int32))).bind fun h6 => (pF h6 l0 12 8 (.int (0 : Int32))).bind fun h7 => (pF h7 l0 12 12 (.int (0 : Int32))).bind fun h8 => (gR h8 l0 12 2).bind fun v9 => (f_X12_begins h8 v9).bind fun r10 => (gO r10 l0 12).bind fun q11 => (f_X12_reads r10 l0).bind fun r12 => f_X12_house_56 xFU r12 l0))
set_option maxRecDepth 20000 in
theorem w_X12_house_121 : ∀ (n : Nat) (h : xH) (l0 : Nat) (l2 : Int32) (r : Int32 × xH), f_X12_house_121 n h l0 l2 = some r → V 13 yX12_house cX12_house 3 (some .int) [] none 121 [(0, .ref l0), (2, .int l2)] [] h (oIh r) := by
  intro n
  induction n with
  | zero => intro h l0 l2 r hf; cases hf
  | succ n ih =>
    intro h l0 l2 r hf
    rw [f_X12_house_121] at hf
    refine V.iload_n dX12_house_121 rfl 1 rfl ?_
    refine V.sipush (v := (480 : Int32)) dX12_house_122 (by decide) ?_
    refine V.icmp_ge (tgt := 146) dX12_house_125 (by decide) (fun c1 => ?_) (fun c1 => ?_)
    · rw [if_pos c1] at hf
      refine V.aload_n dX12_house_146 rfl 0 rfl ?_
      obtain ⟨v2, e1, hf⟩ := bS hf
      refine V.xgR dX12_house_147 fl_RX12_9 e1 ?_
      refine V.iconst (v := (0 : Int32)) dX12_house_150 (by decide) ?_
      obtain ⟨v3, e2, hf⟩ := bS hf
      refine V.xldI dX12_house_151 e2 ?_
      obtain rfl := Option.some.inj hf
      exact V.iret dX12_house_152
    · rw [if_neg c1] at hf
      refine V.aload_n dX12_house_128 rfl 0 rfl ?_
      obtain ⟨v4, e3, hf⟩ := bS hf
      refine V.xgR dX12_house_129 fl_RX12_9 e3 ?_
      refine V.iload_n dX12_house_132 rfl 1 rfl ?_
      refine V.aload_n dX12_house_133 rfl 0 rfl ?_
      obtain ⟨v5, e4, hf⟩ := bS hf
      refine V.xgR dX12_house_134 fl_RX12_16 e4 ?_
      refine V.iload_n dX12_house_137 rfl 1 rfl ?_
      obtain ⟨v6, e5, hf⟩ := bS hf
      refine V.xldI dX12_house_138 e5 ?_
      obtain ⟨h7, e6, hf⟩ := bS hf
      refine V.xstI dX12_house_139 e6 ?_
      refine V.iinc (v := (l2 + 1)) (lv' := [(2, .int (l2 + 1)), (0, .ref l0)]) dX12_house_140 1 rfl rfl (Nat.le_of_ble_eq_true rfl) rfl ?_
      refine V.goto (tgt := 121) dX12_house_143 (by decide) ?_
      refine V.sub [1, 0] rfl ?_
      exact ih _ _ _ _ hf

set_option maxRecDepth 20000 in
theorem w_X12_house_101 (h : xH) (l0 : Nat) (s0 : Int32) (s1 : Nat) (r : Int32 × xH) (hf : f_X12_house_101 h l0 s0 s1 = some r) : V 13 yX12_house cX12_house 3 (some .int) [] none 101 [(0, .ref l0)] [.int s0, .ref s1] h (oIh r) := by
  unfold f_X12_house_101 at hf
  obtain ⟨h1, e7, hf⟩ := bS hf
  refine V.xpF dX12_house_101 fl_RX12_26 (fun h9 => nomatch h9) (fun _ => rfl) (fun _ => rfl) e7 ?_
  refine V.aload_n dX12_house_104 rfl 0 rfl ?_
  obtain ⟨v2, e8, hf⟩ := bS hf
  refine V.xgI dX12_house_105 fl_RX12_107 e8 ?_
  refine V.if_eq (tgt := 119) dX12_house_108 (by decide) (fun c3 => ?_) (fun c3 => ?_)
  · rw [if_pos c3] at hf
    refine V.iconst (v := (0 : Int32)) dX12_house_119 (by decide) ?_
    refine V.istore_n (lv' := [(2, .int (0 : Int32)), (0, .ref l0)]) dX12_house_120 rfl (by decide) rfl ?_
    refine V.sub [1, 0] rfl ?_
    exact w_X12_house_121 _ _ _ _ _ hf
  · rw [if_neg c3] at hf
    refine V.bipush (v := (-10 : Int32)) dX12_house_111 (by decide) ?_
    refine V.aload_n dX12_house_113 rfl 0 rfl ?_
    obtain ⟨v4, e9, hf⟩ := bS hf
    refine V.xgI dX12_house_114 fl_RX12_107 e9 ?_
    refine V.isub dX12_house_117 ?_
    obtain rfl := Option.some.inj hf
    exact V.iret dX12_house_118

set_option maxRecDepth 20000 in
theorem w_X12_house_77 (h : xH) (l0 : Nat) (r : Int32 × xH) (hf : f_X12_house_77 h l0 = some r) : V 13 yX12_house cX12_house 3 (some .int) [] none 77 [(0, .ref l0)] [] h (oIh r) := by
  unfold f_X12_house_77 at hf
  refine V.aload_n dX12_house_77 rfl 0 rfl ?_
  refine V.aload_n dX12_house_78 rfl 0 rfl ?_
  obtain ⟨v1, e10, hf⟩ := bS hf
  refine V.xgI dX12_house_79 fl_RX12_107 e10 ?_
  obtain ⟨h2, e11, hf⟩ := bS hf
  refine V.xpF dX12_house_82 fl_RX12_225 (fun h9 => nomatch h9) (fun _ => rfl) (fun _ => rfl) e11 ?_
  refine V.aload_n dX12_house_85 rfl 0 rfl ?_
  refine V.aload_n dX12_house_86 rfl 0 rfl ?_
  obtain ⟨v3, e12, hf⟩ := bS hf
  refine V.xgI dX12_house_87 fl_RX12_107 e12 ?_
  refine V.if_ne (tgt := 97) dX12_house_90 (by decide) (fun c4 => ?_) (fun c4 => ?_)
  · rw [if_neg c4] at hf
    refine V.aload_n dX12_house_97 rfl 0 rfl ?_
    obtain ⟨v5, e13, hf⟩ := bS hf
    refine V.xgI dX12_house_98 fl_RX12_110 e13 ?_
    exact w_X12_house_101 _ _ _ _ _ hf
  · rw [if_pos c4] at hf
    refine V.iconst (v := (-1 : Int32)) dX12_house_93 (by decide) ?_
    refine V.goto (tgt := 101) dX12_house_94 (by decide) ?_
    exact w_X12_house_101 _ _ _ _ _ hf

set_option maxRecDepth 20000 in
theorem w_X12_house_56 : ∀ (n : Nat) (h : xH) (l0 : Nat) (r : Int32 × xH), f_X12_house_56 n h l0 = some r → V 13 yX12_house cX12_house 3 (some .int) [] none 56 [(0, .ref l0)] [] h (oIh r) := by
  intro n
  induction n with
  | zero => intro h l0 r hf; cases hf
  | succ n ih =>
    intro h l0 r hf
    rw [f_X12_house_56] at hf
    refine V.aload_n dX12_house_56 rfl 0 rfl ?_
    obtain ⟨v1, e14, hf⟩ := bS hf
    refine V.xgI dX12_house_57 fl_RX12_107 e14 ?_
    refine V.if_ne (tgt := 77) dX12_house_60 (by decide) (fun c2 => ?_) (fun c2 => ?_)
    · rw [if_neg c2] at hf
      exact w_X12_house_77 _ _ _ hf
    · rw [if_pos c2] at hf
      refine V.aload_n dX12_house_63 rfl 0 rfl ?_
      obtain ⟨v3, e15, hf⟩ := bS hf
      refine V.xgI dX12_house_64 fl_RX12_90 e15 ?_
      refine V.if_eq (tgt := 77) dX12_house_67 (by decide) (fun c4 => ?_) (fun c4 => ?_)
      · rw [if_pos c4] at hf
        exact w_X12_house_77 _ _ _ hf
      · rw [if_neg c4] at hf
        refine V.aload_n dX12_house_70 rfl 0 rfl ?_
        obtain ⟨q5, e16, hf⟩ := bS hf
        obtain ⟨r6, e17, hf⟩ := bS hf
        refine V.callV (As := []) (st := []) dX12_house_71 cl_RX12_222 sw_yX12_readLine (by decide) rfl (Nat.le_of_ble_eq_true rfl) rfl (gO_some e16) rfl (w_X12_readLine _ _ _ e17) ?_
        refine V.goto (tgt := 56) dX12_house_74 (by decide) ?_
        exact ih _ _ _ hf

set_option maxRecDepth 20000 in
theorem w_X12_house (h : xH) (l0 : Nat) (l1 : Int32) (r : Int32 × xH) (hf : f_X12_house h l0 l1 = some r) : Ev 13 yX12_house cX12_house 3 (some .int) [] [.ref l0, .int l1] h (oIh r) := by
  refine Ev.of (by decide +kernel) (Nat.le_of_ble_eq_true rfl) ?_
  unfold f_X12_house at hf
  refine V.aload_n dX12_house_0 rfl 0 rfl ?_
  refine V.iconst (v := (0 : Int32)) dX12_house_1 (by decide) ?_
  obtain ⟨h1, e18, hf⟩ := bS hf
  refine V.xpF dX12_house_2 fl_RX12_75 (fun h9 => nomatch h9) (fun _ => rfl) (fun _ => rfl) e18 ?_
  refine V.iload_n dX12_house_5 rfl 1 rfl ?_
  refine V.i2l dX12_house_6 ?_
  refine V.lconst (v := 0) dX12_house_7 (by decide) ?_
  refine V.aload_n dX12_house_8 rfl 0 rfl ?_
  obtain ⟨v2, e19, hf⟩ := bS hf
  refine V.xgI dX12_house_9 fl_RX12_78 e19 ?_
  refine V.i2l dX12_house_12 ?_
  obtain ⟨r3, e20, hf⟩ := bS hf
  refine V.callS (As := [.long (Int32.toInt64 l1), .long (0 : Int64), .long (Int32.toInt64 v2)]) (st := []) dX12_house_13 cl_RX12_134 sw_yX12_within (by decide) rfl (Nat.le_of_ble_eq_true rfl) rfl (w_X12_within _ _ _ _ _ e20) ?_
  refine V.if_ne (tgt := 25) dX12_house_16 (by decide) (fun c4 => ?_) (fun c4 => ?_)
  · rw [if_neg c4] at hf
    refine V.aload_n dX12_house_25 rfl 0 rfl ?_
    refine V.iload_n dX12_house_26 rfl 1 rfl ?_
    obtain ⟨h5, e21, hf⟩ := bS hf
    refine V.xpF dX12_house_27 fl_RX12_81 (fun h9 => nomatch h9) (fun _ => rfl) (fun _ => rfl) e21 ?_
    refine V.aload_n dX12_house_30 rfl 0 rfl ?_
    refine V.iconst (v := (0 : Int32)) dX12_house_31 (by decide) ?_
    obtain ⟨h6, e22, hf⟩ := bS hf
    refine V.xpF dX12_house_32 fl_RX12_78 (fun h9 => nomatch h9) (fun _ => rfl) (fun _ => rfl) e22 ?_
    refine V.aload_n dX12_house_35 rfl 0 rfl ?_
    refine V.iconst (v := (0 : Int32)) dX12_house_36 (by decide) ?_
    obtain ⟨h7, e23, hf⟩ := bS hf
    refine V.xpF dX12_house_37 fl_RX12_84 (fun h9 => nomatch h9) (fun _ => rfl) (fun _ => rfl) e23 ?_
    refine V.aload_n dX12_house_40 rfl 0 rfl ?_
    refine V.iconst (v := (0 : Int32)) dX12_house_41 (by decide) ?_
    obtain ⟨h8, e24, hf⟩ := bS hf
    refine V.xpF dX12_house_42 fl_RX12_107 (fun h9 => nomatch h9) (fun _ => rfl) (fun _ => rfl) e24 ?_
    refine V.aload_n dX12_house_45 rfl 0 rfl ?_
    obtain ⟨v9, e25, hf⟩ := bS hf
    refine V.xgR dX12_house_46 fl_RX12_16 e25 ?_
    obtain ⟨r10, e26, hf⟩ := bS hf
    refine V.callS (As := [.ref v9]) (st := []) dX12_house_49 cl_RX12_71 sw_yX12_begins (by decide) rfl (Nat.le_of_ble_eq_true rfl) rfl (w_X12_begins _ _ _ e26) ?_
    refine V.aload_n dX12_house_52 rfl 0 rfl ?_
    obtain ⟨q11, e27, hf⟩ := bS hf
    obtain ⟨r12, e28, hf⟩ := bS hf
    refine V.callV (As := []) (st := []) dX12_house_53 cl_RX12_127 sw_yX12_reads (by decide) rfl (Nat.le_of_ble_eq_true rfl) rfl (gO_some e27) rfl (w_X12_reads _ _ _ e28) ?_
    refine V.sub [0] rfl ?_
    exact w_X12_house_56 _ _ _ _ hf
  · rw [if_pos c4] at hf
    refine V.aload_n dX12_house_19 rfl 0 rfl ?_
    refine V.iconst (v := (1 : Int32)) dX12_house_20 (by decide) ?_
    obtain ⟨q13, e29, hf⟩ := bS hf
    obtain ⟨r14, e30, hf⟩ := bS hf
    refine V.callV (As := [.int (1 : Int32)]) (st := []) dX12_house_21 cl_RX12_219 sw_yX12_fails (by decide) rfl (Nat.le_of_ble_eq_true rfl) rfl (gO_some e29) rfl (w_X12_fails _ _ _ _ e30) ?_
    obtain rfl := Option.some.inj hf
    exact V.iret dX12_house_24

def f_X12_image_38 : Nat → xH → Nat → Int32 → Int32 → Option (xH)
  | 0, _, _, _, _ => none
  | n + 1, h, l0, l1, l2 => (if (480 : Int32) ≤ l2 then (some (h)) else ((gR h l0 12 1).bind fun v2 => (gR h l0 12 0).bind fun v3 => (ldI h .int v3 l2).bind fun v4 => (stI h .int v2 (((480 : Int32) * l1) + l2) v4).bind fun h5 => f_X12_image_38 n h5 l0 l1 (l2 + 1)))
def f_X12_image_18 (h : xH) (l0 : Nat) (l1 : Int32) (s0 : Int32) (s1 : Nat) : Option (xH) := (pF h s1 12 4 (.int s0)).bind fun h1 => (gI h1 l0 12 4).bind fun v2 => (if v2 ≤ 0 then ((gR h1 l0 12 3).bind fun v4 => (stI h1 .boolean v4 l1 (vp_nar .boolean (1 : Int32))).bind fun h5 => f_X12_image_38 xFU h5 l0 l1 (0 : Int32)) else (some (h1)))
def f_X12_image (h : xH) (l0 : Nat) (l1 : Int32) : Option (xH) := (f_X12_within h (Int32.toInt64 l1) (0 : Int64) (2 : Int64)).bind fun r1 => (if r1 = 0 then (f_X12_image_18 h l0 l1 (1 : Int32) l0) else (f_X12_image_18 h l0 l1 (0 : Int32) l0))
set_option maxRecDepth 20000 in
theorem w_X12_image_38 : ∀ (n : Nat) (h : xH) (l0 : Nat) (l1 : Int32) (l2 : Int32) (r : xH), f_X12_image_38 n h l0 l1 l2 = some r → V 4 yX12_image cX12_image 3 none [] none 38 [(0, .ref l0), (1, .int l1), (2, .int l2)] [] h (oVh r) := by
  intro n
  induction n with
  | zero => intro h l0 l1 l2 r hf; cases hf
  | succ n ih =>
    intro h l0 l1 l2 r hf
    rw [f_X12_image_38] at hf
    refine V.iload_n dX12_image_38 rfl 2 rfl ?_
    refine V.sipush (v := (480 : Int32)) dX12_image_39 (by decide) ?_
    refine V.icmp_ge (tgt := 69) dX12_image_42 (by decide) (fun c1 => ?_) (fun c1 => ?_)
    · rw [if_pos c1] at hf
      obtain rfl := Option.some.inj hf
      exact V.vret dX12_image_69
    · rw [if_neg c1] at hf
      refine V.aload_n dX12_image_45 rfl 0 rfl ?_
      obtain ⟨v2, e1, hf⟩ := bS hf
      refine V.xgR dX12_image_46 fl_RX12_13 e1 ?_
      refine V.sipush (v := (480 : Int32)) dX12_image_49 (by decide) ?_
      refine V.iload_n dX12_image_52 rfl 1 rfl ?_
      refine V.imul dX12_image_53 ?_
      refine V.iload_n dX12_image_54 rfl 2 rfl ?_
      refine V.iadd dX12_image_55 ?_
      refine V.aload_n dX12_image_56 rfl 0 rfl ?_
      obtain ⟨v3, e2, hf⟩ := bS hf
      refine V.xgR dX12_image_57 fl_RX12_9 e2 ?_
      refine V.iload_n dX12_image_60 rfl 2 rfl ?_
      obtain ⟨v4, e3, hf⟩ := bS hf
      refine V.xldI dX12_image_61 e3 ?_
      obtain ⟨h5, e4, hf⟩ := bS hf
      refine V.xstI dX12_image_62 e4 ?_
      refine V.iinc (v := (l2 + 1)) (lv' := [(2, .int (l2 + 1)), (0, .ref l0), (1, .int l1)]) dX12_image_63 2 rfl rfl (Nat.le_of_ble_eq_true rfl) rfl ?_
      refine V.goto (tgt := 38) dX12_image_66 (by decide) ?_
      refine V.sub [1, 2, 0] rfl ?_
      exact ih _ _ _ _ _ hf

set_option maxRecDepth 20000 in
theorem w_X12_image_18 (h : xH) (l0 : Nat) (l1 : Int32) (s0 : Int32) (s1 : Nat) (r : xH) (hf : f_X12_image_18 h l0 l1 s0 s1 = some r) : V 4 yX12_image cX12_image 3 none [] none 18 [(0, .ref l0), (1, .int l1)] [.int s0, .ref s1] h (oVh r) := by
  unfold f_X12_image_18 at hf
  obtain ⟨h1, e5, hf⟩ := bS hf
  refine V.xpF dX12_image_18 fl_RX12_75 (fun h9 => nomatch h9) (fun _ => rfl) (fun _ => rfl) e5 ?_
  refine V.aload_n dX12_image_21 rfl 0 rfl ?_
  obtain ⟨v2, e6, hf⟩ := bS hf
  refine V.xgI dX12_image_22 fl_RX12_75 e6 ?_
  refine V.if_le (tgt := 29) dX12_image_25 (by decide) (fun c3 => ?_) (fun c3 => ?_)
  · rw [if_pos c3] at hf
    refine V.aload_n dX12_image_29 rfl 0 rfl ?_
    obtain ⟨v4, e7, hf⟩ := bS hf
    refine V.xgR dX12_image_30 fl_RX12_19 e7 ?_
    refine V.iload_n dX12_image_33 rfl 1 rfl ?_
    refine V.iconst (v := (1 : Int32)) dX12_image_34 (by decide) ?_
    obtain ⟨h5, e8, hf⟩ := bS hf
    refine V.xstZ dX12_image_35 e8 ?_
    refine V.iconst (v := (0 : Int32)) dX12_image_36 (by decide) ?_
    refine V.istore_n (lv' := [(2, .int (0 : Int32)), (0, .ref l0), (1, .int l1)]) dX12_image_37 rfl (by decide) rfl ?_
    refine V.sub [1, 2, 0] rfl ?_
    exact w_X12_image_38 _ _ _ _ _ _ hf
  · rw [if_neg c3] at hf
    obtain rfl := Option.some.inj hf
    exact V.vret dX12_image_28

set_option maxRecDepth 20000 in
theorem w_X12_image (h : xH) (l0 : Nat) (l1 : Int32) (r : xH) (hf : f_X12_image h l0 l1 = some r) : Ev 4 yX12_image cX12_image 3 none [] [.ref l0, .int l1] h (oVh r) := by
  refine Ev.of (by decide +kernel) (Nat.le_of_ble_eq_true rfl) ?_
  unfold f_X12_image at hf
  refine V.aload_n dX12_image_0 rfl 0 rfl ?_
  refine V.iload_n dX12_image_1 rfl 1 rfl ?_
  refine V.i2l dX12_image_2 ?_
  refine V.lconst (v := 0) dX12_image_3 (by decide) ?_
  refine V.ldc2 (v := (2 : Int64)) dX12_image_4 cj_RX12_268 ?_
  obtain ⟨r1, e9, hf⟩ := bS hf
  refine V.callS (As := [.long (Int32.toInt64 l1), .long (0 : Int64), .long (2 : Int64)]) (st := [.ref l0]) dX12_image_7 cl_RX12_134 sw_yX12_within (by decide) rfl (Nat.le_of_ble_eq_true rfl) rfl (w_X12_within _ _ _ _ _ e9) ?_
  refine V.if_eq (tgt := 17) dX12_image_10 (by decide) (fun c2 => ?_) (fun c2 => ?_)
  · rw [if_pos c2] at hf
    refine V.iconst (v := (1 : Int32)) dX12_image_17 (by decide) ?_
    exact w_X12_image_18 _ _ _ _ _ _ hf
  · rw [if_neg c2] at hf
    refine V.iconst (v := (0 : Int32)) dX12_image_13 (by decide) ?_
    refine V.goto (tgt := 18) dX12_image_14 (by decide) ?_
    exact w_X12_image_18 _ _ _ _ _ _ hf

def f_X12_judge_21 (k7 : xH → Nat → Int32 → Option (Int32 × xH)) : Nat → xH → Nat → Int32 → Int32 → Int32 → Option (Int32 × xH)
  | 0, _, _, _, _, _ => none
  | n + 1, h, l0, l1, l2, l3 => (gO h l0 12).bind fun q1 => (f_X12_rooms h l0).bind fun r2 => (if r2 ≤ l3 then (k7 h l0 (l1 + 1)) else ((f_X12_has h l2 l3).bind fun r4 => (if r4 = 0 then (f_X12_judge_21 k7 n h l0 l1 l2 (l3 + 1)) else (some (((((100 : Int32) * l1) + l3), h))))))
def f_X12_judge_7 : Nat → xH → Nat → Int32 → Option (Int32 × xH)
  | 0, _, _, _ => none
  | n + 1, h, l0, l1 => (if (24 : Int32) ≤ l1 then (some (((-1 : Int32), h))) else ((gO h l0 12).bind fun q2 => (f_X12_darkIn h l0 l1).bind fun r3 => f_X12_judge_21 (f_X12_judge_7 n) xFU r3.2 l0 l1 (r3.1) (0 : Int32)))
def f_X12_judge (h : xH) (l0 : Nat) : Option (Int32 × xH) := (pF h l0 12 4 (.int (0 : Int32))).bind fun h1 => f_X12_judge_7 xFU h1 l0 (0 : Int32)
set_option maxRecDepth 20000 in
theorem w_X12_judge_21 {k7 : xH → Nat → Int32 → Option (Int32 × xH)} (hk7 : ∀ (h : xH) (l0 : Nat) (l1 : Int32) (r : Int32 × xH), k7 h l0 l1 = some r → V 7 yX12_judge cX12_judge 4 (some .int) [] none 7 [(0, .ref l0), (1, .int l1)] [] h (oIh r)) : ∀ (n : Nat) (h : xH) (l0 : Nat) (l1 : Int32) (l2 : Int32) (l3 : Int32) (r : Int32 × xH), f_X12_judge_21 k7 n h l0 l1 l2 l3 = some r → V 7 yX12_judge cX12_judge 4 (some .int) [] none 21 [(0, .ref l0), (1, .int l1), (2, .int l2), (3, .int l3)] [] h (oIh r) := by
  intro n
  induction n with
  | zero => intro h l0 l1 l2 l3 r hf; cases hf
  | succ n ih =>
    intro h l0 l1 l2 l3 r hf
    rw [f_X12_judge_21] at hf
    refine V.iload_n dX12_judge_21 rfl 3 rfl ?_
    refine V.aload_n dX12_judge_22 rfl 0 rfl ?_
    obtain ⟨q1, e1, hf⟩ := bS hf
    obtain ⟨r2, e2, hf⟩ := bS hf
    refine V.callV (As := []) (st := [.int l3]) dX12_judge_23 cl_RX12_228 sw_yX12_rooms (by decide) rfl (Nat.le_of_ble_eq_true rfl) rfl (gO_some e1) rfl (w_X12_rooms _ _ _ e2) ?_
    refine V.icmp_ge (tgt := 50) dX12_judge_26 (by decide) (fun c3 => ?_) (fun c3 => ?_)
    · rw [if_pos c3] at hf
      refine V.iinc (v := (l1 + 1)) (lv' := [(1, .int (l1 + 1)), (0, .ref l0), (2, .int l2), (3, .int l3)]) dX12_judge_50 1 rfl rfl (Nat.le_of_ble_eq_true rfl) rfl ?_
      refine V.goto (tgt := 7) dX12_judge_53 (by decide) ?_
      refine V.sub [1, 0] rfl ?_
      exact hk7 _ _ _ _ hf
    · rw [if_neg c3] at hf
      refine V.iload_n dX12_judge_29 rfl 2 rfl ?_
      refine V.iload_n dX12_judge_30 rfl 3 rfl ?_
      obtain ⟨r4, e3, hf⟩ := bS hf
      refine V.callS (As := [.int l2, .int l3]) (st := []) dX12_judge_31 cl_RX12_246 sw_yX12_has (by decide) rfl (Nat.le_of_ble_eq_true rfl) rfl (w_X12_has _ _ _ _ e3) ?_
      refine V.if_eq (tgt := 44) dX12_judge_34 (by decide) (fun c5 => ?_) (fun c5 => ?_)
      · rw [if_pos c5] at hf
        refine V.iinc (v := (l3 + 1)) (lv' := [(3, .int (l3 + 1)), (0, .ref l0), (1, .int l1), (2, .int l2)]) dX12_judge_44 3 rfl rfl (Nat.le_of_ble_eq_true rfl) rfl ?_
        refine V.goto (tgt := 21) dX12_judge_47 (by decide) ?_
        refine V.sub [1, 2, 3, 0] rfl ?_
        exact ih _ _ _ _ _ _ hf
      · rw [if_neg c5] at hf
        refine V.bipush (v := (100 : Int32)) dX12_judge_37 (by decide) ?_
        refine V.iload_n dX12_judge_39 rfl 1 rfl ?_
        refine V.imul dX12_judge_40 ?_
        refine V.iload_n dX12_judge_41 rfl 3 rfl ?_
        refine V.iadd dX12_judge_42 ?_
        obtain rfl := Option.some.inj hf
        exact V.iret dX12_judge_43

set_option maxRecDepth 20000 in
theorem w_X12_judge_7 : ∀ (n : Nat) (h : xH) (l0 : Nat) (l1 : Int32) (r : Int32 × xH), f_X12_judge_7 n h l0 l1 = some r → V 7 yX12_judge cX12_judge 4 (some .int) [] none 7 [(0, .ref l0), (1, .int l1)] [] h (oIh r) := by
  intro n
  induction n with
  | zero => intro h l0 l1 r hf; cases hf
  | succ n ih =>
    intro h l0 l1 r hf
    rw [f_X12_judge_7] at hf
    refine V.iload_n dX12_judge_7 rfl 1 rfl ?_
    refine V.bipush (v := (24 : Int32)) dX12_judge_8 (by decide) ?_
    refine V.icmp_ge (tgt := 56) dX12_judge_10 (by decide) (fun c1 => ?_) (fun c1 => ?_)
    · rw [if_pos c1] at hf
      refine V.iconst (v := (-1 : Int32)) dX12_judge_56 (by decide) ?_
      obtain rfl := Option.some.inj hf
      exact V.iret dX12_judge_57
    · rw [if_neg c1] at hf
      refine V.aload_n dX12_judge_13 rfl 0 rfl ?_
      refine V.iload_n dX12_judge_14 rfl 1 rfl ?_
      obtain ⟨q2, e4, hf⟩ := bS hf
      obtain ⟨r3, e5, hf⟩ := bS hf
      refine V.callV (As := [.int l1]) (st := []) dX12_judge_15 cl_RX12_279 sw_yX12_darkIn (by decide) rfl (Nat.le_of_ble_eq_true rfl) rfl (gO_some e4) rfl (w_X12_darkIn _ _ _ _ e5) ?_
      refine V.istore_n (lv' := [(2, .int r3.1), (0, .ref l0), (1, .int l1)]) dX12_judge_18 rfl (by decide) rfl ?_
      refine V.iconst (v := (0 : Int32)) dX12_judge_19 (by decide) ?_
      refine V.istore_n (lv' := [(3, .int (0 : Int32)), (2, .int r3.1), (0, .ref l0), (1, .int l1)]) dX12_judge_20 rfl (by decide) rfl ?_
      refine V.sub [2, 3, 1, 0] rfl ?_
      exact w_X12_judge_21 ih _ _ _ _ _ _ _ hf

set_option maxRecDepth 20000 in
theorem w_X12_judge (h : xH) (l0 : Nat) (r : Int32 × xH) (hf : f_X12_judge h l0 = some r) : Ev 7 yX12_judge cX12_judge 4 (some .int) [] [.ref l0] h (oIh r) := by
  refine Ev.of (by decide +kernel) (Nat.le_of_ble_eq_true rfl) ?_
  unfold f_X12_judge at hf
  refine V.aload_n dX12_judge_0 rfl 0 rfl ?_
  refine V.iconst (v := (0 : Int32)) dX12_judge_1 (by decide) ?_
  obtain ⟨h1, e6, hf⟩ := bS hf
  refine V.xpF dX12_judge_2 fl_RX12_75 (fun h9 => nomatch h9) (fun _ => rfl) (fun _ => rfl) e6 ?_
  refine V.iconst (v := (0 : Int32)) dX12_judge_5 (by decide) ?_
  refine V.istore_n (lv' := [(1, .int (0 : Int32)), (0, .ref l0)]) dX12_judge_6 rfl (by decide) rfl ?_
  refine V.sub [1, 0] rfl ?_
  exact w_X12_judge_7 _ _ _ _ _ hf

def f_X12_kind (h : xH) (l0 : Nat) (l1 : Int32) (l2 : Int32) : Option (Int32 × xH) := (pF h l0 12 4 (.int (0 : Int32))).bind fun h1 => (gO h1 l0 12).bind fun q2 => (f_X12_isKind h1 l0 l1).bind fun r3 => (if r3 = 0 then ((gO h1 l0 12).bind fun q11 => (f_X12_fails h1 l0 (1 : Int32)).bind fun r12 => some ((r12.1, r12.2))) else ((f_X12_within h1 (Int32.toInt64 l2) (0 : Int64) (1 : Int64)).bind fun r5 => (if r5 = 0 then ((gO h1 l0 12).bind fun q7 => (f_X12_fails h1 l0 (2 : Int32)).bind fun r8 => some ((r8.1, r8.2))) else ((gR h1 l0 12 0).bind fun v9 => (ldI h1 .int v9 (((248 : Int32) + ((2 : Int32) * l1)) + l2)).bind fun v10 => some ((v10, h1))))))
set_option maxRecDepth 20000 in
theorem w_X12_kind (h : xH) (l0 : Nat) (l1 : Int32) (l2 : Int32) (r : Int32 × xH) (hf : f_X12_kind h l0 l1 l2 = some r) : Ev 5 yX12_kind cX12_kind 3 (some .int) [] [.ref l0, .int l1, .int l2] h (oIh r) := by
  refine Ev.of (by decide +kernel) (Nat.le_of_ble_eq_true rfl) ?_
  unfold f_X12_kind at hf
  refine V.aload_n dX12_kind_0 rfl 0 rfl ?_
  refine V.iconst (v := (0 : Int32)) dX12_kind_1 (by decide) ?_
  obtain ⟨h1, e1, hf⟩ := bS hf
  refine V.xpF dX12_kind_2 fl_RX12_75 (fun h9 => nomatch h9) (fun _ => rfl) (fun _ => rfl) e1 ?_
  refine V.aload_n dX12_kind_5 rfl 0 rfl ?_
  refine V.iload_n dX12_kind_6 rfl 1 rfl ?_
  obtain ⟨q2, e2, hf⟩ := bS hf
  obtain ⟨r3, e3, hf⟩ := bS hf
  refine V.callV (As := [.int l1]) (st := []) dX12_kind_7 cl_RX12_237 sw_yX12_isKind (by decide) rfl (Nat.le_of_ble_eq_true rfl) rfl (gO_some e2) rfl (w_X12_isKind _ _ _ _ e3) ?_
  refine V.if_ne (tgt := 19) dX12_kind_10 (by decide) (fun c4 => ?_) (fun c4 => ?_)
  · rw [if_neg c4] at hf
    refine V.iload_n dX12_kind_19 rfl 2 rfl ?_
    refine V.i2l dX12_kind_20 ?_
    refine V.lconst (v := 0) dX12_kind_21 (by decide) ?_
    refine V.lconst (v := 1) dX12_kind_22 (by decide) ?_
    obtain ⟨r5, e4, hf⟩ := bS hf
    refine V.callS (As := [.long (Int32.toInt64 l2), .long (0 : Int64), .long (1 : Int64)]) (st := []) dX12_kind_23 cl_RX12_134 sw_yX12_within (by decide) rfl (Nat.le_of_ble_eq_true rfl) rfl (w_X12_within _ _ _ _ _ e4) ?_
    refine V.if_eq (tgt := 46) dX12_kind_26 (by decide) (fun c6 => ?_) (fun c6 => ?_)
    · rw [if_pos c6] at hf
      refine V.aload_n dX12_kind_46 rfl 0 rfl ?_
      refine V.iconst (v := (2 : Int32)) dX12_kind_47 (by decide) ?_
      obtain ⟨q7, e5, hf⟩ := bS hf
      obtain ⟨r8, e6, hf⟩ := bS hf
      refine V.callV (As := [.int (2 : Int32)]) (st := []) dX12_kind_48 cl_RX12_219 sw_yX12_fails (by decide) rfl (Nat.le_of_ble_eq_true rfl) rfl (gO_some e5) rfl (w_X12_fails _ _ _ _ e6) ?_
      obtain rfl := Option.some.inj hf
      exact V.iret dX12_kind_51
    · rw [if_neg c6] at hf
      refine V.aload_n dX12_kind_29 rfl 0 rfl ?_
      obtain ⟨v9, e7, hf⟩ := bS hf
      refine V.xgR dX12_kind_30 fl_RX12_9 e7 ?_
      refine V.sipush (v := (248 : Int32)) dX12_kind_33 (by decide) ?_
      refine V.iconst (v := (2 : Int32)) dX12_kind_36 (by decide) ?_
      refine V.iload_n dX12_kind_37 rfl 1 rfl ?_
      refine V.imul dX12_kind_38 ?_
      refine V.iadd dX12_kind_39 ?_
      refine V.iload_n dX12_kind_40 rfl 2 rfl ?_
      refine V.iadd dX12_kind_41 ?_
      obtain ⟨v10, e8, hf⟩ := bS hf
      refine V.xldI dX12_kind_42 e8 ?_
      refine V.goto (tgt := 51) dX12_kind_43 (by decide) ?_
      obtain rfl := Option.some.inj hf
      exact V.iret dX12_kind_51
  · rw [if_pos c4] at hf
    refine V.aload_n dX12_kind_13 rfl 0 rfl ?_
    refine V.iconst (v := (1 : Int32)) dX12_kind_14 (by decide) ?_
    obtain ⟨q11, e9, hf⟩ := bS hf
    obtain ⟨r12, e10, hf⟩ := bS hf
    refine V.callV (As := [.int (1 : Int32)]) (st := []) dX12_kind_15 cl_RX12_219 sw_yX12_fails (by decide) rfl (Nat.le_of_ble_eq_true rfl) rfl (gO_some e9) rfl (w_X12_fails _ _ _ _ e10) ?_
    obtain rfl := Option.some.inj hf
    exact V.iret dX12_kind_18

def f_X12_light (h : xH) (l0 : Nat) (l1 : Int32) (l2 : Int32) : Option (Int32 × xH) := (gO h l0 12).bind fun q1 => (f_X12_roomHour h l0 l1 l2).bind fun r2 => (pF h l0 12 4 (.int r2)).bind fun h3 => (gI h3 l0 12 4).bind fun v4 => (if v4 ≤ 0 then ((gO h3 l0 12).bind fun q6 => (f_X12_layShine h3 l0 l2).bind fun r7 => (gO r7 l0 12).bind fun q8 => (f_X12_lightOf r7 l0 l1).bind fun r9 => some ((r9, r7))) else (some (((0 : Int32), h3))))
set_option maxRecDepth 20000 in
theorem w_X12_light (h : xH) (l0 : Nat) (l1 : Int32) (l2 : Int32) (r : Int32 × xH) (hf : f_X12_light h l0 l1 l2 = some r) : Ev 6 yX12_light cX12_light 3 (some .int) [] [.ref l0, .int l1, .int l2] h (oIh r) := by
  refine Ev.of (by decide +kernel) (Nat.le_of_ble_eq_true rfl) ?_
  unfold f_X12_light at hf
  refine V.aload_n dX12_light_0 rfl 0 rfl ?_
  refine V.aload_n dX12_light_1 rfl 0 rfl ?_
  refine V.iload_n dX12_light_2 rfl 1 rfl ?_
  refine V.iload_n dX12_light_3 rfl 2 rfl ?_
  obtain ⟨q1, e1, hf⟩ := bS hf
  obtain ⟨r2, e2, hf⟩ := bS hf
  refine V.callV (As := [.int l1, .int l2]) (st := [.ref l0]) dX12_light_4 cl_RX12_273 sw_yX12_roomHour (by decide) rfl (Nat.le_of_ble_eq_true rfl) rfl (gO_some e1) rfl (w_X12_roomHour _ _ _ _ _ e2) ?_
  obtain ⟨h3, e3, hf⟩ := bS hf
  refine V.xpF dX12_light_7 fl_RX12_75 (fun h9 => nomatch h9) (fun _ => rfl) (fun _ => rfl) e3 ?_
  refine V.aload_n dX12_light_10 rfl 0 rfl ?_
  obtain ⟨v4, e4, hf⟩ := bS hf
  refine V.xgI dX12_light_11 fl_RX12_75 e4 ?_
  refine V.if_le (tgt := 19) dX12_light_14 (by decide) (fun c5 => ?_) (fun c5 => ?_)
  · rw [if_pos c5] at hf
    refine V.aload_n dX12_light_19 rfl 0 rfl ?_
    refine V.iload_n dX12_light_20 rfl 2 rfl ?_
    obtain ⟨q6, e5, hf⟩ := bS hf
    obtain ⟨r7, e6, hf⟩ := bS hf
    refine V.callV (As := [.int l2]) (st := []) dX12_light_21 cl_RX12_256 sw_yX12_layShine (by decide) rfl (Nat.le_of_ble_eq_true rfl) rfl (gO_some e5) rfl (w_X12_layShine _ _ _ _ e6) ?_
    refine V.aload_n dX12_light_24 rfl 0 rfl ?_
    refine V.iload_n dX12_light_25 rfl 1 rfl ?_
    obtain ⟨q8, e7, hf⟩ := bS hf
    obtain ⟨r9, e8, hf⟩ := bS hf
    refine V.callV (As := [.int l1]) (st := []) dX12_light_26 cl_RX12_253 sw_yX12_lightOf (by decide) rfl (Nat.le_of_ble_eq_true rfl) rfl (gO_some e7) rfl (w_X12_lightOf _ _ _ _ e8) ?_
    obtain rfl := Option.some.inj hf
    exact V.iret dX12_light_29
  · rw [if_neg c5] at hf
    refine V.iconst (v := (0 : Int32)) dX12_light_17 (by decide) ?_
    obtain rfl := Option.some.inj hf
    exact V.iret dX12_light_18

def f_X12_lights_22 (h : xH) (l0 : Nat) (l1 : Int32) (l2 : Int32) (s0 : Int32) (s1 : Nat) : Option (Int32 × xH) := (pF h s1 12 4 (.int s0)).bind fun h1 => (gI h1 l0 12 4).bind fun v2 => (if v2 ≤ 0 then ((gO h1 l0 12).bind fun q4 => (f_X12_layNexts h1 l0).bind fun r5 => (gO r5 l0 12).bind fun q6 => (f_X12_isLit r5 l0 l1 l2).bind fun r7 => (if narrow .boolean (.int r7) = .int r7 then some (r7, r5) else none)) else (some (((0 : Int32), h1))))
def f_X12_lights_21 (h : xH) (l0 : Nat) (l1 : Int32) (l2 : Int32) (s0 : Nat) : Option (Int32 × xH) := f_X12_lights_22 h l0 l1 l2 (1 : Int32) s0
def f_X12_lights (h : xH) (l0 : Nat) (l1 : Int32) (l2 : Int32) : Option (Int32 × xH) := (gO h l0 12).bind fun q1 => (f_X12_isSet h l0 l1).bind fun r2 => (if r2 = 0 then (f_X12_lights_21 h l0 l1 l2 l0) else ((gO h l0 12).bind fun q4 => (f_X12_isSet h l0 l2).bind fun r5 => (if r5 = 0 then (f_X12_lights_21 h l0 l1 l2 l0) else (f_X12_lights_22 h l0 l1 l2 (0 : Int32) l0))))
set_option maxRecDepth 20000 in
theorem w_X12_lights_22 (h : xH) (l0 : Nat) (l1 : Int32) (l2 : Int32) (s0 : Int32) (s1 : Nat) (r : Int32 × xH) (hf : f_X12_lights_22 h l0 l1 l2 s0 s1 = some r) : V 6 yX12_lights cX12_lights 3 (some .boolean) [] none 22 [(0, .ref l0), (1, .int l1), (2, .int l2)] [.int s0, .ref s1] h (oIh r) := by
  unfold f_X12_lights_22 at hf
  obtain ⟨h1, e1, hf⟩ := bS hf
  refine V.xpF dX12_lights_22 fl_RX12_75 (fun h9 => nomatch h9) (fun _ => rfl) (fun _ => rfl) e1 ?_
  refine V.aload_n dX12_lights_25 rfl 0 rfl ?_
  obtain ⟨v2, e2, hf⟩ := bS hf
  refine V.xgI dX12_lights_26 fl_RX12_75 e2 ?_
  refine V.if_le (tgt := 34) dX12_lights_29 (by decide) (fun c3 => ?_) (fun c3 => ?_)
  · rw [if_pos c3] at hf
    refine V.aload_n dX12_lights_34 rfl 0 rfl ?_
    obtain ⟨q4, e3, hf⟩ := bS hf
    obtain ⟨r5, e4, hf⟩ := bS hf
    refine V.callV (As := []) (st := []) dX12_lights_35 cl_RX12_291 sw_yX12_layNexts (by decide) rfl (Nat.le_of_ble_eq_true rfl) rfl (gO_some e3) rfl (w_X12_layNexts _ _ _ e4) ?_
    refine V.aload_n dX12_lights_38 rfl 0 rfl ?_
    refine V.iload_n dX12_lights_39 rfl 1 rfl ?_
    refine V.iload_n dX12_lights_40 rfl 2 rfl ?_
    obtain ⟨q6, e5, hf⟩ := bS hf
    obtain ⟨r7, e6, hf⟩ := bS hf
    refine V.callV (As := [.int l1, .int l2]) (st := []) dX12_lights_41 cl_RX12_294 sw_yX12_isLit (by decide) rfl (Nat.le_of_ble_eq_true rfl) rfl (gO_some e5) rfl (w_X12_isLit _ _ _ _ _ e6) ?_
    by_cases c8 : narrow .boolean (.int r7) = .int r7
    · rw [if_pos c8] at hf
      obtain rfl := Option.some.inj hf
      exact V.zret dX12_lights_44 c8
    · rw [if_neg c8] at hf
      cases hf
  · rw [if_neg c3] at hf
    refine V.iconst (v := (0 : Int32)) dX12_lights_32 (by decide) ?_
    obtain rfl := Option.some.inj hf
    exact V.zret dX12_lights_33 (by first | rfl | assumption)

set_option maxRecDepth 20000 in
theorem w_X12_lights_21 (h : xH) (l0 : Nat) (l1 : Int32) (l2 : Int32) (s0 : Nat) (r : Int32 × xH) (hf : f_X12_lights_21 h l0 l1 l2 s0 = some r) : V 6 yX12_lights cX12_lights 3 (some .boolean) [] none 21 [(0, .ref l0), (1, .int l1), (2, .int l2)] [.ref s0] h (oIh r) := by
  unfold f_X12_lights_21 at hf
  refine V.iconst (v := (1 : Int32)) dX12_lights_21 (by decide) ?_
  exact w_X12_lights_22 _ _ _ _ _ _ _ hf

set_option maxRecDepth 20000 in
theorem w_X12_lights (h : xH) (l0 : Nat) (l1 : Int32) (l2 : Int32) (r : Int32 × xH) (hf : f_X12_lights h l0 l1 l2 = some r) : Ev 6 yX12_lights cX12_lights 3 (some .boolean) [] [.ref l0, .int l1, .int l2] h (oIh r) := by
  refine Ev.of (by decide +kernel) (Nat.le_of_ble_eq_true rfl) ?_
  unfold f_X12_lights at hf
  refine V.aload_n dX12_lights_0 rfl 0 rfl ?_
  refine V.aload_n dX12_lights_1 rfl 0 rfl ?_
  refine V.iload_n dX12_lights_2 rfl 1 rfl ?_
  obtain ⟨q1, e7, hf⟩ := bS hf
  obtain ⟨r2, e8, hf⟩ := bS hf
  refine V.callV (As := [.int l1]) (st := [.ref l0]) dX12_lights_3 cl_RX12_288 sw_yX12_isSet (by decide) rfl (Nat.le_of_ble_eq_true rfl) rfl (gO_some e7) rfl (w_X12_isSet _ _ _ _ e8) ?_
  refine V.if_eq (tgt := 21) dX12_lights_6 (by decide) (fun c3 => ?_) (fun c3 => ?_)
  · rw [if_pos c3] at hf
    exact w_X12_lights_21 _ _ _ _ _ _ hf
  · rw [if_neg c3] at hf
    refine V.aload_n dX12_lights_9 rfl 0 rfl ?_
    refine V.iload_n dX12_lights_10 rfl 2 rfl ?_
    obtain ⟨q4, e9, hf⟩ := bS hf
    obtain ⟨r5, e10, hf⟩ := bS hf
    refine V.callV (As := [.int l2]) (st := [.ref l0]) dX12_lights_11 cl_RX12_288 sw_yX12_isSet (by decide) rfl (Nat.le_of_ble_eq_true rfl) rfl (gO_some e9) rfl (w_X12_isSet _ _ _ _ e10) ?_
    refine V.if_eq (tgt := 21) dX12_lights_14 (by decide) (fun c6 => ?_) (fun c6 => ?_)
    · rw [if_pos c6] at hf
      exact w_X12_lights_21 _ _ _ _ _ _ hf
    · rw [if_neg c6] at hf
      refine V.iconst (v := (0 : Int32)) dX12_lights_17 (by decide) ?_
      refine V.goto (tgt := 22) dX12_lights_18 (by decide) ?_
      exact w_X12_lights_22 _ _ _ _ _ _ _ hf

def f_X12_hasLamp_15 (h : xH) (l0 : Int32) (l2 : Int32) (l3 : Int32) (s0 : Int32) : Option (Int32) := (if s0 < 0 then (some ((0 : Int32))) else ((if l0 ≤ s0 then (some ((0 : Int32))) else ((rmI s0 l2).bind fun v3 => (f_X12_has h l3 v3).bind fun r4 => (if r4 = 0 then (some ((0 : Int32))) else (some ((1 : Int32))))))))
def f_X12_hasLamp (h : xH) (l0 : Int32) (l1 : Int32) (l2 : Int32) (l3 : Int32) (l4 : Int32) : Option (Int32) := (if l1 = 0 then (f_X12_hasLamp_15 h l0 l2 l3 l4) else ((rmI (l4 + l0) l0).bind fun v2 => f_X12_hasLamp_15 h l0 l2 l3 v2))
set_option maxRecDepth 20000 in
theorem w_X12_hasLamp_15 (h : xH) (l0 : Int32) (l2 : Int32) (l3 : Int32) (s0 : Int32) (r : Int32) (hf : f_X12_hasLamp_15 h l0 l2 l3 s0 = some r) : V 4 yX12_hasLamp cX12_hasLamp 6 (some .boolean) [] none 15 [(0, .int l0), (2, .int l2), (3, .int l3)] [.int s0] h (oI h r) := by
  unfold f_X12_hasLamp_15 at hf
  refine V.istore (lv' := [(5, .int s0), (0, .int l0), (2, .int l2), (3, .int l3)]) dX12_hasLamp_15 (by decide) rfl ?_
  refine V.iload dX12_hasLamp_17 0 rfl ?_
  refine V.if_lt (tgt := 43) dX12_hasLamp_19 (by decide) (fun c1 => ?_) (fun c1 => ?_)
  · rw [if_pos c1] at hf
    refine V.iconst (v := (0 : Int32)) dX12_hasLamp_43 (by decide) ?_
    obtain rfl := Option.some.inj hf
    exact V.zret dX12_hasLamp_44 (by first | rfl | assumption)
  · rw [if_neg c1] at hf
    refine V.iload dX12_hasLamp_22 0 rfl ?_
    refine V.iload_n dX12_hasLamp_24 rfl 1 rfl ?_
    refine V.icmp_ge (tgt := 43) dX12_hasLamp_25 (by decide) (fun c2 => ?_) (fun c2 => ?_)
    · rw [if_pos c2] at hf
      refine V.iconst (v := (0 : Int32)) dX12_hasLamp_43 (by decide) ?_
      obtain rfl := Option.some.inj hf
      exact V.zret dX12_hasLamp_44 (by first | rfl | assumption)
    · rw [if_neg c2] at hf
      refine V.iload_n dX12_hasLamp_28 rfl 3 rfl ?_
      refine V.iload dX12_hasLamp_29 0 rfl ?_
      refine V.iload_n dX12_hasLamp_31 rfl 2 rfl ?_
      obtain ⟨v3, e1, hf⟩ := bS hf
      refine V.xrmI dX12_hasLamp_32 e1 ?_
      obtain ⟨r4, e2, hf⟩ := bS hf
      refine V.callS (As := [.int l3, .int v3]) (st := []) dX12_hasLamp_33 cl_RX12_246 sw_yX12_has (by decide) rfl (Nat.le_of_ble_eq_true rfl) rfl (w_X12_has _ _ _ _ e2) ?_
      refine V.if_eq (tgt := 43) dX12_hasLamp_36 (by decide) (fun c5 => ?_) (fun c5 => ?_)
      · rw [if_pos c5] at hf
        refine V.iconst (v := (0 : Int32)) dX12_hasLamp_43 (by decide) ?_
        obtain rfl := Option.some.inj hf
        exact V.zret dX12_hasLamp_44 (by first | rfl | assumption)
      · rw [if_neg c5] at hf
        refine V.iconst (v := (1 : Int32)) dX12_hasLamp_39 (by decide) ?_
        refine V.goto (tgt := 44) dX12_hasLamp_40 (by decide) ?_
        obtain rfl := Option.some.inj hf
        exact V.zret dX12_hasLamp_44 (by first | rfl | assumption)

set_option maxRecDepth 20000 in
theorem w_X12_hasLamp (h : xH) (l0 : Int32) (l1 : Int32) (l2 : Int32) (l3 : Int32) (l4 : Int32) (r : Int32) (hf : f_X12_hasLamp h l0 l1 l2 l3 l4 = some r) : Ev 4 yX12_hasLamp cX12_hasLamp 6 (some .boolean) [] [.int l0, .int l1, .int l2, .int l3, .int l4] h (oI h r) := by
  refine Ev.of (by decide +kernel) (Nat.le_of_ble_eq_true rfl) ?_
  unfold f_X12_hasLamp at hf
  refine V.iload_n dX12_hasLamp_0 rfl 1 rfl ?_
  refine V.if_eq (tgt := 13) dX12_hasLamp_1 (by decide) (fun c1 => ?_) (fun c1 => ?_)
  · rw [if_pos c1] at hf
    refine V.iload dX12_hasLamp_13 4 rfl ?_
    refine V.sub [0, 2, 3] rfl ?_
    exact w_X12_hasLamp_15 _ _ _ _ _ _ hf
  · rw [if_neg c1] at hf
    refine V.iload dX12_hasLamp_4 4 rfl ?_
    refine V.iload_n dX12_hasLamp_6 rfl 0 rfl ?_
    refine V.iadd dX12_hasLamp_7 ?_
    refine V.iload_n dX12_hasLamp_8 rfl 0 rfl ?_
    obtain ⟨v2, e3, hf⟩ := bS hf
    refine V.xrmI dX12_hasLamp_9 e3 ?_
    refine V.goto (tgt := 15) dX12_hasLamp_10 (by decide) ?_
    refine V.sub [0, 2, 3] rfl ?_
    exact w_X12_hasLamp_15 _ _ _ _ _ _ hf

def f_X12_firstDark_3 (h : xH) : Nat → Int32 → Int32 → Int32 → Int32 → Int32 → Option (Int32)
  | 0, _, _, _, _, _ => none
  | n + 1, l0, l1, l2, l3, l4 => (if l0 ≤ l4 then (some ((-1 : Int32))) else ((f_X12_hasLamp h l0 l1 l2 l3 (l4 - (1 : Int32))).bind fun r2 => (if r2 = 0 then ((f_X12_hasLamp h l0 l1 l2 l3 (l4 + (1 : Int32))).bind fun r4 => (if r4 = 0 then (some (l4)) else (f_X12_firstDark_3 h n l0 l1 l2 l3 (l4 + 1)))) else (f_X12_firstDark_3 h n l0 l1 l2 l3 (l4 + 1)))))
def f_X12_firstDark (h : xH) (l0 : Int32) (l1 : Int32) (l2 : Int32) (l3 : Int32) : Option (Int32) := f_X12_firstDark_3 h xFU l0 l1 l2 l3 (0 : Int32)
set_option maxRecDepth 20000 in
theorem w_X12_firstDark_3 (h : xH) : ∀ (n : Nat) (l0 : Int32) (l1 : Int32) (l2 : Int32) (l3 : Int32) (l4 : Int32) (r : Int32), f_X12_firstDark_3 h n l0 l1 l2 l3 l4 = some r → V 5 yX12_firstDark cX12_firstDark 5 (some .int) [] none 3 [(0, .int l0), (1, .int l1), (2, .int l2), (3, .int l3), (4, .int l4)] [] h (oI h r) := by
  intro n
  induction n with
  | zero => intro l0 l1 l2 l3 l4 r hf; cases hf
  | succ n ih =>
    intro l0 l1 l2 l3 l4 r hf
    rw [f_X12_firstDark_3] at hf
    refine V.iload dX12_firstDark_3 4 rfl ?_
    refine V.iload_n dX12_firstDark_5 rfl 0 rfl ?_
    refine V.icmp_ge (tgt := 46) dX12_firstDark_6 (by decide) (fun c1 => ?_) (fun c1 => ?_)
    · rw [if_pos c1] at hf
      refine V.iconst (v := (-1 : Int32)) dX12_firstDark_46 (by decide) ?_
      obtain rfl := Option.some.inj hf
      exact V.iret dX12_firstDark_47
    · rw [if_neg c1] at hf
      refine V.iload_n dX12_firstDark_9 rfl 0 rfl ?_
      refine V.iload_n dX12_firstDark_10 rfl 1 rfl ?_
      refine V.iload_n dX12_firstDark_11 rfl 2 rfl ?_
      refine V.iload_n dX12_firstDark_12 rfl 3 rfl ?_
      refine V.iload dX12_firstDark_13 4 rfl ?_
      refine V.iconst (v := (1 : Int32)) dX12_firstDark_15 (by decide) ?_
      refine V.isub dX12_firstDark_16 ?_
      obtain ⟨r2, e1, hf⟩ := bS hf
      refine V.callS (As := [.int l0, .int l1, .int l2, .int l3, .int (l4 - (1 : Int32))]) (st := []) dX12_firstDark_17 cl_RX12_405 sw_yX12_hasLamp (by decide) rfl (Nat.le_of_ble_eq_true rfl) rfl (w_X12_hasLamp _ _ _ _ _ _ _ e1) ?_
      refine V.if_ne (tgt := 40) dX12_firstDark_20 (by decide) (fun c3 => ?_) (fun c3 => ?_)
      · rw [if_neg c3] at hf
        refine V.iinc (v := (l4 + 1)) (lv' := [(4, .int (l4 + 1)), (0, .int l0), (1, .int l1), (2, .int l2), (3, .int l3)]) dX12_firstDark_40 4 rfl rfl (Nat.le_of_ble_eq_true rfl) rfl ?_
        refine V.goto (tgt := 3) dX12_firstDark_43 (by decide) ?_
        refine V.sub [1, 2, 3, 4, 0] rfl ?_
        exact ih _ _ _ _ _ _ hf
      · rw [if_pos c3] at hf
        refine V.iload_n dX12_firstDark_23 rfl 0 rfl ?_
        refine V.iload_n dX12_firstDark_24 rfl 1 rfl ?_
        refine V.iload_n dX12_firstDark_25 rfl 2 rfl ?_
        refine V.iload_n dX12_firstDark_26 rfl 3 rfl ?_
        refine V.iload dX12_firstDark_27 4 rfl ?_
        refine V.iconst (v := (1 : Int32)) dX12_firstDark_29 (by decide) ?_
        refine V.iadd dX12_firstDark_30 ?_
        obtain ⟨r4, e2, hf⟩ := bS hf
        refine V.callS (As := [.int l0, .int l1, .int l2, .int l3, .int (l4 + (1 : Int32))]) (st := []) dX12_firstDark_31 cl_RX12_405 sw_yX12_hasLamp (by decide) rfl (Nat.le_of_ble_eq_true rfl) rfl (w_X12_hasLamp _ _ _ _ _ _ _ e2) ?_
        refine V.if_ne (tgt := 40) dX12_firstDark_34 (by decide) (fun c5 => ?_) (fun c5 => ?_)
        · rw [if_neg c5] at hf
          refine V.iinc (v := (l4 + 1)) (lv' := [(4, .int (l4 + 1)), (0, .int l0), (1, .int l1), (2, .int l2), (3, .int l3)]) dX12_firstDark_40 4 rfl rfl (Nat.le_of_ble_eq_true rfl) rfl ?_
          refine V.goto (tgt := 3) dX12_firstDark_43 (by decide) ?_
          refine V.sub [1, 2, 3, 4, 0] rfl ?_
          exact ih _ _ _ _ _ _ hf
        · rw [if_pos c5] at hf
          refine V.iload dX12_firstDark_37 4 rfl ?_
          obtain rfl := Option.some.inj hf
          exact V.iret dX12_firstDark_39

set_option maxRecDepth 20000 in
theorem w_X12_firstDark (h : xH) (l0 : Int32) (l1 : Int32) (l2 : Int32) (l3 : Int32) (r : Int32) (hf : f_X12_firstDark h l0 l1 l2 l3 = some r) : Ev 5 yX12_firstDark cX12_firstDark 5 (some .int) [] [.int l0, .int l1, .int l2, .int l3] h (oI h r) := by
  refine Ev.of (by decide +kernel) (Nat.le_of_ble_eq_true rfl) ?_
  unfold f_X12_firstDark at hf
  refine V.iconst (v := (0 : Int32)) dX12_firstDark_0 (by decide) ?_
  refine V.istore (lv' := [(4, .int (0 : Int32)), (0, .int l0), (1, .int l1), (2, .int l2), (3, .int l3)]) dX12_firstDark_1 (by decide) rfl ?_
  refine V.sub [1, 2, 3, 4, 0] rfl ?_
  exact w_X12_firstDark_3 h _ _ _ _ _ _ _ hf

def f_X12_isLong_13 (h : xH) (s0 : Int64) (s1 : Int64) : Option (Int32) := (f_X12_within h s1 s0 (40 : Int64)).bind fun r1 => (if narrow .boolean (.int r1) = .int r1 then some r1 else none)
def f_X12_isLong (h : xH) (l0 : Int32) (l1 : Int32) : Option (Int32) := (if l1 = 0 then (f_X12_isLong_13 h (1 : Int64) (Int32.toInt64 l0)) else (f_X12_isLong_13 h (3 : Int64) (Int32.toInt64 l0)))
set_option maxRecDepth 20000 in
theorem w_X12_isLong_13 (h : xH) (s0 : Int64) (s1 : Int64) (r : Int32) (hf : f_X12_isLong_13 h s0 s1 = some r) : V 4 yX12_isLong cX12_isLong 2 (some .boolean) [] none 13 [] [.long s0, .long s1] h (oI h r) := by
  unfold f_X12_isLong_13 at hf
  refine V.ldc2 (v := (40 : Int64)) dX12_isLong_13 cj_RX12_409 ?_
  obtain ⟨r1, e1, hf⟩ := bS hf
  refine V.callS (As := [.long s1, .long s0, .long (40 : Int64)]) (st := []) dX12_isLong_16 cl_RX12_134 sw_yX12_within (by decide) rfl (Nat.le_of_ble_eq_true rfl) rfl (w_X12_within _ _ _ _ _ e1) ?_
  by_cases c2 : narrow .boolean (.int r1) = .int r1
  · rw [if_pos c2] at hf
    obtain rfl := Option.some.inj hf
    exact V.zret dX12_isLong_19 c2
  · rw [if_neg c2] at hf
    cases hf

set_option maxRecDepth 20000 in
theorem w_X12_isLong (h : xH) (l0 : Int32) (l1 : Int32) (r : Int32) (hf : f_X12_isLong h l0 l1 = some r) : Ev 4 yX12_isLong cX12_isLong 2 (some .boolean) [] [.int l0, .int l1] h (oI h r) := by
  refine Ev.of (by decide +kernel) (Nat.le_of_ble_eq_true rfl) ?_
  unfold f_X12_isLong at hf
  refine V.iload_n dX12_isLong_0 rfl 0 rfl ?_
  refine V.i2l dX12_isLong_1 ?_
  refine V.iload_n dX12_isLong_2 rfl 1 rfl ?_
  refine V.if_eq (tgt := 12) dX12_isLong_3 (by decide) (fun c1 => ?_) (fun c1 => ?_)
  · rw [if_pos c1] at hf
    refine V.lconst (v := 1) dX12_isLong_12 (by decide) ?_
    refine V.sub [] rfl ?_
    exact w_X12_isLong_13 _ _ _ _ hf
  · rw [if_neg c1] at hf
    refine V.ldc2 (v := (3 : Int64)) dX12_isLong_6 cj_RX12_235 ?_
    refine V.goto (tgt := 13) dX12_isLong_9 (by decide) ?_
    refine V.sub [] rfl ?_
    exact w_X12_isLong_13 _ _ _ _ hf

def f_X12_look_117 (k50 : xH → Int32 → Int32 → Int32 → Int32 → Int32 → Int32 → Int32 → Option (Int32 × xH)) (k60 : xH → Int32 → Int32 → Int32 → Int32 → Int32 → Int32 → Int32 → Int32 → Option (Int32 × xH)) (k91 : xH → Int32 → Int32 → Int32 → Int32 → Int32 → Int32 → Int32 → Int32 → Int32 → Int32 → Option (Int32 × xH)) (h : xH) (l1 : Int32) (l2 : Int32) (l3 : Int32) (l4 : Int32) (l5 : Int32) (l6 : Int32) (l7 : Int32) (l8 : Int32) (l10 : Int32) (s0 : Int32) (s1 : Int32) : Option (Int32 × xH) := k91 h l1 l2 l3 l4 l5 l6 l7 l8 (s1 + s0) (l10 + 1)
def f_X12_look_142 (k50 : xH → Int32 → Int32 → Int32 → Int32 → Int32 → Int32 → Int32 → Option (Int32 × xH)) (k60 : xH → Int32 → Int32 → Int32 → Int32 → Int32 → Int32 → Int32 → Int32 → Option (Int32 × xH)) (h : xH) (l1 : Int32) (l2 : Int32) (l3 : Int32) (l7 : Int32) (l8 : Int32) (l9 : Int32) : Option (Int32 × xH) := k60 h l1 l2 l3 l9 l7 l8 l7 (l8 + 1)
def f_X12_look_91 (k50 : xH → Int32 → Int32 → Int32 → Int32 → Int32 → Int32 → Int32 → Option (Int32 × xH)) (k60 : xH → Int32 → Int32 → Int32 → Int32 → Int32 → Int32 → Int32 → Int32 → Option (Int32 × xH)) : Nat → xH → Int32 → Int32 → Int32 → Int32 → Int32 → Int32 → Int32 → Int32 → Int32 → Int32 → Option (Int32 × xH)
  | 0, _, _, _, _, _, _, _, _, _, _, _ => none
  | n + 1, h, l1, l2, l3, l4, l5, l6, l7, l8, l9, l10 => (if l1 ≤ l10 then ((if l4 = (-1 : Int32) then (f_X12_look_142 k50 k60 h l1 l2 l3 l7 l8 l9) else ((if l9 < l4 then (f_X12_look_142 k50 k60 h l1 l2 l3 l7 l8 l9) else (k60 h l1 l2 l3 l4 l5 l6 l7 (l8 + 1)))))) else ((rmI l10 l7).bind fun v4 => (f_X12_has h l8 v4).bind fun r5 => (if r5 = 0 then (f_X12_look_117 k50 k60 (f_X12_look_91 k50 k60 n) h l1 l2 l3 l4 l5 l6 l7 l8 l10 (0 : Int32) l9) else (f_X12_look_117 k50 k60 (f_X12_look_91 k50 k60 n) h l1 l2 l3 l4 l5 l6 l7 l8 l10 (1 : Int32) l9))))
def f_X12_look_60 (k50 : xH → Int32 → Int32 → Int32 → Int32 → Int32 → Int32 → Int32 → Option (Int32 × xH)) : Nat → xH → Int32 → Int32 → Int32 → Int32 → Int32 → Int32 → Int32 → Int32 → Option (Int32 × xH)
  | 0, _, _, _, _, _, _, _, _, _ => none
  | n + 1, h, l1, l2, l3, l4, l5, l6, l7, l8 => (if ((1 : Int32) <<< (l7 &&& 31)) ≤ l8 then (k50 h l1 l2 l3 l4 l5 l6 (l7 + 1)) else ((f_X12_firstDark h l1 l2 l7 l8).bind fun r2 => (if r2 = (-1 : Int32) then (f_X12_look_91 k50 (f_X12_look_60 k50 n) xFU h l1 l2 l3 l4 l5 l6 l7 l8 (0 : Int32) (0 : Int32)) else (f_X12_look_60 k50 n h l1 l2 l3 l4 l5 l6 l7 (l8 + 1)))))
def f_X12_look_50 : Nat → xH → Int32 → Int32 → Int32 → Int32 → Int32 → Int32 → Int32 → Option (Int32 × xH)
  | 0, _, _, _, _, _, _, _, _ => none
  | n + 1, h, l1, l2, l3, l4, l5, l6, l7 => (if (8 : Int32) < l7 then ((if l3 = 0 then (some ((l4, h))) else ((if l3 = (1 : Int32) then (some ((l5, h))) else (some ((l6, h))))))) else (f_X12_look_60 (f_X12_look_50 n) xFU h l1 l2 l3 l4 l5 l6 l7 (0 : Int32)))
def f_X12_look_26 (h : xH) (l0 : Nat) (l1 : Int32) (l2 : Int32) (l3 : Int32) (s0 : Int32) (s1 : Nat) : Option (Int32 × xH) := (pF h s1 12 4 (.int s0)).bind fun h1 => (gI h1 l0 12 4).bind fun v2 => (if v2 ≤ 0 then (f_X12_look_50 xFU h1 l1 l2 l3 (-1 : Int32) (-1 : Int32) (-1 : Int32) (1 : Int32)) else (some (((0 : Int32), h1))))
def f_X12_look_25 (h : xH) (l0 : Nat) (l1 : Int32) (l2 : Int32) (l3 : Int32) (s0 : Nat) : Option (Int32 × xH) := f_X12_look_26 h l0 l1 l2 l3 (1 : Int32) s0
def f_X12_look (h : xH) (l0 : Nat) (l1 : Int32) (l2 : Int32) (l3 : Int32) : Option (Int32 × xH) := (f_X12_isLong h l1 l2).bind fun r1 => (if r1 = 0 then (f_X12_look_25 h l0 l1 l2 l3 l0) else ((f_X12_within h (Int32.toInt64 l3) (0 : Int64) (2 : Int64)).bind fun r3 => (if r3 = 0 then (f_X12_look_25 h l0 l1 l2 l3 l0) else (f_X12_look_26 h l0 l1 l2 l3 (0 : Int32) l0))))
set_option maxRecDepth 20000 in
theorem w_X12_look_117 (h : xH) {k50 : xH → Int32 → Int32 → Int32 → Int32 → Int32 → Int32 → Int32 → Option (Int32 × xH)} (hk50 : ∀ (h : xH) (l1 : Int32) (l2 : Int32) (l3 : Int32) (l4 : Int32) (l5 : Int32) (l6 : Int32) (l7 : Int32) (r : Int32 × xH), k50 h l1 l2 l3 l4 l5 l6 l7 = some r → V 6 yX12_look cX12_look 11 (some .int) [] none 50 [(1, .int l1), (2, .int l2), (3, .int l3), (4, .int l4), (5, .int l5), (6, .int l6), (7, .int l7)] [] h (oIh r)) {k60 : xH → Int32 → Int32 → Int32 → Int32 → Int32 → Int32 → Int32 → Int32 → Option (Int32 × xH)} (hk60 : ∀ (h : xH) (l1 : Int32) (l2 : Int32) (l3 : Int32) (l4 : Int32) (l5 : Int32) (l6 : Int32) (l7 : Int32) (l8 : Int32) (r : Int32 × xH), k60 h l1 l2 l3 l4 l5 l6 l7 l8 = some r → V 6 yX12_look cX12_look 11 (some .int) [] none 60 [(1, .int l1), (2, .int l2), (3, .int l3), (4, .int l4), (5, .int l5), (6, .int l6), (7, .int l7), (8, .int l8)] [] h (oIh r)) {k91 : xH → Int32 → Int32 → Int32 → Int32 → Int32 → Int32 → Int32 → Int32 → Int32 → Int32 → Option (Int32 × xH)} (hk91 : ∀ (h : xH) (l1 : Int32) (l2 : Int32) (l3 : Int32) (l4 : Int32) (l5 : Int32) (l6 : Int32) (l7 : Int32) (l8 : Int32) (l9 : Int32) (l10 : Int32) (r : Int32 × xH), k91 h l1 l2 l3 l4 l5 l6 l7 l8 l9 l10 = some r → V 6 yX12_look cX12_look 11 (some .int) [] none 91 [(1, .int l1), (2, .int l2), (3, .int l3), (4, .int l4), (5, .int l5), (6, .int l6), (7, .int l7), (8, .int l8), (9, .int l9), (10, .int l10)] [] h (oIh r)) (l1 : Int32) (l2 : Int32) (l3 : Int32) (l4 : Int32) (l5 : Int32) (l6 : Int32) (l7 : Int32) (l8 : Int32) (l10 : Int32) (s0 : Int32) (s1 : Int32) (r : Int32 × xH) (hf : f_X12_look_117 k50 k60 k91 h l1 l2 l3 l4 l5 l6 l7 l8 l10 s0 s1 = some r) : V 6 yX12_look cX12_look 11 (some .int) [] none 117 [(1, .int l1), (2, .int l2), (3, .int l3), (4, .int l4), (5, .int l5), (6, .int l6), (7, .int l7), (8, .int l8), (10, .int l10)] [.int s0, .int s1] h (oIh r) := by
  unfold f_X12_look_117 at hf
  refine V.iadd dX12_look_117 ?_
  refine V.istore (lv' := [(9, .int (s1 + s0)), (1, .int l1), (2, .int l2), (3, .int l3), (4, .int l4), (5, .int l5), (6, .int l6), (7, .int l7), (8, .int l8), (10, .int l10)]) dX12_look_118 (by decide) rfl ?_
  refine V.iinc (v := (l10 + 1)) (lv' := [(10, .int (l10 + 1)), (9, .int (s1 + s0)), (1, .int l1), (2, .int l2), (3, .int l3), (4, .int l4), (5, .int l5), (6, .int l6), (7, .int l7), (8, .int l8)]) dX12_look_120 9 rfl rfl (Nat.le_of_ble_eq_true rfl) rfl ?_
  refine V.goto (tgt := 91) dX12_look_123 (by decide) ?_
  refine V.sub [2, 3, 4, 5, 6, 7, 8, 9, 1, 0] rfl ?_
  exact hk91 _ _ _ _ _ _ _ _ _ _ _ _ hf

set_option maxRecDepth 20000 in
theorem w_X12_look_142 (h : xH) {k50 : xH → Int32 → Int32 → Int32 → Int32 → Int32 → Int32 → Int32 → Option (Int32 × xH)} (hk50 : ∀ (h : xH) (l1 : Int32) (l2 : Int32) (l3 : Int32) (l4 : Int32) (l5 : Int32) (l6 : Int32) (l7 : Int32) (r : Int32 × xH), k50 h l1 l2 l3 l4 l5 l6 l7 = some r → V 6 yX12_look cX12_look 11 (some .int) [] none 50 [(1, .int l1), (2, .int l2), (3, .int l3), (4, .int l4), (5, .int l5), (6, .int l6), (7, .int l7)] [] h (oIh r)) {k60 : xH → Int32 → Int32 → Int32 → Int32 → Int32 → Int32 → Int32 → Int32 → Option (Int32 × xH)} (hk60 : ∀ (h : xH) (l1 : Int32) (l2 : Int32) (l3 : Int32) (l4 : Int32) (l5 : Int32) (l6 : Int32) (l7 : Int32) (l8 : Int32) (r : Int32 × xH), k60 h l1 l2 l3 l4 l5 l6 l7 l8 = some r → V 6 yX12_look cX12_look 11 (some .int) [] none 60 [(1, .int l1), (2, .int l2), (3, .int l3), (4, .int l4), (5, .int l5), (6, .int l6), (7, .int l7), (8, .int l8)] [] h (oIh r)) (l1 : Int32) (l2 : Int32) (l3 : Int32) (l7 : Int32) (l8 : Int32) (l9 : Int32) (r : Int32 × xH) (hf : f_X12_look_142 k50 k60 h l1 l2 l3 l7 l8 l9 = some r) : V 6 yX12_look cX12_look 11 (some .int) [] none 142 [(1, .int l1), (2, .int l2), (3, .int l3), (7, .int l7), (8, .int l8), (9, .int l9)] [] h (oIh r) := by
  unfold f_X12_look_142 at hf
  refine V.iload dX12_look_142 5 rfl ?_
  refine V.istore (lv' := [(4, .int l9), (1, .int l1), (2, .int l2), (3, .int l3), (7, .int l7), (8, .int l8), (9, .int l9)]) dX12_look_144 (by decide) rfl ?_
  refine V.iload dX12_look_146 4 rfl ?_
  refine V.istore (lv' := [(5, .int l7), (4, .int l9), (1, .int l1), (2, .int l2), (3, .int l3), (7, .int l7), (8, .int l8), (9, .int l9)]) dX12_look_148 (by decide) rfl ?_
  refine V.iload dX12_look_150 6 rfl ?_
  refine V.istore (lv' := [(6, .int l8), (5, .int l7), (4, .int l9), (1, .int l1), (2, .int l2), (3, .int l3), (7, .int l7), (8, .int l8), (9, .int l9)]) dX12_look_152 (by decide) rfl ?_
  refine V.iinc (v := (l8 + 1)) (lv' := [(8, .int (l8 + 1)), (6, .int l8), (5, .int l7), (4, .int l9), (1, .int l1), (2, .int l2), (3, .int l3), (7, .int l7), (9, .int l9)]) dX12_look_154 7 rfl rfl (Nat.le_of_ble_eq_true rfl) rfl ?_
  refine V.goto (tgt := 60) dX12_look_157 (by decide) ?_
  refine V.sub [4, 5, 6, 3, 2, 1, 7, 0] rfl ?_
  exact hk60 _ _ _ _ _ _ _ _ _ _ hf

set_option maxRecDepth 20000 in
theorem w_X12_look_91 {k50 : xH → Int32 → Int32 → Int32 → Int32 → Int32 → Int32 → Int32 → Option (Int32 × xH)} (hk50 : ∀ (h : xH) (l1 : Int32) (l2 : Int32) (l3 : Int32) (l4 : Int32) (l5 : Int32) (l6 : Int32) (l7 : Int32) (r : Int32 × xH), k50 h l1 l2 l3 l4 l5 l6 l7 = some r → V 6 yX12_look cX12_look 11 (some .int) [] none 50 [(1, .int l1), (2, .int l2), (3, .int l3), (4, .int l4), (5, .int l5), (6, .int l6), (7, .int l7)] [] h (oIh r)) {k60 : xH → Int32 → Int32 → Int32 → Int32 → Int32 → Int32 → Int32 → Int32 → Option (Int32 × xH)} (hk60 : ∀ (h : xH) (l1 : Int32) (l2 : Int32) (l3 : Int32) (l4 : Int32) (l5 : Int32) (l6 : Int32) (l7 : Int32) (l8 : Int32) (r : Int32 × xH), k60 h l1 l2 l3 l4 l5 l6 l7 l8 = some r → V 6 yX12_look cX12_look 11 (some .int) [] none 60 [(1, .int l1), (2, .int l2), (3, .int l3), (4, .int l4), (5, .int l5), (6, .int l6), (7, .int l7), (8, .int l8)] [] h (oIh r)) : ∀ (n : Nat) (h : xH) (l1 : Int32) (l2 : Int32) (l3 : Int32) (l4 : Int32) (l5 : Int32) (l6 : Int32) (l7 : Int32) (l8 : Int32) (l9 : Int32) (l10 : Int32) (r : Int32 × xH), f_X12_look_91 k50 k60 n h l1 l2 l3 l4 l5 l6 l7 l8 l9 l10 = some r → V 6 yX12_look cX12_look 11 (some .int) [] none 91 [(1, .int l1), (2, .int l2), (3, .int l3), (4, .int l4), (5, .int l5), (6, .int l6), (7, .int l7), (8, .int l8), (9, .int l9), (10, .int l10)] [] h (oIh r) := by
  intro n
  induction n with
  | zero => intro h l1 l2 l3 l4 l5 l6 l7 l8 l9 l10 r hf; cases hf
  | succ n ih =>
    intro h l1 l2 l3 l4 l5 l6 l7 l8 l9 l10 r hf
    rw [f_X12_look_91] at hf
    refine V.iload dX12_look_91 9 rfl ?_
    refine V.iload_n dX12_look_93 rfl 0 rfl ?_
    refine V.icmp_ge (tgt := 126) dX12_look_94 (by decide) (fun c1 => ?_) (fun c1 => ?_)
    · rw [if_pos c1] at hf
      refine V.iload dX12_look_126 3 rfl ?_
      refine V.iconst (v := (-1 : Int32)) dX12_look_128 (by decide) ?_
      refine V.icmp_eq (tgt := 142) dX12_look_129 (by decide) (fun c2 => ?_) (fun c2 => ?_)
      · rw [if_pos c2] at hf
        refine V.sub [0, 1, 2, 6, 7, 8] rfl ?_
        exact w_X12_look_142 _ hk50 hk60 _ _ _ _ _ _ _ hf
      · rw [if_neg c2] at hf
        refine V.iload dX12_look_132 8 rfl ?_
        refine V.iload dX12_look_134 3 rfl ?_
        refine V.icmp_lt (tgt := 142) dX12_look_136 (by decide) (fun c3 => ?_) (fun c3 => ?_)
        · rw [if_pos c3] at hf
          refine V.sub [0, 1, 2, 6, 7, 8] rfl ?_
          exact w_X12_look_142 _ hk50 hk60 _ _ _ _ _ _ _ hf
        · rw [if_neg c3] at hf
          refine V.goto (tgt := 154) dX12_look_139 (by decide) ?_
          refine V.iinc (v := (l8 + 1)) (lv' := [(8, .int (l8 + 1)), (1, .int l1), (2, .int l2), (3, .int l3), (4, .int l4), (5, .int l5), (6, .int l6), (7, .int l7), (9, .int l9), (10, .int l10)]) dX12_look_154 7 rfl rfl (Nat.le_of_ble_eq_true rfl) rfl ?_
          refine V.goto (tgt := 60) dX12_look_157 (by decide) ?_
          refine V.sub [1, 2, 3, 4, 5, 6, 7, 0] rfl ?_
          exact hk60 _ _ _ _ _ _ _ _ _ _ hf
    · rw [if_neg c1] at hf
      refine V.iload dX12_look_97 8 rfl ?_
      refine V.iload dX12_look_99 7 rfl ?_
      refine V.iload dX12_look_101 9 rfl ?_
      refine V.iload dX12_look_103 6 rfl ?_
      obtain ⟨v4, e1, hf⟩ := bS hf
      refine V.xrmI dX12_look_105 e1 ?_
      obtain ⟨r5, e2, hf⟩ := bS hf
      refine V.callS (As := [.int l8, .int v4]) (st := [.int l9]) dX12_look_106 cl_RX12_246 sw_yX12_has (by decide) rfl (Nat.le_of_ble_eq_true rfl) rfl (w_X12_has _ _ _ _ e2) ?_
      refine V.if_eq (tgt := 116) dX12_look_109 (by decide) (fun c6 => ?_) (fun c6 => ?_)
      · rw [if_pos c6] at hf
        refine V.iconst (v := (0 : Int32)) dX12_look_116 (by decide) ?_
        refine V.sub [0, 1, 2, 3, 4, 5, 6, 7, 9] rfl ?_
        exact w_X12_look_117 _ hk50 hk60 ih _ _ _ _ _ _ _ _ _ _ _ _ hf
      · rw [if_neg c6] at hf
        refine V.iconst (v := (1 : Int32)) dX12_look_112 (by decide) ?_
        refine V.goto (tgt := 117) dX12_look_113 (by decide) ?_
        refine V.sub [0, 1, 2, 3, 4, 5, 6, 7, 9] rfl ?_
        exact w_X12_look_117 _ hk50 hk60 ih _ _ _ _ _ _ _ _ _ _ _ _ hf

set_option maxRecDepth 20000 in
theorem w_X12_look_60 {k50 : xH → Int32 → Int32 → Int32 → Int32 → Int32 → Int32 → Int32 → Option (Int32 × xH)} (hk50 : ∀ (h : xH) (l1 : Int32) (l2 : Int32) (l3 : Int32) (l4 : Int32) (l5 : Int32) (l6 : Int32) (l7 : Int32) (r : Int32 × xH), k50 h l1 l2 l3 l4 l5 l6 l7 = some r → V 6 yX12_look cX12_look 11 (some .int) [] none 50 [(1, .int l1), (2, .int l2), (3, .int l3), (4, .int l4), (5, .int l5), (6, .int l6), (7, .int l7)] [] h (oIh r)) : ∀ (n : Nat) (h : xH) (l1 : Int32) (l2 : Int32) (l3 : Int32) (l4 : Int32) (l5 : Int32) (l6 : Int32) (l7 : Int32) (l8 : Int32) (r : Int32 × xH), f_X12_look_60 k50 n h l1 l2 l3 l4 l5 l6 l7 l8 = some r → V 6 yX12_look cX12_look 11 (some .int) [] none 60 [(1, .int l1), (2, .int l2), (3, .int l3), (4, .int l4), (5, .int l5), (6, .int l6), (7, .int l7), (8, .int l8)] [] h (oIh r) := by
  intro n
  induction n with
  | zero => intro h l1 l2 l3 l4 l5 l6 l7 l8 r hf; cases hf
  | succ n ih =>
    intro h l1 l2 l3 l4 l5 l6 l7 l8 r hf
    rw [f_X12_look_60] at hf
    refine V.iload dX12_look_60 7 rfl ?_
    refine V.iconst (v := (1 : Int32)) dX12_look_62 (by decide) ?_
    refine V.iload dX12_look_63 6 rfl ?_
    refine V.ishl dX12_look_65 ?_
    refine V.icmp_ge (tgt := 160) dX12_look_66 (by decide) (fun c1 => ?_) (fun c1 => ?_)
    · rw [if_pos c1] at hf
      refine V.iinc (v := (l7 + 1)) (lv' := [(7, .int (l7 + 1)), (1, .int l1), (2, .int l2), (3, .int l3), (4, .int l4), (5, .int l5), (6, .int l6), (8, .int l8)]) dX12_look_160 6 rfl rfl (Nat.le_of_ble_eq_true rfl) rfl ?_
      refine V.goto (tgt := 50) dX12_look_163 (by decide) ?_
      refine V.sub [1, 2, 3, 4, 5, 6, 0] rfl ?_
      exact hk50 _ _ _ _ _ _ _ _ _ hf
    · rw [if_neg c1] at hf
      refine V.iload_n dX12_look_69 rfl 0 rfl ?_
      refine V.iload_n dX12_look_70 rfl 1 rfl ?_
      refine V.iload dX12_look_71 6 rfl ?_
      refine V.iload dX12_look_73 7 rfl ?_
      obtain ⟨r2, e3, hf⟩ := bS hf
      refine V.callS (As := [.int l1, .int l2, .int l7, .int l8]) (st := []) dX12_look_75 cl_RX12_417 sw_yX12_firstDark (by decide) rfl (Nat.le_of_ble_eq_true rfl) rfl (w_X12_firstDark _ _ _ _ _ _ e3) ?_
      refine V.iconst (v := (-1 : Int32)) dX12_look_78 (by decide) ?_
      refine V.icmp_eq (tgt := 85) dX12_look_79 (by decide) (fun c3 => ?_) (fun c3 => ?_)
      · rw [if_pos c3] at hf
        refine V.iconst (v := (0 : Int32)) dX12_look_85 (by decide) ?_
        refine V.istore (lv' := [(9, .int (0 : Int32)), (1, .int l1), (2, .int l2), (3, .int l3), (4, .int l4), (5, .int l5), (6, .int l6), (7, .int l7), (8, .int l8)]) dX12_look_86 (by decide) rfl ?_
        refine V.iconst (v := (0 : Int32)) dX12_look_88 (by decide) ?_
        refine V.istore (lv' := [(10, .int (0 : Int32)), (9, .int (0 : Int32)), (1, .int l1), (2, .int l2), (3, .int l3), (4, .int l4), (5, .int l5), (6, .int l6), (7, .int l7), (8, .int l8)]) dX12_look_89 (by decide) rfl ?_
        refine V.sub [2, 3, 4, 5, 6, 7, 8, 9, 1, 0] rfl ?_
        exact w_X12_look_91 hk50 ih _ _ _ _ _ _ _ _ _ _ _ _ _ hf
      · rw [if_neg c3] at hf
        refine V.goto (tgt := 154) dX12_look_82 (by decide) ?_
        refine V.iinc (v := (l8 + 1)) (lv' := [(8, .int (l8 + 1)), (1, .int l1), (2, .int l2), (3, .int l3), (4, .int l4), (5, .int l5), (6, .int l6), (7, .int l7)]) dX12_look_154 7 rfl rfl (Nat.le_of_ble_eq_true rfl) rfl ?_
        refine V.goto (tgt := 60) dX12_look_157 (by decide) ?_
        refine V.sub [1, 2, 3, 4, 5, 6, 7, 0] rfl ?_
        exact ih _ _ _ _ _ _ _ _ _ _ hf

set_option maxRecDepth 20000 in
theorem w_X12_look_50 : ∀ (n : Nat) (h : xH) (l1 : Int32) (l2 : Int32) (l3 : Int32) (l4 : Int32) (l5 : Int32) (l6 : Int32) (l7 : Int32) (r : Int32 × xH), f_X12_look_50 n h l1 l2 l3 l4 l5 l6 l7 = some r → V 6 yX12_look cX12_look 11 (some .int) [] none 50 [(1, .int l1), (2, .int l2), (3, .int l3), (4, .int l4), (5, .int l5), (6, .int l6), (7, .int l7)] [] h (oIh r) := by
  intro n
  induction n with
  | zero => intro h l1 l2 l3 l4 l5 l6 l7 r hf; cases hf
  | succ n ih =>
    intro h l1 l2 l3 l4 l5 l6 l7 r hf
    rw [f_X12_look_50] at hf
    refine V.iload dX12_look_50 6 rfl ?_
    refine V.bipush (v := (8 : Int32)) dX12_look_52 (by decide) ?_
    refine V.icmp_gt (tgt := 166) dX12_look_54 (by decide) (fun c1 => ?_) (fun c1 => ?_)
    · rw [if_pos c1] at hf
      refine V.iload_n dX12_look_166 rfl 2 rfl ?_
      refine V.if_ne (tgt := 175) dX12_look_167 (by decide) (fun c2 => ?_) (fun c2 => ?_)
      · rw [if_neg c2] at hf
        refine V.iload_n dX12_look_175 rfl 2 rfl ?_
        refine V.iconst (v := (1 : Int32)) dX12_look_176 (by decide) ?_
        refine V.icmp_ne (tgt := 185) dX12_look_177 (by decide) (fun c3 => ?_) (fun c3 => ?_)
        · rw [if_neg c3] at hf
          refine V.iload dX12_look_185 5 rfl ?_
          obtain rfl := Option.some.inj hf
          exact V.iret dX12_look_187
        · rw [if_pos c3] at hf
          refine V.iload dX12_look_180 4 rfl ?_
          refine V.goto (tgt := 187) dX12_look_182 (by decide) ?_
          obtain rfl := Option.some.inj hf
          exact V.iret dX12_look_187
      · rw [if_pos c2] at hf
        refine V.iload dX12_look_170 3 rfl ?_
        refine V.goto (tgt := 187) dX12_look_172 (by decide) ?_
        obtain rfl := Option.some.inj hf
        exact V.iret dX12_look_187
    · rw [if_neg c1] at hf
      refine V.iconst (v := (0 : Int32)) dX12_look_57 (by decide) ?_
      refine V.istore (lv' := [(8, .int (0 : Int32)), (1, .int l1), (2, .int l2), (3, .int l3), (4, .int l4), (5, .int l5), (6, .int l6), (7, .int l7)]) dX12_look_58 (by decide) rfl ?_
      refine V.sub [1, 2, 3, 4, 5, 6, 7, 0] rfl ?_
      exact w_X12_look_60 ih _ _ _ _ _ _ _ _ _ _ _ hf

set_option maxRecDepth 20000 in
theorem w_X12_look_26 (h : xH) (l0 : Nat) (l1 : Int32) (l2 : Int32) (l3 : Int32) (s0 : Int32) (s1 : Nat) (r : Int32 × xH) (hf : f_X12_look_26 h l0 l1 l2 l3 s0 s1 = some r) : V 6 yX12_look cX12_look 11 (some .int) [] none 26 [(0, .ref l0), (1, .int l1), (2, .int l2), (3, .int l3)] [.int s0, .ref s1] h (oIh r) := by
  unfold f_X12_look_26 at hf
  obtain ⟨h1, e4, hf⟩ := bS hf
  refine V.xpF dX12_look_26 fl_RX12_75 (fun h9 => nomatch h9) (fun _ => rfl) (fun _ => rfl) e4 ?_
  refine V.aload_n dX12_look_29 rfl 0 rfl ?_
  obtain ⟨v2, e5, hf⟩ := bS hf
  refine V.xgI dX12_look_30 fl_RX12_75 e5 ?_
  refine V.if_le (tgt := 38) dX12_look_33 (by decide) (fun c3 => ?_) (fun c3 => ?_)
  · rw [if_pos c3] at hf
    refine V.iconst (v := (-1 : Int32)) dX12_look_38 (by decide) ?_
    refine V.istore (lv' := [(4, .int (-1 : Int32)), (0, .ref l0), (1, .int l1), (2, .int l2), (3, .int l3)]) dX12_look_39 (by decide) rfl ?_
    refine V.iconst (v := (-1 : Int32)) dX12_look_41 (by decide) ?_
    refine V.istore (lv' := [(5, .int (-1 : Int32)), (4, .int (-1 : Int32)), (0, .ref l0), (1, .int l1), (2, .int l2), (3, .int l3)]) dX12_look_42 (by decide) rfl ?_
    refine V.iconst (v := (-1 : Int32)) dX12_look_44 (by decide) ?_
    refine V.istore (lv' := [(6, .int (-1 : Int32)), (5, .int (-1 : Int32)), (4, .int (-1 : Int32)), (0, .ref l0), (1, .int l1), (2, .int l2), (3, .int l3)]) dX12_look_45 (by decide) rfl ?_
    refine V.iconst (v := (1 : Int32)) dX12_look_47 (by decide) ?_
    refine V.istore (lv' := [(7, .int (1 : Int32)), (6, .int (-1 : Int32)), (5, .int (-1 : Int32)), (4, .int (-1 : Int32)), (0, .ref l0), (1, .int l1), (2, .int l2), (3, .int l3)]) dX12_look_48 (by decide) rfl ?_
    refine V.sub [5, 6, 7, 3, 2, 1, 0] rfl ?_
    exact w_X12_look_50 _ _ _ _ _ _ _ _ _ _ hf
  · rw [if_neg c3] at hf
    refine V.iconst (v := (0 : Int32)) dX12_look_36 (by decide) ?_
    obtain rfl := Option.some.inj hf
    exact V.iret dX12_look_37

set_option maxRecDepth 20000 in
theorem w_X12_look_25 (h : xH) (l0 : Nat) (l1 : Int32) (l2 : Int32) (l3 : Int32) (s0 : Nat) (r : Int32 × xH) (hf : f_X12_look_25 h l0 l1 l2 l3 s0 = some r) : V 6 yX12_look cX12_look 11 (some .int) [] none 25 [(0, .ref l0), (1, .int l1), (2, .int l2), (3, .int l3)] [.ref s0] h (oIh r) := by
  unfold f_X12_look_25 at hf
  refine V.iconst (v := (1 : Int32)) dX12_look_25 (by decide) ?_
  exact w_X12_look_26 _ _ _ _ _ _ _ _ hf

set_option maxRecDepth 20000 in
theorem w_X12_look (h : xH) (l0 : Nat) (l1 : Int32) (l2 : Int32) (l3 : Int32) (r : Int32 × xH) (hf : f_X12_look h l0 l1 l2 l3 = some r) : Ev 6 yX12_look cX12_look 11 (some .int) [] [.ref l0, .int l1, .int l2, .int l3] h (oIh r) := by
  refine Ev.of (by decide +kernel) (Nat.le_of_ble_eq_true rfl) ?_
  unfold f_X12_look at hf
  refine V.aload_n dX12_look_0 rfl 0 rfl ?_
  refine V.iload_n dX12_look_1 rfl 1 rfl ?_
  refine V.iload_n dX12_look_2 rfl 2 rfl ?_
  obtain ⟨r1, e6, hf⟩ := bS hf
  refine V.callS (As := [.int l1, .int l2]) (st := [.ref l0]) dX12_look_3 cl_RX12_411 sw_yX12_isLong (by decide) rfl (Nat.le_of_ble_eq_true rfl) rfl (w_X12_isLong _ _ _ _ e6) ?_
  refine V.if_eq (tgt := 25) dX12_look_6 (by decide) (fun c2 => ?_) (fun c2 => ?_)
  · rw [if_pos c2] at hf
    exact w_X12_look_25 _ _ _ _ _ _ _ hf
  · rw [if_neg c2] at hf
    refine V.iload_n dX12_look_9 rfl 3 rfl ?_
    refine V.i2l dX12_look_10 ?_
    refine V.lconst (v := 0) dX12_look_11 (by decide) ?_
    refine V.ldc2 (v := (2 : Int64)) dX12_look_12 cj_RX12_268 ?_
    obtain ⟨r3, e7, hf⟩ := bS hf
    refine V.callS (As := [.long (Int32.toInt64 l3), .long (0 : Int64), .long (2 : Int64)]) (st := [.ref l0]) dX12_look_15 cl_RX12_134 sw_yX12_within (by decide) rfl (Nat.le_of_ble_eq_true rfl) rfl (w_X12_within _ _ _ _ _ e7) ?_
    refine V.if_eq (tgt := 25) dX12_look_18 (by decide) (fun c4 => ?_) (fun c4 => ?_)
    · rw [if_pos c4] at hf
      exact w_X12_look_25 _ _ _ _ _ _ _ hf
    · rw [if_neg c4] at hf
      refine V.iconst (v := (0 : Int32)) dX12_look_21 (by decide) ?_
      refine V.goto (tgt := 26) dX12_look_22 (by decide) ?_
      exact w_X12_look_26 _ _ _ _ _ _ _ _ hf

def f_X12_lower (h : xH) (l0 : Nat) : Option (Int64 × xH) := (pF h l0 12 4 (.int (0 : Int32))).bind fun h1 => (gJ h1 l0 12 25).bind fun v2 => some ((v2, h1))
set_option maxRecDepth 20000 in
theorem w_X12_lower (h : xH) (l0 : Nat) (r : Int64 × xH) (hf : f_X12_lower h l0 = some r) : Ev 3 yX12_lower cX12_lower 1 (some .long) [] [.ref l0] h (oJh r) := by
  refine Ev.of (by decide +kernel) (Nat.le_of_ble_eq_true rfl) ?_
  unfold f_X12_lower at hf
  refine V.aload_n dX12_lower_0 rfl 0 rfl ?_
  refine V.iconst (v := (0 : Int32)) dX12_lower_1 (by decide) ?_
  obtain ⟨h1, e1, hf⟩ := bS hf
  refine V.xpF dX12_lower_2 fl_RX12_75 (fun h9 => nomatch h9) (fun _ => rfl) (fun _ => rfl) e1 ?_
  refine V.aload_n dX12_lower_5 rfl 0 rfl ?_
  obtain ⟨v2, e2, hf⟩ := bS hf
  refine V.xgJ dX12_lower_6 fl_RX12_377 e2 ?_
  obtain rfl := Option.some.inj hf
  exact V.lret dX12_lower_9

def f_X12_layMixed_112 (k12 : xH → Nat → Int32 → Int32 → Int32 → Option (Int32 × xH)) (h : xH) (l0 : Nat) (l2 : Int32) (l4 : Int32) (s0 : Int32) (s1 : Int32) : Option (Int32 × xH) := k12 h l0 l2 (s1 + s0) (l4 + (-1))
def f_X12_layMixed_80 (k12 : xH → Nat → Int32 → Int32 → Int32 → Option (Int32 × xH)) (h : xH) (l0 : Nat) (l2 : Int32) (l3 : Int32) (l4 : Int32) (l5 : Int32) (s0 : Int32) (s1 : Int32) (s2 : Nat) : Option (Int32 × xH) := (stI h .int s2 s1 s0).bind fun h1 => (if l5 = (-1 : Int32) then (f_X12_layMixed_112 k12 h1 l0 l2 l4 (0 : Int32) l3) else ((gR h1 l0 12 0).bind fun v3 => (ldI h1 .int v3 (((248 : Int32) + ((2 : Int32) * l5)) + (1 : Int32))).bind fun v4 => f_X12_layMixed_112 k12 h1 l0 l2 l4 (((100 : Int32) * v4) + (1 : Int32)) l3))
def f_X12_layMixed_12 : Nat → xH → Nat → Int32 → Int32 → Int32 → Option (Int32 × xH)
  | 0, _, _, _, _, _ => none
  | n + 1, h, l0, l2, l3, l4 => (if l4 < 0 then (some ((l3, h))) else ((gR h l0 12 0).bind fun v2 => (ldI h .int v2 (3 : Int32)).bind fun v3 => (rmI l2 (v3 + (1 : Int32))).bind fun v4 => (gR h l0 12 0).bind fun v5 => (ldI h .int v5 (3 : Int32)).bind fun v6 => (dvI l2 (v6 + (1 : Int32))).bind fun v7 => (gR h l0 12 18).bind fun v8 => (stI h .int v8 l4 (v4 - (1 : Int32))).bind fun h9 => (gR h9 l0 12 17).bind fun v10 => (if (v4 - (1 : Int32)) = (-1 : Int32) then (f_X12_layMixed_80 (f_X12_layMixed_12 n) h9 l0 v7 l3 l4 (v4 - (1 : Int32)) (0 : Int32) l4 v10) else ((gR h9 l0 12 0).bind fun v12 => (ldI h9 .int v12 ((248 : Int32) + ((2 : Int32) * (v4 - (1 : Int32))))).bind fun v13 => f_X12_layMixed_80 (f_X12_layMixed_12 n) h9 l0 v7 l3 l4 (v4 - (1 : Int32)) v13 l4 v10))))
def f_X12_layMixed (h : xH) (l0 : Nat) (l1 : Int32) : Option (Int32 × xH) := (gO h l0 12).bind fun q1 => (f_X12_rooms h l0).bind fun r2 => f_X12_layMixed_12 xFU h l0 l1 (0 : Int32) (r2 - (1 : Int32))
set_option maxRecDepth 20000 in
theorem w_X12_layMixed_112 (h : xH) {k12 : xH → Nat → Int32 → Int32 → Int32 → Option (Int32 × xH)} (hk12 : ∀ (h : xH) (l0 : Nat) (l2 : Int32) (l3 : Int32) (l4 : Int32) (r : Int32 × xH), k12 h l0 l2 l3 l4 = some r → V 4 yX12_layMixed cX12_layMixed 6 (some .int) [] none 12 [(0, .ref l0), (2, .int l2), (3, .int l3), (4, .int l4)] [] h (oIh r)) (l0 : Nat) (l2 : Int32) (l4 : Int32) (s0 : Int32) (s1 : Int32) (r : Int32 × xH) (hf : f_X12_layMixed_112 k12 h l0 l2 l4 s0 s1 = some r) : V 4 yX12_layMixed cX12_layMixed 6 (some .int) [] none 112 [(0, .ref l0), (2, .int l2), (4, .int l4)] [.int s0, .int s1] h (oIh r) := by
  unfold f_X12_layMixed_112 at hf
  refine V.iadd dX12_layMixed_112 ?_
  refine V.istore_n (lv' := [(3, .int (s1 + s0)), (0, .ref l0), (2, .int l2), (4, .int l4)]) dX12_layMixed_113 rfl (by decide) rfl ?_
  refine V.iinc (v := (l4 + (-1))) (lv' := [(4, .int (l4 + (-1))), (3, .int (s1 + s0)), (0, .ref l0), (2, .int l2)]) dX12_layMixed_114 3 rfl rfl (Nat.le_of_ble_eq_true rfl) rfl ?_
  refine V.goto (tgt := 12) dX12_layMixed_117 (by decide) ?_
  refine V.sub [2, 3, 1, 0] rfl ?_
  exact hk12 _ _ _ _ _ _ hf

set_option maxRecDepth 20000 in
theorem w_X12_layMixed_80 (h : xH) {k12 : xH → Nat → Int32 → Int32 → Int32 → Option (Int32 × xH)} (hk12 : ∀ (h : xH) (l0 : Nat) (l2 : Int32) (l3 : Int32) (l4 : Int32) (r : Int32 × xH), k12 h l0 l2 l3 l4 = some r → V 4 yX12_layMixed cX12_layMixed 6 (some .int) [] none 12 [(0, .ref l0), (2, .int l2), (3, .int l3), (4, .int l4)] [] h (oIh r)) (l0 : Nat) (l2 : Int32) (l3 : Int32) (l4 : Int32) (l5 : Int32) (s0 : Int32) (s1 : Int32) (s2 : Nat) (r : Int32 × xH) (hf : f_X12_layMixed_80 k12 h l0 l2 l3 l4 l5 s0 s1 s2 = some r) : V 4 yX12_layMixed cX12_layMixed 6 (some .int) [] none 80 [(0, .ref l0), (2, .int l2), (3, .int l3), (4, .int l4), (5, .int l5)] [.int s0, .int s1, .ref s2] h (oIh r) := by
  unfold f_X12_layMixed_80 at hf
  obtain ⟨h1, e1, hf⟩ := bS hf
  refine V.xstI dX12_layMixed_80 e1 ?_
  refine V.iload_n dX12_layMixed_81 rfl 2 rfl ?_
  refine V.iload dX12_layMixed_82 4 rfl ?_
  refine V.iconst (v := (-1 : Int32)) dX12_layMixed_84 (by decide) ?_
  refine V.icmp_ne (tgt := 92) dX12_layMixed_85 (by decide) (fun c2 => ?_) (fun c2 => ?_)
  · rw [if_neg c2] at hf
    refine V.bipush (v := (100 : Int32)) dX12_layMixed_92 (by decide) ?_
    refine V.aload_n dX12_layMixed_94 rfl 0 rfl ?_
    obtain ⟨v3, e2, hf⟩ := bS hf
    refine V.xgR dX12_layMixed_95 fl_RX12_9 e2 ?_
    refine V.sipush (v := (248 : Int32)) dX12_layMixed_98 (by decide) ?_
    refine V.iconst (v := (2 : Int32)) dX12_layMixed_101 (by decide) ?_
    refine V.iload dX12_layMixed_102 4 rfl ?_
    refine V.imul dX12_layMixed_104 ?_
    refine V.iadd dX12_layMixed_105 ?_
    refine V.iconst (v := (1 : Int32)) dX12_layMixed_106 (by decide) ?_
    refine V.iadd dX12_layMixed_107 ?_
    obtain ⟨v4, e3, hf⟩ := bS hf
    refine V.xldI dX12_layMixed_108 e3 ?_
    refine V.imul dX12_layMixed_109 ?_
    refine V.iconst (v := (1 : Int32)) dX12_layMixed_110 (by decide) ?_
    refine V.iadd dX12_layMixed_111 ?_
    refine V.sub [0, 1, 3] rfl ?_
    exact w_X12_layMixed_112 _ hk12 _ _ _ _ _ _ hf
  · rw [if_pos c2] at hf
    refine V.iconst (v := (0 : Int32)) dX12_layMixed_88 (by decide) ?_
    refine V.goto (tgt := 112) dX12_layMixed_89 (by decide) ?_
    refine V.sub [0, 1, 3] rfl ?_
    exact w_X12_layMixed_112 _ hk12 _ _ _ _ _ _ hf

set_option maxRecDepth 20000 in
theorem w_X12_layMixed_12 : ∀ (n : Nat) (h : xH) (l0 : Nat) (l2 : Int32) (l3 : Int32) (l4 : Int32) (r : Int32 × xH), f_X12_layMixed_12 n h l0 l2 l3 l4 = some r → V 4 yX12_layMixed cX12_layMixed 6 (some .int) [] none 12 [(0, .ref l0), (2, .int l2), (3, .int l3), (4, .int l4)] [] h (oIh r) := by
  intro n
  induction n with
  | zero => intro h l0 l2 l3 l4 r hf; cases hf
  | succ n ih =>
    intro h l0 l2 l3 l4 r hf
    rw [f_X12_layMixed_12] at hf
    refine V.iload dX12_layMixed_12 3 rfl ?_
    refine V.if_lt (tgt := 120) dX12_layMixed_14 (by decide) (fun c1 => ?_) (fun c1 => ?_)
    · rw [if_pos c1] at hf
      refine V.iload_n dX12_layMixed_120 rfl 2 rfl ?_
      obtain rfl := Option.some.inj hf
      exact V.iret dX12_layMixed_121
    · rw [if_neg c1] at hf
      refine V.iload_n dX12_layMixed_17 rfl 1 rfl ?_
      refine V.aload_n dX12_layMixed_18 rfl 0 rfl ?_
      obtain ⟨v2, e4, hf⟩ := bS hf
      refine V.xgR dX12_layMixed_19 fl_RX12_9 e4 ?_
      refine V.iconst (v := (3 : Int32)) dX12_layMixed_22 (by decide) ?_
      obtain ⟨v3, e5, hf⟩ := bS hf
      refine V.xldI dX12_layMixed_23 e5 ?_
      refine V.iconst (v := (1 : Int32)) dX12_layMixed_24 (by decide) ?_
      refine V.iadd dX12_layMixed_25 ?_
      obtain ⟨v4, e6, hf⟩ := bS hf
      refine V.xrmI dX12_layMixed_26 e6 ?_
      refine V.iconst (v := (1 : Int32)) dX12_layMixed_27 (by decide) ?_
      refine V.isub dX12_layMixed_28 ?_
      refine V.istore (lv' := [(5, .int (v4 - (1 : Int32))), (0, .ref l0), (2, .int l2), (3, .int l3), (4, .int l4)]) dX12_layMixed_29 (by decide) rfl ?_
      refine V.iload_n dX12_layMixed_31 rfl 2 rfl ?_
      refine V.aload_n dX12_layMixed_32 rfl 1 rfl ?_
      obtain ⟨v5, e7, hf⟩ := bS hf
      refine V.xgR dX12_layMixed_33 fl_RX12_9 e7 ?_
      refine V.iconst (v := (3 : Int32)) dX12_layMixed_36 (by decide) ?_
      obtain ⟨v6, e8, hf⟩ := bS hf
      refine V.xldI dX12_layMixed_37 e8 ?_
      refine V.iconst (v := (1 : Int32)) dX12_layMixed_38 (by decide) ?_
      refine V.iadd dX12_layMixed_39 ?_
      obtain ⟨v7, e9, hf⟩ := bS hf
      refine V.xdvI dX12_layMixed_40 e9 ?_
      refine V.istore_n (lv' := [(2, .int v7), (5, .int (v4 - (1 : Int32))), (0, .ref l0), (3, .int l3), (4, .int l4)]) dX12_layMixed_41 rfl (by decide) rfl ?_
      refine V.aload_n dX12_layMixed_42 rfl 2 rfl ?_
      obtain ⟨v8, e10, hf⟩ := bS hf
      refine V.xgR dX12_layMixed_43 fl_RX12_36 e10 ?_
      refine V.iload dX12_layMixed_46 4 rfl ?_
      refine V.iload dX12_layMixed_48 1 rfl ?_
      obtain ⟨h9, e11, hf⟩ := bS hf
      refine V.xstI dX12_layMixed_50 e11 ?_
      refine V.aload_n dX12_layMixed_51 rfl 2 rfl ?_
      obtain ⟨v10, e12, hf⟩ := bS hf
      refine V.xgR dX12_layMixed_52 fl_RX12_33 e12 ?_
      refine V.iload dX12_layMixed_55 4 rfl ?_
      refine V.iload dX12_layMixed_57 1 rfl ?_
      refine V.iconst (v := (-1 : Int32)) dX12_layMixed_59 (by decide) ?_
      refine V.icmp_ne (tgt := 67) dX12_layMixed_60 (by decide) (fun c11 => ?_) (fun c11 => ?_)
      · rw [if_neg c11] at hf
        refine V.aload_n dX12_layMixed_67 rfl 2 rfl ?_
        obtain ⟨v12, e13, hf⟩ := bS hf
        refine V.xgR dX12_layMixed_68 fl_RX12_9 e13 ?_
        refine V.sipush (v := (248 : Int32)) dX12_layMixed_71 (by decide) ?_
        refine V.iconst (v := (2 : Int32)) dX12_layMixed_74 (by decide) ?_
        refine V.iload dX12_layMixed_75 1 rfl ?_
        refine V.imul dX12_layMixed_77 ?_
        refine V.iadd dX12_layMixed_78 ?_
        obtain ⟨v13, e14, hf⟩ := bS hf
        refine V.xldI dX12_layMixed_79 e14 ?_
        refine V.sub [2, 0, 3, 4, 1] rfl ?_
        exact w_X12_layMixed_80 _ ih _ _ _ _ _ _ _ _ _ hf
      · rw [if_pos c11] at hf
        refine V.iconst (v := (0 : Int32)) dX12_layMixed_63 (by decide) ?_
        refine V.goto (tgt := 80) dX12_layMixed_64 (by decide) ?_
        refine V.sub [2, 0, 3, 4, 1] rfl ?_
        exact w_X12_layMixed_80 _ ih _ _ _ _ _ _ _ _ _ hf

set_option maxRecDepth 20000 in
theorem w_X12_layMixed (h : xH) (l0 : Nat) (l1 : Int32) (r : Int32 × xH) (hf : f_X12_layMixed h l0 l1 = some r) : Ev 4 yX12_layMixed cX12_layMixed 6 (some .int) [] [.ref l0, .int l1] h (oIh r) := by
  refine Ev.of (by decide +kernel) (Nat.le_of_ble_eq_true rfl) ?_
  unfold f_X12_layMixed at hf
  refine V.iload_n dX12_layMixed_0 rfl 1 rfl ?_
  refine V.istore_n (lv' := [(2, .int l1), (0, .ref l0), (1, .int l1)]) dX12_layMixed_1 rfl (by decide) rfl ?_
  refine V.iconst (v := (0 : Int32)) dX12_layMixed_2 (by decide) ?_
  refine V.istore_n (lv' := [(3, .int (0 : Int32)), (2, .int l1), (0, .ref l0), (1, .int l1)]) dX12_layMixed_3 rfl (by decide) rfl ?_
  refine V.aload_n dX12_layMixed_4 rfl 2 rfl ?_
  obtain ⟨q1, e15, hf⟩ := bS hf
  obtain ⟨r2, e16, hf⟩ := bS hf
  refine V.callV (As := []) (st := []) dX12_layMixed_5 cl_RX12_228 sw_yX12_rooms (by decide) rfl (Nat.le_of_ble_eq_true rfl) rfl (gO_some e15) rfl (w_X12_rooms _ _ _ e16) ?_
  refine V.iconst (v := (1 : Int32)) dX12_layMixed_8 (by decide) ?_
  refine V.isub dX12_layMixed_9 ?_
  refine V.istore (lv' := [(4, .int (r2 - (1 : Int32))), (3, .int (0 : Int32)), (2, .int l1), (0, .ref l0), (1, .int l1)]) dX12_layMixed_10 (by decide) rfl ?_
  refine V.sub [3, 2, 1, 0] rfl ?_
  exact w_X12_layMixed_12 _ _ _ _ _ _ _ hf

def f_X12_mixedIn_76 (k34 : xH → Nat → Int32 → Int32 → Int32 → Int32 → Option (Int32 × xH)) : Nat → xH → Nat → Int32 → Int32 → Int32 → Int32 → Int32 → Option (Int32 × xH)
  | 0, _, _, _, _, _, _, _ => none
  | n + 1, h, l0, l1, l2, l3, l4, l6 => (gO h l0 12).bind fun q1 => (f_X12_rooms h l0).bind fun r2 => (if r2 ≤ l6 then (k34 h l0 l1 l2 l3 (l4 + 1)) else ((gR h l0 12 19).bind fun v4 => (gR h l0 12 18).bind fun v5 => (ldI h .int v5 l6).bind fun v6 => (stI h .int v4 l6 v6).bind fun h7 => f_X12_mixedIn_76 k34 n h7 l0 l1 l2 l3 l4 (l6 + 1)))
def f_X12_mixedIn_59 (k34 : xH → Nat → Int32 → Int32 → Int32 → Int32 → Option (Int32 × xH)) (h : xH) (l0 : Nat) (l1 : Int32) (l2 : Int32) (l3 : Int32) (l4 : Int32) (l5 : Int32) : Option (Int32 × xH) := (gO h l0 12).bind fun q1 => (f_X12_darkBy h l0 l1).bind fun r2 => (if r2 = 0 then (f_X12_mixedIn_76 k34 xFU h l0 l1 l2 l5 l4 (0 : Int32)) else (k34 h l0 l1 l2 l3 (l4 + 1)))
def f_X12_mixedIn_34 : Nat → xH → Nat → Int32 → Int32 → Int32 → Int32 → Option (Int32 × xH)
  | 0, _, _, _, _, _, _ => none
  | n + 1, h, l0, l1, l2, l3, l4 => (if l2 ≤ l4 then (some ((l3, h))) else ((gO h l0 12).bind fun q2 => (f_X12_layMixed h l0 l4).bind fun r3 => (if l3 = (-1 : Int32) then (f_X12_mixedIn_59 (f_X12_mixedIn_34 n) r3.2 l0 l1 l2 l3 l4 (r3.1)) else ((if l3 ≤ r3.1 then (f_X12_mixedIn_34 n r3.2 l0 l1 l2 l3 (l4 + 1)) else (f_X12_mixedIn_59 (f_X12_mixedIn_34 n) r3.2 l0 l1 l2 l3 l4 (r3.1)))))))
def f_X12_mixedIn_4 : Nat → xH → Nat → Int32 → Int32 → Int32 → Option (Int32 × xH)
  | 0, _, _, _, _, _ => none
  | n + 1, h, l0, l1, l2, l3 => (gO h l0 12).bind fun q1 => (f_X12_rooms h l0).bind fun r2 => (if r2 ≤ l3 then (f_X12_mixedIn_34 xFU h l0 l1 l2 (-1 : Int32) (0 : Int32)) else ((gR h l0 12 0).bind fun v4 => (ldI h .int v4 (3 : Int32)).bind fun v5 => f_X12_mixedIn_4 n h l0 l1 (l2 * (v5 + (1 : Int32))) (l3 + 1)))
def f_X12_mixedIn (h : xH) (l0 : Nat) (l1 : Int32) : Option (Int32 × xH) := f_X12_mixedIn_4 xFU h l0 l1 (1 : Int32) (0 : Int32)
set_option maxRecDepth 20000 in
theorem w_X12_mixedIn_76 {k34 : xH → Nat → Int32 → Int32 → Int32 → Int32 → Option (Int32 × xH)} (hk34 : ∀ (h : xH) (l0 : Nat) (l1 : Int32) (l2 : Int32) (l3 : Int32) (l4 : Int32) (r : Int32 × xH), k34 h l0 l1 l2 l3 l4 = some r → V 6 yX12_mixedIn cX12_mixedIn 7 (some .int) [] none 34 [(0, .ref l0), (1, .int l1), (2, .int l2), (3, .int l3), (4, .int l4)] [] h (oIh r)) : ∀ (n : Nat) (h : xH) (l0 : Nat) (l1 : Int32) (l2 : Int32) (l3 : Int32) (l4 : Int32) (l6 : Int32) (r : Int32 × xH), f_X12_mixedIn_76 k34 n h l0 l1 l2 l3 l4 l6 = some r → V 6 yX12_mixedIn cX12_mixedIn 7 (some .int) [] none 76 [(0, .ref l0), (1, .int l1), (2, .int l2), (3, .int l3), (4, .int l4), (6, .int l6)] [] h (oIh r) := by
  intro n
  induction n with
  | zero => intro h l0 l1 l2 l3 l4 l6 r hf; cases hf
  | succ n ih =>
    intro h l0 l1 l2 l3 l4 l6 r hf
    rw [f_X12_mixedIn_76] at hf
    refine V.iload dX12_mixedIn_76 5 rfl ?_
    refine V.aload_n dX12_mixedIn_78 rfl 0 rfl ?_
    obtain ⟨q1, e1, hf⟩ := bS hf
    obtain ⟨r2, e2, hf⟩ := bS hf
    refine V.callV (As := []) (st := [.int l6]) dX12_mixedIn_79 cl_RX12_228 sw_yX12_rooms (by decide) rfl (Nat.le_of_ble_eq_true rfl) rfl (gO_some e1) rfl (w_X12_rooms _ _ _ e2) ?_
    refine V.icmp_ge (tgt := 105) dX12_mixedIn_82 (by decide) (fun c3 => ?_) (fun c3 => ?_)
    · rw [if_pos c3] at hf
      refine V.iinc (v := (l4 + 1)) (lv' := [(4, .int (l4 + 1)), (0, .ref l0), (1, .int l1), (2, .int l2), (3, .int l3), (6, .int l6)]) dX12_mixedIn_105 4 rfl rfl (Nat.le_of_ble_eq_true rfl) rfl ?_
      refine V.goto (tgt := 34) dX12_mixedIn_108 (by decide) ?_
      refine V.sub [1, 2, 3, 4, 0] rfl ?_
      exact hk34 _ _ _ _ _ _ _ hf
    · rw [if_neg c3] at hf
      refine V.aload_n dX12_mixedIn_85 rfl 0 rfl ?_
      obtain ⟨v4, e3, hf⟩ := bS hf
      refine V.xgR dX12_mixedIn_86 fl_RX12_39 e3 ?_
      refine V.iload dX12_mixedIn_89 5 rfl ?_
      refine V.aload_n dX12_mixedIn_91 rfl 0 rfl ?_
      obtain ⟨v5, e4, hf⟩ := bS hf
      refine V.xgR dX12_mixedIn_92 fl_RX12_36 e4 ?_
      refine V.iload dX12_mixedIn_95 5 rfl ?_
      obtain ⟨v6, e5, hf⟩ := bS hf
      refine V.xldI dX12_mixedIn_97 e5 ?_
      obtain ⟨h7, e6, hf⟩ := bS hf
      refine V.xstI dX12_mixedIn_98 e6 ?_
      refine V.iinc (v := (l6 + 1)) (lv' := [(6, .int (l6 + 1)), (0, .ref l0), (1, .int l1), (2, .int l2), (3, .int l3), (4, .int l4)]) dX12_mixedIn_99 5 rfl rfl (Nat.le_of_ble_eq_true rfl) rfl ?_
      refine V.goto (tgt := 76) dX12_mixedIn_102 (by decide) ?_
      refine V.sub [1, 2, 3, 4, 5, 0] rfl ?_
      exact ih _ _ _ _ _ _ _ _ hf

set_option maxRecDepth 20000 in
theorem w_X12_mixedIn_59 (h : xH) {k34 : xH → Nat → Int32 → Int32 → Int32 → Int32 → Option (Int32 × xH)} (hk34 : ∀ (h : xH) (l0 : Nat) (l1 : Int32) (l2 : Int32) (l3 : Int32) (l4 : Int32) (r : Int32 × xH), k34 h l0 l1 l2 l3 l4 = some r → V 6 yX12_mixedIn cX12_mixedIn 7 (some .int) [] none 34 [(0, .ref l0), (1, .int l1), (2, .int l2), (3, .int l3), (4, .int l4)] [] h (oIh r)) (l0 : Nat) (l1 : Int32) (l2 : Int32) (l3 : Int32) (l4 : Int32) (l5 : Int32) (r : Int32 × xH) (hf : f_X12_mixedIn_59 k34 h l0 l1 l2 l3 l4 l5 = some r) : V 6 yX12_mixedIn cX12_mixedIn 7 (some .int) [] none 59 [(0, .ref l0), (1, .int l1), (2, .int l2), (3, .int l3), (4, .int l4), (5, .int l5)] [] h (oIh r) := by
  unfold f_X12_mixedIn_59 at hf
  refine V.aload_n dX12_mixedIn_59 rfl 0 rfl ?_
  refine V.iload_n dX12_mixedIn_60 rfl 1 rfl ?_
  obtain ⟨q1, e7, hf⟩ := bS hf
  obtain ⟨r2, e8, hf⟩ := bS hf
  refine V.callV (As := [.int l1]) (st := []) dX12_mixedIn_61 cl_RX12_259 sw_yX12_darkBy (by decide) rfl (Nat.le_of_ble_eq_true rfl) rfl (gO_some e7) rfl (w_X12_darkBy _ _ _ _ e8) ?_
  refine V.if_eq (tgt := 70) dX12_mixedIn_64 (by decide) (fun c3 => ?_) (fun c3 => ?_)
  · rw [if_pos c3] at hf
    refine V.iload dX12_mixedIn_70 5 rfl ?_
    refine V.istore_n (lv' := [(3, .int l5), (0, .ref l0), (1, .int l1), (2, .int l2), (4, .int l4), (5, .int l5)]) dX12_mixedIn_72 rfl (by decide) rfl ?_
    refine V.iconst (v := (0 : Int32)) dX12_mixedIn_73 (by decide) ?_
    refine V.istore (lv' := [(6, .int (0 : Int32)), (3, .int l5), (0, .ref l0), (1, .int l1), (2, .int l2), (4, .int l4), (5, .int l5)]) dX12_mixedIn_74 (by decide) rfl ?_
    refine V.sub [2, 3, 4, 1, 5, 0] rfl ?_
    exact w_X12_mixedIn_76 hk34 _ _ _ _ _ _ _ _ _ hf
  · rw [if_neg c3] at hf
    refine V.goto (tgt := 105) dX12_mixedIn_67 (by decide) ?_
    refine V.iinc (v := (l4 + 1)) (lv' := [(4, .int (l4 + 1)), (0, .ref l0), (1, .int l1), (2, .int l2), (3, .int l3), (5, .int l5)]) dX12_mixedIn_105 4 rfl rfl (Nat.le_of_ble_eq_true rfl) rfl ?_
    refine V.goto (tgt := 34) dX12_mixedIn_108 (by decide) ?_
    refine V.sub [1, 2, 3, 4, 0] rfl ?_
    exact hk34 _ _ _ _ _ _ _ hf

set_option maxRecDepth 20000 in
theorem w_X12_mixedIn_34 : ∀ (n : Nat) (h : xH) (l0 : Nat) (l1 : Int32) (l2 : Int32) (l3 : Int32) (l4 : Int32) (r : Int32 × xH), f_X12_mixedIn_34 n h l0 l1 l2 l3 l4 = some r → V 6 yX12_mixedIn cX12_mixedIn 7 (some .int) [] none 34 [(0, .ref l0), (1, .int l1), (2, .int l2), (3, .int l3), (4, .int l4)] [] h (oIh r) := by
  intro n
  induction n with
  | zero => intro h l0 l1 l2 l3 l4 r hf; cases hf
  | succ n ih =>
    intro h l0 l1 l2 l3 l4 r hf
    rw [f_X12_mixedIn_34] at hf
    refine V.iload dX12_mixedIn_34 4 rfl ?_
    refine V.iload_n dX12_mixedIn_36 rfl 2 rfl ?_
    refine V.icmp_ge (tgt := 111) dX12_mixedIn_37 (by decide) (fun c1 => ?_) (fun c1 => ?_)
    · rw [if_pos c1] at hf
      refine V.iload_n dX12_mixedIn_111 rfl 3 rfl ?_
      obtain rfl := Option.some.inj hf
      exact V.iret dX12_mixedIn_112
    · rw [if_neg c1] at hf
      refine V.aload_n dX12_mixedIn_40 rfl 0 rfl ?_
      refine V.iload dX12_mixedIn_41 4 rfl ?_
      obtain ⟨q2, e9, hf⟩ := bS hf
      obtain ⟨r3, e10, hf⟩ := bS hf
      refine V.callV (As := [.int l4]) (st := []) dX12_mixedIn_43 cl_RX12_319 sw_yX12_layMixed (by decide) rfl (Nat.le_of_ble_eq_true rfl) rfl (gO_some e9) rfl (w_X12_layMixed _ _ _ _ e10) ?_
      refine V.istore (lv' := [(5, .int r3.1), (0, .ref l0), (1, .int l1), (2, .int l2), (3, .int l3), (4, .int l4)]) dX12_mixedIn_46 (by decide) rfl ?_
      refine V.iload_n dX12_mixedIn_48 rfl 4 rfl ?_
      refine V.iconst (v := (-1 : Int32)) dX12_mixedIn_49 (by decide) ?_
      refine V.icmp_eq (tgt := 59) dX12_mixedIn_50 (by decide) (fun c4 => ?_) (fun c4 => ?_)
      · rw [if_pos c4] at hf
        refine V.sub [1, 2, 3, 4, 5, 0] rfl ?_
        exact w_X12_mixedIn_59 _ ih _ _ _ _ _ _ _ hf
      · rw [if_neg c4] at hf
        refine V.iload dX12_mixedIn_53 0 rfl ?_
        refine V.iload_n dX12_mixedIn_55 rfl 4 rfl ?_
        refine V.icmp_ge (tgt := 105) dX12_mixedIn_56 (by decide) (fun c5 => ?_) (fun c5 => ?_)
        · rw [if_pos c5] at hf
          refine V.iinc (v := (l4 + 1)) (lv' := [(4, .int (l4 + 1)), (5, .int r3.1), (0, .ref l0), (1, .int l1), (2, .int l2), (3, .int l3)]) dX12_mixedIn_105 5 rfl rfl (Nat.le_of_ble_eq_true rfl) rfl ?_
          refine V.goto (tgt := 34) dX12_mixedIn_108 (by decide) ?_
          refine V.sub [2, 3, 4, 5, 0] rfl ?_
          exact ih _ _ _ _ _ _ _ hf
        · rw [if_neg c5] at hf
          refine V.sub [1, 2, 3, 4, 5, 0] rfl ?_
          exact w_X12_mixedIn_59 _ ih _ _ _ _ _ _ _ hf

set_option maxRecDepth 20000 in
theorem w_X12_mixedIn_4 : ∀ (n : Nat) (h : xH) (l0 : Nat) (l1 : Int32) (l2 : Int32) (l3 : Int32) (r : Int32 × xH), f_X12_mixedIn_4 n h l0 l1 l2 l3 = some r → V 6 yX12_mixedIn cX12_mixedIn 7 (some .int) [] none 4 [(0, .ref l0), (1, .int l1), (2, .int l2), (3, .int l3)] [] h (oIh r) := by
  intro n
  induction n with
  | zero => intro h l0 l1 l2 l3 r hf; cases hf
  | succ n ih =>
    intro h l0 l1 l2 l3 r hf
    rw [f_X12_mixedIn_4] at hf
    refine V.iload_n dX12_mixedIn_4 rfl 3 rfl ?_
    refine V.aload_n dX12_mixedIn_5 rfl 0 rfl ?_
    obtain ⟨q1, e11, hf⟩ := bS hf
    obtain ⟨r2, e12, hf⟩ := bS hf
    refine V.callV (As := []) (st := [.int l3]) dX12_mixedIn_6 cl_RX12_228 sw_yX12_rooms (by decide) rfl (Nat.le_of_ble_eq_true rfl) rfl (gO_some e11) rfl (w_X12_rooms _ _ _ e12) ?_
    refine V.icmp_ge (tgt := 29) dX12_mixedIn_9 (by decide) (fun c3 => ?_) (fun c3 => ?_)
    · rw [if_pos c3] at hf
      refine V.iconst (v := (-1 : Int32)) dX12_mixedIn_29 (by decide) ?_
      refine V.istore_n (lv' := [(3, .int (-1 : Int32)), (0, .ref l0), (1, .int l1), (2, .int l2)]) dX12_mixedIn_30 rfl (by decide) rfl ?_
      refine V.iconst (v := (0 : Int32)) dX12_mixedIn_31 (by decide) ?_
      refine V.istore (lv' := [(4, .int (0 : Int32)), (3, .int (-1 : Int32)), (0, .ref l0), (1, .int l1), (2, .int l2)]) dX12_mixedIn_32 (by decide) rfl ?_
      refine V.sub [2, 3, 4, 1, 0] rfl ?_
      exact w_X12_mixedIn_34 _ _ _ _ _ _ _ _ hf
    · rw [if_neg c3] at hf
      refine V.iload_n dX12_mixedIn_12 rfl 2 rfl ?_
      refine V.aload_n dX12_mixedIn_13 rfl 0 rfl ?_
      obtain ⟨v4, e13, hf⟩ := bS hf
      refine V.xgR dX12_mixedIn_14 fl_RX12_9 e13 ?_
      refine V.iconst (v := (3 : Int32)) dX12_mixedIn_17 (by decide) ?_
      obtain ⟨v5, e14, hf⟩ := bS hf
      refine V.xldI dX12_mixedIn_18 e14 ?_
      refine V.iconst (v := (1 : Int32)) dX12_mixedIn_19 (by decide) ?_
      refine V.iadd dX12_mixedIn_20 ?_
      refine V.imul dX12_mixedIn_21 ?_
      refine V.istore_n (lv' := [(2, .int (l2 * (v5 + (1 : Int32)))), (0, .ref l0), (1, .int l1), (3, .int l3)]) dX12_mixedIn_22 rfl (by decide) rfl ?_
      refine V.iinc (v := (l3 + 1)) (lv' := [(3, .int (l3 + 1)), (2, .int (l2 * (v5 + (1 : Int32)))), (0, .ref l0), (1, .int l1)]) dX12_mixedIn_23 3 rfl rfl (Nat.le_of_ble_eq_true rfl) rfl ?_
      refine V.goto (tgt := 4) dX12_mixedIn_26 (by decide) ?_
      refine V.sub [2, 3, 1, 0] rfl ?_
      exact ih _ _ _ _ _ _ hf

set_option maxRecDepth 20000 in
theorem w_X12_mixedIn (h : xH) (l0 : Nat) (l1 : Int32) (r : Int32 × xH) (hf : f_X12_mixedIn h l0 l1 = some r) : Ev 6 yX12_mixedIn cX12_mixedIn 7 (some .int) [] [.ref l0, .int l1] h (oIh r) := by
  refine Ev.of (by decide +kernel) (Nat.le_of_ble_eq_true rfl) ?_
  unfold f_X12_mixedIn at hf
  refine V.iconst (v := (1 : Int32)) dX12_mixedIn_0 (by decide) ?_
  refine V.istore_n (lv' := [(2, .int (1 : Int32)), (0, .ref l0), (1, .int l1)]) dX12_mixedIn_1 rfl (by decide) rfl ?_
  refine V.iconst (v := (0 : Int32)) dX12_mixedIn_2 (by decide) ?_
  refine V.istore_n (lv' := [(3, .int (0 : Int32)), (2, .int (1 : Int32)), (0, .ref l0), (1, .int l1)]) dX12_mixedIn_3 rfl (by decide) rfl ?_
  refine V.sub [2, 3, 1, 0] rfl ?_
  exact w_X12_mixedIn_4 _ _ _ _ _ _ _ hf

def f_X12_mixed_40 (h : xH) (l0 : Nat) (l1 : Int32) (l2 : Int32) (s0 : Int32) (s1 : Nat) : Option (Int32 × xH) := (pF h s1 12 4 (.int s0)).bind fun h1 => (gI h1 l0 12 4).bind fun v2 => (if v2 ≤ 0 then ((gO h1 l0 12).bind fun q4 => (f_X12_mixedIn h1 l0 l1).bind fun r5 => (if r5.1 = (-1 : Int32) then (some (((-1 : Int32), r5.2))) else ((if l2 = (-1 : Int32) then ((dvI (r5.1) (100 : Int32)).bind fun v12 => some ((v12, r5.2))) else ((if l2 = (-2 : Int32) then ((rmI (r5.1) (100 : Int32)).bind fun v11 => some ((v11, r5.2))) else ((gR r5.2 l0 12 19).bind fun v9 => (ldI r5.2 .int v9 l2).bind fun v10 => some ((v10, r5.2))))))))) else (some (((0 : Int32), h1))))
def f_X12_mixed_39 (h : xH) (l0 : Nat) (l1 : Int32) (l2 : Int32) (s0 : Nat) : Option (Int32 × xH) := f_X12_mixed_40 h l0 l1 l2 (1 : Int32) s0
def f_X12_mixed (h : xH) (l0 : Nat) (l1 : Int32) (l2 : Int32) : Option (Int32 × xH) := (f_X12_isHour h l1).bind fun r1 => (if r1 = 0 then (f_X12_mixed_39 h l0 l1 l2 l0) else ((gO h l0 12).bind fun q3 => (f_X12_rooms h l0).bind fun r4 => (if (8 : Int32) < r4 then (f_X12_mixed_39 h l0 l1 l2 l0) else ((gO h l0 12).bind fun q6 => (f_X12_rooms h l0).bind fun r7 => (f_X12_within h (Int32.toInt64 l2) (-2 : Int64) (Int32.toInt64 (r7 - (1 : Int32)))).bind fun r8 => (if r8 = 0 then (f_X12_mixed_39 h l0 l1 l2 l0) else (f_X12_mixed_40 h l0 l1 l2 (0 : Int32) l0))))))
set_option maxRecDepth 20000 in
theorem w_X12_mixed_40 (h : xH) (l0 : Nat) (l1 : Int32) (l2 : Int32) (s0 : Int32) (s1 : Nat) (r : Int32 × xH) (hf : f_X12_mixed_40 h l0 l1 l2 s0 s1 = some r) : V 7 yX12_mixed cX12_mixed 4 (some .int) [] none 40 [(0, .ref l0), (1, .int l1), (2, .int l2)] [.int s0, .ref s1] h (oIh r) := by
  unfold f_X12_mixed_40 at hf
  obtain ⟨h1, e1, hf⟩ := bS hf
  refine V.xpF dX12_mixed_40 fl_RX12_75 (fun h9 => nomatch h9) (fun _ => rfl) (fun _ => rfl) e1 ?_
  refine V.aload_n dX12_mixed_43 rfl 0 rfl ?_
  obtain ⟨v2, e2, hf⟩ := bS hf
  refine V.xgI dX12_mixed_44 fl_RX12_75 e2 ?_
  refine V.if_le (tgt := 52) dX12_mixed_47 (by decide) (fun c3 => ?_) (fun c3 => ?_)
  · rw [if_pos c3] at hf
    refine V.aload_n dX12_mixed_52 rfl 0 rfl ?_
    refine V.iload_n dX12_mixed_53 rfl 1 rfl ?_
    obtain ⟨q4, e3, hf⟩ := bS hf
    obtain ⟨r5, e4, hf⟩ := bS hf
    refine V.callV (As := [.int l1]) (st := []) dX12_mixed_54 cl_RX12_324 sw_yX12_mixedIn (by decide) rfl (Nat.le_of_ble_eq_true rfl) rfl (gO_some e3) rfl (w_X12_mixedIn _ _ _ _ e4) ?_
    refine V.istore_n (lv' := [(3, .int r5.1), (0, .ref l0), (1, .int l1), (2, .int l2)]) dX12_mixed_57 rfl (by decide) rfl ?_
    refine V.iload_n dX12_mixed_58 rfl 0 rfl ?_
    refine V.iconst (v := (-1 : Int32)) dX12_mixed_59 (by decide) ?_
    refine V.icmp_ne (tgt := 65) dX12_mixed_60 (by decide) (fun c6 => ?_) (fun c6 => ?_)
    · rw [if_neg c6] at hf
      refine V.iload_n dX12_mixed_65 rfl 3 rfl ?_
      refine V.iconst (v := (-1 : Int32)) dX12_mixed_66 (by decide) ?_
      refine V.icmp_ne (tgt := 77) dX12_mixed_67 (by decide) (fun c7 => ?_) (fun c7 => ?_)
      · rw [if_neg c7] at hf
        refine V.iload_n dX12_mixed_77 rfl 3 rfl ?_
        refine V.bipush (v := (-2 : Int32)) dX12_mixed_78 (by decide) ?_
        refine V.icmp_ne (tgt := 90) dX12_mixed_80 (by decide) (fun c8 => ?_) (fun c8 => ?_)
        · rw [if_neg c8] at hf
          refine V.aload_n dX12_mixed_90 rfl 1 rfl ?_
          obtain ⟨v9, e5, hf⟩ := bS hf
          refine V.xgR dX12_mixed_91 fl_RX12_39 e5 ?_
          refine V.iload_n dX12_mixed_94 rfl 3 rfl ?_
          obtain ⟨v10, e6, hf⟩ := bS hf
          refine V.xldI dX12_mixed_95 e6 ?_
          obtain rfl := Option.some.inj hf
          exact V.iret dX12_mixed_96
        · rw [if_pos c8] at hf
          refine V.iload_n dX12_mixed_83 rfl 0 rfl ?_
          refine V.bipush (v := (100 : Int32)) dX12_mixed_84 (by decide) ?_
          obtain ⟨v11, e7, hf⟩ := bS hf
          refine V.xrmI dX12_mixed_86 e7 ?_
          refine V.goto (tgt := 96) dX12_mixed_87 (by decide) ?_
          obtain rfl := Option.some.inj hf
          exact V.iret dX12_mixed_96
      · rw [if_pos c7] at hf
        refine V.iload_n dX12_mixed_70 rfl 0 rfl ?_
        refine V.bipush (v := (100 : Int32)) dX12_mixed_71 (by decide) ?_
        obtain ⟨v12, e8, hf⟩ := bS hf
        refine V.xdvI dX12_mixed_73 e8 ?_
        refine V.goto (tgt := 96) dX12_mixed_74 (by decide) ?_
        obtain rfl := Option.some.inj hf
        exact V.iret dX12_mixed_96
    · rw [if_pos c6] at hf
      refine V.iconst (v := (-1 : Int32)) dX12_mixed_63 (by decide) ?_
      obtain rfl := Option.some.inj hf
      exact V.iret dX12_mixed_64
  · rw [if_neg c3] at hf
    refine V.iconst (v := (0 : Int32)) dX12_mixed_50 (by decide) ?_
    obtain rfl := Option.some.inj hf
    exact V.iret dX12_mixed_51

set_option maxRecDepth 20000 in
theorem w_X12_mixed_39 (h : xH) (l0 : Nat) (l1 : Int32) (l2 : Int32) (s0 : Nat) (r : Int32 × xH) (hf : f_X12_mixed_39 h l0 l1 l2 s0 = some r) : V 7 yX12_mixed cX12_mixed 4 (some .int) [] none 39 [(0, .ref l0), (1, .int l1), (2, .int l2)] [.ref s0] h (oIh r) := by
  unfold f_X12_mixed_39 at hf
  refine V.iconst (v := (1 : Int32)) dX12_mixed_39 (by decide) ?_
  exact w_X12_mixed_40 _ _ _ _ _ _ _ hf

set_option maxRecDepth 20000 in
theorem w_X12_mixed (h : xH) (l0 : Nat) (l1 : Int32) (l2 : Int32) (r : Int32 × xH) (hf : f_X12_mixed h l0 l1 l2 = some r) : Ev 7 yX12_mixed cX12_mixed 4 (some .int) [] [.ref l0, .int l1, .int l2] h (oIh r) := by
  refine Ev.of (by decide +kernel) (Nat.le_of_ble_eq_true rfl) ?_
  unfold f_X12_mixed at hf
  refine V.aload_n dX12_mixed_0 rfl 0 rfl ?_
  refine V.iload_n dX12_mixed_1 rfl 1 rfl ?_
  obtain ⟨r1, e9, hf⟩ := bS hf
  refine V.callS (As := [.int l1]) (st := [.ref l0]) dX12_mixed_2 cl_RX12_270 sw_yX12_isHour (by decide) rfl (Nat.le_of_ble_eq_true rfl) rfl (w_X12_isHour _ _ _ e9) ?_
  refine V.if_eq (tgt := 39) dX12_mixed_5 (by decide) (fun c2 => ?_) (fun c2 => ?_)
  · rw [if_pos c2] at hf
    exact w_X12_mixed_39 _ _ _ _ _ _ hf
  · rw [if_neg c2] at hf
    refine V.aload_n dX12_mixed_8 rfl 0 rfl ?_
    obtain ⟨q3, e10, hf⟩ := bS hf
    obtain ⟨r4, e11, hf⟩ := bS hf
    refine V.callV (As := []) (st := [.ref l0]) dX12_mixed_9 cl_RX12_228 sw_yX12_rooms (by decide) rfl (Nat.le_of_ble_eq_true rfl) rfl (gO_some e10) rfl (w_X12_rooms _ _ _ e11) ?_
    refine V.bipush (v := (8 : Int32)) dX12_mixed_12 (by decide) ?_
    refine V.icmp_gt (tgt := 39) dX12_mixed_14 (by decide) (fun c5 => ?_) (fun c5 => ?_)
    · rw [if_pos c5] at hf
      exact w_X12_mixed_39 _ _ _ _ _ _ hf
    · rw [if_neg c5] at hf
      refine V.iload_n dX12_mixed_17 rfl 2 rfl ?_
      refine V.i2l dX12_mixed_18 ?_
      refine V.ldc2 (v := (-2 : Int64)) dX12_mixed_19 cj_RX12_322 ?_
      refine V.aload_n dX12_mixed_22 rfl 0 rfl ?_
      obtain ⟨q6, e12, hf⟩ := bS hf
      obtain ⟨r7, e13, hf⟩ := bS hf
      refine V.callV (As := []) (st := [.long (-2 : Int64), .long (Int32.toInt64 l2), .ref l0]) dX12_mixed_23 cl_RX12_228 sw_yX12_rooms (by decide) rfl (Nat.le_of_ble_eq_true rfl) rfl (gO_some e12) rfl (w_X12_rooms _ _ _ e13) ?_
      refine V.iconst (v := (1 : Int32)) dX12_mixed_26 (by decide) ?_
      refine V.isub dX12_mixed_27 ?_
      refine V.i2l dX12_mixed_28 ?_
      obtain ⟨r8, e14, hf⟩ := bS hf
      refine V.callS (As := [.long (Int32.toInt64 l2), .long (-2 : Int64), .long (Int32.toInt64 (r7 - (1 : Int32)))]) (st := [.ref l0]) dX12_mixed_29 cl_RX12_134 sw_yX12_within (by decide) rfl (Nat.le_of_ble_eq_true rfl) rfl (w_X12_within _ _ _ _ _ e14) ?_
      refine V.if_eq (tgt := 39) dX12_mixed_32 (by decide) (fun c9 => ?_) (fun c9 => ?_)
      · rw [if_pos c9] at hf
        exact w_X12_mixed_39 _ _ _ _ _ _ hf
      · rw [if_neg c9] at hf
        refine V.iconst (v := (0 : Int32)) dX12_mixed_35 (by decide) ?_
        refine V.goto (tgt := 40) dX12_mixed_36 (by decide) ?_
        exact w_X12_mixed_40 _ _ _ _ _ _ _ hf

def f_X12_never_33 (k9 : xH → Nat → Int32 → Int32 → Option (Int32 × xH)) (h : xH) (l0 : Nat) (l2 : Int32) (s0 : Int32) (s1 : Int32) : Option (Int32 × xH) := k9 h l0 (s1 ||| s0) (l2 + 1)
def f_X12_never_9 : Nat → xH → Nat → Int32 → Int32 → Option (Int32 × xH)
  | 0, _, _, _, _ => none
  | n + 1, h, l0, l1, l2 => (gO h l0 12).bind fun q1 => (f_X12_rooms h l0).bind fun r2 => (if r2 ≤ l2 then (some ((l1, h))) else ((gO h l0 12).bind fun q4 => (f_X12_nextOf h l0 l2).bind fun r5 => (if r5 = 0 then (f_X12_never_33 (f_X12_never_9 n) h l0 l2 ((1 : Int32) <<< (l2 &&& 31)) l1) else (f_X12_never_33 (f_X12_never_9 n) h l0 l2 (0 : Int32) l1))))
def f_X12_never (h : xH) (l0 : Nat) : Option (Int32 × xH) := (pF h l0 12 4 (.int (0 : Int32))).bind fun h1 => f_X12_never_9 xFU h1 l0 (0 : Int32) (0 : Int32)
set_option maxRecDepth 20000 in
theorem w_X12_never_33 (h : xH) {k9 : xH → Nat → Int32 → Int32 → Option (Int32 × xH)} (hk9 : ∀ (h : xH) (l0 : Nat) (l1 : Int32) (l2 : Int32) (r : Int32 × xH), k9 h l0 l1 l2 = some r → V 4 yX12_never cX12_never 3 (some .int) [] none 9 [(0, .ref l0), (1, .int l1), (2, .int l2)] [] h (oIh r)) (l0 : Nat) (l2 : Int32) (s0 : Int32) (s1 : Int32) (r : Int32 × xH) (hf : f_X12_never_33 k9 h l0 l2 s0 s1 = some r) : V 4 yX12_never cX12_never 3 (some .int) [] none 33 [(0, .ref l0), (2, .int l2)] [.int s0, .int s1] h (oIh r) := by
  unfold f_X12_never_33 at hf
  refine V.ior dX12_never_33 ?_
  refine V.istore_n (lv' := [(1, .int (s1 ||| s0)), (0, .ref l0), (2, .int l2)]) dX12_never_34 rfl (by decide) rfl ?_
  refine V.iinc (v := (l2 + 1)) (lv' := [(2, .int (l2 + 1)), (1, .int (s1 ||| s0)), (0, .ref l0)]) dX12_never_35 2 rfl rfl (Nat.le_of_ble_eq_true rfl) rfl ?_
  refine V.goto (tgt := 9) dX12_never_38 (by decide) ?_
  refine V.sub [2, 1, 0] rfl ?_
  exact hk9 _ _ _ _ _ hf

set_option maxRecDepth 20000 in
theorem w_X12_never_9 : ∀ (n : Nat) (h : xH) (l0 : Nat) (l1 : Int32) (l2 : Int32) (r : Int32 × xH), f_X12_never_9 n h l0 l1 l2 = some r → V 4 yX12_never cX12_never 3 (some .int) [] none 9 [(0, .ref l0), (1, .int l1), (2, .int l2)] [] h (oIh r) := by
  intro n
  induction n with
  | zero => intro h l0 l1 l2 r hf; cases hf
  | succ n ih =>
    intro h l0 l1 l2 r hf
    rw [f_X12_never_9] at hf
    refine V.iload_n dX12_never_9 rfl 2 rfl ?_
    refine V.aload_n dX12_never_10 rfl 0 rfl ?_
    obtain ⟨q1, e1, hf⟩ := bS hf
    obtain ⟨r2, e2, hf⟩ := bS hf
    refine V.callV (As := []) (st := [.int l2]) dX12_never_11 cl_RX12_228 sw_yX12_rooms (by decide) rfl (Nat.le_of_ble_eq_true rfl) rfl (gO_some e1) rfl (w_X12_rooms _ _ _ e2) ?_
    refine V.icmp_ge (tgt := 41) dX12_never_14 (by decide) (fun c3 => ?_) (fun c3 => ?_)
    · rw [if_pos c3] at hf
      refine V.iload_n dX12_never_41 rfl 1 rfl ?_
      obtain rfl := Option.some.inj hf
      exact V.iret dX12_never_42
    · rw [if_neg c3] at hf
      refine V.iload_n dX12_never_17 rfl 1 rfl ?_
      refine V.aload_n dX12_never_18 rfl 0 rfl ?_
      refine V.iload_n dX12_never_19 rfl 2 rfl ?_
      obtain ⟨q4, e3, hf⟩ := bS hf
      obtain ⟨r5, e4, hf⟩ := bS hf
      refine V.callV (As := [.int l2]) (st := [.int l1]) dX12_never_20 cl_RX12_243 sw_yX12_nextOf (by decide) rfl (Nat.le_of_ble_eq_true rfl) rfl (gO_some e3) rfl (w_X12_nextOf _ _ _ _ e4) ?_
      refine V.if_ne (tgt := 32) dX12_never_23 (by decide) (fun c6 => ?_) (fun c6 => ?_)
      · rw [if_neg c6] at hf
        refine V.iconst (v := (0 : Int32)) dX12_never_32 (by decide) ?_
        refine V.sub [0, 2] rfl ?_
        exact w_X12_never_33 _ ih _ _ _ _ _ hf
      · rw [if_pos c6] at hf
        refine V.iconst (v := (1 : Int32)) dX12_never_26 (by decide) ?_
        refine V.iload_n dX12_never_27 rfl 2 rfl ?_
        refine V.ishl dX12_never_28 ?_
        refine V.goto (tgt := 33) dX12_never_29 (by decide) ?_
        refine V.sub [0, 2] rfl ?_
        exact w_X12_never_33 _ ih _ _ _ _ _ hf

set_option maxRecDepth 20000 in
theorem w_X12_never (h : xH) (l0 : Nat) (r : Int32 × xH) (hf : f_X12_never h l0 = some r) : Ev 4 yX12_never cX12_never 3 (some .int) [] [.ref l0] h (oIh r) := by
  refine Ev.of (by decide +kernel) (Nat.le_of_ble_eq_true rfl) ?_
  unfold f_X12_never at hf
  refine V.aload_n dX12_never_0 rfl 0 rfl ?_
  refine V.iconst (v := (0 : Int32)) dX12_never_1 (by decide) ?_
  obtain ⟨h1, e5, hf⟩ := bS hf
  refine V.xpF dX12_never_2 fl_RX12_75 (fun h9 => nomatch h9) (fun _ => rfl) (fun _ => rfl) e5 ?_
  refine V.iconst (v := (0 : Int32)) dX12_never_5 (by decide) ?_
  refine V.istore_n (lv' := [(1, .int (0 : Int32)), (0, .ref l0)]) dX12_never_6 rfl (by decide) rfl ?_
  refine V.iconst (v := (0 : Int32)) dX12_never_7 (by decide) ?_
  refine V.istore_n (lv' := [(2, .int (0 : Int32)), (1, .int (0 : Int32)), (0, .ref l0)]) dX12_never_8 rfl (by decide) rfl ?_
  refine V.sub [2, 1, 0] rfl ?_
  exact w_X12_never_9 _ _ _ _ _ _ hf

def f_X12_next (h : xH) (l0 : Nat) (l1 : Int32) : Option (Int32 × xH) := (pF h l0 12 4 (.int (0 : Int32))).bind fun h1 => (gO h1 l0 12).bind fun q2 => (f_X12_isRoom h1 l0 l1).bind fun r3 => (if r3 = 0 then ((gO h1 l0 12).bind fun q5 => (f_X12_fails h1 l0 (1 : Int32)).bind fun r6 => some ((r6.1, r6.2))) else ((gO h1 l0 12).bind fun q7 => (f_X12_nextOf h1 l0 l1).bind fun r8 => some ((r8, h1))))
set_option maxRecDepth 20000 in
theorem w_X12_next (h : xH) (l0 : Nat) (l1 : Int32) (r : Int32 × xH) (hf : f_X12_next h l0 l1 = some r) : Ev 5 yX12_next cX12_next 2 (some .int) [] [.ref l0, .int l1] h (oIh r) := by
  refine Ev.of (by decide +kernel) (Nat.le_of_ble_eq_true rfl) ?_
  unfold f_X12_next at hf
  refine V.aload_n dX12_next_0 rfl 0 rfl ?_
  refine V.iconst (v := (0 : Int32)) dX12_next_1 (by decide) ?_
  obtain ⟨h1, e1, hf⟩ := bS hf
  refine V.xpF dX12_next_2 fl_RX12_75 (fun h9 => nomatch h9) (fun _ => rfl) (fun _ => rfl) e1 ?_
  refine V.aload_n dX12_next_5 rfl 0 rfl ?_
  refine V.iload_n dX12_next_6 rfl 1 rfl ?_
  obtain ⟨q2, e2, hf⟩ := bS hf
  obtain ⟨r3, e3, hf⟩ := bS hf
  refine V.callV (As := [.int l1]) (st := []) dX12_next_7 cl_RX12_240 sw_yX12_isRoom (by decide) rfl (Nat.le_of_ble_eq_true rfl) rfl (gO_some e2) rfl (w_X12_isRoom _ _ _ _ e3) ?_
  refine V.if_eq (tgt := 21) dX12_next_10 (by decide) (fun c4 => ?_) (fun c4 => ?_)
  · rw [if_pos c4] at hf
    refine V.aload_n dX12_next_21 rfl 0 rfl ?_
    refine V.iconst (v := (1 : Int32)) dX12_next_22 (by decide) ?_
    obtain ⟨q5, e4, hf⟩ := bS hf
    obtain ⟨r6, e5, hf⟩ := bS hf
    refine V.callV (As := [.int (1 : Int32)]) (st := []) dX12_next_23 cl_RX12_219 sw_yX12_fails (by decide) rfl (Nat.le_of_ble_eq_true rfl) rfl (gO_some e4) rfl (w_X12_fails _ _ _ _ e5) ?_
    obtain rfl := Option.some.inj hf
    exact V.iret dX12_next_26
  · rw [if_neg c4] at hf
    refine V.aload_n dX12_next_13 rfl 0 rfl ?_
    refine V.iload_n dX12_next_14 rfl 1 rfl ?_
    obtain ⟨q7, e6, hf⟩ := bS hf
    obtain ⟨r8, e7, hf⟩ := bS hf
    refine V.callV (As := [.int l1]) (st := []) dX12_next_15 cl_RX12_243 sw_yX12_nextOf (by decide) rfl (Nat.le_of_ble_eq_true rfl) rfl (gO_some e6) rfl (w_X12_nextOf _ _ _ _ e7) ?_
    refine V.goto (tgt := 26) dX12_next_18 (by decide) ?_
    obtain rfl := Option.some.inj hf
    exact V.iret dX12_next_26

def f_X12_draw (h : xH) (l0 : Nat) (l1 : Int32) : Option (Int32 × xH) := (gI h l0 12 28).bind fun v1 => (pF h l0 12 28 (.int (((1103515245 : Int32) * v1) + (12345 : Int32)))).bind fun h2 => (gI h2 l0 12 28).bind fun v3 => (rmI (UInt32.toInt32 (Int32.toUInt32 v3 >>> (Int32.toUInt32 (16 : Int32) &&& Int32.toUInt32 31))) l1).bind fun v4 => some ((v4, h2))
set_option maxRecDepth 20000 in
theorem w_X12_draw (h : xH) (l0 : Nat) (l1 : Int32) (r : Int32 × xH) (hf : f_X12_draw h l0 l1 = some r) : Ev 3 yX12_draw cX12_draw 2 (some .int) [] [.ref l0, .int l1] h (oIh r) := by
  refine Ev.of (by decide +kernel) (Nat.le_of_ble_eq_true rfl) ?_
  unfold f_X12_draw at hf
  refine V.aload_n dX12_draw_0 rfl 0 rfl ?_
  refine V.ldcw (v := 1103515245) dX12_draw_1 co_RX12_421 ?_
  refine V.aload_n dX12_draw_4 rfl 0 rfl ?_
  obtain ⟨v1, e1, hf⟩ := bS hf
  refine V.xgI dX12_draw_5 fl_RX12_422 e1 ?_
  refine V.imul dX12_draw_8 ?_
  refine V.sipush (v := (12345 : Int32)) dX12_draw_9 (by decide) ?_
  refine V.iadd dX12_draw_12 ?_
  obtain ⟨h2, e2, hf⟩ := bS hf
  refine V.xpF dX12_draw_13 fl_RX12_422 (fun h9 => nomatch h9) (fun _ => rfl) (fun _ => rfl) e2 ?_
  refine V.aload_n dX12_draw_16 rfl 0 rfl ?_
  obtain ⟨v3, e3, hf⟩ := bS hf
  refine V.xgI dX12_draw_17 fl_RX12_422 e3 ?_
  refine V.bipush (v := (16 : Int32)) dX12_draw_20 (by decide) ?_
  refine V.iushr dX12_draw_22 ?_
  refine V.iload_n dX12_draw_23 rfl 1 rfl ?_
  obtain ⟨v4, e4, hf⟩ := bS hf
  refine V.xrmI dX12_draw_24 e4 ?_
  obtain rfl := Option.some.inj hf
  exact V.iret dX12_draw_25

def f_X12_night_154 (k59 : xH → Nat → Int32 → Int32 → Int32 → Int32 → Int32 → Int32 → Option (Int32 × xH)) (h : xH) (l0 : Nat) (l2 : Int32) (l3 : Int32) (l4 : Int32) (l6 : Int32) (l7 : Int32) (s0 : Int32) (s1 : Int32) : Option (Int32 × xH) := k59 h l0 l2 l3 l4 (s1 + s0) l6 (l7 + 1)
def f_X12_night_75 (k59 : xH → Nat → Int32 → Int32 → Int32 → Int32 → Int32 → Int32 → Option (Int32 × xH)) : Nat → xH → Nat → Int32 → Int32 → Int32 → Int32 → Int32 → Int32 → Int32 → Option (Int32 × xH)
  | 0, _, _, _, _, _, _, _, _, _ => none
  | n + 1, h, l0, l2, l3, l4, l5, l6, l7, l8 => (gO h l0 12).bind fun q1 => (f_X12_rooms h l0).bind fun r2 => (if r2 ≤ l8 then ((gO h l0 12).bind fun q4 => (f_X12_darkBy h l0 l7).bind fun r5 => (f_X12_ones h r5).bind fun r6 => (if r6 ≤ 0 then (f_X12_night_154 k59 h l0 l2 l3 (l4 + r6) l6 l7 (0 : Int32) l5) else (f_X12_night_154 k59 h l0 l2 l3 (l4 + r6) l6 l7 (1 : Int32) l5))) else ((gR h l0 12 17).bind fun v8 => (ldI h .int v8 l8).bind fun v9 => (if v9 = 0 then (f_X12_night_75 k59 n h l0 l2 l3 l4 l5 l6 l7 (l8 + 1)) else ((gO h l0 12).bind fun q11 => (f_X12_draw h l0 (100 : Int32)).bind fun r12 => (if r12.1 < l2 then ((gR r12.2 l0 12 17).bind fun v14 => (stI r12.2 .int v14 l8 (0 : Int32)).bind fun h15 => f_X12_night_75 k59 n h15 l0 l2 l3 l4 l5 (l6 + 1) l7 (l8 + 1)) else (f_X12_night_75 k59 n r12.2 l0 l2 l3 l4 l5 l6 l7 (l8 + 1)))))))
def f_X12_night_59 : Nat → xH → Nat → Int32 → Int32 → Int32 → Int32 → Int32 → Int32 → Option (Int32 × xH)
  | 0, _, _, _, _, _, _, _, _ => none
  | n + 1, h, l0, l2, l3, l4, l5, l6, l7 => (if (24 : Int32) ≤ l7 then ((if l3 = 0 then (some ((l4, h))) else ((if l3 = (1 : Int32) then (some ((l5, h))) else (some ((l6, h))))))) else ((gO h l0 12).bind fun q4 => (f_X12_layShine h l0 l7).bind fun r5 => f_X12_night_75 (f_X12_night_59 n) xFU r5 l0 l2 l3 l4 l5 l6 l7 (0 : Int32)))
def f_X12_night_30 (h : xH) (l0 : Nat) (l1 : Int32) (l2 : Int32) (l3 : Int32) (s0 : Int32) (s1 : Nat) : Option (Int32 × xH) := (pF h s1 12 4 (.int s0)).bind fun h1 => (gI h1 l0 12 4).bind fun v2 => (if v2 ≤ 0 then ((pF h1 l0 12 28 (.int l1)).bind fun h4 => f_X12_night_59 xFU h4 l0 l2 l3 (0 : Int32) (0 : Int32) (0 : Int32) (0 : Int32)) else (some (((0 : Int32), h1))))
def f_X12_night_29 (h : xH) (l0 : Nat) (l1 : Int32) (l2 : Int32) (l3 : Int32) (s0 : Nat) : Option (Int32 × xH) := f_X12_night_30 h l0 l1 l2 l3 (1 : Int32) s0
def f_X12_night (h : xH) (l0 : Nat) (l1 : Int32) (l2 : Int32) (l3 : Int32) : Option (Int32 × xH) := (f_X12_within h (Int32.toInt64 l2) (0 : Int64) (100 : Int64)).bind fun r1 => (if r1 = 0 then (f_X12_night_29 h l0 l1 l2 l3 l0) else ((f_X12_within h (Int32.toInt64 l3) (0 : Int64) (2 : Int64)).bind fun r3 => (if r3 = 0 then (f_X12_night_29 h l0 l1 l2 l3 l0) else (f_X12_night_30 h l0 l1 l2 l3 (0 : Int32) l0))))
set_option maxRecDepth 20000 in
theorem w_X12_night_154 (h : xH) {k59 : xH → Nat → Int32 → Int32 → Int32 → Int32 → Int32 → Int32 → Option (Int32 × xH)} (hk59 : ∀ (h : xH) (l0 : Nat) (l2 : Int32) (l3 : Int32) (l4 : Int32) (l5 : Int32) (l6 : Int32) (l7 : Int32) (r : Int32 × xH), k59 h l0 l2 l3 l4 l5 l6 l7 = some r → V 6 yX12_night cX12_night 9 (some .int) [] none 59 [(0, .ref l0), (2, .int l2), (3, .int l3), (4, .int l4), (5, .int l5), (6, .int l6), (7, .int l7)] [] h (oIh r)) (l0 : Nat) (l2 : Int32) (l3 : Int32) (l4 : Int32) (l6 : Int32) (l7 : Int32) (s0 : Int32) (s1 : Int32) (r : Int32 × xH) (hf : f_X12_night_154 k59 h l0 l2 l3 l4 l6 l7 s0 s1 = some r) : V 6 yX12_night cX12_night 9 (some .int) [] none 154 [(0, .ref l0), (2, .int l2), (3, .int l3), (4, .int l4), (6, .int l6), (7, .int l7)] [.int s0, .int s1] h (oIh r) := by
  unfold f_X12_night_154 at hf
  refine V.iadd dX12_night_154 ?_
  refine V.istore (lv' := [(5, .int (s1 + s0)), (0, .ref l0), (2, .int l2), (3, .int l3), (4, .int l4), (6, .int l6), (7, .int l7)]) dX12_night_155 (by decide) rfl ?_
  refine V.iinc (v := (l7 + 1)) (lv' := [(7, .int (l7 + 1)), (5, .int (s1 + s0)), (0, .ref l0), (2, .int l2), (3, .int l3), (4, .int l4), (6, .int l6)]) dX12_night_157 6 rfl rfl (Nat.le_of_ble_eq_true rfl) rfl ?_
  refine V.goto (tgt := 59) dX12_night_160 (by decide) ?_
  refine V.sub [2, 3, 4, 5, 1, 6, 0] rfl ?_
  exact hk59 _ _ _ _ _ _ _ _ _ hf

set_option maxRecDepth 20000 in
theorem w_X12_night_75 {k59 : xH → Nat → Int32 → Int32 → Int32 → Int32 → Int32 → Int32 → Option (Int32 × xH)} (hk59 : ∀ (h : xH) (l0 : Nat) (l2 : Int32) (l3 : Int32) (l4 : Int32) (l5 : Int32) (l6 : Int32) (l7 : Int32) (r : Int32 × xH), k59 h l0 l2 l3 l4 l5 l6 l7 = some r → V 6 yX12_night cX12_night 9 (some .int) [] none 59 [(0, .ref l0), (2, .int l2), (3, .int l3), (4, .int l4), (5, .int l5), (6, .int l6), (7, .int l7)] [] h (oIh r)) : ∀ (n : Nat) (h : xH) (l0 : Nat) (l2 : Int32) (l3 : Int32) (l4 : Int32) (l5 : Int32) (l6 : Int32) (l7 : Int32) (l8 : Int32) (r : Int32 × xH), f_X12_night_75 k59 n h l0 l2 l3 l4 l5 l6 l7 l8 = some r → V 6 yX12_night cX12_night 9 (some .int) [] none 75 [(0, .ref l0), (2, .int l2), (3, .int l3), (4, .int l4), (5, .int l5), (6, .int l6), (7, .int l7), (8, .int l8)] [] h (oIh r) := by
  intro n
  induction n with
  | zero => intro h l0 l2 l3 l4 l5 l6 l7 l8 r hf; cases hf
  | succ n ih =>
    intro h l0 l2 l3 l4 l5 l6 l7 l8 r hf
    rw [f_X12_night_75] at hf
    refine V.iload dX12_night_75 7 rfl ?_
    refine V.aload_n dX12_night_77 rfl 0 rfl ?_
    obtain ⟨q1, e1, hf⟩ := bS hf
    obtain ⟨r2, e2, hf⟩ := bS hf
    refine V.callV (As := []) (st := [.int l8]) dX12_night_78 cl_RX12_228 sw_yX12_rooms (by decide) rfl (Nat.le_of_ble_eq_true rfl) rfl (gO_some e1) rfl (w_X12_rooms _ _ _ e2) ?_
    refine V.icmp_ge (tgt := 124) dX12_night_81 (by decide) (fun c3 => ?_) (fun c3 => ?_)
    · rw [if_pos c3] at hf
      refine V.aload_n dX12_night_124 rfl 0 rfl ?_
      refine V.iload dX12_night_125 6 rfl ?_
      obtain ⟨q4, e3, hf⟩ := bS hf
      obtain ⟨r5, e4, hf⟩ := bS hf
      refine V.callV (As := [.int l7]) (st := []) dX12_night_127 cl_RX12_259 sw_yX12_darkBy (by decide) rfl (Nat.le_of_ble_eq_true rfl) rfl (gO_some e3) rfl (w_X12_darkBy _ _ _ _ e4) ?_
      obtain ⟨r6, e5, hf⟩ := bS hf
      refine V.callS (As := [.int r5]) (st := []) dX12_night_130 cl_RX12_285 sw_yX12_ones (by decide) rfl (Nat.le_of_ble_eq_true rfl) rfl (w_X12_ones _ _ _ e5) ?_
      refine V.istore (lv' := [(8, .int r6), (0, .ref l0), (2, .int l2), (3, .int l3), (4, .int l4), (5, .int l5), (6, .int l6), (7, .int l7)]) dX12_night_133 (by decide) rfl ?_
      refine V.iload dX12_night_135 4 rfl ?_
      refine V.iload dX12_night_137 0 rfl ?_
      refine V.iadd dX12_night_139 ?_
      refine V.istore (lv' := [(4, .int (l4 + r6)), (8, .int r6), (0, .ref l0), (2, .int l2), (3, .int l3), (5, .int l5), (6, .int l6), (7, .int l7)]) dX12_night_140 (by decide) rfl ?_
      refine V.iload dX12_night_142 5 rfl ?_
      refine V.iload dX12_night_144 1 rfl ?_
      refine V.if_le (tgt := 153) dX12_night_146 (by decide) (fun c7 => ?_) (fun c7 => ?_)
      · rw [if_pos c7] at hf
        refine V.iconst (v := (0 : Int32)) dX12_night_153 (by decide) ?_
        refine V.sub [2, 3, 4, 0, 6, 7] rfl ?_
        exact w_X12_night_154 _ hk59 _ _ _ _ _ _ _ _ _ hf
      · rw [if_neg c7] at hf
        refine V.iconst (v := (1 : Int32)) dX12_night_149 (by decide) ?_
        refine V.goto (tgt := 154) dX12_night_150 (by decide) ?_
        refine V.sub [2, 3, 4, 0, 6, 7] rfl ?_
        exact w_X12_night_154 _ hk59 _ _ _ _ _ _ _ _ _ hf
    · rw [if_neg c3] at hf
      refine V.aload_n dX12_night_84 rfl 0 rfl ?_
      obtain ⟨v8, e6, hf⟩ := bS hf
      refine V.xgR dX12_night_85 fl_RX12_33 e6 ?_
      refine V.iload dX12_night_88 7 rfl ?_
      obtain ⟨v9, e7, hf⟩ := bS hf
      refine V.xldI dX12_night_90 e7 ?_
      refine V.if_eq (tgt := 118) dX12_night_91 (by decide) (fun c10 => ?_) (fun c10 => ?_)
      · rw [if_pos c10] at hf
        refine V.iinc (v := (l8 + 1)) (lv' := [(8, .int (l8 + 1)), (0, .ref l0), (2, .int l2), (3, .int l3), (4, .int l4), (5, .int l5), (6, .int l6), (7, .int l7)]) dX12_night_118 7 rfl rfl (Nat.le_of_ble_eq_true rfl) rfl ?_
        refine V.goto (tgt := 75) dX12_night_121 (by decide) ?_
        refine V.sub [1, 2, 3, 4, 5, 6, 7, 0] rfl ?_
        exact ih _ _ _ _ _ _ _ _ _ _ hf
      · rw [if_neg c10] at hf
        refine V.aload_n dX12_night_94 rfl 0 rfl ?_
        refine V.bipush (v := (100 : Int32)) dX12_night_95 (by decide) ?_
        obtain ⟨q11, e8, hf⟩ := bS hf
        obtain ⟨r12, e9, hf⟩ := bS hf
        refine V.callV (As := [.int (100 : Int32)]) (st := []) dX12_night_97 cl_RX12_427 sw_yX12_draw (by decide) rfl (Nat.le_of_ble_eq_true rfl) rfl (gO_some e8) rfl (w_X12_draw _ _ _ _ e9) ?_
        refine V.iload_n dX12_night_100 rfl 1 rfl ?_
        refine V.icmp_lt (tgt := 107) dX12_night_101 (by decide) (fun c13 => ?_) (fun c13 => ?_)
        · rw [if_pos c13] at hf
          refine V.aload_n dX12_night_107 rfl 0 rfl ?_
          obtain ⟨v14, e10, hf⟩ := bS hf
          refine V.xgR dX12_night_108 fl_RX12_33 e10 ?_
          refine V.iload dX12_night_111 7 rfl ?_
          refine V.iconst (v := (0 : Int32)) dX12_night_113 (by decide) ?_
          obtain ⟨h15, e11, hf⟩ := bS hf
          refine V.xstI dX12_night_114 e11 ?_
          refine V.iinc (v := (l6 + 1)) (lv' := [(6, .int (l6 + 1)), (0, .ref l0), (2, .int l2), (3, .int l3), (4, .int l4), (5, .int l5), (7, .int l7), (8, .int l8)]) dX12_night_115 5 rfl rfl (Nat.le_of_ble_eq_true rfl) rfl ?_
          refine V.iinc (v := (l8 + 1)) (lv' := [(8, .int (l8 + 1)), (6, .int (l6 + 1)), (0, .ref l0), (2, .int l2), (3, .int l3), (4, .int l4), (5, .int l5), (7, .int l7)]) dX12_night_118 7 rfl rfl (Nat.le_of_ble_eq_true rfl) rfl ?_
          refine V.goto (tgt := 75) dX12_night_121 (by decide) ?_
          refine V.sub [2, 3, 4, 5, 6, 1, 7, 0] rfl ?_
          exact ih _ _ _ _ _ _ _ _ _ _ hf
        · rw [if_neg c13] at hf
          refine V.goto (tgt := 118) dX12_night_104 (by decide) ?_
          refine V.iinc (v := (l8 + 1)) (lv' := [(8, .int (l8 + 1)), (0, .ref l0), (2, .int l2), (3, .int l3), (4, .int l4), (5, .int l5), (6, .int l6), (7, .int l7)]) dX12_night_118 7 rfl rfl (Nat.le_of_ble_eq_true rfl) rfl ?_
          refine V.goto (tgt := 75) dX12_night_121 (by decide) ?_
          refine V.sub [1, 2, 3, 4, 5, 6, 7, 0] rfl ?_
          exact ih _ _ _ _ _ _ _ _ _ _ hf

set_option maxRecDepth 20000 in
theorem w_X12_night_59 : ∀ (n : Nat) (h : xH) (l0 : Nat) (l2 : Int32) (l3 : Int32) (l4 : Int32) (l5 : Int32) (l6 : Int32) (l7 : Int32) (r : Int32 × xH), f_X12_night_59 n h l0 l2 l3 l4 l5 l6 l7 = some r → V 6 yX12_night cX12_night 9 (some .int) [] none 59 [(0, .ref l0), (2, .int l2), (3, .int l3), (4, .int l4), (5, .int l5), (6, .int l6), (7, .int l7)] [] h (oIh r) := by
  intro n
  induction n with
  | zero => intro h l0 l2 l3 l4 l5 l6 l7 r hf; cases hf
  | succ n ih =>
    intro h l0 l2 l3 l4 l5 l6 l7 r hf
    rw [f_X12_night_59] at hf
    refine V.iload dX12_night_59 6 rfl ?_
    refine V.bipush (v := (24 : Int32)) dX12_night_61 (by decide) ?_
    refine V.icmp_ge (tgt := 163) dX12_night_63 (by decide) (fun c1 => ?_) (fun c1 => ?_)
    · rw [if_pos c1] at hf
      refine V.iload_n dX12_night_163 rfl 2 rfl ?_
      refine V.if_ne (tgt := 172) dX12_night_164 (by decide) (fun c2 => ?_) (fun c2 => ?_)
      · rw [if_neg c2] at hf
        refine V.iload_n dX12_night_172 rfl 2 rfl ?_
        refine V.iconst (v := (1 : Int32)) dX12_night_173 (by decide) ?_
        refine V.icmp_ne (tgt := 182) dX12_night_174 (by decide) (fun c3 => ?_) (fun c3 => ?_)
        · rw [if_neg c3] at hf
          refine V.iload dX12_night_182 5 rfl ?_
          obtain rfl := Option.some.inj hf
          exact V.iret dX12_night_184
        · rw [if_pos c3] at hf
          refine V.iload dX12_night_177 4 rfl ?_
          refine V.goto (tgt := 184) dX12_night_179 (by decide) ?_
          obtain rfl := Option.some.inj hf
          exact V.iret dX12_night_184
      · rw [if_pos c2] at hf
        refine V.iload dX12_night_167 3 rfl ?_
        refine V.goto (tgt := 184) dX12_night_169 (by decide) ?_
        obtain rfl := Option.some.inj hf
        exact V.iret dX12_night_184
    · rw [if_neg c1] at hf
      refine V.aload_n dX12_night_66 rfl 0 rfl ?_
      refine V.iload dX12_night_67 6 rfl ?_
      obtain ⟨q4, e12, hf⟩ := bS hf
      obtain ⟨r5, e13, hf⟩ := bS hf
      refine V.callV (As := [.int l7]) (st := []) dX12_night_69 cl_RX12_256 sw_yX12_layShine (by decide) rfl (Nat.le_of_ble_eq_true rfl) rfl (gO_some e12) rfl (w_X12_layShine _ _ _ _ e13) ?_
      refine V.iconst (v := (0 : Int32)) dX12_night_72 (by decide) ?_
      refine V.istore (lv' := [(8, .int (0 : Int32)), (0, .ref l0), (2, .int l2), (3, .int l3), (4, .int l4), (5, .int l5), (6, .int l6), (7, .int l7)]) dX12_night_73 (by decide) rfl ?_
      refine V.sub [1, 2, 3, 4, 5, 6, 7, 0] rfl ?_
      exact w_X12_night_75 ih _ _ _ _ _ _ _ _ _ _ _ hf

set_option maxRecDepth 20000 in
theorem w_X12_night_30 (h : xH) (l0 : Nat) (l1 : Int32) (l2 : Int32) (l3 : Int32) (s0 : Int32) (s1 : Nat) (r : Int32 × xH) (hf : f_X12_night_30 h l0 l1 l2 l3 s0 s1 = some r) : V 6 yX12_night cX12_night 9 (some .int) [] none 30 [(0, .ref l0), (1, .int l1), (2, .int l2), (3, .int l3)] [.int s0, .ref s1] h (oIh r) := by
  unfold f_X12_night_30 at hf
  obtain ⟨h1, e14, hf⟩ := bS hf
  refine V.xpF dX12_night_30 fl_RX12_75 (fun h9 => nomatch h9) (fun _ => rfl) (fun _ => rfl) e14 ?_
  refine V.aload_n dX12_night_33 rfl 0 rfl ?_
  obtain ⟨v2, e15, hf⟩ := bS hf
  refine V.xgI dX12_night_34 fl_RX12_75 e15 ?_
  refine V.if_le (tgt := 42) dX12_night_37 (by decide) (fun c3 => ?_) (fun c3 => ?_)
  · rw [if_pos c3] at hf
    refine V.aload_n dX12_night_42 rfl 0 rfl ?_
    refine V.iload_n dX12_night_43 rfl 1 rfl ?_
    obtain ⟨h4, e16, hf⟩ := bS hf
    refine V.xpF dX12_night_44 fl_RX12_422 (fun h9 => nomatch h9) (fun _ => rfl) (fun _ => rfl) e16 ?_
    refine V.iconst (v := (0 : Int32)) dX12_night_47 (by decide) ?_
    refine V.istore (lv' := [(4, .int (0 : Int32)), (0, .ref l0), (1, .int l1), (2, .int l2), (3, .int l3)]) dX12_night_48 (by decide) rfl ?_
    refine V.iconst (v := (0 : Int32)) dX12_night_50 (by decide) ?_
    refine V.istore (lv' := [(5, .int (0 : Int32)), (4, .int (0 : Int32)), (0, .ref l0), (1, .int l1), (2, .int l2), (3, .int l3)]) dX12_night_51 (by decide) rfl ?_
    refine V.iconst (v := (0 : Int32)) dX12_night_53 (by decide) ?_
    refine V.istore (lv' := [(6, .int (0 : Int32)), (5, .int (0 : Int32)), (4, .int (0 : Int32)), (0, .ref l0), (1, .int l1), (2, .int l2), (3, .int l3)]) dX12_night_54 (by decide) rfl ?_
    refine V.iconst (v := (0 : Int32)) dX12_night_56 (by decide) ?_
    refine V.istore (lv' := [(7, .int (0 : Int32)), (6, .int (0 : Int32)), (5, .int (0 : Int32)), (4, .int (0 : Int32)), (0, .ref l0), (1, .int l1), (2, .int l2), (3, .int l3)]) dX12_night_57 (by decide) rfl ?_
    refine V.sub [4, 6, 7, 3, 2, 1, 0] rfl ?_
    exact w_X12_night_59 _ _ _ _ _ _ _ _ _ _ hf
  · rw [if_neg c3] at hf
    refine V.iconst (v := (0 : Int32)) dX12_night_40 (by decide) ?_
    obtain rfl := Option.some.inj hf
    exact V.iret dX12_night_41

set_option maxRecDepth 20000 in
theorem w_X12_night_29 (h : xH) (l0 : Nat) (l1 : Int32) (l2 : Int32) (l3 : Int32) (s0 : Nat) (r : Int32 × xH) (hf : f_X12_night_29 h l0 l1 l2 l3 s0 = some r) : V 6 yX12_night cX12_night 9 (some .int) [] none 29 [(0, .ref l0), (1, .int l1), (2, .int l2), (3, .int l3)] [.ref s0] h (oIh r) := by
  unfold f_X12_night_29 at hf
  refine V.iconst (v := (1 : Int32)) dX12_night_29 (by decide) ?_
  exact w_X12_night_30 _ _ _ _ _ _ _ _ hf

set_option maxRecDepth 20000 in
theorem w_X12_night (h : xH) (l0 : Nat) (l1 : Int32) (l2 : Int32) (l3 : Int32) (r : Int32 × xH) (hf : f_X12_night h l0 l1 l2 l3 = some r) : Ev 6 yX12_night cX12_night 9 (some .int) [] [.ref l0, .int l1, .int l2, .int l3] h (oIh r) := by
  refine Ev.of (by decide +kernel) (Nat.le_of_ble_eq_true rfl) ?_
  unfold f_X12_night at hf
  refine V.aload_n dX12_night_0 rfl 0 rfl ?_
  refine V.iload_n dX12_night_1 rfl 2 rfl ?_
  refine V.i2l dX12_night_2 ?_
  refine V.lconst (v := 0) dX12_night_3 (by decide) ?_
  refine V.ldc2 (v := (100 : Int64)) dX12_night_4 cj_RX12_425 ?_
  obtain ⟨r1, e17, hf⟩ := bS hf
  refine V.callS (As := [.long (Int32.toInt64 l2), .long (0 : Int64), .long (100 : Int64)]) (st := [.ref l0]) dX12_night_7 cl_RX12_134 sw_yX12_within (by decide) rfl (Nat.le_of_ble_eq_true rfl) rfl (w_X12_within _ _ _ _ _ e17) ?_
  refine V.if_eq (tgt := 29) dX12_night_10 (by decide) (fun c2 => ?_) (fun c2 => ?_)
  · rw [if_pos c2] at hf
    exact w_X12_night_29 _ _ _ _ _ _ _ hf
  · rw [if_neg c2] at hf
    refine V.iload_n dX12_night_13 rfl 3 rfl ?_
    refine V.i2l dX12_night_14 ?_
    refine V.lconst (v := 0) dX12_night_15 (by decide) ?_
    refine V.ldc2 (v := (2 : Int64)) dX12_night_16 cj_RX12_268 ?_
    obtain ⟨r3, e18, hf⟩ := bS hf
    refine V.callS (As := [.long (Int32.toInt64 l3), .long (0 : Int64), .long (2 : Int64)]) (st := [.ref l0]) dX12_night_19 cl_RX12_134 sw_yX12_within (by decide) rfl (Nat.le_of_ble_eq_true rfl) rfl (w_X12_within _ _ _ _ _ e18) ?_
    refine V.if_eq (tgt := 29) dX12_night_22 (by decide) (fun c4 => ?_) (fun c4 => ?_)
    · rw [if_pos c4] at hf
      exact w_X12_night_29 _ _ _ _ _ _ _ hf
    · rw [if_neg c4] at hf
      refine V.iconst (v := (0 : Int32)) dX12_night_25 (by decide) ?_
      refine V.goto (tgt := 30) dX12_night_26 (by decide) ?_
      exact w_X12_night_30 _ _ _ _ _ _ _ _ hf

def f_X12_of (h : xH) (l0 : Nat) (l1 : Int32) (l2 : Int32) : Option (Int32 × xH) := (pF h l0 12 4 (.int (0 : Int32))).bind fun h1 => (gO h1 l0 12).bind fun q2 => (f_X12_isRoom h1 l0 l1).bind fun r3 => (if r3 = 0 then ((gO h1 l0 12).bind fun q14 => (f_X12_fails h1 l0 (1 : Int32)).bind fun r15 => some ((r15.1, r15.2))) else ((f_X12_within h1 (Int32.toInt64 l2) (0 : Int64) (2 : Int64)).bind fun r5 => (if r5 = 0 then ((gO h1 l0 12).bind fun q12 => (f_X12_fails h1 l0 (2 : Int32)).bind fun r13 => some ((r13.1, r13.2))) else ((if l2 = (2 : Int32) then ((gR h1 l0 12 0).bind fun v10 => (ldI h1 .int v10 ((416 : Int32) + l1)).bind fun v11 => some ((v11, h1))) else ((gR h1 l0 12 0).bind fun v8 => (ldI h1 .int v8 (((448 : Int32) + ((2 : Int32) * l1)) + l2)).bind fun v9 => some ((v9, h1))))))))
set_option maxRecDepth 20000 in
theorem w_X12_of (h : xH) (l0 : Nat) (l1 : Int32) (l2 : Int32) (r : Int32 × xH) (hf : f_X12_of h l0 l1 l2 = some r) : Ev 5 yX12_of cX12_of 3 (some .int) [] [.ref l0, .int l1, .int l2] h (oIh r) := by
  refine Ev.of (by decide +kernel) (Nat.le_of_ble_eq_true rfl) ?_
  unfold f_X12_of at hf
  refine V.aload_n dX12_of_0 rfl 0 rfl ?_
  refine V.iconst (v := (0 : Int32)) dX12_of_1 (by decide) ?_
  obtain ⟨h1, e1, hf⟩ := bS hf
  refine V.xpF dX12_of_2 fl_RX12_75 (fun h9 => nomatch h9) (fun _ => rfl) (fun _ => rfl) e1 ?_
  refine V.aload_n dX12_of_5 rfl 0 rfl ?_
  refine V.iload_n dX12_of_6 rfl 1 rfl ?_
  obtain ⟨q2, e2, hf⟩ := bS hf
  obtain ⟨r3, e3, hf⟩ := bS hf
  refine V.callV (As := [.int l1]) (st := []) dX12_of_7 cl_RX12_240 sw_yX12_isRoom (by decide) rfl (Nat.le_of_ble_eq_true rfl) rfl (gO_some e2) rfl (w_X12_isRoom _ _ _ _ e3) ?_
  refine V.if_ne (tgt := 19) dX12_of_10 (by decide) (fun c4 => ?_) (fun c4 => ?_)
  · rw [if_neg c4] at hf
    refine V.iload_n dX12_of_19 rfl 2 rfl ?_
    refine V.i2l dX12_of_20 ?_
    refine V.lconst (v := 0) dX12_of_21 (by decide) ?_
    refine V.ldc2 (v := (2 : Int64)) dX12_of_22 cj_RX12_268 ?_
    obtain ⟨r5, e4, hf⟩ := bS hf
    refine V.callS (As := [.long (Int32.toInt64 l2), .long (0 : Int64), .long (2 : Int64)]) (st := []) dX12_of_25 cl_RX12_134 sw_yX12_within (by decide) rfl (Nat.le_of_ble_eq_true rfl) rfl (w_X12_within _ _ _ _ _ e4) ?_
    refine V.if_ne (tgt := 37) dX12_of_28 (by decide) (fun c6 => ?_) (fun c6 => ?_)
    · rw [if_neg c6] at hf
      refine V.iload_n dX12_of_37 rfl 2 rfl ?_
      refine V.iconst (v := (2 : Int32)) dX12_of_38 (by decide) ?_
      refine V.icmp_ne (tgt := 55) dX12_of_39 (by decide) (fun c7 => ?_) (fun c7 => ?_)
      · rw [if_neg c7] at hf
        refine V.aload_n dX12_of_55 rfl 0 rfl ?_
        obtain ⟨v8, e5, hf⟩ := bS hf
        refine V.xgR dX12_of_56 fl_RX12_9 e5 ?_
        refine V.sipush (v := (448 : Int32)) dX12_of_59 (by decide) ?_
        refine V.iconst (v := (2 : Int32)) dX12_of_62 (by decide) ?_
        refine V.iload_n dX12_of_63 rfl 1 rfl ?_
        refine V.imul dX12_of_64 ?_
        refine V.iadd dX12_of_65 ?_
        refine V.iload_n dX12_of_66 rfl 2 rfl ?_
        refine V.iadd dX12_of_67 ?_
        obtain ⟨v9, e6, hf⟩ := bS hf
        refine V.xldI dX12_of_68 e6 ?_
        obtain rfl := Option.some.inj hf
        exact V.iret dX12_of_69
      · rw [if_pos c7] at hf
        refine V.aload_n dX12_of_42 rfl 0 rfl ?_
        obtain ⟨v10, e7, hf⟩ := bS hf
        refine V.xgR dX12_of_43 fl_RX12_9 e7 ?_
        refine V.sipush (v := (416 : Int32)) dX12_of_46 (by decide) ?_
        refine V.iload_n dX12_of_49 rfl 1 rfl ?_
        refine V.iadd dX12_of_50 ?_
        obtain ⟨v11, e8, hf⟩ := bS hf
        refine V.xldI dX12_of_51 e8 ?_
        refine V.goto (tgt := 69) dX12_of_52 (by decide) ?_
        obtain rfl := Option.some.inj hf
        exact V.iret dX12_of_69
    · rw [if_pos c6] at hf
      refine V.aload_n dX12_of_31 rfl 0 rfl ?_
      refine V.iconst (v := (2 : Int32)) dX12_of_32 (by decide) ?_
      obtain ⟨q12, e9, hf⟩ := bS hf
      obtain ⟨r13, e10, hf⟩ := bS hf
      refine V.callV (As := [.int (2 : Int32)]) (st := []) dX12_of_33 cl_RX12_219 sw_yX12_fails (by decide) rfl (Nat.le_of_ble_eq_true rfl) rfl (gO_some e9) rfl (w_X12_fails _ _ _ _ e10) ?_
      obtain rfl := Option.some.inj hf
      exact V.iret dX12_of_36
  · rw [if_pos c4] at hf
    refine V.aload_n dX12_of_13 rfl 0 rfl ?_
    refine V.iconst (v := (1 : Int32)) dX12_of_14 (by decide) ?_
    obtain ⟨q14, e11, hf⟩ := bS hf
    obtain ⟨r15, e12, hf⟩ := bS hf
    refine V.callV (As := [.int (1 : Int32)]) (st := []) dX12_of_15 cl_RX12_219 sw_yX12_fails (by decide) rfl (Nat.le_of_ble_eq_true rfl) rfl (gO_some e11) rfl (w_X12_fails _ _ _ _ e12) ?_
    obtain rfl := Option.some.inj hf
    exact V.iret dX12_of_18

def f_X12_oil_9 : Nat → xH → Nat → Int32 → Int32 → Option (Int32 × xH)
  | 0, _, _, _, _ => none
  | n + 1, h, l0, l1, l2 => (gO h l0 12).bind fun q1 => (f_X12_rooms h l0).bind fun r2 => (if r2 ≤ l2 then (some ((l1, h))) else ((gR h l0 12 0).bind fun v4 => (ldI h .int v4 ((448 : Int32) + ((2 : Int32) * l2))).bind fun v5 => (if v5 = (-1 : Int32) then (f_X12_oil_9 n h l0 l1 (l2 + 1)) else ((gR h l0 12 0).bind fun v7 => (gR h l0 12 0).bind fun v8 => (ldI h .int v8 ((448 : Int32) + ((2 : Int32) * l2))).bind fun v9 => (ldI h .int v7 (((248 : Int32) + ((2 : Int32) * v9)) + (1 : Int32))).bind fun v10 => (gR h l0 12 0).bind fun v11 => (ldI h .int v11 (((448 : Int32) + ((2 : Int32) * l2)) + (1 : Int32))).bind fun v12 => (f_X12_ones h v12).bind fun r13 => f_X12_oil_9 n h l0 (l1 + (v10 * r13)) (l2 + 1)))))
def f_X12_oil (h : xH) (l0 : Nat) : Option (Int32 × xH) := (pF h l0 12 4 (.int (0 : Int32))).bind fun h1 => f_X12_oil_9 xFU h1 l0 (0 : Int32) (0 : Int32)
set_option maxRecDepth 20000 in
theorem w_X12_oil_9 : ∀ (n : Nat) (h : xH) (l0 : Nat) (l1 : Int32) (l2 : Int32) (r : Int32 × xH), f_X12_oil_9 n h l0 l1 l2 = some r → V 4 yX12_oil cX12_oil 3 (some .int) [] none 9 [(0, .ref l0), (1, .int l1), (2, .int l2)] [] h (oIh r) := by
  intro n
  induction n with
  | zero => intro h l0 l1 l2 r hf; cases hf
  | succ n ih =>
    intro h l0 l1 l2 r hf
    rw [f_X12_oil_9] at hf
    refine V.iload_n dX12_oil_9 rfl 2 rfl ?_
    refine V.aload_n dX12_oil_10 rfl 0 rfl ?_
    obtain ⟨q1, e1, hf⟩ := bS hf
    obtain ⟨r2, e2, hf⟩ := bS hf
    refine V.callV (As := []) (st := [.int l2]) dX12_oil_11 cl_RX12_228 sw_yX12_rooms (by decide) rfl (Nat.le_of_ble_eq_true rfl) rfl (gO_some e1) rfl (w_X12_rooms _ _ _ e2) ?_
    refine V.icmp_ge (tgt := 85) dX12_oil_14 (by decide) (fun c3 => ?_) (fun c3 => ?_)
    · rw [if_pos c3] at hf
      refine V.iload_n dX12_oil_85 rfl 1 rfl ?_
      obtain rfl := Option.some.inj hf
      exact V.iret dX12_oil_86
    · rw [if_neg c3] at hf
      refine V.aload_n dX12_oil_17 rfl 0 rfl ?_
      obtain ⟨v4, e3, hf⟩ := bS hf
      refine V.xgR dX12_oil_18 fl_RX12_9 e3 ?_
      refine V.sipush (v := (448 : Int32)) dX12_oil_21 (by decide) ?_
      refine V.iconst (v := (2 : Int32)) dX12_oil_24 (by decide) ?_
      refine V.iload_n dX12_oil_25 rfl 2 rfl ?_
      refine V.imul dX12_oil_26 ?_
      refine V.iadd dX12_oil_27 ?_
      obtain ⟨v5, e4, hf⟩ := bS hf
      refine V.xldI dX12_oil_28 e4 ?_
      refine V.iconst (v := (-1 : Int32)) dX12_oil_29 (by decide) ?_
      refine V.icmp_eq (tgt := 79) dX12_oil_30 (by decide) (fun c6 => ?_) (fun c6 => ?_)
      · rw [if_pos c6] at hf
        refine V.iinc (v := (l2 + 1)) (lv' := [(2, .int (l2 + 1)), (0, .ref l0), (1, .int l1)]) dX12_oil_79 2 rfl rfl (Nat.le_of_ble_eq_true rfl) rfl ?_
        refine V.goto (tgt := 9) dX12_oil_82 (by decide) ?_
        refine V.sub [1, 2, 0] rfl ?_
        exact ih _ _ _ _ _ hf
      · rw [if_neg c6] at hf
        refine V.iload_n dX12_oil_33 rfl 1 rfl ?_
        refine V.aload_n dX12_oil_34 rfl 0 rfl ?_
        obtain ⟨v7, e5, hf⟩ := bS hf
        refine V.xgR dX12_oil_35 fl_RX12_9 e5 ?_
        refine V.sipush (v := (248 : Int32)) dX12_oil_38 (by decide) ?_
        refine V.iconst (v := (2 : Int32)) dX12_oil_41 (by decide) ?_
        refine V.aload_n dX12_oil_42 rfl 0 rfl ?_
        obtain ⟨v8, e6, hf⟩ := bS hf
        refine V.xgR dX12_oil_43 fl_RX12_9 e6 ?_
        refine V.sipush (v := (448 : Int32)) dX12_oil_46 (by decide) ?_
        refine V.iconst (v := (2 : Int32)) dX12_oil_49 (by decide) ?_
        refine V.iload_n dX12_oil_50 rfl 2 rfl ?_
        refine V.imul dX12_oil_51 ?_
        refine V.iadd dX12_oil_52 ?_
        obtain ⟨v9, e7, hf⟩ := bS hf
        refine V.xldI dX12_oil_53 e7 ?_
        refine V.imul dX12_oil_54 ?_
        refine V.iadd dX12_oil_55 ?_
        refine V.iconst (v := (1 : Int32)) dX12_oil_56 (by decide) ?_
        refine V.iadd dX12_oil_57 ?_
        obtain ⟨v10, e8, hf⟩ := bS hf
        refine V.xldI dX12_oil_58 e8 ?_
        refine V.aload_n dX12_oil_59 rfl 0 rfl ?_
        obtain ⟨v11, e9, hf⟩ := bS hf
        refine V.xgR dX12_oil_60 fl_RX12_9 e9 ?_
        refine V.sipush (v := (448 : Int32)) dX12_oil_63 (by decide) ?_
        refine V.iconst (v := (2 : Int32)) dX12_oil_66 (by decide) ?_
        refine V.iload_n dX12_oil_67 rfl 2 rfl ?_
        refine V.imul dX12_oil_68 ?_
        refine V.iadd dX12_oil_69 ?_
        refine V.iconst (v := (1 : Int32)) dX12_oil_70 (by decide) ?_
        refine V.iadd dX12_oil_71 ?_
        obtain ⟨v12, e10, hf⟩ := bS hf
        refine V.xldI dX12_oil_72 e10 ?_
        obtain ⟨r13, e11, hf⟩ := bS hf
        refine V.callS (As := [.int v12]) (st := [.int v10, .int l1]) dX12_oil_73 cl_RX12_285 sw_yX12_ones (by decide) rfl (Nat.le_of_ble_eq_true rfl) rfl (w_X12_ones _ _ _ e11) ?_
        refine V.imul dX12_oil_76 ?_
        refine V.iadd dX12_oil_77 ?_
        refine V.istore_n (lv' := [(1, .int (l1 + (v10 * r13))), (0, .ref l0), (2, .int l2)]) dX12_oil_78 rfl (by decide) rfl ?_
        refine V.iinc (v := (l2 + 1)) (lv' := [(2, .int (l2 + 1)), (1, .int (l1 + (v10 * r13))), (0, .ref l0)]) dX12_oil_79 2 rfl rfl (Nat.le_of_ble_eq_true rfl) rfl ?_
        refine V.goto (tgt := 9) dX12_oil_82 (by decide) ?_
        refine V.sub [2, 1, 0] rfl ?_
        exact ih _ _ _ _ _ hf

set_option maxRecDepth 20000 in
theorem w_X12_oil (h : xH) (l0 : Nat) (r : Int32 × xH) (hf : f_X12_oil h l0 = some r) : Ev 4 yX12_oil cX12_oil 3 (some .int) [] [.ref l0] h (oIh r) := by
  refine Ev.of (by decide +kernel) (Nat.le_of_ble_eq_true rfl) ?_
  unfold f_X12_oil at hf
  refine V.aload_n dX12_oil_0 rfl 0 rfl ?_
  refine V.iconst (v := (0 : Int32)) dX12_oil_1 (by decide) ?_
  obtain ⟨h1, e12, hf⟩ := bS hf
  refine V.xpF dX12_oil_2 fl_RX12_75 (fun h9 => nomatch h9) (fun _ => rfl) (fun _ => rfl) e12 ?_
  refine V.iconst (v := (0 : Int32)) dX12_oil_5 (by decide) ?_
  refine V.istore_n (lv' := [(1, .int (0 : Int32)), (0, .ref l0)]) dX12_oil_6 rfl (by decide) rfl ?_
  refine V.iconst (v := (0 : Int32)) dX12_oil_7 (by decide) ?_
  refine V.istore_n (lv' := [(2, .int (0 : Int32)), (1, .int (0 : Int32)), (0, .ref l0)]) dX12_oil_8 rfl (by decide) rfl ?_
  refine V.sub [2, 1, 0] rfl ?_
  exact w_X12_oil_9 _ _ _ _ _ _ hf

def f_X12_outBy (h : xH) (l0 : Nat) (l1 : Int32) (l2 : Int32) : Option (Int32 × xH) := (gO h l0 12).bind fun q1 => (f_X12_darkIn h l0 l2).bind fun r2 => (gR r2.2 l0 12 17).bind fun v3 => (stI r2.2 .int v3 l1 (0 : Int32)).bind fun h4 => (gO h4 l0 12).bind fun q5 => (f_X12_darkBy h4 l0 l2).bind fun r6 => some (((r6 &&& ((r2.1) ^^^ (-1 : Int32))), h4))
set_option maxRecDepth 20000 in
theorem w_X12_outBy (h : xH) (l0 : Nat) (l1 : Int32) (l2 : Int32) (r : Int32 × xH) (hf : f_X12_outBy h l0 l1 l2 = some r) : Ev 7 yX12_outBy cX12_outBy 4 (some .int) [] [.ref l0, .int l1, .int l2] h (oIh r) := by
  refine Ev.of (by decide +kernel) (Nat.le_of_ble_eq_true rfl) ?_
  unfold f_X12_outBy at hf
  refine V.aload_n dX12_outBy_0 rfl 0 rfl ?_
  refine V.iload_n dX12_outBy_1 rfl 2 rfl ?_
  obtain ⟨q1, e1, hf⟩ := bS hf
  obtain ⟨r2, e2, hf⟩ := bS hf
  refine V.callV (As := [.int l2]) (st := []) dX12_outBy_2 cl_RX12_279 sw_yX12_darkIn (by decide) rfl (Nat.le_of_ble_eq_true rfl) rfl (gO_some e1) rfl (w_X12_darkIn _ _ _ _ e2) ?_
  refine V.istore_n (lv' := [(3, .int r2.1), (0, .ref l0), (1, .int l1), (2, .int l2)]) dX12_outBy_5 rfl (by decide) rfl ?_
  refine V.aload_n dX12_outBy_6 rfl 1 rfl ?_
  obtain ⟨v3, e3, hf⟩ := bS hf
  refine V.xgR dX12_outBy_7 fl_RX12_33 e3 ?_
  refine V.iload_n dX12_outBy_10 rfl 2 rfl ?_
  refine V.iconst (v := (0 : Int32)) dX12_outBy_11 (by decide) ?_
  obtain ⟨h4, e4, hf⟩ := bS hf
  refine V.xstI dX12_outBy_12 e4 ?_
  refine V.aload_n dX12_outBy_13 rfl 1 rfl ?_
  refine V.iload_n dX12_outBy_14 rfl 3 rfl ?_
  obtain ⟨q5, e5, hf⟩ := bS hf
  obtain ⟨r6, e6, hf⟩ := bS hf
  refine V.callV (As := [.int l2]) (st := []) dX12_outBy_15 cl_RX12_259 sw_yX12_darkBy (by decide) rfl (Nat.le_of_ble_eq_true rfl) rfl (gO_some e5) rfl (w_X12_darkBy _ _ _ _ e6) ?_
  refine V.iload_n dX12_outBy_18 rfl 0 rfl ?_
  refine V.iconst (v := (-1 : Int32)) dX12_outBy_19 (by decide) ?_
  refine V.ixor dX12_outBy_20 ?_
  refine V.iand dX12_outBy_21 ?_
  obtain rfl := Option.some.inj hf
  exact V.iret dX12_outBy_22

def f_X12_out (h : xH) (l0 : Nat) (l1 : Int32) (l2 : Int32) : Option (Int32 × xH) := (gO h l0 12).bind fun q1 => (f_X12_roomHour h l0 l1 l2).bind fun r2 => (pF h l0 12 4 (.int r2)).bind fun h3 => (gI h3 l0 12 4).bind fun v4 => (if v4 ≤ 0 then ((gO h3 l0 12).bind fun q6 => (f_X12_outBy h3 l0 l1 l2).bind fun r7 => some ((r7.1, r7.2))) else (some (((0 : Int32), h3))))
set_option maxRecDepth 20000 in
theorem w_X12_out (h : xH) (l0 : Nat) (l1 : Int32) (l2 : Int32) (r : Int32 × xH) (hf : f_X12_out h l0 l1 l2 = some r) : Ev 8 yX12_out cX12_out 3 (some .int) [] [.ref l0, .int l1, .int l2] h (oIh r) := by
  refine Ev.of (by decide +kernel) (Nat.le_of_ble_eq_true rfl) ?_
  unfold f_X12_out at hf
  refine V.aload_n dX12_out_0 rfl 0 rfl ?_
  refine V.aload_n dX12_out_1 rfl 0 rfl ?_
  refine V.iload_n dX12_out_2 rfl 1 rfl ?_
  refine V.iload_n dX12_out_3 rfl 2 rfl ?_
  obtain ⟨q1, e1, hf⟩ := bS hf
  obtain ⟨r2, e2, hf⟩ := bS hf
  refine V.callV (As := [.int l1, .int l2]) (st := [.ref l0]) dX12_out_4 cl_RX12_273 sw_yX12_roomHour (by decide) rfl (Nat.le_of_ble_eq_true rfl) rfl (gO_some e1) rfl (w_X12_roomHour _ _ _ _ _ e2) ?_
  obtain ⟨h3, e3, hf⟩ := bS hf
  refine V.xpF dX12_out_7 fl_RX12_75 (fun h9 => nomatch h9) (fun _ => rfl) (fun _ => rfl) e3 ?_
  refine V.aload_n dX12_out_10 rfl 0 rfl ?_
  obtain ⟨v4, e4, hf⟩ := bS hf
  refine V.xgI dX12_out_11 fl_RX12_75 e4 ?_
  refine V.if_le (tgt := 21) dX12_out_14 (by decide) (fun c5 => ?_) (fun c5 => ?_)
  · rw [if_pos c5] at hf
    refine V.aload_n dX12_out_21 rfl 0 rfl ?_
    refine V.iload_n dX12_out_22 rfl 1 rfl ?_
    refine V.iload_n dX12_out_23 rfl 2 rfl ?_
    obtain ⟨q6, e5, hf⟩ := bS hf
    obtain ⟨r7, e6, hf⟩ := bS hf
    refine V.callV (As := [.int l1, .int l2]) (st := []) dX12_out_24 cl_RX12_282 sw_yX12_outBy (by decide) rfl (Nat.le_of_ble_eq_true rfl) rfl (gO_some e5) rfl (w_X12_outBy _ _ _ _ _ e6) ?_
    obtain rfl := Option.some.inj hf
    exact V.iret dX12_out_27
  · rw [if_neg c5] at hf
    refine V.iconst (v := (0 : Int32)) dX12_out_17 (by decide) ?_
    refine V.goto (tgt := 27) dX12_out_18 (by decide) ?_
    obtain rfl := Option.some.inj hf
    exact V.iret dX12_out_27

def f_X12_divisor_6 (h : xH) : Nat → Int64 → Int64 → Option (Int64)
  | 0, _, _ => none
  | n + 1, l4, l6 => (if (lg_cmp l6 (0 : Int64)) = 0 then (some (l4)) else ((rmJ l4 l6).bind fun v2 => f_X12_divisor_6 h n l6 v2))
def f_X12_divisor (h : xH) (l0 : Int64) (l2 : Int64) : Option (Int64) := f_X12_divisor_6 h xFU l0 l2
set_option maxRecDepth 20000 in
theorem w_X12_divisor_6 (h : xH) : ∀ (n : Nat) (l4 : Int64) (l6 : Int64) (r : Int64), f_X12_divisor_6 h n l4 l6 = some r → V 3 yX12_divisor cX12_divisor 10 (some .long) [] none 6 [(4, .long l4), (6, .long l6)] [] h (oJ h r) := by
  intro n
  induction n with
  | zero => intro l4 l6 r hf; cases hf
  | succ n ih =>
    intro l4 l6 r hf
    rw [f_X12_divisor_6] at hf
    refine V.lload dX12_divisor_6 1 rfl ?_
    refine V.lconst (v := 0) dX12_divisor_8 (by decide) ?_
    refine V.lcmp dX12_divisor_9 ?_
    refine V.if_eq (tgt := 31) dX12_divisor_10 (by decide) (fun c1 => ?_) (fun c1 => ?_)
    · rw [if_pos c1] at hf
      refine V.lload dX12_divisor_31 0 rfl ?_
      obtain rfl := Option.some.inj hf
      exact V.lret dX12_divisor_33
    · rw [if_neg c1] at hf
      refine V.lload dX12_divisor_13 0 rfl ?_
      refine V.lload dX12_divisor_15 1 rfl ?_
      obtain ⟨v2, e1, hf⟩ := bS hf
      refine V.xrmJ dX12_divisor_17 e1 ?_
      refine V.lstore (lv' := [(8, .long v2), (4, .long l4), (6, .long l6)]) dX12_divisor_18 (by decide) rfl ?_
      refine V.lload dX12_divisor_20 2 rfl ?_
      refine V.lstore (lv' := [(4, .long l6), (8, .long v2), (6, .long l6)]) dX12_divisor_22 (by decide) rfl ?_
      refine V.lload dX12_divisor_24 1 rfl ?_
      refine V.lstore (lv' := [(6, .long v2), (4, .long l6), (8, .long v2)]) dX12_divisor_26 (by decide) rfl ?_
      refine V.goto (tgt := 6) dX12_divisor_28 (by decide) ?_
      refine V.sub [1, 0] rfl ?_
      exact ih _ _ _ hf

set_option maxRecDepth 20000 in
theorem w_X12_divisor (h : xH) (l0 : Int64) (l2 : Int64) (r : Int64) (hf : f_X12_divisor h l0 l2 = some r) : Ev 3 yX12_divisor cX12_divisor 10 (some .long) [] [.long l0, .long l2] h (oJ h r) := by
  refine Ev.of (by decide +kernel) (Nat.le_of_ble_eq_true rfl) ?_
  unfold f_X12_divisor at hf
  refine V.lload_n dX12_divisor_0 rfl 0 rfl ?_
  refine V.lstore (lv' := [(4, .long l0), (0, .long l0), (2, .long l2)]) dX12_divisor_1 (by decide) rfl ?_
  refine V.lload_n dX12_divisor_3 rfl 2 rfl ?_
  refine V.lstore (lv' := [(6, .long l2), (4, .long l0), (0, .long l0), (2, .long l2)]) dX12_divisor_4 (by decide) rfl ?_
  refine V.sub [1, 0] rfl ?_
  exact w_X12_divisor_6 h _ _ _ _ hf

def f_X12_laySavings_6 : Nat → xH → Nat → Int32 → Option (xH)
  | 0, _, _, _ => none
  | n + 1, h, l0, l1 => (gO h l0 12).bind fun q1 => (f_X12_all h l0).bind fun r2 => (if r2 < l1 then (some (h)) else ((gR h l0 12 23).bind fun v4 => (gR h l0 12 0).bind fun v5 => (ldI h .int v5 (6 : Int32)).bind fun v6 => (f_X12_ones h l1).bind fun r7 => (gO h l0 12).bind fun q8 => (f_X12_costOf h l0 l1).bind fun r9 => (stI h .int v4 l1 ((v6 * r7) - r9)).bind fun h10 => f_X12_laySavings_6 n h10 l0 (l1 + 1)))
def f_X12_laySavings (h : xH) (l0 : Nat) : Option (xH) := (gO h l0 12).bind fun q1 => (f_X12_layNexts h l0).bind fun r2 => f_X12_laySavings_6 xFU r2 l0 (0 : Int32)
set_option maxRecDepth 20000 in
theorem w_X12_laySavings_6 : ∀ (n : Nat) (h : xH) (l0 : Nat) (l1 : Int32) (r : xH), f_X12_laySavings_6 n h l0 l1 = some r → V 5 yX12_laySavings cX12_laySavings 2 none [] none 6 [(0, .ref l0), (1, .int l1)] [] h (oVh r) := by
  intro n
  induction n with
  | zero => intro h l0 l1 r hf; cases hf
  | succ n ih =>
    intro h l0 l1 r hf
    rw [f_X12_laySavings_6] at hf
    refine V.iload_n dX12_laySavings_6 rfl 1 rfl ?_
    refine V.aload_n dX12_laySavings_7 rfl 0 rfl ?_
    obtain ⟨q1, e1, hf⟩ := bS hf
    obtain ⟨r2, e2, hf⟩ := bS hf
    refine V.callV (As := []) (st := [.int l1]) dX12_laySavings_8 cl_RX12_230 sw_yX12_all (by decide) rfl (Nat.le_of_ble_eq_true rfl) rfl (gO_some e1) rfl (w_X12_all _ _ _ e2) ?_
    refine V.icmp_gt (tgt := 44) dX12_laySavings_11 (by decide) (fun c3 => ?_) (fun c3 => ?_)
    · rw [if_pos c3] at hf
      obtain rfl := Option.some.inj hf
      exact V.vret dX12_laySavings_44
    · rw [if_neg c3] at hf
      refine V.aload_n dX12_laySavings_14 rfl 0 rfl ?_
      obtain ⟨v4, e3, hf⟩ := bS hf
      refine V.xgR dX12_laySavings_15 fl_RX12_51 e3 ?_
      refine V.iload_n dX12_laySavings_18 rfl 1 rfl ?_
      refine V.aload_n dX12_laySavings_19 rfl 0 rfl ?_
      obtain ⟨v5, e4, hf⟩ := bS hf
      refine V.xgR dX12_laySavings_20 fl_RX12_9 e4 ?_
      refine V.bipush (v := (6 : Int32)) dX12_laySavings_23 (by decide) ?_
      obtain ⟨v6, e5, hf⟩ := bS hf
      refine V.xldI dX12_laySavings_25 e5 ?_
      refine V.iload_n dX12_laySavings_26 rfl 1 rfl ?_
      obtain ⟨r7, e6, hf⟩ := bS hf
      refine V.callS (As := [.int l1]) (st := [.int v6, .int l1, .ref v4]) dX12_laySavings_27 cl_RX12_285 sw_yX12_ones (by decide) rfl (Nat.le_of_ble_eq_true rfl) rfl (w_X12_ones _ _ _ e6) ?_
      refine V.imul dX12_laySavings_30 ?_
      refine V.aload_n dX12_laySavings_31 rfl 0 rfl ?_
      refine V.iload_n dX12_laySavings_32 rfl 1 rfl ?_
      obtain ⟨q8, e7, hf⟩ := bS hf
      obtain ⟨r9, e8, hf⟩ := bS hf
      refine V.callV (As := [.int l1]) (st := [.int (v6 * r7), .int l1, .ref v4]) dX12_laySavings_33 cl_RX12_370 sw_yX12_costOf (by decide) rfl (Nat.le_of_ble_eq_true rfl) rfl (gO_some e7) rfl (w_X12_costOf _ _ _ _ e8) ?_
      refine V.isub dX12_laySavings_36 ?_
      obtain ⟨h10, e9, hf⟩ := bS hf
      refine V.xstI dX12_laySavings_37 e9 ?_
      refine V.iinc (v := (l1 + 1)) (lv' := [(1, .int (l1 + 1)), (0, .ref l0)]) dX12_laySavings_38 1 rfl rfl (Nat.le_of_ble_eq_true rfl) rfl ?_
      refine V.goto (tgt := 6) dX12_laySavings_41 (by decide) ?_
      refine V.sub [1, 0] rfl ?_
      exact ih _ _ _ _ hf

set_option maxRecDepth 20000 in
theorem w_X12_laySavings (h : xH) (l0 : Nat) (r : xH) (hf : f_X12_laySavings h l0 = some r) : Ev 5 yX12_laySavings cX12_laySavings 2 none [] [.ref l0] h (oVh r) := by
  refine Ev.of (by decide +kernel) (Nat.le_of_ble_eq_true rfl) ?_
  unfold f_X12_laySavings at hf
  refine V.aload_n dX12_laySavings_0 rfl 0 rfl ?_
  obtain ⟨q1, e10, hf⟩ := bS hf
  obtain ⟨r2, e11, hf⟩ := bS hf
  refine V.callV (As := []) (st := []) dX12_laySavings_1 cl_RX12_291 sw_yX12_layNexts (by decide) rfl (Nat.le_of_ble_eq_true rfl) rfl (gO_some e10) rfl (w_X12_layNexts _ _ _ e11) ?_
  refine V.iconst (v := (0 : Int32)) dX12_laySavings_4 (by decide) ?_
  refine V.istore_n (lv' := [(1, .int (0 : Int32)), (0, .ref l0)]) dX12_laySavings_5 rfl (by decide) rfl ?_
  refine V.sub [1, 0] rfl ?_
  exact w_X12_laySavings_6 _ _ _ _ _ hf

