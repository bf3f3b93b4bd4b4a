def f_X12_begins_27 : Nat → xH → Nat → Int32 → Option (xH)
  | 0, _, _, _ => none
  | n + 1, h, l0, l1 => (if (16 : Int32) ≤ l1 then (some (h)) else ((stI h .int l0 ((416 : Int32) + l1) (10 : Int32)).bind fun h2 => (stI h2 .int l0 ((448 : Int32) + ((2 : Int32) * l1)) (-1 : Int32)).bind fun h3 => f_X12_begins_27 n h3 l0 (l1 + 1)))
def f_X12_begins_2 : Nat → xH → Nat → Int32 → Option (xH)
  | 0, _, _, _ => none
  | n + 1, h, l0, l1 => (if (480 : Int32) ≤ l1 then ((stI h .int l0 (6 : Int32) (50 : Int32)).bind fun h2 => f_X12_begins_27 xFU h2 l0 (0 : Int32)) else ((stI h .int l0 l1 (0 : Int32)).bind fun h3 => f_X12_begins_2 n h3 l0 (l1 + 1)))
def f_X12_begins (h : xH) (l0 : Nat) : Option (xH) := f_X12_begins_2 xFU h l0 (0 : Int32)
set_option maxRecDepth 20000 in
theorem w_X12_begins_27 : ∀ (n : Nat) (h : xH) (l0 : Nat) (l1 : Int32) (r : xH), f_X12_begins_27 n h l0 l1 = some r → V 3 yX12_begins cX12_begins 2 none [] none 27 [(0, .ref l0), (1, .int l1)] [] h (oVh r) := by
  intro n
  induction n with
  | zero => intro h l0 l1 r hf; cases hf
  | succ n ih =>
    intro h l0 l1 r hf
    rw [f_X12_begins_27] at hf
    refine V.iload_n dX12_begins_27 rfl 1 rfl ?_
    refine V.bipush (v := (16 : Int32)) dX12_begins_28 (by decide) ?_
    refine V.icmp_ge (tgt := 58) dX12_begins_30 (by decide) (fun c1 => ?_) (fun c1 => ?_)
    · rw [if_pos c1] at hf
      obtain rfl := Option.some.inj hf
      exact V.vret dX12_begins_58
    · rw [if_neg c1] at hf
      refine V.aload_n dX12_begins_33 rfl 0 rfl ?_
      refine V.sipush (v := (416 : Int32)) dX12_begins_34 (by decide) ?_
      refine V.iload_n dX12_begins_37 rfl 1 rfl ?_
      refine V.iadd dX12_begins_38 ?_
      refine V.bipush (v := (10 : Int32)) dX12_begins_39 (by decide) ?_
      obtain ⟨h2, e1, hf⟩ := bS hf
      refine V.xstI dX12_begins_41 e1 ?_
      refine V.aload_n dX12_begins_42 rfl 0 rfl ?_
      refine V.sipush (v := (448 : Int32)) dX12_begins_43 (by decide) ?_
      refine V.iconst (v := (2 : Int32)) dX12_begins_46 (by decide) ?_
      refine V.iload_n dX12_begins_47 rfl 1 rfl ?_
      refine V.imul dX12_begins_48 ?_
      refine V.iadd dX12_begins_49 ?_
      refine V.iconst (v := (-1 : Int32)) dX12_begins_50 (by decide) ?_
      obtain ⟨h3, e2, hf⟩ := bS hf
      refine V.xstI dX12_begins_51 e2 ?_
      refine V.iinc (v := (l1 + 1)) (lv' := [(1, .int (l1 + 1)), (0, .ref l0)]) dX12_begins_52 1 rfl rfl (Nat.le_of_ble_eq_true rfl) rfl ?_
      refine V.goto (tgt := 27) dX12_begins_55 (by decide) ?_
      refine V.sub [1, 0] rfl ?_
      exact ih _ _ _ _ hf

set_option maxRecDepth 20000 in
theorem w_X12_begins_2 : ∀ (n : Nat) (h : xH) (l0 : Nat) (l1 : Int32) (r : xH), f_X12_begins_2 n h l0 l1 = some r → V 3 yX12_begins cX12_begins 2 none [] none 2 [(0, .ref l0), (1, .int l1)] [] h (oVh r) := by
  intro n
  induction n with
  | zero => intro h l0 l1 r hf; cases hf
  | succ n ih =>
    intro h l0 l1 r hf
    rw [f_X12_begins_2] at hf
    refine V.iload_n dX12_begins_2 rfl 1 rfl ?_
    refine V.sipush (v := (480 : Int32)) dX12_begins_3 (by decide) ?_
    refine V.icmp_ge (tgt := 19) dX12_begins_6 (by decide) (fun c1 => ?_) (fun c1 => ?_)
    · rw [if_pos c1] at hf
      refine V.aload_n dX12_begins_19 rfl 0 rfl ?_
      refine V.bipush (v := (6 : Int32)) dX12_begins_20 (by decide) ?_
      refine V.bipush (v := (50 : Int32)) dX12_begins_22 (by decide) ?_
      obtain ⟨h2, e3, hf⟩ := bS hf
      refine V.xstI dX12_begins_24 e3 ?_
      refine V.iconst (v := (0 : Int32)) dX12_begins_25 (by decide) ?_
      refine V.istore_n (lv' := [(1, .int (0 : Int32)), (0, .ref l0)]) dX12_begins_26 rfl (by decide) rfl ?_
      refine V.sub [1, 0] rfl ?_
      exact w_X12_begins_27 _ _ _ _ _ hf
    · rw [if_neg c1] at hf
      refine V.aload_n dX12_begins_9 rfl 0 rfl ?_
      refine V.iload_n dX12_begins_10 rfl 1 rfl ?_
      refine V.iconst (v := (0 : Int32)) dX12_begins_11 (by decide) ?_
      obtain ⟨h3, e4, hf⟩ := bS hf
      refine V.xstI dX12_begins_12 e4 ?_
      refine V.iinc (v := (l1 + 1)) (lv' := [(1, .int (l1 + 1)), (0, .ref l0)]) dX12_begins_13 1 rfl rfl (Nat.le_of_ble_eq_true rfl) rfl ?_
      refine V.goto (tgt := 2) dX12_begins_16 (by decide) ?_
      refine V.sub [1, 0] rfl ?_
      exact ih _ _ _ _ hf

set_option maxRecDepth 20000 in
theorem w_X12_begins (h : xH) (l0 : Nat) (r : xH) (hf : f_X12_begins h l0 = some r) : Ev 3 yX12_begins cX12_begins 2 none [] [.ref l0] h (oVh r) := by
  refine Ev.of (by decide +kernel) (Nat.le_of_ble_eq_true rfl) ?_
  unfold f_X12_begins at hf
  refine V.iconst (v := (0 : Int32)) dX12_begins_0 (by decide) ?_
  refine V.istore_n (lv' := [(1, .int (0 : Int32)), (0, .ref l0)]) dX12_begins_1 rfl (by decide) rfl ?_
  refine V.sub [1, 0] rfl ?_
  exact w_X12_begins_2 _ _ _ _ _ hf

def f_X12_init (h : xH) (l0 : Nat) : Option (xH) := (mkI h .int (480 : Int32)).bind fun h1 => (pF h1 l0 12 0 (.ref (h.1.length))).bind fun h2 => (mkI h2 .int (1440 : Int32)).bind fun h3 => (pF h3 l0 12 1 (.ref (h2.1.length))).bind fun h4 => (mkI h4 .int (480 : Int32)).bind fun h5 => (pF h5 l0 12 2 (.ref (h4.1.length))).bind fun h6 => (mkI h6 .boolean (3 : Int32)).bind fun h7 => (pF h7 l0 12 3 (.ref (h6.1.length))).bind fun h8 => (mkI h8 .int (800 : Int32)).bind fun h9 => (pF h9 l0 12 5 (.ref (h8.1.length))).bind fun h10 => (pF h10 l0 12 15 (.int (-1 : Int32))).bind fun h11 => (mkI h11 .int (16 : Int32)).bind fun h12 => (pF h12 l0 12 16 (.ref (h11.1.length))).bind fun h13 => (mkI h13 .int (16 : Int32)).bind fun h14 => (pF h14 l0 12 17 (.ref (h13.1.length))).bind fun h15 => (mkI h15 .int (8 : Int32)).bind fun h16 => (pF h16 l0 12 18 (.ref (h15.1.length))).bind fun h17 => (mkI h17 .int (8 : Int32)).bind fun h18 => (pF h18 l0 12 19 (.ref (h17.1.length))).bind fun h19 => (mkI h19 .int (16 : Int32)).bind fun h20 => (pF h20 l0 12 20 (.ref (h19.1.length))).bind fun h21 => (mkI h21 .int (256 : Int32)).bind fun h22 => (pF h22 l0 12 21 (.ref (h21.1.length))).bind fun h23 => (mkI h23 .int (6144 : Int32)).bind fun h24 => (pF h24 l0 12 22 (.ref (h23.1.length))).bind fun h25 => (mkI h25 .int (1024 : Int32)).bind fun h26 => (pF h26 l0 12 23 (.ref (h25.1.length))).bind fun h27 => (mkI h27 .int (49152 : Int32)).bind fun h28 => (pF h28 l0 12 26 (.ref (h27.1.length))).bind fun h29 => (mkI h29 .int (49152 : Int32)).bind fun h30 => (pF h30 l0 12 27 (.ref (h29.1.length))).bind fun h31 => (mkI h31 .int (4 : Int32)).bind fun h32 => (stI h32 .int (h31.1.length) (0 : Int32) (-1 : Int32)).bind fun h33 => (stI h33 .int (h31.1.length) (1 : Int32) (-1 : Int32)).bind fun h34 => (stI h34 .int (h31.1.length) (2 : Int32) (-1 : Int32)).bind fun h35 => (stI h35 .int (h31.1.length) (3 : Int32) (-1 : Int32)).bind fun h36 => (pF h36 l0 12 29 (.ref (h31.1.length))).bind fun h37 => (mkI h37 .int (4 : Int32)).bind fun h38 => (pF h38 l0 12 30 (.ref (h37.1.length))).bind fun h39 => (mkJ h39 (160 : Int32)).bind fun h40 => (pF h40 l0 12 31 (.ref (h39.1.length))).bind fun h41 => (gR h41 l0 12 0).bind fun v42 => (f_X12_begins h41 v42).bind fun r43 => some (r43)
set_option maxRecDepth 20000 in
theorem w_X12_init (h : xH) (l0 : Nat) (r : xH) (hf : f_X12_init h l0 = some r) : Ev 4 yX12_init cX12_init 1 none [] [.ref l0] h (oVh r) := by
  refine Ev.of (by decide +kernel) (Nat.le_of_ble_eq_true rfl) ?_
  unfold f_X12_init at hf
  refine V.aload_n dX12_init_0 rfl 0 rfl ?_
  refine V.objInit dX12_init_1 oi_RX12_1 oi_inst oi_code (Nat.le_of_ble_eq_true rfl) ?_
  refine V.aload_n dX12_init_4 rfl 0 rfl ?_
  refine V.sipush (v := (480 : Int32)) dX12_init_5 (by decide) ?_
  obtain ⟨h1, e1, hf⟩ := bS hf
  refine V.xmkI dX12_init_8 rfl rfl aw_int (by decide) e1 ?_
  obtain ⟨h2, e2, hf⟩ := bS hf
  refine V.xpF dX12_init_10 fl_RX12_9 (fun _ => rfl) (fun _ => rfl) (fun _ => rfl) e2 ?_
  refine V.aload_n dX12_init_13 rfl 0 rfl ?_
  refine V.sipush (v := (1440 : Int32)) dX12_init_14 (by decide) ?_
  obtain ⟨h3, e3, hf⟩ := bS hf
  refine V.xmkI dX12_init_17 rfl rfl aw_int (by decide) e3 ?_
  obtain ⟨h4, e4, hf⟩ := bS hf
  refine V.xpF dX12_init_19 fl_RX12_13 (fun _ => rfl) (fun _ => rfl) (fun _ => rfl) e4 ?_
  refine V.aload_n dX12_init_22 rfl 0 rfl ?_
  refine V.sipush (v := (480 : Int32)) dX12_init_23 (by decide) ?_
  obtain ⟨h5, e5, hf⟩ := bS hf
  refine V.xmkI dX12_init_26 rfl rfl aw_int (by decide) e5 ?_
  obtain ⟨h6, e6, hf⟩ := bS hf
  refine V.xpF dX12_init_28 fl_RX12_16 (fun _ => rfl) (fun _ => rfl) (fun _ => rfl) e6 ?_
  refine V.aload_n dX12_init_31 rfl 0 rfl ?_
  refine V.iconst (v := (3 : Int32)) dX12_init_32 (by decide) ?_
  obtain ⟨h7, e7, hf⟩ := bS hf
  refine V.xmkI dX12_init_33 rfl rfl aw_boolean (by decide) e7 ?_
  obtain ⟨h8, e8, hf⟩ := bS hf
  refine V.xpF dX12_init_35 fl_RX12_19 (fun _ => rfl) (fun _ => rfl) (fun _ => rfl) e8 ?_
  refine V.aload_n dX12_init_38 rfl 0 rfl ?_
  refine V.sipush (v := (800 : Int32)) dX12_init_39 (by decide) ?_
  obtain ⟨h9, e9, hf⟩ := bS hf
  refine V.xmkI dX12_init_42 rfl rfl aw_int (by decide) e9 ?_
  obtain ⟨h10, e10, hf⟩ := bS hf
  refine V.xpF dX12_init_44 fl_RX12_23 (fun _ => rfl) (fun _ => rfl) (fun _ => rfl) e10 ?_
  refine V.aload_n dX12_init_47 rfl 0 rfl ?_
  refine V.iconst (v := (-1 : Int32)) dX12_init_48 (by decide) ?_
  obtain ⟨h11, e11, hf⟩ := bS hf
  refine V.xpF dX12_init_49 fl_RX12_26 (fun h9 => nomatch h9) (fun _ => rfl) (fun _ => rfl) e11 ?_
  refine V.aload_n dX12_init_52 rfl 0 rfl ?_
  refine V.bipush (v := (16 : Int32)) dX12_init_53 (by decide) ?_
  obtain ⟨h12, e12, hf⟩ := bS hf
  refine V.xmkI dX12_init_55 rfl rfl aw_int (by decide) e12 ?_
  obtain ⟨h13, e13, hf⟩ := bS hf
  refine V.xpF dX12_init_57 fl_RX12_30 (fun _ => rfl) (fun _ => rfl) (fun _ => rfl) e13 ?_
  refine V.aload_n dX12_init_60 rfl 0 rfl ?_
  refine V.bipush (v := (16 : Int32)) dX12_init_61 (by decide) ?_
  obtain ⟨h14, e14, hf⟩ := bS hf
  refine V.xmkI dX12_init_63 rfl rfl aw_int (by decide) e14 ?_
  obtain ⟨h15, e15, hf⟩ := bS hf
  refine V.xpF dX12_init_65 fl_RX12_33 (fun _ => rfl) (fun _ => rfl) (fun _ => rfl) e15 ?_
  refine V.aload_n dX12_init_68 rfl 0 rfl ?_
  refine V.bipush (v := (8 : Int32)) dX12_init_69 (by decide) ?_
  obtain ⟨h16, e16, hf⟩ := bS hf
  refine V.xmkI dX12_init_71 rfl rfl aw_int (by decide) e16 ?_
  obtain ⟨h17, e17, hf⟩ := bS hf
  refine V.xpF dX12_init_73 fl_RX12_36 (fun _ => rfl) (fun _ => rfl) (fun _ => rfl) e17 ?_
  refine V.aload_n dX12_init_76 rfl 0 rfl ?_
  refine V.bipush (v := (8 : Int32)) dX12_init_77 (by decide) ?_
  obtain ⟨h18, e18, hf⟩ := bS hf
  refine V.xmkI dX12_init_79 rfl rfl aw_int (by decide) e18 ?_
  obtain ⟨h19, e19, hf⟩ := bS hf
  refine V.xpF dX12_init_81 fl_RX12_39 (fun _ => rfl) (fun _ => rfl) (fun _ => rfl) e19 ?_
  refine V.aload_n dX12_init_84 rfl 0 rfl ?_
  refine V.bipush (v := (16 : Int32)) dX12_init_85 (by decide) ?_
  obtain ⟨h20, e20, hf⟩ := bS hf
  refine V.xmkI dX12_init_87 rfl rfl aw_int (by decide) e20 ?_
  obtain ⟨h21, e21, hf⟩ := bS hf
  refine V.xpF dX12_init_89 fl_RX12_42 (fun _ => rfl) (fun _ => rfl) (fun _ => rfl) e21 ?_
  refine V.aload_n dX12_init_92 rfl 0 rfl ?_
  refine V.sipush (v := (256 : Int32)) dX12_init_93 (by decide) ?_
  obtain ⟨h22, e22, hf⟩ := bS hf
  refine V.xmkI dX12_init_96 rfl rfl aw_int (by decide) e22 ?_
  obtain ⟨h23, e23, hf⟩ := bS hf
  refine V.xpF dX12_init_98 fl_RX12_45 (fun _ => rfl) (fun _ => rfl) (fun _ => rfl) e23 ?_
  refine V.aload_n dX12_init_101 rfl 0 rfl ?_
  refine V.sipush (v := (6144 : Int32)) dX12_init_102 (by decide) ?_
  obtain ⟨h24, e24, hf⟩ := bS hf
  refine V.xmkI dX12_init_105 rfl rfl aw_int (by decide) e24 ?_
  obtain ⟨h25, e25, hf⟩ := bS hf
  refine V.xpF dX12_init_107 fl_RX12_48 (fun _ => rfl) (fun _ => rfl) (fun _ => rfl) e25 ?_
  refine V.aload_n dX12_init_110 rfl 0 rfl ?_
  refine V.sipush (v := (1024 : Int32)) dX12_init_111 (by decide) ?_
  obtain ⟨h26, e26, hf⟩ := bS hf
  refine V.xmkI dX12_init_114 rfl rfl aw_int (by decide) e26 ?_
  obtain ⟨h27, e27, hf⟩ := bS hf
  refine V.xpF dX12_init_116 fl_RX12_51 (fun _ => rfl) (fun _ => rfl) (fun _ => rfl) e27 ?_
  refine V.aload_n dX12_init_119 rfl 0 rfl ?_
  refine V.ldc (v := 49152) dX12_init_120 co_RX12_54 ?_
  obtain ⟨h28, e28, hf⟩ := bS hf
  refine V.xmkI dX12_init_122 rfl rfl aw_int (by decide) e28 ?_
  obtain ⟨h29, e29, hf⟩ := bS hf
  refine V.xpF dX12_init_124 fl_RX12_55 (fun _ => rfl) (fun _ => rfl) (fun _ => rfl) e29 ?_
  refine V.aload_n dX12_init_127 rfl 0 rfl ?_
  refine V.ldc (v := 49152) dX12_init_128 co_RX12_54 ?_
  obtain ⟨h30, e30, hf⟩ := bS hf
  refine V.xmkI dX12_init_130 rfl rfl aw_int (by decide) e30 ?_
  obtain ⟨h31, e31, hf⟩ := bS hf
  refine V.xpF dX12_init_132 fl_RX12_58 (fun _ => rfl) (fun _ => rfl) (fun _ => rfl) e31 ?_
  refine V.aload_n dX12_init_135 rfl 0 rfl ?_
  refine V.iconst (v := (4 : Int32)) dX12_init_136 (by decide) ?_
  obtain ⟨h32, e32, hf⟩ := bS hf
  refine V.xmkI dX12_init_137 rfl rfl aw_int (by decide) e32 ?_
  refine V.dup dX12_init_139 rfl ?_
  refine V.iconst (v := (0 : Int32)) dX12_init_140 (by decide) ?_
  refine V.iconst (v := (-1 : Int32)) dX12_init_141 (by decide) ?_
  obtain ⟨h33, e33, hf⟩ := bS hf
  refine V.xstI dX12_init_142 e33 ?_
  refine V.dup dX12_init_143 rfl ?_
  refine V.iconst (v := (1 : Int32)) dX12_init_144 (by decide) ?_
  refine V.iconst (v := (-1 : Int32)) dX12_init_145 (by decide) ?_
  obtain ⟨h34, e34, hf⟩ := bS hf
  refine V.xstI dX12_init_146 e34 ?_
  refine V.dup dX12_init_147 rfl ?_
  refine V.iconst (v := (2 : Int32)) dX12_init_148 (by decide) ?_
  refine V.iconst (v := (-1 : Int32)) dX12_init_149 (by decide) ?_
  obtain ⟨h35, e35, hf⟩ := bS hf
  refine V.xstI dX12_init_150 e35 ?_
  refine V.dup dX12_init_151 rfl ?_
  refine V.iconst (v := (3 : Int32)) dX12_init_152 (by decide) ?_
  refine V.iconst (v := (-1 : Int32)) dX12_init_153 (by decide) ?_
  obtain ⟨h36, e36, hf⟩ := bS hf
  refine V.xstI dX12_init_154 e36 ?_
  obtain ⟨h37, e37, hf⟩ := bS hf
  refine V.xpF dX12_init_155 fl_RX12_61 (fun _ => rfl) (fun _ => rfl) (fun _ => rfl) e37 ?_
  refine V.aload_n dX12_init_158 rfl 0 rfl ?_
  refine V.iconst (v := (4 : Int32)) dX12_init_159 (by decide) ?_
  obtain ⟨h38, e38, hf⟩ := bS hf
  refine V.xmkI dX12_init_160 rfl rfl aw_int (by decide) e38 ?_
  obtain ⟨h39, e39, hf⟩ := bS hf
  refine V.xpF dX12_init_162 fl_RX12_64 (fun _ => rfl) (fun _ => rfl) (fun _ => rfl) e39 ?_
  refine V.aload_n dX12_init_165 rfl 0 rfl ?_
  refine V.sipush (v := (160 : Int32)) dX12_init_166 (by decide) ?_
  obtain ⟨h40, e40, hf⟩ := bS hf
  refine V.xmkJ dX12_init_169 aw_long e40 ?_
  obtain ⟨h41, e41, hf⟩ := bS hf
  refine V.xpF dX12_init_171 fl_RX12_67 (fun _ => rfl) (fun _ => rfl) (fun _ => rfl) e41 ?_
  refine V.aload_n dX12_init_174 rfl 0 rfl ?_
  obtain ⟨v42, e42, hf⟩ := bS hf
  refine V.xgR dX12_init_175 fl_RX12_9 e42 ?_
  obtain ⟨r43, e43, hf⟩ := bS hf
  refine V.callS (As := [.ref v42]) (st := []) dX12_init_178 cl_RX12_71 sw_yX12_begins (by decide) rfl (Nat.le_of_ble_eq_true rfl) rfl (w_X12_begins _ _ _ e43) ?_
  obtain rfl := Option.some.inj hf
  exact V.vret dX12_init_181

def f_X12_rooms (h : xH) (l0 : Nat) : Option (Int32) := (gR h l0 12 0).bind fun v1 => (ldI h .int v1 (1 : Int32)).bind fun v2 => some (v2)
set_option maxRecDepth 20000 in
theorem w_X12_rooms (h : xH) (l0 : Nat) (r : Int32) (hf : f_X12_rooms h l0 = some r) : Ev 3 yX12_rooms cX12_rooms 1 (some .int) [] [.ref l0] h (oI h r) := by
  refine Ev.of (by decide +kernel) (Nat.le_of_ble_eq_true rfl) ?_
  unfold f_X12_rooms at hf
  refine V.aload_n dX12_rooms_0 rfl 0 rfl ?_
  obtain ⟨v1, e1, hf⟩ := bS hf
  refine V.xgR dX12_rooms_1 fl_RX12_9 e1 ?_
  refine V.iconst (v := (1 : Int32)) dX12_rooms_4 (by decide) ?_
  obtain ⟨v2, e2, hf⟩ := bS hf
  refine V.xldI dX12_rooms_5 e2 ?_
  obtain rfl := Option.some.inj hf
  exact V.iret dX12_rooms_6

def f_X12_all (h : xH) (l0 : Nat) : Option (Int32) := (gO h l0 12).bind fun q1 => (f_X12_rooms h l0).bind fun r2 => some ((((1 : Int32) <<< (r2 &&& 31)) - (1 : Int32)))
set_option maxRecDepth 20000 in
theorem w_X12_all (h : xH) (l0 : Nat) (r : Int32) (hf : f_X12_all h l0 = some r) : Ev 4 yX12_all cX12_all 1 (some .int) [] [.ref l0] h (oI h r) := by
  refine Ev.of (by decide +kernel) (Nat.le_of_ble_eq_true rfl) ?_
  unfold f_X12_all at hf
  refine V.iconst (v := (1 : Int32)) dX12_all_0 (by decide) ?_
  refine V.aload_n dX12_all_1 rfl 0 rfl ?_
  obtain ⟨q1, e1, hf⟩ := bS hf
  obtain ⟨r2, e2, hf⟩ := bS hf
  refine V.callV (As := []) (st := [.int (1 : Int32)]) dX12_all_2 cl_RX12_228 sw_yX12_rooms (by decide) rfl (Nat.le_of_ble_eq_true rfl) rfl (gO_some e1) rfl (w_X12_rooms _ _ _ e2) ?_
  refine V.ishl dX12_all_5 ?_
  refine V.iconst (v := (1 : Int32)) dX12_all_6 (by decide) ?_
  refine V.isub dX12_all_7 ?_
  obtain rfl := Option.some.inj hf
  exact V.iret dX12_all_8

def f_X12_has (h : xH) (l0 : Int32) (l1 : Int32) : Option (Int32) := (if ((l0 >>> (l1 &&& 31)) &&& (1 : Int32)) = (1 : Int32) then (some ((1 : Int32))) else (some ((0 : Int32))))
set_option maxRecDepth 20000 in
theorem w_X12_has (h : xH) (l0 : Int32) (l1 : Int32) (r : Int32) (hf : f_X12_has h l0 l1 = some r) : Ev 3 yX12_has cX12_has 2 (some .boolean) [] [.int l0, .int l1] h (oI h r) := by
  refine Ev.of (by decide +kernel) (Nat.le_of_ble_eq_true rfl) ?_
  unfold f_X12_has at hf
  refine V.iload_n dX12_has_0 rfl 0 rfl ?_
  refine V.iload_n dX12_has_1 rfl 1 rfl ?_
  refine V.ishr dX12_has_2 ?_
  refine V.iconst (v := (1 : Int32)) dX12_has_3 (by decide) ?_
  refine V.iand dX12_has_4 ?_
  refine V.iconst (v := (1 : Int32)) dX12_has_5 (by decide) ?_
  refine V.icmp_ne (tgt := 13) dX12_has_6 (by decide) (fun c1 => ?_) (fun c1 => ?_)
  · rw [if_neg c1] at hf
    refine V.iconst (v := (0 : Int32)) dX12_has_13 (by decide) ?_
    obtain rfl := Option.some.inj hf
    exact V.zret dX12_has_14 (by first | rfl | assumption)
  · rw [if_pos c1] at hf
    refine V.iconst (v := (1 : Int32)) dX12_has_9 (by decide) ?_
    refine V.goto (tgt := 14) dX12_has_10 (by decide) ?_
    obtain rfl := Option.some.inj hf
    exact V.zret dX12_has_14 (by first | rfl | assumption)

def f_X12_isLit_2 (h : xH) : Nat → Nat → Int32 → Int32 → Int32 → Option (Int32)
  | 0, _, _, _, _ => none
  | n + 1, l0, l1, l2, l3 => (gO h l0 12).bind fun q1 => (f_X12_rooms h l0).bind fun r2 => (if r2 ≤ l3 then (some ((1 : Int32))) else ((f_X12_has h l2 l3).bind fun r4 => (if r4 = 0 then (f_X12_isLit_2 h n l0 l1 l2 (l3 + 1)) else ((gR h l0 12 16).bind fun v6 => (ldI h .int v6 l3).bind fun v7 => (if (v7 &&& l1) = 0 then (some ((0 : Int32))) else (f_X12_isLit_2 h n l0 l1 l2 (l3 + 1)))))))
def f_X12_isLit (h : xH) (l0 : Nat) (l1 : Int32) (l2 : Int32) : Option (Int32) := f_X12_isLit_2 h xFU l0 l1 l2 (0 : Int32)
set_option maxRecDepth 20000 in
theorem w_X12_isLit_2 (h : xH) : ∀ (n : Nat) (l0 : Nat) (l1 : Int32) (l2 : Int32) (l3 : Int32) (r : Int32), f_X12_isLit_2 h n l0 l1 l2 l3 = some r → V 4 yX12_isLit cX12_isLit 4 (some .boolean) [] none 2 [(0, .ref l0), (1, .int l1), (2, .int l2), (3, .int l3)] [] h (oI h r) := by
  intro n
  induction n with
  | zero => intro l0 l1 l2 l3 r hf; cases hf
  | succ n ih =>
    intro l0 l1 l2 l3 r hf
    rw [f_X12_isLit_2] at hf
    refine V.iload_n dX12_isLit_2 rfl 3 rfl ?_
    refine V.aload_n dX12_isLit_3 rfl 0 rfl ?_
    obtain ⟨q1, e1, hf⟩ := bS hf
    obtain ⟨r2, e2, hf⟩ := bS hf
    refine V.callV (As := []) (st := [.int l3]) dX12_isLit_4 cl_RX12_228 sw_yX12_rooms (by decide) rfl (Nat.le_of_ble_eq_true rfl) rfl (gO_some e1) rfl (w_X12_rooms _ _ _ e2) ?_
    refine V.icmp_ge (tgt := 37) dX12_isLit_7 (by decide) (fun c3 => ?_) (fun c3 => ?_)
    · rw [if_pos c3] at hf
      refine V.iconst (v := (1 : Int32)) dX12_isLit_37 (by decide) ?_
      obtain rfl := Option.some.inj hf
      exact V.zret dX12_isLit_38 (by first | rfl | assumption)
    · rw [if_neg c3] at hf
      refine V.iload_n dX12_isLit_10 rfl 2 rfl ?_
      refine V.iload_n dX12_isLit_11 rfl 3 rfl ?_
      obtain ⟨r4, e3, hf⟩ := bS hf
      refine V.callS (As := [.int l2, .int l3]) (st := []) dX12_isLit_12 cl_RX12_246 sw_yX12_has (by decide) rfl (Nat.le_of_ble_eq_true rfl) rfl (w_X12_has _ _ _ _ e3) ?_
      refine V.if_eq (tgt := 31) dX12_isLit_15 (by decide) (fun c5 => ?_) (fun c5 => ?_)
      · rw [if_pos c5] at hf
        refine V.iinc (v := (l3 + 1)) (lv' := [(3, .int (l3 + 1)), (0, .ref l0), (1, .int l1), (2, .int l2)]) dX12_isLit_31 3 rfl rfl (Nat.le_of_ble_eq_true rfl) rfl ?_
        refine V.goto (tgt := 2) dX12_isLit_34 (by decide) ?_
        refine V.sub [1, 2, 3, 0] rfl ?_
        exact ih _ _ _ _ _ hf
      · rw [if_neg c5] at hf
        refine V.aload_n dX12_isLit_18 rfl 0 rfl ?_
        obtain ⟨v6, e4, hf⟩ := bS hf
        refine V.xgR dX12_isLit_19 fl_RX12_30 e4 ?_
        refine V.iload_n dX12_isLit_22 rfl 3 rfl ?_
        obtain ⟨v7, e5, hf⟩ := bS hf
        refine V.xldI dX12_isLit_23 e5 ?_
        refine V.iload_n dX12_isLit_24 rfl 1 rfl ?_
        refine V.iand dX12_isLit_25 ?_
        refine V.if_ne (tgt := 31) dX12_isLit_26 (by decide) (fun c8 => ?_) (fun c8 => ?_)
        · rw [if_neg c8] at hf
          refine V.iinc (v := (l3 + 1)) (lv' := [(3, .int (l3 + 1)), (0, .ref l0), (1, .int l1), (2, .int l2)]) dX12_isLit_31 3 rfl rfl (Nat.le_of_ble_eq_true rfl) rfl ?_
          refine V.goto (tgt := 2) dX12_isLit_34 (by decide) ?_
          refine V.sub [1, 2, 3, 0] rfl ?_
          exact ih _ _ _ _ _ hf
        · rw [if_pos c8] at hf
          refine V.iconst (v := (0 : Int32)) dX12_isLit_29 (by decide) ?_
          obtain rfl := Option.some.inj hf
          exact V.zret dX12_isLit_30 (by first | rfl | assumption)

set_option maxRecDepth 20000 in
theorem w_X12_isLit (h : xH) (l0 : Nat) (l1 : Int32) (l2 : Int32) (r : Int32) (hf : f_X12_isLit h l0 l1 l2 = some r) : Ev 4 yX12_isLit cX12_isLit 4 (some .boolean) [] [.ref l0, .int l1, .int l2] h (oI h r) := by
  refine Ev.of (by decide +kernel) (Nat.le_of_ble_eq_true rfl) ?_
  unfold f_X12_isLit at hf
  refine V.iconst (v := (0 : Int32)) dX12_isLit_0 (by decide) ?_
  refine V.istore_n (lv' := [(3, .int (0 : Int32)), (0, .ref l0), (1, .int l1), (2, .int l2)]) dX12_isLit_1 rfl (by decide) rfl ?_
  refine V.sub [1, 2, 3, 0] rfl ?_
  exact w_X12_isLit_2 h _ _ _ _ _ _ hf

def f_X12_isApart_2 (h : xH) : Nat → Nat → Int32 → Int32 → Option (Int32)
  | 0, _, _, _ => none
  | n + 1, l0, l1, l2 => (gO h l0 12).bind fun q1 => (f_X12_rooms h l0).bind fun r2 => (if r2 ≤ l2 then ((gO h l0 12).bind fun q4 => (f_X12_all h l0).bind fun r5 => (gO h l0 12).bind fun q6 => (f_X12_isLit h l0 l1 r5).bind fun r7 => (if narrow .boolean (.int r7) = .int r7 then some r7 else none)) else ((gR h l0 12 16).bind fun v9 => (ldI h .int v9 l2).bind fun v10 => (gR h l0 12 0).bind fun v11 => (ldI h .int v11 ((432 : Int32) + l2)).bind fun v12 => (if ((v10 &&& l1) &&& v12) = 0 then (f_X12_isApart_2 h n l0 l1 (l2 + 1)) else (some ((0 : Int32))))))
def f_X12_isApart (h : xH) (l0 : Nat) (l1 : Int32) : Option (Int32) := f_X12_isApart_2 h xFU l0 l1 (0 : Int32)
set_option maxRecDepth 20000 in
theorem w_X12_isApart_2 (h : xH) : ∀ (n : Nat) (l0 : Nat) (l1 : Int32) (l2 : Int32) (r : Int32), f_X12_isApart_2 h n l0 l1 l2 = some r → V 5 yX12_isApart cX12_isApart 3 (some .boolean) [] none 2 [(0, .ref l0), (1, .int l1), (2, .int l2)] [] h (oI h r) := by
  intro n
  induction n with
  | zero => intro l0 l1 l2 r hf; cases hf
  | succ n ih =>
    intro l0 l1 l2 r hf
    rw [f_X12_isApart_2] at hf
    refine V.iload_n dX12_isApart_2 rfl 2 rfl ?_
    refine V.aload_n dX12_isApart_3 rfl 0 rfl ?_
    obtain ⟨q1, e1, hf⟩ := bS hf
    obtain ⟨r2, e2, hf⟩ := bS hf
    refine V.callV (As := []) (st := [.int l2]) dX12_isApart_4 cl_RX12_228 sw_yX12_rooms (by decide) rfl (Nat.le_of_ble_eq_true rfl) rfl (gO_some e1) rfl (w_X12_rooms _ _ _ e2) ?_
    refine V.icmp_ge (tgt := 40) dX12_isApart_7 (by decide) (fun c3 => ?_) (fun c3 => ?_)
    · rw [if_pos c3] at hf
      refine V.aload_n dX12_isApart_40 rfl 0 rfl ?_
      refine V.iload_n dX12_isApart_41 rfl 1 rfl ?_
      refine V.aload_n dX12_isApart_42 rfl 0 rfl ?_
      obtain ⟨q4, e3, hf⟩ := bS hf
      obtain ⟨r5, e4, hf⟩ := bS hf
      refine V.callV (As := []) (st := [.int l1, .ref l0]) dX12_isApart_43 cl_RX12_230 sw_yX12_all (by decide) rfl (Nat.le_of_ble_eq_true rfl) rfl (gO_some e3) rfl (w_X12_all _ _ _ e4) ?_
      obtain ⟨q6, e5, hf⟩ := bS hf
      obtain ⟨r7, e6, hf⟩ := bS hf
      refine V.callV (As := [.int l1, .int r5]) (st := []) dX12_isApart_46 cl_RX12_294 sw_yX12_isLit (by decide) rfl (Nat.le_of_ble_eq_true rfl) rfl (gO_some e5) rfl (w_X12_isLit _ _ _ _ _ e6) ?_
      by_cases c8 : narrow .boolean (.int r7) = .int r7
      · rw [if_pos c8] at hf
        obtain rfl := Option.some.inj hf
        exact V.zret dX12_isApart_49 c8
      · rw [if_neg c8] at hf
        cases hf
    · rw [if_neg c3] at hf
      refine V.aload_n dX12_isApart_10 rfl 0 rfl ?_
      obtain ⟨v9, e7, hf⟩ := bS hf
      refine V.xgR dX12_isApart_11 fl_RX12_30 e7 ?_
      refine V.iload_n dX12_isApart_14 rfl 2 rfl ?_
      obtain ⟨v10, e8, hf⟩ := bS hf
      refine V.xldI dX12_isApart_15 e8 ?_
      refine V.iload_n dX12_isApart_16 rfl 1 rfl ?_
      refine V.iand dX12_isApart_17 ?_
      refine V.aload_n dX12_isApart_18 rfl 0 rfl ?_
      obtain ⟨v11, e9, hf⟩ := bS hf
      refine V.xgR dX12_isApart_19 fl_RX12_9 e9 ?_
      refine V.sipush (v := (432 : Int32)) dX12_isApart_22 (by decide) ?_
      refine V.iload_n dX12_isApart_25 rfl 2 rfl ?_
      refine V.iadd dX12_isApart_26 ?_
      obtain ⟨v12, e10, hf⟩ := bS hf
      refine V.xldI dX12_isApart_27 e10 ?_
      refine V.iand dX12_isApart_28 ?_
      refine V.if_eq (tgt := 34) dX12_isApart_29 (by decide) (fun c13 => ?_) (fun c13 => ?_)
      · rw [if_pos c13] at hf
        refine V.iinc (v := (l2 + 1)) (lv' := [(2, .int (l2 + 1)), (0, .ref l0), (1, .int l1)]) dX12_isApart_34 2 rfl rfl (Nat.le_of_ble_eq_true rfl) rfl ?_
        refine V.goto (tgt := 2) dX12_isApart_37 (by decide) ?_
        refine V.sub [1, 2, 0] rfl ?_
        exact ih _ _ _ _ hf
      · rw [if_neg c13] at hf
        refine V.iconst (v := (0 : Int32)) dX12_isApart_32 (by decide) ?_
        obtain rfl := Option.some.inj hf
        exact V.zret dX12_isApart_33 (by first | rfl | assumption)

set_option maxRecDepth 20000 in
theorem w_X12_isApart (h : xH) (l0 : Nat) (l1 : Int32) (r : Int32) (hf : f_X12_isApart h l0 l1 = some r) : Ev 5 yX12_isApart cX12_isApart 3 (some .boolean) [] [.ref l0, .int l1] h (oI h r) := by
  refine Ev.of (by decide +kernel) (Nat.le_of_ble_eq_true rfl) ?_
  unfold f_X12_isApart at hf
  refine V.iconst (v := (0 : Int32)) dX12_isApart_0 (by decide) ?_
  refine V.istore_n (lv' := [(2, .int (0 : Int32)), (0, .ref l0), (1, .int l1)]) dX12_isApart_1 rfl (by decide) rfl ?_
  refine V.sub [1, 2, 0] rfl ?_
  exact w_X12_isApart_2 h _ _ _ _ _ hf

def f_X12_isLone_4 (h : xH) : Nat → Nat → Int32 → Int32 → Int32 → Option (Int32)
  | 0, _, _, _, _ => none
  | n + 1, l0, l1, l2, l3 => (gO h l0 12).bind fun q1 => (f_X12_rooms h l0).bind fun r2 => (if r2 ≤ l3 then (some ((1 : Int32))) else ((f_X12_has h l1 l3).bind fun r4 => (if r4 = 0 then (f_X12_isLone_4 h n l0 l1 l2 (l3 + 1)) else ((gR h l0 12 16).bind fun v6 => (ldI h .int v6 l3).bind fun v7 => (if (l2 &&& v7) = 0 then ((gR h l0 12 16).bind fun v9 => (ldI h .int v9 l3).bind fun v10 => f_X12_isLone_4 h n l0 l1 (l2 ||| v10) (l3 + 1)) else (some ((0 : Int32))))))))
def f_X12_isLone (h : xH) (l0 : Nat) (l1 : Int32) : Option (Int32) := f_X12_isLone_4 h xFU l0 l1 (0 : Int32) (0 : Int32)
set_option maxRecDepth 20000 in
theorem w_X12_isLone_4 (h : xH) : ∀ (n : Nat) (l0 : Nat) (l1 : Int32) (l2 : Int32) (l3 : Int32) (r : Int32), f_X12_isLone_4 h n l0 l1 l2 l3 = some r → V 4 yX12_isLone cX12_isLone 4 (some .boolean) [] none 4 [(0, .ref l0), (1, .int l1), (2, .int l2), (3, .int l3)] [] h (oI h r) := by
  intro n
  induction n with
  | zero => intro l0 l1 l2 l3 r hf; cases hf
  | succ n ih =>
    intro l0 l1 l2 l3 r hf
    rw [f_X12_isLone_4] at hf
    refine V.iload_n dX12_isLone_4 rfl 3 rfl ?_
    refine V.aload_n dX12_isLone_5 rfl 0 rfl ?_
    obtain ⟨q1, e1, hf⟩ := bS hf
    obtain ⟨r2, e2, hf⟩ := bS hf
    refine V.callV (As := []) (st := [.int l3]) dX12_isLone_6 cl_RX12_228 sw_yX12_rooms (by decide) rfl (Nat.le_of_ble_eq_true rfl) rfl (gO_some e1) rfl (w_X12_rooms _ _ _ e2) ?_
    refine V.icmp_ge (tgt := 51) dX12_isLone_9 (by decide) (fun c3 => ?_) (fun c3 => ?_)
    · rw [if_pos c3] at hf
      refine V.iconst (v := (1 : Int32)) dX12_isLone_51 (by decide) ?_
      obtain rfl := Option.some.inj hf
      exact V.zret dX12_isLone_52 (by first | rfl | assumption)
    · rw [if_neg c3] at hf
      refine V.iload_n dX12_isLone_12 rfl 1 rfl ?_
      refine V.iload_n dX12_isLone_13 rfl 3 rfl ?_
      obtain ⟨r4, e3, hf⟩ := bS hf
      refine V.callS (As := [.int l1, .int l3]) (st := []) dX12_isLone_14 cl_RX12_246 sw_yX12_has (by decide) rfl (Nat.le_of_ble_eq_true rfl) rfl (w_X12_has _ _ _ _ e3) ?_
      refine V.if_ne (tgt := 23) dX12_isLone_17 (by decide) (fun c5 => ?_) (fun c5 => ?_)
      · rw [if_neg c5] at hf
        refine V.iload_n dX12_isLone_23 rfl 2 rfl ?_
        refine V.aload_n dX12_isLone_24 rfl 0 rfl ?_
        obtain ⟨v6, e4, hf⟩ := bS hf
        refine V.xgR dX12_isLone_25 fl_RX12_30 e4 ?_
        refine V.iload_n dX12_isLone_28 rfl 3 rfl ?_
        obtain ⟨v7, e5, hf⟩ := bS hf
        refine V.xldI dX12_isLone_29 e5 ?_
        refine V.iand dX12_isLone_30 ?_
        refine V.if_eq (tgt := 36) dX12_isLone_31 (by decide) (fun c8 => ?_) (fun c8 => ?_)
        · rw [if_pos c8] at hf
          refine V.iload_n dX12_isLone_36 rfl 2 rfl ?_
          refine V.aload_n dX12_isLone_37 rfl 0 rfl ?_
          obtain ⟨v9, e6, hf⟩ := bS hf
          refine V.xgR dX12_isLone_38 fl_RX12_30 e6 ?_
          refine V.iload_n dX12_isLone_41 rfl 3 rfl ?_
          obtain ⟨v10, e7, hf⟩ := bS hf
          refine V.xldI dX12_isLone_42 e7 ?_
          refine V.ior dX12_isLone_43 ?_
          refine V.istore_n (lv' := [(2, .int (l2 ||| v10)), (0, .ref l0), (1, .int l1), (3, .int l3)]) dX12_isLone_44 rfl (by decide) rfl ?_
          refine V.iinc (v := (l3 + 1)) (lv' := [(3, .int (l3 + 1)), (2, .int (l2 ||| v10)), (0, .ref l0), (1, .int l1)]) dX12_isLone_45 3 rfl rfl (Nat.le_of_ble_eq_true rfl) rfl ?_
          refine V.goto (tgt := 4) dX12_isLone_48 (by decide) ?_
          refine V.sub [2, 3, 1, 0] rfl ?_
          exact ih _ _ _ _ _ hf
        · rw [if_neg c8] at hf
          refine V.iconst (v := (0 : Int32)) dX12_isLone_34 (by decide) ?_
          obtain rfl := Option.some.inj hf
          exact V.zret dX12_isLone_35 (by first | rfl | assumption)
      · rw [if_pos c5] at hf
        refine V.goto (tgt := 45) dX12_isLone_20 (by decide) ?_
        refine V.iinc (v := (l3 + 1)) (lv' := [(3, .int (l3 + 1)), (0, .ref l0), (1, .int l1), (2, .int l2)]) dX12_isLone_45 3 rfl rfl (Nat.le_of_ble_eq_true rfl) rfl ?_
        refine V.goto (tgt := 4) dX12_isLone_48 (by decide) ?_
        refine V.sub [1, 2, 3, 0] rfl ?_
        exact ih _ _ _ _ _ hf

set_option maxRecDepth 20000 in
theorem w_X12_isLone (h : xH) (l0 : Nat) (l1 : Int32) (r : Int32) (hf : f_X12_isLone h l0 l1 = some r) : Ev 4 yX12_isLone cX12_isLone 4 (some .boolean) [] [.ref l0, .int l1] h (oI h r) := by
  refine Ev.of (by decide +kernel) (Nat.le_of_ble_eq_true rfl) ?_
  unfold f_X12_isLone at hf
  refine V.iconst (v := (0 : Int32)) dX12_isLone_0 (by decide) ?_
  refine V.istore_n (lv' := [(2, .int (0 : Int32)), (0, .ref l0), (1, .int l1)]) dX12_isLone_1 rfl (by decide) rfl ?_
  refine V.iconst (v := (0 : Int32)) dX12_isLone_2 (by decide) ?_
  refine V.istore_n (lv' := [(3, .int (0 : Int32)), (2, .int (0 : Int32)), (0, .ref l0), (1, .int l1)]) dX12_isLone_3 rfl (by decide) rfl ?_
  refine V.sub [2, 3, 1, 0] rfl ?_
  exact w_X12_isLone_4 h _ _ _ _ _ _ hf

def f_X12_ones_4 (h : xH) : Nat → Int32 → Int32 → Option (Int32)
  | 0, _, _ => none
  | n + 1, l1, l2 => (if l2 = 0 then (some (l1)) else (f_X12_ones_4 h n (l1 + 1) (l2 &&& (l2 - (1 : Int32)))))
def f_X12_ones (h : xH) (l0 : Int32) : Option (Int32) := f_X12_ones_4 h xFU (0 : Int32) l0
set_option maxRecDepth 20000 in
theorem w_X12_ones_4 (h : xH) : ∀ (n : Nat) (l1 : Int32) (l2 : Int32) (r : Int32), f_X12_ones_4 h n l1 l2 = some r → V 3 yX12_ones cX12_ones 3 (some .int) [] none 4 [(1, .int l1), (2, .int l2)] [] h (oI h r) := by
  intro n
  induction n with
  | zero => intro l1 l2 r hf; cases hf
  | succ n ih =>
    intro l1 l2 r hf
    rw [f_X12_ones_4] at hf
    refine V.iload_n dX12_ones_4 rfl 1 rfl ?_
    refine V.if_eq (tgt := 20) dX12_ones_5 (by decide) (fun c1 => ?_) (fun c1 => ?_)
    · rw [if_pos c1] at hf
      refine V.iload_n dX12_ones_20 rfl 0 rfl ?_
      obtain rfl := Option.some.inj hf
      exact V.iret dX12_ones_21
    · rw [if_neg c1] at hf
      refine V.iinc (v := (l1 + 1)) (lv' := [(1, .int (l1 + 1)), (2, .int l2)]) dX12_ones_8 0 rfl rfl (Nat.le_of_ble_eq_true rfl) rfl ?_
      refine V.iload_n dX12_ones_11 rfl 1 rfl ?_
      refine V.iload_n dX12_ones_12 rfl 1 rfl ?_
      refine V.iconst (v := (1 : Int32)) dX12_ones_13 (by decide) ?_
      refine V.isub dX12_ones_14 ?_
      refine V.iand dX12_ones_15 ?_
      refine V.istore_n (lv' := [(2, .int (l2 &&& (l2 - (1 : Int32)))), (1, .int (l1 + 1))]) dX12_ones_16 rfl (by decide) rfl ?_
      refine V.goto (tgt := 4) dX12_ones_17 (by decide) ?_
      refine V.sub [1, 0] rfl ?_
      exact ih _ _ _ hf

set_option maxRecDepth 20000 in
theorem w_X12_ones (h : xH) (l0 : Int32) (r : Int32) (hf : f_X12_ones h l0 = some r) : Ev 3 yX12_ones cX12_ones 3 (some .int) [] [.int l0] h (oI h r) := by
  refine Ev.of (by decide +kernel) (Nat.le_of_ble_eq_true rfl) ?_
  unfold f_X12_ones at hf
  refine V.iconst (v := (0 : Int32)) dX12_ones_0 (by decide) ?_
  refine V.istore_n (lv' := [(1, .int (0 : Int32)), (0, .int l0)]) dX12_ones_1 rfl (by decide) rfl ?_
  refine V.iload_n dX12_ones_2 rfl 1 rfl ?_
  refine V.istore_n (lv' := [(2, .int l0), (1, .int (0 : Int32)), (0, .int l0)]) dX12_ones_3 rfl (by decide) rfl ?_
  refine V.sub [1, 0] rfl ?_
  exact w_X12_ones_4 h _ _ _ _ hf

def f_X12_isTwice_2 (h : xH) : Nat → Nat → Int32 → Int32 → Option (Int32)
  | 0, _, _, _ => none
  | n + 1, l0, l1, l2 => (gO h l0 12).bind fun q1 => (f_X12_rooms h l0).bind fun r2 => (if r2 ≤ l2 then (some ((1 : Int32))) else ((gR h l0 12 16).bind fun v4 => (ldI h .int v4 l2).bind fun v5 => (f_X12_ones h (v5 &&& l1)).bind fun r6 => (if (2 : Int32) ≤ r6 then (f_X12_isTwice_2 h n l0 l1 (l2 + 1)) else (some ((0 : Int32))))))
def f_X12_isTwice (h : xH) (l0 : Nat) (l1 : Int32) : Option (Int32) := f_X12_isTwice_2 h xFU l0 l1 (0 : Int32)
set_option maxRecDepth 20000 in
theorem w_X12_isTwice_2 (h : xH) : ∀ (n : Nat) (l0 : Nat) (l1 : Int32) (l2 : Int32) (r : Int32), f_X12_isTwice_2 h n l0 l1 l2 = some r → V 4 yX12_isTwice cX12_isTwice 3 (some .boolean) [] none 2 [(0, .ref l0), (1, .int l1), (2, .int l2)] [] h (oI h r) := by
  intro n
  induction n with
  | zero => intro l0 l1 l2 r hf; cases hf
  | succ n ih =>
    intro l0 l1 l2 r hf
    rw [f_X12_isTwice_2] at hf
    refine V.iload_n dX12_isTwice_2 rfl 2 rfl ?_
    refine V.aload_n dX12_isTwice_3 rfl 0 rfl ?_
    obtain ⟨q1, e1, hf⟩ := bS hf
    obtain ⟨r2, e2, hf⟩ := bS hf
    refine V.callV (As := []) (st := [.int l2]) dX12_isTwice_4 cl_RX12_228 sw_yX12_rooms (by decide) rfl (Nat.le_of_ble_eq_true rfl) rfl (gO_some e1) rfl (w_X12_rooms _ _ _ e2) ?_
    refine V.icmp_ge (tgt := 33) dX12_isTwice_7 (by decide) (fun c3 => ?_) (fun c3 => ?_)
    · rw [if_pos c3] at hf
      refine V.iconst (v := (1 : Int32)) dX12_isTwice_33 (by decide) ?_
      obtain rfl := Option.some.inj hf
      exact V.zret dX12_isTwice_34 (by first | rfl | assumption)
    · rw [if_neg c3] at hf
      refine V.aload_n dX12_isTwice_10 rfl 0 rfl ?_
      obtain ⟨v4, e3, hf⟩ := bS hf
      refine V.xgR dX12_isTwice_11 fl_RX12_30 e3 ?_
      refine V.iload_n dX12_isTwice_14 rfl 2 rfl ?_
      obtain ⟨v5, e4, hf⟩ := bS hf
      refine V.xldI dX12_isTwice_15 e4 ?_
      refine V.iload_n dX12_isTwice_16 rfl 1 rfl ?_
      refine V.iand dX12_isTwice_17 ?_
      obtain ⟨r6, e5, hf⟩ := bS hf
      refine V.callS (As := [.int (v5 &&& l1)]) (st := []) dX12_isTwice_18 cl_RX12_285 sw_yX12_ones (by decide) rfl (Nat.le_of_ble_eq_true rfl) rfl (w_X12_ones _ _ _ e5) ?_
      refine V.iconst (v := (2 : Int32)) dX12_isTwice_21 (by decide) ?_
      refine V.icmp_ge (tgt := 27) dX12_isTwice_22 (by decide) (fun c7 => ?_) (fun c7 => ?_)
      · rw [if_pos c7] at hf
        refine V.iinc (v := (l2 + 1)) (lv' := [(2, .int (l2 + 1)), (0, .ref l0), (1, .int l1)]) dX12_isTwice_27 2 rfl rfl (Nat.le_of_ble_eq_true rfl) rfl ?_
        refine V.goto (tgt := 2) dX12_isTwice_30 (by decide) ?_
        refine V.sub [1, 2, 0] rfl ?_
        exact ih _ _ _ _ hf
      · rw [if_neg c7] at hf
        refine V.iconst (v := (0 : Int32)) dX12_isTwice_25 (by decide) ?_
        obtain rfl := Option.some.inj hf
        exact V.zret dX12_isTwice_26 (by first | rfl | assumption)

set_option maxRecDepth 20000 in
theorem w_X12_isTwice (h : xH) (l0 : Nat) (l1 : Int32) (r : Int32) (hf : f_X12_isTwice h l0 l1 = some r) : Ev 4 yX12_isTwice cX12_isTwice 3 (some .boolean) [] [.ref l0, .int l1] h (oI h r) := by
  refine Ev.of (by decide +kernel) (Nat.le_of_ble_eq_true rfl) ?_
  unfold f_X12_isTwice at hf
  refine V.iconst (v := (0 : Int32)) dX12_isTwice_0 (by decide) ?_
  refine V.istore_n (lv' := [(2, .int (0 : Int32)), (0, .ref l0), (1, .int l1)]) dX12_isTwice_1 rfl (by decide) rfl ?_
  refine V.sub [1, 2, 0] rfl ?_
  exact w_X12_isTwice_2 h _ _ _ _ _ hf

def f_X12_isSo (h : xH) (l0 : Nat) (l1 : Int32) (l2 : Int32) : Option (Int32) := (if l1 = 0 then ((gO h l0 12).bind fun q13 => (f_X12_all h l0).bind fun r14 => (gO h l0 12).bind fun q15 => (f_X12_isLit h l0 l2 r14).bind fun r16 => (if narrow .boolean (.int r16) = .int r16 then some r16 else none)) else ((if l1 = (1 : Int32) then ((gO h l0 12).bind fun q10 => (f_X12_isTwice h l0 l2).bind fun r11 => (if narrow .boolean (.int r11) = .int r11 then some r11 else none)) else ((if l1 = (2 : Int32) then ((gO h l0 12).bind fun q7 => (f_X12_isApart h l0 l2).bind fun r8 => (if narrow .boolean (.int r8) = .int r8 then some r8 else none)) else ((gO h l0 12).bind fun q4 => (f_X12_isLone h l0 l2).bind fun r5 => (if narrow .boolean (.int r5) = .int r5 then some r5 else none)))))))
set_option maxRecDepth 20000 in
theorem w_X12_isSo (h : xH) (l0 : Nat) (l1 : Int32) (l2 : Int32) (r : Int32) (hf : f_X12_isSo h l0 l1 l2 = some r) : Ev 6 yX12_isSo cX12_isSo 3 (some .boolean) [] [.ref l0, .int l1, .int l2] h (oI h r) := by
  refine Ev.of (by decide +kernel) (Nat.le_of_ble_eq_true rfl) ?_
  unfold f_X12_isSo at hf
  refine V.iload_n dX12_isSo_0 rfl 1 rfl ?_
  refine V.if_ne (tgt := 16) dX12_isSo_1 (by decide) (fun c1 => ?_) (fun c1 => ?_)
  · rw [if_neg c1] at hf
    refine V.iload_n dX12_isSo_16 rfl 1 rfl ?_
    refine V.iconst (v := (1 : Int32)) dX12_isSo_17 (by decide) ?_
    refine V.icmp_ne (tgt := 29) dX12_isSo_18 (by decide) (fun c2 => ?_) (fun c2 => ?_)
    · rw [if_neg c2] at hf
      refine V.iload_n dX12_isSo_29 rfl 1 rfl ?_
      refine V.iconst (v := (2 : Int32)) dX12_isSo_30 (by decide) ?_
      refine V.icmp_ne (tgt := 42) dX12_isSo_31 (by decide) (fun c3 => ?_) (fun c3 => ?_)
      · rw [if_neg c3] at hf
        refine V.aload_n dX12_isSo_42 rfl 0 rfl ?_
        refine V.iload_n dX12_isSo_43 rfl 2 rfl ?_
        obtain ⟨q4, e1, hf⟩ := bS hf
        obtain ⟨r5, e2, hf⟩ := bS hf
        refine V.callV (As := [.int l2]) (st := []) dX12_isSo_44 cl_RX12_303 sw_yX12_isLone (by decide) rfl (Nat.le_of_ble_eq_true rfl) rfl (gO_some e1) rfl (w_X12_isLone _ _ _ _ e2) ?_
        by_cases c6 : narrow .boolean (.int r5) = .int r5
        · rw [if_pos c6] at hf
          obtain rfl := Option.some.inj hf
          exact V.zret dX12_isSo_47 c6
        · rw [if_neg c6] at hf
          cases hf
      · rw [if_pos c3] at hf
        refine V.aload_n dX12_isSo_34 rfl 0 rfl ?_
        refine V.iload_n dX12_isSo_35 rfl 2 rfl ?_
        obtain ⟨q7, e3, hf⟩ := bS hf
        obtain ⟨r8, e4, hf⟩ := bS hf
        refine V.callV (As := [.int l2]) (st := []) dX12_isSo_36 cl_RX12_300 sw_yX12_isApart (by decide) rfl (Nat.le_of_ble_eq_true rfl) rfl (gO_some e3) rfl (w_X12_isApart _ _ _ _ e4) ?_
        refine V.goto (tgt := 47) dX12_isSo_39 (by decide) ?_
        by_cases c9 : narrow .boolean (.int r8) = .int r8
        · rw [if_pos c9] at hf
          obtain rfl := Option.some.inj hf
          exact V.zret dX12_isSo_47 c9
        · rw [if_neg c9] at hf
          cases hf
    · rw [if_pos c2] at hf
      refine V.aload_n dX12_isSo_21 rfl 0 rfl ?_
      refine V.iload_n dX12_isSo_22 rfl 2 rfl ?_
      obtain ⟨q10, e5, hf⟩ := bS hf
      obtain ⟨r11, e6, hf⟩ := bS hf
      refine V.callV (As := [.int l2]) (st := []) dX12_isSo_23 cl_RX12_297 sw_yX12_isTwice (by decide) rfl (Nat.le_of_ble_eq_true rfl) rfl (gO_some e5) rfl (w_X12_isTwice _ _ _ _ e6) ?_
      refine V.goto (tgt := 47) dX12_isSo_26 (by decide) ?_
      by_cases c12 : narrow .boolean (.int r11) = .int r11
      · rw [if_pos c12] at hf
        obtain rfl := Option.some.inj hf
        exact V.zret dX12_isSo_47 c12
      · rw [if_neg c12] at hf
        cases hf
  · rw [if_pos c1] at hf
    refine V.aload_n dX12_isSo_4 rfl 0 rfl ?_
    refine V.iload_n dX12_isSo_5 rfl 2 rfl ?_
    refine V.aload_n dX12_isSo_6 rfl 0 rfl ?_
    obtain ⟨q13, e7, hf⟩ := bS hf
    obtain ⟨r14, e8, hf⟩ := bS hf
    refine V.callV (As := []) (st := [.int l2, .ref l0]) dX12_isSo_7 cl_RX12_230 sw_yX12_all (by decide) rfl (Nat.le_of_ble_eq_true rfl) rfl (gO_some e7) rfl (w_X12_all _ _ _ e8) ?_
    obtain ⟨q15, e9, hf⟩ := bS hf
    obtain ⟨r16, e10, hf⟩ := bS hf
    refine V.callV (As := [.int l2, .int r14]) (st := []) dX12_isSo_10 cl_RX12_294 sw_yX12_isLit (by decide) rfl (Nat.le_of_ble_eq_true rfl) rfl (gO_some e9) rfl (w_X12_isLit _ _ _ _ _ e10) ?_
    refine V.goto (tgt := 47) dX12_isSo_13 (by decide) ?_
    by_cases c17 : narrow .boolean (.int r16) = .int r16
    · rw [if_pos c17] at hf
      obtain rfl := Option.some.inj hf
      exact V.zret dX12_isSo_47 c17
    · rw [if_neg c17] at hf
      cases hf

def f_X12_bestOf_50 (h : xH) (k4 : Nat → Int32 → Int32 → Int32 → Option (Int32)) (l0 : Nat) (l1 : Int32) (l2 : Int32) (l3 : Int32) : Option (Int32) := (gO h l0 12).bind fun q1 => (f_X12_isSo h l0 l1 l3).bind fun r2 => (if r2 = 0 then (k4 l0 l1 l2 (l3 + 1)) else (k4 l0 l1 l3 (l3 + 1)))
def f_X12_bestOf_4 (h : xH) : Nat → Nat → Int32 → Int32 → Int32 → Option (Int32)
  | 0, _, _, _, _ => none
  | n + 1, l0, l1, l2, l3 => (gO h l0 12).bind fun q1 => (f_X12_all h l0).bind fun r2 => (if r2 < l3 then (some (l2)) else ((if l2 = (-1 : Int32) then (f_X12_bestOf_50 h (f_X12_bestOf_4 h n) l0 l1 l2 l3) else ((if l1 = (3 : Int32) then ((f_X12_ones h l3).bind fun r9 => (f_X12_ones h l2).bind fun r10 => (if r10 < r9 then (f_X12_bestOf_50 h (f_X12_bestOf_4 h n) l0 l1 l2 l3) else (f_X12_bestOf_4 h n l0 l1 l2 (l3 + 1)))) else ((f_X12_ones h l3).bind fun r6 => (f_X12_ones h l2).bind fun r7 => (if r6 < r7 then (f_X12_bestOf_50 h (f_X12_bestOf_4 h n) l0 l1 l2 l3) else (f_X12_bestOf_4 h n l0 l1 l2 (l3 + 1)))))))))
def f_X12_bestOf (h : xH) (l0 : Nat) (l1 : Int32) : Option (Int32) := f_X12_bestOf_4 h xFU l0 l1 (-1 : Int32) (0 : Int32)
set_option maxRecDepth 20000 in
theorem w_X12_bestOf_50 (h : xH) {k4 : Nat → Int32 → Int32 → Int32 → Option (Int32)} (hk4 : ∀ (l0 : Nat) (l1 : Int32) (l2 : Int32) (l3 : Int32) (r : Int32), k4 l0 l1 l2 l3 = some r → V 7 yX12_bestOf cX12_bestOf 4 (some .int) [] none 4 [(0, .ref l0), (1, .int l1), (2, .int l2), (3, .int l3)] [] h (oI h r)) (l0 : Nat) (l1 : Int32) (l2 : Int32) (l3 : Int32) (r : Int32) (hf : f_X12_bestOf_50 h k4 l0 l1 l2 l3 = some r) : V 7 yX12_bestOf cX12_bestOf 4 (some .int) [] none 50 [(0, .ref l0), (1, .int l1), (2, .int l2), (3, .int l3)] [] h (oI h r) := by
  unfold f_X12_bestOf_50 at hf
  refine V.aload_n dX12_bestOf_50 rfl 0 rfl ?_
  refine V.iload_n dX12_bestOf_51 rfl 1 rfl ?_
  refine V.iload_n dX12_bestOf_52 rfl 3 rfl ?_
  obtain ⟨q1, e1, hf⟩ := bS hf
  obtain ⟨r2, e2, hf⟩ := bS hf
  refine V.callV (As := [.int l1, .int l3]) (st := []) dX12_bestOf_53 cl_RX12_306 sw_yX12_isSo (by decide) rfl (Nat.le_of_ble_eq_true rfl) rfl (gO_some e1) rfl (w_X12_isSo _ _ _ _ _ e2) ?_
  refine V.if_eq (tgt := 61) dX12_bestOf_56 (by decide) (fun c3 => ?_) (fun c3 => ?_)
  · rw [if_pos c3] at hf
    refine V.iinc (v := (l3 + 1)) (lv' := [(3, .int (l3 + 1)), (0, .ref l0), (1, .int l1), (2, .int l2)]) dX12_bestOf_61 3 rfl rfl (Nat.le_of_ble_eq_true rfl) rfl ?_
    refine V.goto (tgt := 4) dX12_bestOf_64 (by decide) ?_
    refine V.sub [1, 2, 3, 0] rfl ?_
    exact hk4 _ _ _ _ _ hf
  · rw [if_neg c3] at hf
    refine V.iload_n dX12_bestOf_59 rfl 3 rfl ?_
    refine V.istore_n (lv' := [(2, .int l3), (0, .ref l0), (1, .int l1), (3, .int l3)]) dX12_bestOf_60 rfl (by decide) rfl ?_
    refine V.iinc (v := (l3 + 1)) (lv' := [(3, .int (l3 + 1)), (2, .int l3), (0, .ref l0), (1, .int l1)]) dX12_bestOf_61 3 rfl rfl (Nat.le_of_ble_eq_true rfl) rfl ?_
    refine V.goto (tgt := 4) dX12_bestOf_64 (by decide) ?_
    refine V.sub [2, 3, 1, 0] rfl ?_
    exact hk4 _ _ _ _ _ hf

set_option maxRecDepth 20000 in
theorem w_X12_bestOf_4 (h : xH) : ∀ (n : Nat) (l0 : Nat) (l1 : Int32) (l2 : Int32) (l3 : Int32) (r : Int32), f_X12_bestOf_4 h n l0 l1 l2 l3 = some r → V 7 yX12_bestOf cX12_bestOf 4 (some .int) [] none 4 [(0, .ref l0), (1, .int l1), (2, .int l2), (3, .int l3)] [] h (oI h r) := by
  intro n
  induction n with
  | zero => intro l0 l1 l2 l3 r hf; cases hf
  | succ n ih =>
    intro l0 l1 l2 l3 r hf
    rw [f_X12_bestOf_4] at hf
    refine V.iload_n dX12_bestOf_4 rfl 3 rfl ?_
    refine V.aload_n dX12_bestOf_5 rfl 0 rfl ?_
    obtain ⟨q1, e3, hf⟩ := bS hf
    obtain ⟨r2, e4, hf⟩ := bS hf
    refine V.callV (As := []) (st := [.int l3]) dX12_bestOf_6 cl_RX12_230 sw_yX12_all (by decide) rfl (Nat.le_of_ble_eq_true rfl) rfl (gO_some e3) rfl (w_X12_all _ _ _ e4) ?_
    refine V.icmp_gt (tgt := 67) dX12_bestOf_9 (by decide) (fun c3 => ?_) (fun c3 => ?_)
    · rw [if_pos c3] at hf
      refine V.iload_n dX12_bestOf_67 rfl 2 rfl ?_
      obtain rfl := Option.some.inj hf
      exact V.iret dX12_bestOf_68
    · rw [if_neg c3] at hf
      refine V.iload_n dX12_bestOf_12 rfl 2 rfl ?_
      refine V.iconst (v := (-1 : Int32)) dX12_bestOf_13 (by decide) ?_
      refine V.icmp_eq (tgt := 50) dX12_bestOf_14 (by decide) (fun c4 => ?_) (fun c4 => ?_)
      · rw [if_pos c4] at hf
        exact w_X12_bestOf_50 _ ih _ _ _ _ _ hf
      · rw [if_neg c4] at hf
        refine V.iload_n dX12_bestOf_17 rfl 1 rfl ?_
        refine V.iconst (v := (3 : Int32)) dX12_bestOf_18 (by decide) ?_
        refine V.icmp_ne (tgt := 36) dX12_bestOf_19 (by decide) (fun c5 => ?_) (fun c5 => ?_)
        · rw [if_neg c5] at hf
          refine V.iload_n dX12_bestOf_36 rfl 3 rfl ?_
          obtain ⟨r6, e5, hf⟩ := bS hf
          refine V.callS (As := [.int l3]) (st := []) dX12_bestOf_37 cl_RX12_285 sw_yX12_ones (by decide) rfl (Nat.le_of_ble_eq_true rfl) rfl (w_X12_ones _ _ _ e5) ?_
          refine V.iload_n dX12_bestOf_40 rfl 2 rfl ?_
          obtain ⟨r7, e6, hf⟩ := bS hf
          refine V.callS (As := [.int l2]) (st := [.int r6]) dX12_bestOf_41 cl_RX12_285 sw_yX12_ones (by decide) rfl (Nat.le_of_ble_eq_true rfl) rfl (w_X12_ones _ _ _ e6) ?_
          refine V.icmp_lt (tgt := 50) dX12_bestOf_44 (by decide) (fun c8 => ?_) (fun c8 => ?_)
          · rw [if_pos c8] at hf
            exact w_X12_bestOf_50 _ ih _ _ _ _ _ hf
          · rw [if_neg c8] at hf
            refine V.goto (tgt := 61) dX12_bestOf_47 (by decide) ?_
            refine V.iinc (v := (l3 + 1)) (lv' := [(3, .int (l3 + 1)), (0, .ref l0), (1, .int l1), (2, .int l2)]) dX12_bestOf_61 3 rfl rfl (Nat.le_of_ble_eq_true rfl) rfl ?_
            refine V.goto (tgt := 4) dX12_bestOf_64 (by decide) ?_
            refine V.sub [1, 2, 3, 0] rfl ?_
            exact ih _ _ _ _ _ hf
        · rw [if_pos c5] at hf
          refine V.iload_n dX12_bestOf_22 rfl 3 rfl ?_
          obtain ⟨r9, e7, hf⟩ := bS hf
          refine V.callS (As := [.int l3]) (st := []) dX12_bestOf_23 cl_RX12_285 sw_yX12_ones (by decide) rfl (Nat.le_of_ble_eq_true rfl) rfl (w_X12_ones _ _ _ e7) ?_
          refine V.iload_n dX12_bestOf_26 rfl 2 rfl ?_
          obtain ⟨r10, e8, hf⟩ := bS hf
          refine V.callS (As := [.int l2]) (st := [.int r9]) dX12_bestOf_27 cl_RX12_285 sw_yX12_ones (by decide) rfl (Nat.le_of_ble_eq_true rfl) rfl (w_X12_ones _ _ _ e8) ?_
          refine V.icmp_gt (tgt := 50) dX12_bestOf_30 (by decide) (fun c11 => ?_) (fun c11 => ?_)
          · rw [if_pos c11] at hf
            exact w_X12_bestOf_50 _ ih _ _ _ _ _ hf
          · rw [if_neg c11] at hf
            refine V.goto (tgt := 61) dX12_bestOf_33 (by decide) ?_
            refine V.iinc (v := (l3 + 1)) (lv' := [(3, .int (l3 + 1)), (0, .ref l0), (1, .int l1), (2, .int l2)]) dX12_bestOf_61 3 rfl rfl (Nat.le_of_ble_eq_true rfl) rfl ?_
            refine V.goto (tgt := 4) dX12_bestOf_64 (by decide) ?_
            refine V.sub [1, 2, 3, 0] rfl ?_
            exact ih _ _ _ _ _ hf

set_option maxRecDepth 20000 in
theorem w_X12_bestOf (h : xH) (l0 : Nat) (l1 : Int32) (r : Int32) (hf : f_X12_bestOf h l0 l1 = some r) : Ev 7 yX12_bestOf cX12_bestOf 4 (some .int) [] [.ref l0, .int l1] h (oI h r) := by
  refine Ev.of (by decide +kernel) (Nat.le_of_ble_eq_true rfl) ?_
  unfold f_X12_bestOf at hf
  refine V.iconst (v := (-1 : Int32)) dX12_bestOf_0 (by decide) ?_
  refine V.istore_n (lv' := [(2, .int (-1 : Int32)), (0, .ref l0), (1, .int l1)]) dX12_bestOf_1 rfl (by decide) rfl ?_
  refine V.iconst (v := (0 : Int32)) dX12_bestOf_2 (by decide) ?_
  refine V.istore_n (lv' := [(3, .int (0 : Int32)), (2, .int (-1 : Int32)), (0, .ref l0), (1, .int l1)]) dX12_bestOf_3 rfl (by decide) rfl ?_
  refine V.sub [2, 3, 1, 0] rfl ?_
  exact w_X12_bestOf_4 h _ _ _ _ _ _ hf

def f_X12_nextOf_43 (h : xH) (k5 : Nat → Int32 → Int32 → Int32 → Option (Int32)) (l0 : Nat) (l1 : Int32) (l2 : Int32) (l3 : Int32) : Option (Int32) := (gR h l0 12 0).bind fun v1 => (ldI h .int v1 (l3 + (3 : Int32))).bind fun v2 => (if v2 = (1 : Int32) then ((gR h l0 12 0).bind fun v4 => (ldI h .int v4 l3).bind fun v5 => (if v5 = l1 then ((gR h l0 12 0).bind fun v7 => (ldI h .int v7 (l3 + (1 : Int32))).bind fun v8 => k5 l0 l1 (l2 ||| ((1 : Int32) <<< (v8 &&& 31))) (l3 + 4)) else (k5 l0 l1 l2 (l3 + 4)))) else (k5 l0 l1 l2 (l3 + 4)))
def f_X12_nextOf_5 (h : xH) : Nat → Nat → Int32 → Int32 → Int32 → Option (Int32)
  | 0, _, _, _, _ => none
  | n + 1, l0, l1, l2, l3 => (gR h l0 12 0).bind fun v1 => (ldI h .int v1 (2 : Int32)).bind fun v2 => (if ((8 : Int32) + ((4 : Int32) * v2)) ≤ l3 then (some (l2)) else ((gR h l0 12 0).bind fun v4 => (ldI h .int v4 (l3 + (1 : Int32))).bind fun v5 => (if v5 = l1 then ((gR h l0 12 0).bind fun v7 => (ldI h .int v7 l3).bind fun v8 => f_X12_nextOf_43 h (f_X12_nextOf_5 h n) l0 l1 (l2 ||| ((1 : Int32) <<< (v8 &&& 31))) l3) else (f_X12_nextOf_43 h (f_X12_nextOf_5 h n) l0 l1 l2 l3))))
def f_X12_nextOf (h : xH) (l0 : Nat) (l1 : Int32) : Option (Int32) := f_X12_nextOf_5 h xFU l0 l1 (0 : Int32) (8 : Int32)
set_option maxRecDepth 20000 in
theorem w_X12_nextOf_43 (h : xH) {k5 : Nat → Int32 → Int32 → Int32 → Option (Int32)} (hk5 : ∀ (l0 : Nat) (l1 : Int32) (l2 : Int32) (l3 : Int32) (r : Int32), k5 l0 l1 l2 l3 = some r → V 3 yX12_nextOf cX12_nextOf 4 (some .int) [] none 5 [(0, .ref l0), (1, .int l1), (2, .int l2), (3, .int l3)] [] h (oI h r)) (l0 : Nat) (l1 : Int32) (l2 : Int32) (l3 : Int32) (r : Int32) (hf : f_X12_nextOf_43 h k5 l0 l1 l2 l3 = some r) : V 3 yX12_nextOf cX12_nextOf 4 (some .int) [] none 43 [(0, .ref l0), (1, .int l1), (2, .int l2), (3, .int l3)] [] h (oI h r) := by
  unfold f_X12_nextOf_43 at hf
  refine V.aload_n dX12_nextOf_43 rfl 0 rfl ?_
  obtain ⟨v1, e1, hf⟩ := bS hf
  refine V.xgR dX12_nextOf_44 fl_RX12_9 e1 ?_
  refine V.iload_n dX12_nextOf_47 rfl 3 rfl ?_
  refine V.iconst (v := (3 : Int32)) dX12_nextOf_48 (by decide) ?_
  refine V.iadd dX12_nextOf_49 ?_
  obtain ⟨v2, e2, hf⟩ := bS hf
  refine V.xldI dX12_nextOf_50 e2 ?_
  refine V.iconst (v := (1 : Int32)) dX12_nextOf_51 (by decide) ?_
  refine V.icmp_ne (tgt := 78) dX12_nextOf_52 (by decide) (fun c3 => ?_) (fun c3 => ?_)
  · rw [if_neg c3] at hf
    refine V.iinc (v := (l3 + 4)) (lv' := [(3, .int (l3 + 4)), (0, .ref l0), (1, .int l1), (2, .int l2)]) dX12_nextOf_78 3 rfl rfl (Nat.le_of_ble_eq_true rfl) rfl ?_
    refine V.goto (tgt := 5) dX12_nextOf_81 (by decide) ?_
    refine V.sub [1, 2, 3, 0] rfl ?_
    exact hk5 _ _ _ _ _ hf
  · rw [if_pos c3] at hf
    refine V.aload_n dX12_nextOf_55 rfl 0 rfl ?_
    obtain ⟨v4, e3, hf⟩ := bS hf
    refine V.xgR dX12_nextOf_56 fl_RX12_9 e3 ?_
    refine V.iload_n dX12_nextOf_59 rfl 3 rfl ?_
    obtain ⟨v5, e4, hf⟩ := bS hf
    refine V.xldI dX12_nextOf_60 e4 ?_
    refine V.iload_n dX12_nextOf_61 rfl 1 rfl ?_
    refine V.icmp_ne (tgt := 78) dX12_nextOf_62 (by decide) (fun c6 => ?_) (fun c6 => ?_)
    · rw [if_neg c6] at hf
      refine V.iinc (v := (l3 + 4)) (lv' := [(3, .int (l3 + 4)), (0, .ref l0), (1, .int l1), (2, .int l2)]) dX12_nextOf_78 3 rfl rfl (Nat.le_of_ble_eq_true rfl) rfl ?_
      refine V.goto (tgt := 5) dX12_nextOf_81 (by decide) ?_
      refine V.sub [1, 2, 3, 0] rfl ?_
      exact hk5 _ _ _ _ _ hf
    · rw [if_pos c6] at hf
      refine V.iload_n dX12_nextOf_65 rfl 2 rfl ?_
      refine V.iconst (v := (1 : Int32)) dX12_nextOf_66 (by decide) ?_
      refine V.aload_n dX12_nextOf_67 rfl 0 rfl ?_
      obtain ⟨v7, e5, hf⟩ := bS hf
      refine V.xgR dX12_nextOf_68 fl_RX12_9 e5 ?_
      refine V.iload_n dX12_nextOf_71 rfl 3 rfl ?_
      refine V.iconst (v := (1 : Int32)) dX12_nextOf_72 (by decide) ?_
      refine V.iadd dX12_nextOf_73 ?_
      obtain ⟨v8, e6, hf⟩ := bS hf
      refine V.xldI dX12_nextOf_74 e6 ?_
      refine V.ishl dX12_nextOf_75 ?_
      refine V.ior dX12_nextOf_76 ?_
      refine V.istore_n (lv' := [(2, .int (l2 ||| ((1 : Int32) <<< (v8 &&& 31)))), (0, .ref l0), (1, .int l1), (3, .int l3)]) dX12_nextOf_77 rfl (by decide) rfl ?_
      refine V.iinc (v := (l3 + 4)) (lv' := [(3, .int (l3 + 4)), (2, .int (l2 ||| ((1 : Int32) <<< (v8 &&& 31)))), (0, .ref l0), (1, .int l1)]) dX12_nextOf_78 3 rfl rfl (Nat.le_of_ble_eq_true rfl) rfl ?_
      refine V.goto (tgt := 5) dX12_nextOf_81 (by decide) ?_
      refine V.sub [2, 3, 1, 0] rfl ?_
      exact hk5 _ _ _ _ _ hf

set_option maxRecDepth 20000 in
theorem w_X12_nextOf_5 (h : xH) : ∀ (n : Nat) (l0 : Nat) (l1 : Int32) (l2 : Int32) (l3 : Int32) (r : Int32), f_X12_nextOf_5 h n l0 l1 l2 l3 = some r → V 3 yX12_nextOf cX12_nextOf 4 (some .int) [] none 5 [(0, .ref l0), (1, .int l1), (2, .int l2), (3, .int l3)] [] h (oI h r) := by
  intro n
  induction n with
  | zero => intro l0 l1 l2 l3 r hf; cases hf
  | succ n ih =>
    intro l0 l1 l2 l3 r hf
    rw [f_X12_nextOf_5] at hf
    refine V.iload_n dX12_nextOf_5 rfl 3 rfl ?_
    refine V.bipush (v := (8 : Int32)) dX12_nextOf_6 (by decide) ?_
    refine V.iconst (v := (4 : Int32)) dX12_nextOf_8 (by decide) ?_
    refine V.aload_n dX12_nextOf_9 rfl 0 rfl ?_
    obtain ⟨v1, e7, hf⟩ := bS hf
    refine V.xgR dX12_nextOf_10 fl_RX12_9 e7 ?_
    refine V.iconst (v := (2 : Int32)) dX12_nextOf_13 (by decide) ?_
    obtain ⟨v2, e8, hf⟩ := bS hf
    refine V.xldI dX12_nextOf_14 e8 ?_
    refine V.imul dX12_nextOf_15 ?_
    refine V.iadd dX12_nextOf_16 ?_
    refine V.icmp_ge (tgt := 84) dX12_nextOf_17 (by decide) (fun c3 => ?_) (fun c3 => ?_)
    · rw [if_pos c3] at hf
      refine V.iload_n dX12_nextOf_84 rfl 2 rfl ?_
      obtain rfl := Option.some.inj hf
      exact V.iret dX12_nextOf_85
    · rw [if_neg c3] at hf
      refine V.aload_n dX12_nextOf_20 rfl 0 rfl ?_
      obtain ⟨v4, e9, hf⟩ := bS hf
      refine V.xgR dX12_nextOf_21 fl_RX12_9 e9 ?_
      refine V.iload_n dX12_nextOf_24 rfl 3 rfl ?_
      refine V.iconst (v := (1 : Int32)) dX12_nextOf_25 (by decide) ?_
      refine V.iadd dX12_nextOf_26 ?_
      obtain ⟨v5, e10, hf⟩ := bS hf
      refine V.xldI dX12_nextOf_27 e10 ?_
      refine V.iload_n dX12_nextOf_28 rfl 1 rfl ?_
      refine V.icmp_ne (tgt := 43) dX12_nextOf_29 (by decide) (fun c6 => ?_) (fun c6 => ?_)
      · rw [if_neg c6] at hf
        exact w_X12_nextOf_43 _ ih _ _ _ _ _ hf
      · rw [if_pos c6] at hf
        refine V.iload_n dX12_nextOf_32 rfl 2 rfl ?_
        refine V.iconst (v := (1 : Int32)) dX12_nextOf_33 (by decide) ?_
        refine V.aload_n dX12_nextOf_34 rfl 0 rfl ?_
        obtain ⟨v7, e11, hf⟩ := bS hf
        refine V.xgR dX12_nextOf_35 fl_RX12_9 e11 ?_
        refine V.iload_n dX12_nextOf_38 rfl 3 rfl ?_
        obtain ⟨v8, e12, hf⟩ := bS hf
        refine V.xldI dX12_nextOf_39 e12 ?_
        refine V.ishl dX12_nextOf_40 ?_
        refine V.ior dX12_nextOf_41 ?_
        refine V.istore_n (lv' := [(2, .int (l2 ||| ((1 : Int32) <<< (v8 &&& 31)))), (0, .ref l0), (1, .int l1), (3, .int l3)]) dX12_nextOf_42 rfl (by decide) rfl ?_
        refine V.sub [1, 2, 0, 3] rfl ?_
        exact w_X12_nextOf_43 _ ih _ _ _ _ _ hf

set_option maxRecDepth 20000 in
theorem w_X12_nextOf (h : xH) (l0 : Nat) (l1 : Int32) (r : Int32) (hf : f_X12_nextOf h l0 l1 = some r) : Ev 3 yX12_nextOf cX12_nextOf 4 (some .int) [] [.ref l0, .int l1] h (oI h r) := by
  refine Ev.of (by decide +kernel) (Nat.le_of_ble_eq_true rfl) ?_
  unfold f_X12_nextOf at hf
  refine V.iconst (v := (0 : Int32)) dX12_nextOf_0 (by decide) ?_
  refine V.istore_n (lv' := [(2, .int (0 : Int32)), (0, .ref l0), (1, .int l1)]) dX12_nextOf_1 rfl (by decide) rfl ?_
  refine V.bipush (v := (8 : Int32)) dX12_nextOf_2 (by decide) ?_
  refine V.istore_n (lv' := [(3, .int (8 : Int32)), (2, .int (0 : Int32)), (0, .ref l0), (1, .int l1)]) dX12_nextOf_4 rfl (by decide) rfl ?_
  refine V.sub [2, 3, 1, 0] rfl ?_
  exact w_X12_nextOf_5 h _ _ _ _ _ _ hf

def f_X12_layNexts_2 : Nat → xH → Nat → Int32 → Option (xH)
  | 0, _, _, _ => none
  | n + 1, h, l0, l1 => (gO h l0 12).bind fun q1 => (f_X12_rooms h l0).bind fun r2 => (if r2 ≤ l1 then (some (h)) else ((gR h l0 12 16).bind fun v4 => (gO h l0 12).bind fun q5 => (f_X12_nextOf h l0 l1).bind fun r6 => (stI h .int v4 l1 r6).bind fun h7 => f_X12_layNexts_2 n h7 l0 (l1 + 1)))
def f_X12_layNexts (h : xH) (l0 : Nat) : Option (xH) := f_X12_layNexts_2 xFU h l0 (0 : Int32)
set_option maxRecDepth 20000 in
theorem w_X12_layNexts_2 : ∀ (n : Nat) (h : xH) (l0 : Nat) (l1 : Int32) (r : xH), f_X12_layNexts_2 n h l0 l1 = some r → V 4 yX12_layNexts cX12_layNexts 2 none [] none 2 [(0, .ref l0), (1, .int l1)] [] h (oVh r) := by
  intro n
  induction n with
  | zero => intro h l0 l1 r hf; cases hf
  | succ n ih =>
    intro h l0 l1 r hf
    rw [f_X12_layNexts_2] at hf
    refine V.iload_n dX12_layNexts_2 rfl 1 rfl ?_
    refine V.aload_n dX12_layNexts_3 rfl 0 rfl ?_
    obtain ⟨q1, e1, hf⟩ := bS hf
    obtain ⟨r2, e2, hf⟩ := bS hf
    refine V.callV (As := []) (st := [.int l1]) dX12_layNexts_4 cl_RX12_228 sw_yX12_rooms (by decide) rfl (Nat.le_of_ble_eq_true rfl) rfl (gO_some e1) rfl (w_X12_rooms _ _ _ e2) ?_
    refine V.icmp_ge (tgt := 27) dX12_layNexts_7 (by decide) (fun c3 => ?_) (fun c3 => ?_)
    · rw [if_pos c3] at hf
      obtain rfl := Option.some.inj hf
      exact V.vret dX12_layNexts_27
    · rw [if_neg c3] at hf
      refine V.aload_n dX12_layNexts_10 rfl 0 rfl ?_
      obtain ⟨v4, e3, hf⟩ := bS hf
      refine V.xgR dX12_layNexts_11 fl_RX12_30 e3 ?_
      refine V.iload_n dX12_layNexts_14 rfl 1 rfl ?_
      refine V.aload_n dX12_layNexts_15 rfl 0 rfl ?_
      refine V.iload_n dX12_layNexts_16 rfl 1 rfl ?_
      obtain ⟨q5, e4, hf⟩ := bS hf
      obtain ⟨r6, e5, hf⟩ := bS hf
      refine V.callV (As := [.int l1]) (st := [.int l1, .ref v4]) dX12_layNexts_17 cl_RX12_243 sw_yX12_nextOf (by decide) rfl (Nat.le_of_ble_eq_true rfl) rfl (gO_some e4) rfl (w_X12_nextOf _ _ _ _ e5) ?_
      obtain ⟨h7, e6, hf⟩ := bS hf
      refine V.xstI dX12_layNexts_20 e6 ?_
      refine V.iinc (v := (l1 + 1)) (lv' := [(1, .int (l1 + 1)), (0, .ref l0)]) dX12_layNexts_21 1 rfl rfl (Nat.le_of_ble_eq_true rfl) rfl ?_
      refine V.goto (tgt := 2) dX12_layNexts_24 (by decide) ?_
      refine V.sub [1, 0] rfl ?_
      exact ih _ _ _ _ hf

set_option maxRecDepth 20000 in
theorem w_X12_layNexts (h : xH) (l0 : Nat) (r : xH) (hf : f_X12_layNexts h l0 = some r) : Ev 4 yX12_layNexts cX12_layNexts 2 none [] [.ref l0] h (oVh r) := by
  refine Ev.of (by decide +kernel) (Nat.le_of_ble_eq_true rfl) ?_
  unfold f_X12_layNexts at hf
  refine V.iconst (v := (0 : Int32)) dX12_layNexts_0 (by decide) ?_
  refine V.istore_n (lv' := [(1, .int (0 : Int32)), (0, .ref l0)]) dX12_layNexts_1 rfl (by decide) rfl ?_
  refine V.sub [1, 0] rfl ?_
  exact w_X12_layNexts_2 _ _ _ _ _ hf

def f_X12_among_22 : Nat → xH → Nat → Int32 → Int32 → Int32 → Int32 → Option (Int32 × xH)
  | 0, _, _, _, _, _, _ => none
  | n + 1, h, l0, l1, l2, l3, l4 => (gO h l0 12).bind fun q1 => (f_X12_all h l0).bind fun r2 => (if r2 < l4 then (some ((l3, h))) else ((f_X12_ones h l4).bind fun r4 => (f_X12_ones h l2).bind fun r5 => (if r4 = r5 then ((gO h l0 12).bind fun q7 => (f_X12_all h l0).bind fun r8 => (gO h l0 12).bind fun q9 => (f_X12_isLit h l0 l4 r8).bind fun r10 => (if r10 = 0 then (f_X12_among_22 n h l0 l1 l2 l3 (l4 + 1)) else ((if l1 = 0 then (f_X12_among_22 n h l0 l1 l2 (l3 ||| l4) (l4 + 1)) else (f_X12_among_22 n h l0 l1 l2 (l3 &&& l4) (l4 + 1)))))) else (f_X12_among_22 n h l0 l1 l2 l3 (l4 + 1)))))
def f_X12_among (h : xH) (l0 : Nat) (l1 : Int32) : Option (Int32 × xH) := (gO h l0 12).bind fun q1 => (f_X12_layNexts h l0).bind fun r2 => (gO r2 l0 12).bind fun q3 => (f_X12_bestOf r2 l0 (0 : Int32)).bind fun r4 => (if r4 = (-1 : Int32) then (some (((0 : Int32), r2))) else (f_X12_among_22 xFU r2 l0 l1 r4 r4 (0 : Int32)))
set_option maxRecDepth 20000 in
theorem w_X12_among_22 : ∀ (n : Nat) (h : xH) (l0 : Nat) (l1 : Int32) (l2 : Int32) (l3 : Int32) (l4 : Int32) (r : Int32 × xH), f_X12_among_22 n h l0 l1 l2 l3 l4 = some r → V 8 yX12_among cX12_among 5 (some .int) [] none 22 [(0, .ref l0), (1, .int l1), (2, .int l2), (3, .int l3), (4, .int l4)] [] h (oIh r) := by
  intro n
  induction n with
  | zero => intro h l0 l1 l2 l3 l4 r hf; cases hf
  | succ n ih =>
    intro h l0 l1 l2 l3 l4 r hf
    rw [f_X12_among_22] at hf
    refine V.iload dX12_among_22 4 rfl ?_
    refine V.aload_n dX12_among_24 rfl 0 rfl ?_
    obtain ⟨q1, e1, hf⟩ := bS hf
    obtain ⟨r2, e2, hf⟩ := bS hf
    refine V.callV (As := []) (st := [.int l4]) dX12_among_25 cl_RX12_230 sw_yX12_all (by decide) rfl (Nat.le_of_ble_eq_true rfl) rfl (gO_some e1) rfl (w_X12_all _ _ _ e2) ?_
    refine V.icmp_gt (tgt := 81) dX12_among_28 (by decide) (fun c3 => ?_) (fun c3 => ?_)
    · rw [if_pos c3] at hf
      refine V.iload_n dX12_among_81 rfl 3 rfl ?_
      obtain rfl := Option.some.inj hf
      exact V.iret dX12_among_82
    · rw [if_neg c3] at hf
      refine V.iload dX12_among_31 4 rfl ?_
      obtain ⟨r4, e3, hf⟩ := bS hf
      refine V.callS (As := [.int l4]) (st := []) dX12_among_33 cl_RX12_285 sw_yX12_ones (by decide) rfl (Nat.le_of_ble_eq_true rfl) rfl (w_X12_ones _ _ _ e3) ?_
      refine V.iload_n dX12_among_36 rfl 2 rfl ?_
      obtain ⟨r5, e4, hf⟩ := bS hf
      refine V.callS (As := [.int l2]) (st := [.int r4]) dX12_among_37 cl_RX12_285 sw_yX12_ones (by decide) rfl (Nat.le_of_ble_eq_true rfl) rfl (w_X12_ones _ _ _ e4) ?_
      refine V.icmp_ne (tgt := 75) dX12_among_40 (by decide) (fun c6 => ?_) (fun c6 => ?_)
      · rw [if_neg c6] at hf
        refine V.iinc (v := (l4 + 1)) (lv' := [(4, .int (l4 + 1)), (0, .ref l0), (1, .int l1), (2, .int l2), (3, .int l3)]) dX12_among_75 4 rfl rfl (Nat.le_of_ble_eq_true rfl) rfl ?_
        refine V.goto (tgt := 22) dX12_among_78 (by decide) ?_
        refine V.sub [1, 2, 3, 4, 0] rfl ?_
        exact ih _ _ _ _ _ _ _ hf
      · rw [if_pos c6] at hf
        refine V.aload_n dX12_among_43 rfl 0 rfl ?_
        refine V.iload dX12_among_44 4 rfl ?_
        refine V.aload_n dX12_among_46 rfl 0 rfl ?_
        obtain ⟨q7, e5, hf⟩ := bS hf
        obtain ⟨r8, e6, hf⟩ := bS hf
        refine V.callV (As := []) (st := [.int l4, .ref l0]) dX12_among_47 cl_RX12_230 sw_yX12_all (by decide) rfl (Nat.le_of_ble_eq_true rfl) rfl (gO_some e5) rfl (w_X12_all _ _ _ e6) ?_
        obtain ⟨q9, e7, hf⟩ := bS hf
        obtain ⟨r10, e8, hf⟩ := bS hf
        refine V.callV (As := [.int l4, .int r8]) (st := []) dX12_among_50 cl_RX12_294 sw_yX12_isLit (by decide) rfl (Nat.le_of_ble_eq_true rfl) rfl (gO_some e7) rfl (w_X12_isLit _ _ _ _ _ e8) ?_
        refine V.if_ne (tgt := 59) dX12_among_53 (by decide) (fun c11 => ?_) (fun c11 => ?_)
        · rw [if_neg c11] at hf
          refine V.iload_n dX12_among_59 rfl 1 rfl ?_
          refine V.if_eq (tgt := 70) dX12_among_60 (by decide) (fun c12 => ?_) (fun c12 => ?_)
          · rw [if_pos c12] at hf
            refine V.iload_n dX12_among_70 rfl 3 rfl ?_
            refine V.iload dX12_among_71 4 rfl ?_
            refine V.ior dX12_among_73 ?_
            refine V.istore_n (lv' := [(3, .int (l3 ||| l4)), (0, .ref l0), (1, .int l1), (2, .int l2), (4, .int l4)]) dX12_among_74 rfl (by decide) rfl ?_
            refine V.iinc (v := (l4 + 1)) (lv' := [(4, .int (l4 + 1)), (3, .int (l3 ||| l4)), (0, .ref l0), (1, .int l1), (2, .int l2)]) dX12_among_75 4 rfl rfl (Nat.le_of_ble_eq_true rfl) rfl ?_
            refine V.goto (tgt := 22) dX12_among_78 (by decide) ?_
            refine V.sub [2, 3, 4, 1, 0] rfl ?_
            exact ih _ _ _ _ _ _ _ hf
          · rw [if_neg c12] at hf
            refine V.iload_n dX12_among_63 rfl 3 rfl ?_
            refine V.iload dX12_among_64 4 rfl ?_
            refine V.iand dX12_among_66 ?_
            refine V.goto (tgt := 74) dX12_among_67 (by decide) ?_
            refine V.istore_n (lv' := [(3, .int (l3 &&& l4)), (0, .ref l0), (1, .int l1), (2, .int l2), (4, .int l4)]) dX12_among_74 rfl (by decide) rfl ?_
            refine V.iinc (v := (l4 + 1)) (lv' := [(4, .int (l4 + 1)), (3, .int (l3 &&& l4)), (0, .ref l0), (1, .int l1), (2, .int l2)]) dX12_among_75 4 rfl rfl (Nat.le_of_ble_eq_true rfl) rfl ?_
            refine V.goto (tgt := 22) dX12_among_78 (by decide) ?_
            refine V.sub [2, 3, 4, 1, 0] rfl ?_
            exact ih _ _ _ _ _ _ _ hf
        · rw [if_pos c11] at hf
          refine V.goto (tgt := 75) dX12_among_56 (by decide) ?_
          refine V.iinc (v := (l4 + 1)) (lv' := [(4, .int (l4 + 1)), (0, .ref l0), (1, .int l1), (2, .int l2), (3, .int l3)]) dX12_among_75 4 rfl rfl (Nat.le_of_ble_eq_true rfl) rfl ?_
          refine V.goto (tgt := 22) dX12_among_78 (by decide) ?_
          refine V.sub [1, 2, 3, 4, 0] rfl ?_
          exact ih _ _ _ _ _ _ _ hf

set_option maxRecDepth 20000 in
theorem w_X12_among (h : xH) (l0 : Nat) (l1 : Int32) (r : Int32 × xH) (hf : f_X12_among h l0 l1 = some r) : Ev 8 yX12_among cX12_among 5 (some .int) [] [.ref l0, .int l1] h (oIh r) := by
  refine Ev.of (by decide +kernel) (Nat.le_of_ble_eq_true rfl) ?_
  unfold f_X12_among at hf
  refine V.aload_n dX12_among_0 rfl 0 rfl ?_
  obtain ⟨q1, e9, hf⟩ := bS hf
  obtain ⟨r2, e10, hf⟩ := bS hf
  refine V.callV (As := []) (st := []) dX12_among_1 cl_RX12_291 sw_yX12_layNexts (by decide) rfl (Nat.le_of_ble_eq_true rfl) rfl (gO_some e9) rfl (w_X12_layNexts _ _ _ e10) ?_
  refine V.aload_n dX12_among_4 rfl 0 rfl ?_
  refine V.iconst (v := (0 : Int32)) dX12_among_5 (by decide) ?_
  obtain ⟨q3, e11, hf⟩ := bS hf
  obtain ⟨r4, e12, hf⟩ := bS hf
  refine V.callV (As := [.int (0 : Int32)]) (st := []) dX12_among_6 cl_RX12_309 sw_yX12_bestOf (by decide) rfl (Nat.le_of_ble_eq_true rfl) rfl (gO_some e11) rfl (w_X12_bestOf _ _ _ _ e12) ?_
  refine V.istore_n (lv' := [(2, .int r4), (0, .ref l0), (1, .int l1)]) dX12_among_9 rfl (by decide) rfl ?_
  refine V.iload_n dX12_among_10 rfl 0 rfl ?_
  refine V.iconst (v := (-1 : Int32)) dX12_among_11 (by decide) ?_
  refine V.icmp_ne (tgt := 17) dX12_among_12 (by decide) (fun c5 => ?_) (fun c5 => ?_)
  · rw [if_neg c5] at hf
    refine V.iload_n dX12_among_17 rfl 0 rfl ?_
    refine V.istore_n (lv' := [(3, .int r4), (2, .int r4), (0, .ref l0), (1, .int l1)]) dX12_among_18 rfl (by decide) rfl ?_
    refine V.iconst (v := (0 : Int32)) dX12_among_19 (by decide) ?_
    refine V.istore (lv' := [(4, .int (0 : Int32)), (3, .int r4), (2, .int r4), (0, .ref l0), (1, .int l1)]) dX12_among_20 (by decide) rfl ?_
    refine V.sub [3, 4, 2, 1, 0] rfl ?_
    exact w_X12_among_22 _ _ _ _ _ _ _ _ hf
  · rw [if_pos c5] at hf
    refine V.iconst (v := (0 : Int32)) dX12_among_15 (by decide) ?_
    obtain rfl := Option.some.inj hf
    exact V.iret dX12_among_16

def f_X12_always (h : xH) (l0 : Nat) : Option (Int32 × xH) := (pF h l0 12 4 (.int (0 : Int32))).bind fun h1 => (gO h1 l0 12).bind fun q2 => (f_X12_among h1 l0 (1 : Int32)).bind fun r3 => some ((r3.1, r3.2))
set_option maxRecDepth 20000 in
theorem w_X12_always (h : xH) (l0 : Nat) (r : Int32 × xH) (hf : f_X12_always h l0 = some r) : Ev 9 yX12_always cX12_always 1 (some .int) [] [.ref l0] h (oIh r) := by
  refine Ev.of (by decide +kernel) (Nat.le_of_ble_eq_true rfl) ?_
  unfold f_X12_always at hf
  refine V.aload_n dX12_always_0 rfl 0 rfl ?_
  refine V.iconst (v := (0 : Int32)) dX12_always_1 (by decide) ?_
  obtain ⟨h1, e1, hf⟩ := bS hf
  refine V.xpF dX12_always_2 fl_RX12_75 (fun h9 => nomatch h9) (fun _ => rfl) (fun _ => rfl) e1 ?_
  refine V.aload_n dX12_always_5 rfl 0 rfl ?_
  refine V.iconst (v := (1 : Int32)) dX12_always_6 (by decide) ?_
  obtain ⟨q2, e2, hf⟩ := bS hf
  obtain ⟨r3, e3, hf⟩ := bS hf
  refine V.callV (As := [.int (1 : Int32)]) (st := []) dX12_always_7 cl_RX12_315 sw_yX12_among (by decide) rfl (Nat.le_of_ble_eq_true rfl) rfl (gO_some e2) rfl (w_X12_among _ _ _ _ e3) ?_
  obtain rfl := Option.some.inj hf
  exact V.iret dX12_always_10

def f_X12_fails (h : xH) (l0 : Nat) (l1 : Int32) : Option (Int32 × xH) := (pF h l0 12 4 (.int l1)).bind fun h1 => some (((0 : Int32), h1))
set_option maxRecDepth 20000 in
theorem w_X12_fails (h : xH) (l0 : Nat) (l1 : Int32) (r : Int32 × xH) (hf : f_X12_fails h l0 l1 = some r) : Ev 3 yX12_fails cX12_fails 2 (some .int) [] [.ref l0, .int l1] h (oIh r) := by
  refine Ev.of (by decide +kernel) (Nat.le_of_ble_eq_true rfl) ?_
  unfold f_X12_fails at hf
  refine V.aload_n dX12_fails_0 rfl 0 rfl ?_
  refine V.iload_n dX12_fails_1 rfl 1 rfl ?_
  obtain ⟨h1, e1, hf⟩ := bS hf
  refine V.xpF dX12_fails_2 fl_RX12_75 (fun h9 => nomatch h9) (fun _ => rfl) (fun _ => rfl) e1 ?_
  refine V.iconst (v := (0 : Int32)) dX12_fails_5 (by decide) ?_
  obtain rfl := Option.some.inj hf
  exact V.iret dX12_fails_6

def f_X12_within (h : xH) (l0 : Int64) (l2 : Int64) (l4 : Int64) : Option (Int32) := (if (lg_cmp l0 l2) < 0 then (some ((0 : Int32))) else ((if 0 < (lg_cmp l0 l4) then (some ((0 : Int32))) else (some ((1 : Int32))))))
set_option maxRecDepth 20000 in
theorem w_X12_within (h : xH) (l0 : Int64) (l2 : Int64) (l4 : Int64) (r : Int32) (hf : f_X12_within h l0 l2 l4 = some r) : Ev 3 yX12_within cX12_within 6 (some .boolean) [] [.long l0, .long l2, .long l4] h (oI h r) := by
  refine Ev.of (by decide +kernel) (Nat.le_of_ble_eq_true rfl) ?_
  unfold f_X12_within at hf
  refine V.lload_n dX12_within_0 rfl 0 rfl ?_
  refine V.lload_n dX12_within_1 rfl 1 rfl ?_
  refine V.lcmp dX12_within_2 ?_
  refine V.if_lt (tgt := 17) dX12_within_3 (by decide) (fun c1 => ?_) (fun c1 => ?_)
  · rw [if_pos c1] at hf
    refine V.iconst (v := (0 : Int32)) dX12_within_17 (by decide) ?_
    obtain rfl := Option.some.inj hf
    exact V.zret dX12_within_18 (by first | rfl | assumption)
  · rw [if_neg c1] at hf
    refine V.lload_n dX12_within_6 rfl 0 rfl ?_
    refine V.lload dX12_within_7 2 rfl ?_
    refine V.lcmp dX12_within_9 ?_
    refine V.if_gt (tgt := 17) dX12_within_10 (by decide) (fun c2 => ?_) (fun c2 => ?_)
    · rw [if_pos c2] at hf
      refine V.iconst (v := (0 : Int32)) dX12_within_17 (by decide) ?_
      obtain rfl := Option.some.inj hf
      exact V.zret dX12_within_18 (by first | rfl | assumption)
    · rw [if_neg c2] at hf
      refine V.iconst (v := (1 : Int32)) dX12_within_13 (by decide) ?_
      refine V.goto (tgt := 18) dX12_within_14 (by decide) ?_
      obtain rfl := Option.some.inj hf
      exact V.zret dX12_within_18 (by first | rfl | assumption)

def f_X12_isHour (h : xH) (l0 : Int32) : Option (Int32) := (f_X12_within h (Int32.toInt64 l0) (0 : Int64) (23 : Int64)).bind fun r1 => (if narrow .boolean (.int r1) = .int r1 then some r1 else none)
set_option maxRecDepth 20000 in
theorem w_X12_isHour (h : xH) (l0 : Int32) (r : Int32) (hf : f_X12_isHour h l0 = some r) : Ev 4 yX12_isHour cX12_isHour 1 (some .boolean) [] [.int l0] h (oI h r) := by
  refine Ev.of (by decide +kernel) (Nat.le_of_ble_eq_true rfl) ?_
  unfold f_X12_isHour at hf
  refine V.iload_n dX12_isHour_0 rfl 0 rfl ?_
  refine V.i2l dX12_isHour_1 ?_
  refine V.lconst (v := 0) dX12_isHour_2 (by decide) ?_
  refine V.ldc2 (v := (23 : Int64)) dX12_isHour_3 cj_RX12_233 ?_
  obtain ⟨r1, e1, hf⟩ := bS hf
  refine V.callS (As := [.long (Int32.toInt64 l0), .long (0 : Int64), .long (23 : Int64)]) (st := []) dX12_isHour_6 cl_RX12_134 sw_yX12_within (by decide) rfl (Nat.le_of_ble_eq_true rfl) rfl (w_X12_within _ _ _ _ _ e1) ?_
  by_cases c2 : narrow .boolean (.int r1) = .int r1
  · rw [if_pos c2] at hf
    obtain rfl := Option.some.inj hf
    exact V.zret dX12_isHour_9 c2
  · rw [if_neg c2] at hf
    cases hf

def f_X12_layShine_70 (k2 : xH → Nat → Int32 → Int32 → Option (xH)) (h : xH) (l0 : Nat) (l1 : Int32) (l2 : Int32) (s0 : Int32) (s1 : Int32) (s2 : Nat) : Option (xH) := (stI h .int s2 s1 s0).bind fun h1 => k2 h1 l0 l1 (l2 + 1)
def f_X12_layShine_69 (k2 : xH → Nat → Int32 → Int32 → Option (xH)) (h : xH) (l0 : Nat) (l1 : Int32) (l2 : Int32) (s0 : Int32) (s1 : Nat) : Option (xH) := f_X12_layShine_70 k2 h l0 l1 l2 (0 : Int32) s0 s1
def f_X12_layShine_2 : Nat → xH → Nat → Int32 → Int32 → Option (xH)
  | 0, _, _, _, _ => none
  | n + 1, h, l0, l1, l2 => (gO h l0 12).bind fun q1 => (f_X12_rooms h l0).bind fun r2 => (if r2 ≤ l2 then (some (h)) else ((gR h l0 12 0).bind fun v4 => (ldI h .int v4 ((448 : Int32) + ((2 : Int32) * l2))).bind fun v5 => (gR h l0 12 17).bind fun v6 => (if v5 = (-1 : Int32) then (f_X12_layShine_69 (f_X12_layShine_2 n) h l0 l1 l2 l2 v6) else ((gR h l0 12 0).bind fun v8 => (ldI h .int v8 (((448 : Int32) + ((2 : Int32) * l2)) + (1 : Int32))).bind fun v9 => (f_X12_has h v9 l1).bind fun r10 => (if r10 = 0 then (f_X12_layShine_69 (f_X12_layShine_2 n) h l0 l1 l2 l2 v6) else ((gR h l0 12 0).bind fun v12 => (ldI h .int v12 ((248 : Int32) + ((2 : Int32) * v5))).bind fun v13 => f_X12_layShine_70 (f_X12_layShine_2 n) h l0 l1 l2 v13 l2 v6))))))
def f_X12_layShine (h : xH) (l0 : Nat) (l1 : Int32) : Option (xH) := f_X12_layShine_2 xFU h l0 l1 (0 : Int32)
set_option maxRecDepth 20000 in
theorem w_X12_layShine_70 (h : xH) {k2 : xH → Nat → Int32 → Int32 → Option (xH)} (hk2 : ∀ (h : xH) (l0 : Nat) (l1 : Int32) (l2 : Int32) (r : xH), k2 h l0 l1 l2 = some r → V 4 yX12_layShine cX12_layShine 4 none [] none 2 [(0, .ref l0), (1, .int l1), (2, .int l2)] [] h (oVh r)) (l0 : Nat) (l1 : Int32) (l2 : Int32) (s0 : Int32) (s1 : Int32) (s2 : Nat) (r : xH) (hf : f_X12_layShine_70 k2 h l0 l1 l2 s0 s1 s2 = some r) : V 4 yX12_layShine cX12_layShine 4 none [] none 70 [(0, .ref l0), (1, .int l1), (2, .int l2)] [.int s0, .int s1, .ref s2] h (oVh r) := by
  unfold f_X12_layShine_70 at hf
  obtain ⟨h1, e1, hf⟩ := bS hf
  refine V.xstI dX12_layShine_70 e1 ?_
  refine V.iinc (v := (l2 + 1)) (lv' := [(2, .int (l2 + 1)), (0, .ref l0), (1, .int l1)]) dX12_layShine_71 2 rfl rfl (Nat.le_of_ble_eq_true rfl) rfl ?_
  refine V.goto (tgt := 2) dX12_layShine_74 (by decide) ?_
  refine V.sub [1, 2, 0] rfl ?_
  exact hk2 _ _ _ _ _ hf

set_option maxRecDepth 20000 in
theorem w_X12_layShine_69 (h : xH) {k2 : xH → Nat → Int32 → Int32 → Option (xH)} (hk2 : ∀ (h : xH) (l0 : Nat) (l1 : Int32) (l2 : Int32) (r : xH), k2 h l0 l1 l2 = some r → V 4 yX12_layShine cX12_layShine 4 none [] none 2 [(0, .ref l0), (1, .int l1), (2, .int l2)] [] h (oVh r)) (l0 : Nat) (l1 : Int32) (l2 : Int32) (s0 : Int32) (s1 : Nat) (r : xH) (hf : f_X12_layShine_69 k2 h l0 l1 l2 s0 s1 = some r) : V 4 yX12_layShine cX12_layShine 4 none [] none 69 [(0, .ref l0), (1, .int l1), (2, .int l2)] [.int s0, .ref s1] h (oVh r) := by
  unfold f_X12_layShine_69 at hf
  refine V.iconst (v := (0 : Int32)) dX12_layShine_69 (by decide) ?_
  exact w_X12_layShine_70 _ hk2 _ _ _ _ _ _ _ hf

set_option maxRecDepth 20000 in
theorem w_X12_layShine_2 : ∀ (n : Nat) (h : xH) (l0 : Nat) (l1 : Int32) (l2 : Int32) (r : xH), f_X12_layShine_2 n h l0 l1 l2 = some r → V 4 yX12_layShine cX12_layShine 4 none [] none 2 [(0, .ref l0), (1, .int l1), (2, .int l2)] [] h (oVh r) := by
  intro n
  induction n with
  | zero => intro h l0 l1 l2 r hf; cases hf
  | succ n ih =>
    intro h l0 l1 l2 r hf
    rw [f_X12_layShine_2] at hf
    refine V.iload_n dX12_layShine_2 rfl 2 rfl ?_
    refine V.aload_n dX12_layShine_3 rfl 0 rfl ?_
    obtain ⟨q1, e2, hf⟩ := bS hf
    obtain ⟨r2, e3, hf⟩ := bS hf
    refine V.callV (As := []) (st := [.int l2]) dX12_layShine_4 cl_RX12_228 sw_yX12_rooms (by decide) rfl (Nat.le_of_ble_eq_true rfl) rfl (gO_some e2) rfl (w_X12_rooms _ _ _ e3) ?_
    refine V.icmp_ge (tgt := 77) dX12_layShine_7 (by decide) (fun c3 => ?_) (fun c3 => ?_)
    · rw [if_pos c3] at hf
      obtain rfl := Option.some.inj hf
      exact V.vret dX12_layShine_77
    · rw [if_neg c3] at hf
      refine V.aload_n dX12_layShine_10 rfl 0 rfl ?_
      obtain ⟨v4, e4, hf⟩ := bS hf
      refine V.xgR dX12_layShine_11 fl_RX12_9 e4 ?_
      refine V.sipush (v := (448 : Int32)) dX12_layShine_14 (by decide) ?_
      refine V.iconst (v := (2 : Int32)) dX12_layShine_17 (by decide) ?_
      refine V.iload_n dX12_layShine_18 rfl 2 rfl ?_
      refine V.imul dX12_layShine_19 ?_
      refine V.iadd dX12_layShine_20 ?_
      obtain ⟨v5, e5, hf⟩ := bS hf
      refine V.xldI dX12_layShine_21 e5 ?_
      refine V.istore_n (lv' := [(3, .int v5), (0, .ref l0), (1, .int l1), (2, .int l2)]) dX12_layShine_22 rfl (by decide) rfl ?_
      refine V.aload_n dX12_layShine_23 rfl 1 rfl ?_
      obtain ⟨v6, e6, hf⟩ := bS hf
      refine V.xgR dX12_layShine_24 fl_RX12_33 e6 ?_
      refine V.iload_n dX12_layShine_27 rfl 3 rfl ?_
      refine V.iload_n dX12_layShine_28 rfl 0 rfl ?_
      refine V.iconst (v := (-1 : Int32)) dX12_layShine_29 (by decide) ?_
      refine V.icmp_eq (tgt := 69) dX12_layShine_30 (by decide) (fun c7 => ?_) (fun c7 => ?_)
      · rw [if_pos c7] at hf
        refine V.sub [1, 2, 3] rfl ?_
        exact w_X12_layShine_69 _ ih _ _ _ _ _ _ hf
      · rw [if_neg c7] at hf
        refine V.aload_n dX12_layShine_33 rfl 1 rfl ?_
        obtain ⟨v8, e7, hf⟩ := bS hf
        refine V.xgR dX12_layShine_34 fl_RX12_9 e7 ?_
        refine V.sipush (v := (448 : Int32)) dX12_layShine_37 (by decide) ?_
        refine V.iconst (v := (2 : Int32)) dX12_layShine_40 (by decide) ?_
        refine V.iload_n dX12_layShine_41 rfl 3 rfl ?_
        refine V.imul dX12_layShine_42 ?_
        refine V.iadd dX12_layShine_43 ?_
        refine V.iconst (v := (1 : Int32)) dX12_layShine_44 (by decide) ?_
        refine V.iadd dX12_layShine_45 ?_
        obtain ⟨v9, e8, hf⟩ := bS hf
        refine V.xldI dX12_layShine_46 e8 ?_
        refine V.iload_n dX12_layShine_47 rfl 2 rfl ?_
        obtain ⟨r10, e9, hf⟩ := bS hf
        refine V.callS (As := [.int v9, .int l1]) (st := [.int l2, .ref v6]) dX12_layShine_48 cl_RX12_246 sw_yX12_has (by decide) rfl (Nat.le_of_ble_eq_true rfl) rfl (w_X12_has _ _ _ _ e9) ?_
        refine V.if_eq (tgt := 69) dX12_layShine_51 (by decide) (fun c11 => ?_) (fun c11 => ?_)
        · rw [if_pos c11] at hf
          refine V.sub [1, 2, 3] rfl ?_
          exact w_X12_layShine_69 _ ih _ _ _ _ _ _ hf
        · rw [if_neg c11] at hf
          refine V.aload_n dX12_layShine_54 rfl 1 rfl ?_
          obtain ⟨v12, e10, hf⟩ := bS hf
          refine V.xgR dX12_layShine_55 fl_RX12_9 e10 ?_
          refine V.sipush (v := (248 : Int32)) dX12_layShine_58 (by decide) ?_
          refine V.iconst (v := (2 : Int32)) dX12_layShine_61 (by decide) ?_
          refine V.iload_n dX12_layShine_62 rfl 0 rfl ?_
          refine V.imul dX12_layShine_63 ?_
          refine V.iadd dX12_layShine_64 ?_
          obtain ⟨v13, e11, hf⟩ := bS hf
          refine V.xldI dX12_layShine_65 e11 ?_
          refine V.goto (tgt := 70) dX12_layShine_66 (by decide) ?_
          refine V.sub [1, 2, 3] rfl ?_
          exact w_X12_layShine_70 _ ih _ _ _ _ _ _ _ hf

set_option maxRecDepth 20000 in
theorem w_X12_layShine (h : xH) (l0 : Nat) (l1 : Int32) (r : xH) (hf : f_X12_layShine h l0 l1 = some r) : Ev 4 yX12_layShine cX12_layShine 4 none [] [.ref l0, .int l1] h (oVh r) := by
  refine Ev.of (by decide +kernel) (Nat.le_of_ble_eq_true rfl) ?_
  unfold f_X12_layShine at hf
  refine V.iconst (v := (0 : Int32)) dX12_layShine_0 (by decide) ?_
  refine V.istore_n (lv' := [(2, .int (0 : Int32)), (0, .ref l0), (1, .int l1)]) dX12_layShine_1 rfl (by decide) rfl ?_
  refine V.sub [1, 2, 0] rfl ?_
  exact w_X12_layShine_2 _ _ _ _ _ _ hf

def f_X12_shining_29 (h : xH) (k4 : Nat → Int32 → Int32 → Option (Int32)) (l0 : Nat) (l2 : Int32) (s0 : Int32) (s1 : Int32) : Option (Int32) := k4 l0 (s1 ||| s0) (l2 + 1)
def f_X12_shining_4 (h : xH) : Nat → Nat → Int32 → Int32 → Option (Int32)
  | 0, _, _, _ => none
  | n + 1, l0, l1, l2 => (gO h l0 12).bind fun q1 => (f_X12_rooms h l0).bind fun r2 => (if r2 ≤ l2 then (some (l1)) else ((gR h l0 12 17).bind fun v4 => (ldI h .int v4 l2).bind fun v5 => (if v5 ≤ 0 then (f_X12_shining_29 h (f_X12_shining_4 h n) l0 l2 (0 : Int32) l1) else (f_X12_shining_29 h (f_X12_shining_4 h n) l0 l2 ((1 : Int32) <<< (l2 &&& 31)) l1))))
def f_X12_shining (h : xH) (l0 : Nat) : Option (Int32) := f_X12_shining_4 h xFU l0 (0 : Int32) (0 : Int32)
set_option maxRecDepth 20000 in
theorem w_X12_shining_29 (h : xH) {k4 : Nat → Int32 → Int32 → Option (Int32)} (hk4 : ∀ (l0 : Nat) (l1 : Int32) (l2 : Int32) (r : Int32), k4 l0 l1 l2 = some r → V 4 yX12_shining cX12_shining 3 (some .int) [] none 4 [(0, .ref l0), (1, .int l1), (2, .int l2)] [] h (oI h r)) (l0 : Nat) (l2 : Int32) (s0 : Int32) (s1 : Int32) (r : Int32) (hf : f_X12_shining_29 h k4 l0 l2 s0 s1 = some r) : V 4 yX12_shining cX12_shining 3 (some .int) [] none 29 [(0, .ref l0), (2, .int l2)] [.int s0, .int s1] h (oI h r) := by
  unfold f_X12_shining_29 at hf
  refine V.ior dX12_shining_29 ?_
  refine V.istore_n (lv' := [(1, .int (s1 ||| s0)), (0, .ref l0), (2, .int l2)]) dX12_shining_30 rfl (by decide) rfl ?_
  refine V.iinc (v := (l2 + 1)) (lv' := [(2, .int (l2 + 1)), (1, .int (s1 ||| s0)), (0, .ref l0)]) dX12_shining_31 2 rfl rfl (Nat.le_of_ble_eq_true rfl) rfl ?_
  refine V.goto (tgt := 4) dX12_shining_34 (by decide) ?_
  refine V.sub [2, 1, 0] rfl ?_
  exact hk4 _ _ _ _ hf

set_option maxRecDepth 20000 in
theorem w_X12_shining_4 (h : xH) : ∀ (n : Nat) (l0 : Nat) (l1 : Int32) (l2 : Int32) (r : Int32), f_X12_shining_4 h n l0 l1 l2 = some r → V 4 yX12_shining cX12_shining 3 (some .int) [] none 4 [(0, .ref l0), (1, .int l1), (2, .int l2)] [] h (oI h r) := by
  intro n
  induction n with
  | zero => intro l0 l1 l2 r hf; cases hf
  | succ n ih =>
    intro l0 l1 l2 r hf
    rw [f_X12_shining_4] at hf
    refine V.iload_n dX12_shining_4 rfl 2 rfl ?_
    refine V.aload_n dX12_shining_5 rfl 0 rfl ?_
    obtain ⟨q1, e1, hf⟩ := bS hf
    obtain ⟨r2, e2, hf⟩ := bS hf
    refine V.callV (As := []) (st := [.int l2]) dX12_shining_6 cl_RX12_228 sw_yX12_rooms (by decide) rfl (Nat.le_of_ble_eq_true rfl) rfl (gO_some e1) rfl (w_X12_rooms _ _ _ e2) ?_
    refine V.icmp_ge (tgt := 37) dX12_shining_9 (by decide) (fun c3 => ?_) (fun c3 => ?_)
    · rw [if_pos c3] at hf
      refine V.iload_n dX12_shining_37 rfl 1 rfl ?_
      obtain rfl := Option.some.inj hf
      exact V.iret dX12_shining_38
    · rw [if_neg c3] at hf
      refine V.iload_n dX12_shining_12 rfl 1 rfl ?_
      refine V.aload_n dX12_shining_13 rfl 0 rfl ?_
      obtain ⟨v4, e3, hf⟩ := bS hf
      refine V.xgR dX12_shining_14 fl_RX12_33 e3 ?_
      refine V.iload_n dX12_shining_17 rfl 2 rfl ?_
      obtain ⟨v5, e4, hf⟩ := bS hf
      refine V.xldI dX12_shining_18 e4 ?_
      refine V.if_le (tgt := 28) dX12_shining_19 (by decide) (fun c6 => ?_) (fun c6 => ?_)
      · rw [if_pos c6] at hf
        refine V.iconst (v := (0 : Int32)) dX12_shining_28 (by decide) ?_
        refine V.sub [0, 2] rfl ?_
        exact w_X12_shining_29 _ ih _ _ _ _ _ hf
      · rw [if_neg c6] at hf
        refine V.iconst (v := (1 : Int32)) dX12_shining_22 (by decide) ?_
        refine V.iload_n dX12_shining_23 rfl 2 rfl ?_
        refine V.ishl dX12_shining_24 ?_
        refine V.goto (tgt := 29) dX12_shining_25 (by decide) ?_
        refine V.sub [0, 2] rfl ?_
        exact w_X12_shining_29 _ ih _ _ _ _ _ hf

set_option maxRecDepth 20000 in
theorem w_X12_shining (h : xH) (l0 : Nat) (r : Int32) (hf : f_X12_shining h l0 = some r) : Ev 4 yX12_shining cX12_shining 3 (some .int) [] [.ref l0] h (oI h r) := by
  refine Ev.of (by decide +kernel) (Nat.le_of_ble_eq_true rfl) ?_
  unfold f_X12_shining at hf
  refine V.iconst (v := (0 : Int32)) dX12_shining_0 (by decide) ?_
  refine V.istore_n (lv' := [(1, .int (0 : Int32)), (0, .ref l0)]) dX12_shining_1 rfl (by decide) rfl ?_
  refine V.iconst (v := (0 : Int32)) dX12_shining_2 (by decide) ?_
  refine V.istore_n (lv' := [(2, .int (0 : Int32)), (1, .int (0 : Int32)), (0, .ref l0)]) dX12_shining_3 rfl (by decide) rfl ?_
  refine V.sub [2, 1, 0] rfl ?_
  exact w_X12_shining_4 h _ _ _ _ _ hf

def f_X12_angry_67 (k27 : xH → Nat → Int32 → Int32 → Option (Int32 × xH)) (h : xH) (l0 : Nat) (l3 : Int32) (s0 : Int32) (s1 : Int32) : Option (Int32 × xH) := k27 h l0 (s1 ||| s0) (l3 + 1)
def f_X12_angry_27 : Nat → xH → Nat → Int32 → Int32 → Option (Int32 × xH)
  | 0, _, _, _, _ => none
  | n + 1, h, l0, l2, l3 => (gO h l0 12).bind fun q1 => (f_X12_rooms h l0).bind fun r2 => (if r2 ≤ l3 then (some ((l2, h))) else ((gO h l0 12).bind fun q4 => (f_X12_nextOf h l0 l3).bind fun r5 => (gO h l0 12).bind fun q6 => (f_X12_shining h l0).bind fun r7 => (gR h l0 12 0).bind fun v8 => (ldI h .int v8 ((432 : Int32) + l3)).bind fun v9 => (if ((r5 &&& r7) &&& v9) = 0 then (f_X12_angry_67 (f_X12_angry_27 n) h l0 l3 (0 : Int32) l2) else (f_X12_angry_67 (f_X12_angry_27 n) h l0 l3 ((1 : Int32) <<< (l3 &&& 31)) l2))))
def f_X12_angry (h : xH) (l0 : Nat) (l1 : Int32) : Option (Int32 × xH) := (pF h l0 12 4 (.int (0 : Int32))).bind fun h1 => (f_X12_isHour h1 l1).bind fun r2 => (if r2 = 0 then ((gO h1 l0 12).bind fun q6 => (f_X12_fails h1 l0 (1 : Int32)).bind fun r7 => some ((r7.1, r7.2))) else ((gO h1 l0 12).bind fun q4 => (f_X12_layShine h1 l0 l1).bind fun r5 => f_X12_angry_27 xFU r5 l0 (0 : Int32) (0 : Int32)))
set_option maxRecDepth 20000 in
theorem w_X12_angry_67 (h : xH) {k27 : xH → Nat → Int32 → Int32 → Option (Int32 × xH)} (hk27 : ∀ (h : xH) (l0 : Nat) (l2 : Int32) (l3 : Int32) (r : Int32 × xH), k27 h l0 l2 l3 = some r → V 5 yX12_angry cX12_angry 4 (some .int) [] none 27 [(0, .ref l0), (2, .int l2), (3, .int l3)] [] h (oIh r)) (l0 : Nat) (l3 : Int32) (s0 : Int32) (s1 : Int32) (r : Int32 × xH) (hf : f_X12_angry_67 k27 h l0 l3 s0 s1 = some r) : V 5 yX12_angry cX12_angry 4 (some .int) [] none 67 [(0, .ref l0), (3, .int l3)] [.int s0, .int s1] h (oIh r) := by
  unfold f_X12_angry_67 at hf
  refine V.ior dX12_angry_67 ?_
  refine V.istore_n (lv' := [(2, .int (s1 ||| s0)), (0, .ref l0), (3, .int l3)]) dX12_angry_68 rfl (by decide) rfl ?_
  refine V.iinc (v := (l3 + 1)) (lv' := [(3, .int (l3 + 1)), (2, .int (s1 ||| s0)), (0, .ref l0)]) dX12_angry_69 2 rfl rfl (Nat.le_of_ble_eq_true rfl) rfl ?_
  refine V.goto (tgt := 27) dX12_angry_72 (by decide) ?_
  refine V.sub [2, 1, 0] rfl ?_
  exact hk27 _ _ _ _ _ hf

set_option maxRecDepth 20000 in
theorem w_X12_angry_27 : ∀ (n : Nat) (h : xH) (l0 : Nat) (l2 : Int32) (l3 : Int32) (r : Int32 × xH), f_X12_angry_27 n h l0 l2 l3 = some r → V 5 yX12_angry cX12_angry 4 (some .int) [] none 27 [(0, .ref l0), (2, .int l2), (3, .int l3)] [] h (oIh r) := by
  intro n
  induction n with
  | zero => intro h l0 l2 l3 r hf; cases hf
  | succ n ih =>
    intro h l0 l2 l3 r hf
    rw [f_X12_angry_27] at hf
    refine V.iload_n dX12_angry_27 rfl 2 rfl ?_
    refine V.aload_n dX12_angry_28 rfl 0 rfl ?_
    obtain ⟨q1, e1, hf⟩ := bS hf
    obtain ⟨r2, e2, hf⟩ := bS hf
    refine V.callV (As := []) (st := [.int l3]) dX12_angry_29 cl_RX12_228 sw_yX12_rooms (by decide) rfl (Nat.le_of_ble_eq_true rfl) rfl (gO_some e1) rfl (w_X12_rooms _ _ _ e2) ?_
    refine V.icmp_ge (tgt := 75) dX12_angry_32 (by decide) (fun c3 => ?_) (fun c3 => ?_)
    · rw [if_pos c3] at hf
      refine V.iload_n dX12_angry_75 rfl 1 rfl ?_
      obtain rfl := Option.some.inj hf
      exact V.iret dX12_angry_76
    · rw [if_neg c3] at hf
      refine V.iload_n dX12_angry_35 rfl 1 rfl ?_
      refine V.aload_n dX12_angry_36 rfl 0 rfl ?_
      refine V.iload_n dX12_angry_37 rfl 2 rfl ?_
      obtain ⟨q4, e3, hf⟩ := bS hf
      obtain ⟨r5, e4, hf⟩ := bS hf
      refine V.callV (As := [.int l3]) (st := [.int l2]) dX12_angry_38 cl_RX12_243 sw_yX12_nextOf (by decide) rfl (Nat.le_of_ble_eq_true rfl) rfl (gO_some e3) rfl (w_X12_nextOf _ _ _ _ e4) ?_
      refine V.aload_n dX12_angry_41 rfl 0 rfl ?_
      obtain ⟨q6, e5, hf⟩ := bS hf
      obtain ⟨r7, e6, hf⟩ := bS hf
      refine V.callV (As := []) (st := [.int r5, .int l2]) dX12_angry_42 cl_RX12_276 sw_yX12_shining (by decide) rfl (Nat.le_of_ble_eq_true rfl) rfl (gO_some e5) rfl (w_X12_shining _ _ _ e6) ?_
      refine V.iand dX12_angry_45 ?_
      refine V.aload_n dX12_angry_46 rfl 0 rfl ?_
      obtain ⟨v8, e7, hf⟩ := bS hf
      refine V.xgR dX12_angry_47 fl_RX12_9 e7 ?_
      refine V.sipush (v := (432 : Int32)) dX12_angry_50 (by decide) ?_
      refine V.iload_n dX12_angry_53 rfl 2 rfl ?_
      refine V.iadd dX12_angry_54 ?_
      obtain ⟨v9, e8, hf⟩ := bS hf
      refine V.xldI dX12_angry_55 e8 ?_
      refine V.iand dX12_angry_56 ?_
      refine V.if_eq (tgt := 66) dX12_angry_57 (by decide) (fun c10 => ?_) (fun c10 => ?_)
      · rw [if_pos c10] at hf
        refine V.iconst (v := (0 : Int32)) dX12_angry_66 (by decide) ?_
        refine V.sub [0, 2] rfl ?_
        exact w_X12_angry_67 _ ih _ _ _ _ _ hf
      · rw [if_neg c10] at hf
        refine V.iconst (v := (1 : Int32)) dX12_angry_60 (by decide) ?_
        refine V.iload_n dX12_angry_61 rfl 2 rfl ?_
        refine V.ishl dX12_angry_62 ?_
        refine V.goto (tgt := 67) dX12_angry_63 (by decide) ?_
        refine V.sub [0, 2] rfl ?_
        exact w_X12_angry_67 _ ih _ _ _ _ _ hf

set_option maxRecDepth 20000 in
theorem w_X12_angry (h : xH) (l0 : Nat) (l1 : Int32) (r : Int32 × xH) (hf : f_X12_angry h l0 l1 = some r) : Ev 5 yX12_angry cX12_angry 4 (some .int) [] [.ref l0, .int l1] h (oIh r) := by
  refine Ev.of (by decide +kernel) (Nat.le_of_ble_eq_true rfl) ?_
  unfold f_X12_angry at hf
  refine V.aload_n dX12_angry_0 rfl 0 rfl ?_
  refine V.iconst (v := (0 : Int32)) dX12_angry_1 (by decide) ?_
  obtain ⟨h1, e9, hf⟩ := bS hf
  refine V.xpF dX12_angry_2 fl_RX12_75 (fun h9 => nomatch h9) (fun _ => rfl) (fun _ => rfl) e9 ?_
  refine V.iload_n dX12_angry_5 rfl 1 rfl ?_
  obtain ⟨r2, e10, hf⟩ := bS hf
  refine V.callS (As := [.int l1]) (st := []) dX12_angry_6 cl_RX12_270 sw_yX12_isHour (by decide) rfl (Nat.le_of_ble_eq_true rfl) rfl (w_X12_isHour _ _ _ e10) ?_
  refine V.if_ne (tgt := 18) dX12_angry_9 (by decide) (fun c3 => ?_) (fun c3 => ?_)
  · rw [if_neg c3] at hf
    refine V.aload_n dX12_angry_18 rfl 0 rfl ?_
    refine V.iload_n dX12_angry_19 rfl 1 rfl ?_
    obtain ⟨q4, e11, hf⟩ := bS hf
    obtain ⟨r5, e12, hf⟩ := bS hf
    refine V.callV (As := [.int l1]) (st := []) dX12_angry_20 cl_RX12_256 sw_yX12_layShine (by decide) rfl (Nat.le_of_ble_eq_true rfl) rfl (gO_some e11) rfl (w_X12_layShine _ _ _ _ e12) ?_
    refine V.iconst (v := (0 : Int32)) dX12_angry_23 (by decide) ?_
    refine V.istore_n (lv' := [(2, .int (0 : Int32)), (0, .ref l0), (1, .int l1)]) dX12_angry_24 rfl (by decide) rfl ?_
    refine V.iconst (v := (0 : Int32)) dX12_angry_25 (by decide) ?_
    refine V.istore_n (lv' := [(3, .int (0 : Int32)), (2, .int (0 : Int32)), (0, .ref l0), (1, .int l1)]) dX12_angry_26 rfl (by decide) rfl ?_
    refine V.sub [2, 1, 0] rfl ?_
    exact w_X12_angry_27 _ _ _ _ _ _ hf
  · rw [if_pos c3] at hf
    refine V.aload_n dX12_angry_12 rfl 0 rfl ?_
    refine V.iconst (v := (1 : Int32)) dX12_angry_13 (by decide) ?_
    obtain ⟨q6, e13, hf⟩ := bS hf
    obtain ⟨r7, e14, hf⟩ := bS hf
    refine V.callV (As := [.int (1 : Int32)]) (st := []) dX12_angry_14 cl_RX12_219 sw_yX12_fails (by decide) rfl (Nat.le_of_ble_eq_true rfl) rfl (gO_some e13) rfl (w_X12_fails _ _ _ _ e14) ?_
    obtain rfl := Option.some.inj hf
    exact V.iret dX12_angry_17

def f_X12_isRoom (h : xH) (l0 : Nat) (l1 : Int32) : Option (Int32) := (gO h l0 12).bind fun q1 => (f_X12_rooms h l0).bind fun r2 => (f_X12_within h (Int32.toInt64 l1) (0 : Int64) (Int32.toInt64 (r2 - (1 : Int32)))).bind fun r3 => (if narrow .boolean (.int r3) = .int r3 then some r3 else none)
set_option maxRecDepth 20000 in
theorem w_X12_isRoom (h : xH) (l0 : Nat) (l1 : Int32) (r : Int32) (hf : f_X12_isRoom h l0 l1 = some r) : Ev 4 yX12_isRoom cX12_isRoom 2 (some .boolean) [] [.ref l0, .int l1] h (oI h r) := by
  refine Ev.of (by decide +kernel) (Nat.le_of_ble_eq_true rfl) ?_
  unfold f_X12_isRoom at hf
  refine V.iload_n dX12_isRoom_0 rfl 1 rfl ?_
  refine V.i2l dX12_isRoom_1 ?_
  refine V.lconst (v := 0) dX12_isRoom_2 (by decide) ?_
  refine V.aload_n dX12_isRoom_3 rfl 0 rfl ?_
  obtain ⟨q1, e1, hf⟩ := bS hf
  obtain ⟨r2, e2, hf⟩ := bS hf
  refine V.callV (As := []) (st := [.long (0 : Int64), .long (Int32.toInt64 l1)]) dX12_isRoom_4 cl_RX12_228 sw_yX12_rooms (by decide) rfl (Nat.le_of_ble_eq_true rfl) rfl (gO_some e1) rfl (w_X12_rooms _ _ _ e2) ?_
  refine V.iconst (v := (1 : Int32)) dX12_isRoom_7 (by decide) ?_
  refine V.isub dX12_isRoom_8 ?_
  refine V.i2l dX12_isRoom_9 ?_
  obtain ⟨r3, e3, hf⟩ := bS hf
  refine V.callS (As := [.long (Int32.toInt64 l1), .long (0 : Int64), .long (Int32.toInt64 (r2 - (1 : Int32)))]) (st := []) dX12_isRoom_10 cl_RX12_134 sw_yX12_within (by decide) rfl (Nat.le_of_ble_eq_true rfl) rfl (w_X12_within _ _ _ _ _ e3) ?_
  by_cases c4 : narrow .boolean (.int r3) = .int r3
  · rw [if_pos c4] at hf
    obtain rfl := Option.some.inj hf
    exact V.zret dX12_isRoom_13 c4
  · rw [if_neg c4] at hf
    cases hf

def f_X12_barred_63 (k34 : xH → Nat → Int32 → Int32 → Int32 → Option (Int32 × xH)) (h : xH) (l0 : Nat) (l1 : Int32) (l2 : Int32) (l3 : Int32) : Option (Int32 × xH) := (gO h l0 12).bind fun q1 => (f_X12_all h l0).bind fun r2 => (gO h l0 12).bind fun q3 => (f_X12_isLit h l0 l3 r2).bind fun r4 => (if r4 = 0 then (k34 h l0 l1 l2 (l3 + 1)) else ((f_X12_ones h l3).bind fun r6 => k34 h l0 l1 r6 (l3 + 1)))
def f_X12_barred_34 : Nat → xH → Nat → Int32 → Int32 → Int32 → Option (Int32 × xH)
  | 0, _, _, _, _, _ => none
  | n + 1, h, l0, l1, l2, l3 => (gO h l0 12).bind fun q1 => (f_X12_all h l0).bind fun r2 => (if r2 < l3 then (some ((l2, h))) else ((f_X12_has h l3 l1).bind fun r4 => (if r4 = 0 then ((if l2 = (-1 : Int32) then (f_X12_barred_63 (f_X12_barred_34 n) h l0 l1 l2 l3) else ((f_X12_ones h l3).bind fun r7 => (if l2 ≤ r7 then (f_X12_barred_34 n h l0 l1 l2 (l3 + 1)) else (f_X12_barred_63 (f_X12_barred_34 n) h l0 l1 l2 l3))))) else (f_X12_barred_34 n h l0 l1 l2 (l3 + 1)))))
def f_X12_barred_14 (h : xH) (l0 : Nat) (l1 : Int32) (s0 : Int32) (s1 : Nat) : Option (Int32 × xH) := (pF h s1 12 4 (.int s0)).bind fun h1 => (gI h1 l0 12 4).bind fun v2 => (if v2 ≤ 0 then ((gO h1 l0 12).bind fun q4 => (f_X12_layNexts h1 l0).bind fun r5 => f_X12_barred_34 xFU r5 l0 l1 (-1 : Int32) (0 : Int32)) else (some (((0 : Int32), h1))))
def f_X12_barred (h : xH) (l0 : Nat) (l1 : Int32) : Option (Int32 × xH) := (gO h l0 12).bind fun q1 => (f_X12_isRoom h l0 l1).bind fun r2 => (if r2 = 0 then (f_X12_barred_14 h l0 l1 (1 : Int32) l0) else (f_X12_barred_14 h l0 l1 (0 : Int32) l0))
set_option maxRecDepth 20000 in
theorem w_X12_barred_63 (h : xH) {k34 : xH → Nat → Int32 → Int32 → Int32 → Option (Int32 × xH)} (hk34 : ∀ (h : xH) (l0 : Nat) (l1 : Int32) (l2 : Int32) (l3 : Int32) (r : Int32 × xH), k34 h l0 l1 l2 l3 = some r → V 5 yX12_barred cX12_barred 4 (some .int) [] none 34 [(0, .ref l0), (1, .int l1), (2, .int l2), (3, .int l3)] [] h (oIh r)) (l0 : Nat) (l1 : Int32) (l2 : Int32) (l3 : Int32) (r : Int32 × xH) (hf : f_X12_barred_63 k34 h l0 l1 l2 l3 = some r) : V 5 yX12_barred cX12_barred 4 (some .int) [] none 63 [(0, .ref l0), (1, .int l1), (2, .int l2), (3, .int l3)] [] h (oIh r) := by
  unfold f_X12_barred_63 at hf
  refine V.aload_n dX12_barred_63 rfl 0 rfl ?_
  refine V.iload_n dX12_barred_64 rfl 3 rfl ?_
  refine V.aload_n dX12_barred_65 rfl 0 rfl ?_
  obtain ⟨q1, e1, hf⟩ := bS hf
  obtain ⟨r2, e2, hf⟩ := bS hf
  refine V.callV (As := []) (st := [.int l3, .ref l0]) dX12_barred_66 cl_RX12_230 sw_yX12_all (by decide) rfl (Nat.le_of_ble_eq_true rfl) rfl (gO_some e1) rfl (w_X12_all _ _ _ e2) ?_
  obtain ⟨q3, e3, hf⟩ := bS hf
  obtain ⟨r4, e4, hf⟩ := bS hf
  refine V.callV (As := [.int l3, .int r2]) (st := []) dX12_barred_69 cl_RX12_294 sw_yX12_isLit (by decide) rfl (Nat.le_of_ble_eq_true rfl) rfl (gO_some e3) rfl (w_X12_isLit _ _ _ _ _ e4) ?_
  refine V.if_eq (tgt := 80) dX12_barred_72 (by decide) (fun c5 => ?_) (fun c5 => ?_)
  · rw [if_pos c5] at hf
    refine V.iinc (v := (l3 + 1)) (lv' := [(3, .int (l3 + 1)), (0, .ref l0), (1, .int l1), (2, .int l2)]) dX12_barred_80 3 rfl rfl (Nat.le_of_ble_eq_true rfl) rfl ?_
    refine V.goto (tgt := 34) dX12_barred_83 (by decide) ?_
    refine V.sub [1, 2, 3, 0] rfl ?_
    exact hk34 _ _ _ _ _ _ hf
  · rw [if_neg c5] at hf
    refine V.iload_n dX12_barred_75 rfl 3 rfl ?_
    obtain ⟨r6, e5, hf⟩ := bS hf
    refine V.callS (As := [.int l3]) (st := []) dX12_barred_76 cl_RX12_285 sw_yX12_ones (by decide) rfl (Nat.le_of_ble_eq_true rfl) rfl (w_X12_ones _ _ _ e5) ?_
    refine V.istore_n (lv' := [(2, .int r6), (0, .ref l0), (1, .int l1), (3, .int l3)]) dX12_barred_79 rfl (by decide) rfl ?_
    refine V.iinc (v := (l3 + 1)) (lv' := [(3, .int (l3 + 1)), (2, .int r6), (0, .ref l0), (1, .int l1)]) dX12_barred_80 3 rfl rfl (Nat.le_of_ble_eq_true rfl) rfl ?_
    refine V.goto (tgt := 34) dX12_barred_83 (by decide) ?_
    refine V.sub [2, 3, 1, 0] rfl ?_
    exact hk34 _ _ _ _ _ _ hf

set_option maxRecDepth 20000 in
theorem w_X12_barred_34 : ∀ (n : Nat) (h : xH) (l0 : Nat) (l1 : Int32) (l2 : Int32) (l3 : Int32) (r : Int32 × xH), f_X12_barred_34 n h l0 l1 l2 l3 = some r → V 5 yX12_barred cX12_barred 4 (some .int) [] none 34 [(0, .ref l0), (1, .int l1), (2, .int l2), (3, .int l3)] [] h (oIh r) := by
  intro n
  induction n with
  | zero => intro h l0 l1 l2 l3 r hf; cases hf
  | succ n ih =>
    intro h l0 l1 l2 l3 r hf
    rw [f_X12_barred_34] at hf
    refine V.iload_n dX12_barred_34 rfl 3 rfl ?_
    refine V.aload_n dX12_barred_35 rfl 0 rfl ?_
    obtain ⟨q1, e6, hf⟩ := bS hf
    obtain ⟨r2, e7, hf⟩ := bS hf
    refine V.callV (As := []) (st := [.int l3]) dX12_barred_36 cl_RX12_230 sw_yX12_all (by decide) rfl (Nat.le_of_ble_eq_true rfl) rfl (gO_some e6) rfl (w_X12_all _ _ _ e7) ?_
    refine V.icmp_gt (tgt := 86) dX12_barred_39 (by decide) (fun c3 => ?_) (fun c3 => ?_)
    · rw [if_pos c3] at hf
      refine V.iload_n dX12_barred_86 rfl 2 rfl ?_
      obtain rfl := Option.some.inj hf
      exact V.iret dX12_barred_87
    · rw [if_neg c3] at hf
      refine V.iload_n dX12_barred_42 rfl 3 rfl ?_
      refine V.iload_n dX12_barred_43 rfl 1 rfl ?_
      obtain ⟨r4, e8, hf⟩ := bS hf
      refine V.callS (As := [.int l3, .int l1]) (st := []) dX12_barred_44 cl_RX12_246 sw_yX12_has (by decide) rfl (Nat.le_of_ble_eq_true rfl) rfl (w_X12_has _ _ _ _ e8) ?_
      refine V.if_ne (tgt := 80) dX12_barred_47 (by decide) (fun c5 => ?_) (fun c5 => ?_)
      · rw [if_neg c5] at hf
        refine V.iinc (v := (l3 + 1)) (lv' := [(3, .int (l3 + 1)), (0, .ref l0), (1, .int l1), (2, .int l2)]) dX12_barred_80 3 rfl rfl (Nat.le_of_ble_eq_true rfl) rfl ?_
        refine V.goto (tgt := 34) dX12_barred_83 (by decide) ?_
        refine V.sub [1, 2, 3, 0] rfl ?_
        exact ih _ _ _ _ _ _ hf
      · rw [if_pos c5] at hf
        refine V.iload_n dX12_barred_50 rfl 2 rfl ?_
        refine V.iconst (v := (-1 : Int32)) dX12_barred_51 (by decide) ?_
        refine V.icmp_eq (tgt := 63) dX12_barred_52 (by decide) (fun c6 => ?_) (fun c6 => ?_)
        · rw [if_pos c6] at hf
          exact w_X12_barred_63 _ ih _ _ _ _ _ hf
        · rw [if_neg c6] at hf
          refine V.iload_n dX12_barred_55 rfl 3 rfl ?_
          obtain ⟨r7, e9, hf⟩ := bS hf
          refine V.callS (As := [.int l3]) (st := []) dX12_barred_56 cl_RX12_285 sw_yX12_ones (by decide) rfl (Nat.le_of_ble_eq_true rfl) rfl (w_X12_ones _ _ _ e9) ?_
          refine V.iload_n dX12_barred_59 rfl 2 rfl ?_
          refine V.icmp_ge (tgt := 80) dX12_barred_60 (by decide) (fun c8 => ?_) (fun c8 => ?_)
          · rw [if_pos c8] at hf
            refine V.iinc (v := (l3 + 1)) (lv' := [(3, .int (l3 + 1)), (0, .ref l0), (1, .int l1), (2, .int l2)]) dX12_barred_80 3 rfl rfl (Nat.le_of_ble_eq_true rfl) rfl ?_
            refine V.goto (tgt := 34) dX12_barred_83 (by decide) ?_
            refine V.sub [1, 2, 3, 0] rfl ?_
            exact ih _ _ _ _ _ _ hf
          · rw [if_neg c8] at hf
            exact w_X12_barred_63 _ ih _ _ _ _ _ hf

set_option maxRecDepth 20000 in
theorem w_X12_barred_14 (h : xH) (l0 : Nat) (l1 : Int32) (s0 : Int32) (s1 : Nat) (r : Int32 × xH) (hf : f_X12_barred_14 h l0 l1 s0 s1 = some r) : V 5 yX12_barred cX12_barred 4 (some .int) [] none 14 [(0, .ref l0), (1, .int l1)] [.int s0, .ref s1] h (oIh r) := by
  unfold f_X12_barred_14 at hf
  obtain ⟨h1, e10, hf⟩ := bS hf
  refine V.xpF dX12_barred_14 fl_RX12_75 (fun h9 => nomatch h9) (fun _ => rfl) (fun _ => rfl) e10 ?_
  refine V.aload_n dX12_barred_17 rfl 0 rfl ?_
  obtain ⟨v2, e11, hf⟩ := bS hf
  refine V.xgI dX12_barred_18 fl_RX12_75 e11 ?_
  refine V.if_le (tgt := 26) dX12_barred_21 (by decide) (fun c3 => ?_) (fun c3 => ?_)
  · rw [if_pos c3] at hf
    refine V.aload_n dX12_barred_26 rfl 0 rfl ?_
    obtain ⟨q4, e12, hf⟩ := bS hf
    obtain ⟨r5, e13, hf⟩ := bS hf
    refine V.callV (As := []) (st := []) dX12_barred_27 cl_RX12_291 sw_yX12_layNexts (by decide) rfl (Nat.le_of_ble_eq_true rfl) rfl (gO_some e12) rfl (w_X12_layNexts _ _ _ e13) ?_
    refine V.iconst (v := (-1 : Int32)) dX12_barred_30 (by decide) ?_
    refine V.istore_n (lv' := [(2, .int (-1 : Int32)), (0, .ref l0), (1, .int l1)]) dX12_barred_31 rfl (by decide) rfl ?_
    refine V.iconst (v := (0 : Int32)) dX12_barred_32 (by decide) ?_
    refine V.istore_n (lv' := [(3, .int (0 : Int32)), (2, .int (-1 : Int32)), (0, .ref l0), (1, .int l1)]) dX12_barred_33 rfl (by decide) rfl ?_
    refine V.sub [2, 3, 1, 0] rfl ?_
    exact w_X12_barred_34 _ _ _ _ _ _ _ hf
  · rw [if_neg c3] at hf
    refine V.iconst (v := (0 : Int32)) dX12_barred_24 (by decide) ?_
    obtain rfl := Option.some.inj hf
    exact V.iret dX12_barred_25

set_option maxRecDepth 20000 in
theorem w_X12_barred (h : xH) (l0 : Nat) (l1 : Int32) (r : Int32 × xH) (hf : f_X12_barred h l0 l1 = some r) : Ev 5 yX12_barred cX12_barred 4 (some .int) [] [.ref l0, .int l1] h (oIh r) := by
  refine Ev.of (by decide +kernel) (Nat.le_of_ble_eq_true rfl) ?_
  unfold f_X12_barred at hf
  refine V.aload_n dX12_barred_0 rfl 0 rfl ?_
  refine V.aload_n dX12_barred_1 rfl 0 rfl ?_
  refine V.iload_n dX12_barred_2 rfl 1 rfl ?_
  obtain ⟨q1, e14, hf⟩ := bS hf
  obtain ⟨r2, e15, hf⟩ := bS hf
  refine V.callV (As := [.int l1]) (st := [.ref l0]) dX12_barred_3 cl_RX12_240 sw_yX12_isRoom (by decide) rfl (Nat.le_of_ble_eq_true rfl) rfl (gO_some e14) rfl (w_X12_isRoom _ _ _ _ e15) ?_
  refine V.if_eq (tgt := 13) dX12_barred_6 (by decide) (fun c3 => ?_) (fun c3 => ?_)
  · rw [if_pos c3] at hf
    refine V.iconst (v := (1 : Int32)) dX12_barred_13 (by decide) ?_
    exact w_X12_barred_14 _ _ _ _ _ _ hf
  · rw [if_neg c3] at hf
    refine V.iconst (v := (0 : Int32)) dX12_barred_9 (by decide) ?_
    refine V.goto (tgt := 14) dX12_barred_10 (by decide) ?_
    exact w_X12_barred_14 _ _ _ _ _ _ hf

def f_X12_best_18 (h : xH) (l0 : Nat) (l1 : Int32) (s0 : Int32) (s1 : Nat) : Option (Int32 × xH) := (pF h s1 12 4 (.int s0)).bind fun h1 => (gI h1 l0 12 4).bind fun v2 => (if v2 ≤ 0 then ((gO h1 l0 12).bind fun q4 => (f_X12_layNexts h1 l0).bind fun r5 => (gO r5 l0 12).bind fun q6 => (f_X12_bestOf r5 l0 l1).bind fun r7 => some ((r7, r5))) else (some (((0 : Int32), h1))))
def f_X12_best (h : xH) (l0 : Nat) (l1 : Int32) : Option (Int32 × xH) := (f_X12_within h (Int32.toInt64 l1) (0 : Int64) (3 : Int64)).bind fun r1 => (if r1 = 0 then (f_X12_best_18 h l0 l1 (1 : Int32) l0) else (f_X12_best_18 h l0 l1 (0 : Int32) l0))
set_option maxRecDepth 20000 in
theorem w_X12_best_18 (h : xH) (l0 : Nat) (l1 : Int32) (s0 : Int32) (s1 : Nat) (r : Int32 × xH) (hf : f_X12_best_18 h l0 l1 s0 s1 = some r) : V 8 yX12_best cX12_best 2 (some .int) [] none 18 [(0, .ref l0), (1, .int l1)] [.int s0, .ref s1] h (oIh r) := by
  unfold f_X12_best_18 at hf
  obtain ⟨h1, e1, hf⟩ := bS hf
  refine V.xpF dX12_best_18 fl_RX12_75 (fun h9 => nomatch h9) (fun _ => rfl) (fun _ => rfl) e1 ?_
  refine V.aload_n dX12_best_21 rfl 0 rfl ?_
  obtain ⟨v2, e2, hf⟩ := bS hf
  refine V.xgI dX12_best_22 fl_RX12_75 e2 ?_
  refine V.if_le (tgt := 30) dX12_best_25 (by decide) (fun c3 => ?_) (fun c3 => ?_)
  · rw [if_pos c3] at hf
    refine V.aload_n dX12_best_30 rfl 0 rfl ?_
    obtain ⟨q4, e3, hf⟩ := bS hf
    obtain ⟨r5, e4, hf⟩ := bS hf
    refine V.callV (As := []) (st := []) dX12_best_31 cl_RX12_291 sw_yX12_layNexts (by decide) rfl (Nat.le_of_ble_eq_true rfl) rfl (gO_some e3) rfl (w_X12_layNexts _ _ _ e4) ?_
    refine V.aload_n dX12_best_34 rfl 0 rfl ?_
    refine V.iload_n dX12_best_35 rfl 1 rfl ?_
    obtain ⟨q6, e5, hf⟩ := bS hf
    obtain ⟨r7, e6, hf⟩ := bS hf
    refine V.callV (As := [.int l1]) (st := []) dX12_best_36 cl_RX12_309 sw_yX12_bestOf (by decide) rfl (Nat.le_of_ble_eq_true rfl) rfl (gO_some e5) rfl (w_X12_bestOf _ _ _ _ e6) ?_
    obtain rfl := Option.some.inj hf
    exact V.iret dX12_best_39
  · rw [if_neg c3] at hf
    refine V.iconst (v := (0 : Int32)) dX12_best_28 (by decide) ?_
    obtain rfl := Option.some.inj hf
    exact V.iret dX12_best_29

set_option maxRecDepth 20000 in
theorem w_X12_best (h : xH) (l0 : Nat) (l1 : Int32) (r : Int32 × xH) (hf : f_X12_best h l0 l1 = some r) : Ev 8 yX12_best cX12_best 2 (some .int) [] [.ref l0, .int l1] h (oIh r) := by
  refine Ev.of (by decide +kernel) (Nat.le_of_ble_eq_true rfl) ?_
  unfold f_X12_best at hf
  refine V.aload_n dX12_best_0 rfl 0 rfl ?_
  refine V.iload_n dX12_best_1 rfl 1 rfl ?_
  refine V.i2l dX12_best_2 ?_
  refine V.lconst (v := 0) dX12_best_3 (by decide) ?_
  refine V.ldc2 (v := (3 : Int64)) dX12_best_4 cj_RX12_235 ?_
  obtain ⟨r1, e7, hf⟩ := bS hf
  refine V.callS (As := [.long (Int32.toInt64 l1), .long (0 : Int64), .long (3 : Int64)]) (st := [.ref l0]) dX12_best_7 cl_RX12_134 sw_yX12_within (by decide) rfl (Nat.le_of_ble_eq_true rfl) rfl (w_X12_within _ _ _ _ _ e7) ?_
  refine V.if_eq (tgt := 17) dX12_best_10 (by decide) (fun c2 => ?_) (fun c2 => ?_)
  · rw [if_pos c2] at hf
    refine V.iconst (v := (1 : Int32)) dX12_best_17 (by decide) ?_
    exact w_X12_best_18 _ _ _ _ _ _ hf
  · rw [if_neg c2] at hf
    refine V.iconst (v := (0 : Int32)) dX12_best_13 (by decide) ?_
    refine V.goto (tgt := 18) dX12_best_14 (by decide) ?_
    exact w_X12_best_18 _ _ _ _ _ _ hf

def f_X12_isWanted (h : xH) (l0 : Nat) (l1 : Int32) (l2 : Int32) : Option (Int32) := (gR h l0 12 0).bind fun v1 => (ldI h .int v1 (((256 : Int32) + ((5 : Int32) * l1)) + (3 : Int32))).bind fun v2 => (gR h l0 12 0).bind fun v3 => (ldI h .int v3 (((256 : Int32) + ((5 : Int32) * l1)) + (4 : Int32))).bind fun v4 => (f_X12_within h (Int32.toInt64 l2) (Int32.toInt64 v2) (Int32.toInt64 v4)).bind fun r5 => (if narrow .boolean (.int r5) = .int r5 then some r5 else none)
set_option maxRecDepth 20000 in
theorem w_X12_isWanted (h : xH) (l0 : Nat) (l1 : Int32) (l2 : Int32) (r : Int32) (hf : f_X12_isWanted h l0 l1 l2 = some r) : Ev 4 yX12_isWanted cX12_isWanted 3 (some .boolean) [] [.ref l0, .int l1, .int l2] h (oI h r) := by
  refine Ev.of (by decide +kernel) (Nat.le_of_ble_eq_true rfl) ?_
  unfold f_X12_isWanted at hf
  refine V.iload_n dX12_isWanted_0 rfl 2 rfl ?_
  refine V.i2l dX12_isWanted_1 ?_
  refine V.aload_n dX12_isWanted_2 rfl 0 rfl ?_
  obtain ⟨v1, e1, hf⟩ := bS hf
  refine V.xgR dX12_isWanted_3 fl_RX12_9 e1 ?_
  refine V.sipush (v := (256 : Int32)) dX12_isWanted_6 (by decide) ?_
  refine V.iconst (v := (5 : Int32)) dX12_isWanted_9 (by decide) ?_
  refine V.iload_n dX12_isWanted_10 rfl 1 rfl ?_
  refine V.imul dX12_isWanted_11 ?_
  refine V.iadd dX12_isWanted_12 ?_
  refine V.iconst (v := (3 : Int32)) dX12_isWanted_13 (by decide) ?_
  refine V.iadd dX12_isWanted_14 ?_
  obtain ⟨v2, e2, hf⟩ := bS hf
  refine V.xldI dX12_isWanted_15 e2 ?_
  refine V.i2l dX12_isWanted_16 ?_
  refine V.aload_n dX12_isWanted_17 rfl 0 rfl ?_
  obtain ⟨v3, e3, hf⟩ := bS hf
  refine V.xgR dX12_isWanted_18 fl_RX12_9 e3 ?_
  refine V.sipush (v := (256 : Int32)) dX12_isWanted_21 (by decide) ?_
  refine V.iconst (v := (5 : Int32)) dX12_isWanted_24 (by decide) ?_
  refine V.iload_n dX12_isWanted_25 rfl 1 rfl ?_
  refine V.imul dX12_isWanted_26 ?_
  refine V.iadd dX12_isWanted_27 ?_
  refine V.iconst (v := (4 : Int32)) dX12_isWanted_28 (by decide) ?_
  refine V.iadd dX12_isWanted_29 ?_
  obtain ⟨v4, e4, hf⟩ := bS hf
  refine V.xldI dX12_isWanted_30 e4 ?_
  refine V.i2l dX12_isWanted_31 ?_
  obtain ⟨r5, e5, hf⟩ := bS hf
  refine V.callS (As := [.long (Int32.toInt64 l2), .long (Int32.toInt64 v2), .long (Int32.toInt64 v4)]) (st := []) dX12_isWanted_32 cl_RX12_134 sw_yX12_within (by decide) rfl (Nat.le_of_ble_eq_true rfl) rfl (w_X12_within _ _ _ _ _ e5) ?_
  by_cases c6 : narrow .boolean (.int r5) = .int r5
  · rw [if_pos c6] at hf
    obtain rfl := Option.some.inj hf
    exact V.zret dX12_isWanted_35 c6
  · rw [if_neg c6] at hf
    cases hf

