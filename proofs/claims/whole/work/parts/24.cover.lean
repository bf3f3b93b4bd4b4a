def f_X2_init (h : xH) (l0 : Nat) : Option (xH) := (pF h l0 2 0 (.int (0 : Int32))).bind fun h1 => (mkI h1 .int (16 : Int32)).bind fun h2 => (pF h2 l0 2 1 (.ref (h1.1.length))).bind fun h3 => (mkI h3 .int (17 : Int32)).bind fun h4 => (pF h4 l0 2 2 (.ref (h3.1.length))).bind fun h5 => (mkI h5 .int (17 : Int32)).bind fun h6 => (pF h6 l0 2 3 (.ref (h5.1.length))).bind fun h7 => (mkI h7 .int (17 : Int32)).bind fun h8 => (pF h8 l0 2 4 (.ref (h7.1.length))).bind fun h9 => (mkI h9 .int (16 : Int32)).bind fun h10 => (pF h10 l0 2 5 (.ref (h9.1.length))).bind fun h11 => some (h11)
set_option maxRecDepth 20000 in
theorem w_X2_init (h : xH) (l0 : Nat) (r : xH) (hf : f_X2_init h l0 = some r) : Ev 4 yX2_init cX2_init 1 none [] [.ref l0] h (oVh r) := by
  refine Ev.of (by decide +kernel) (Nat.le_of_ble_eq_true rfl) ?_
  unfold f_X2_init at hf
  refine V.aload_n dX2_init_0 rfl 0 rfl ?_
  refine V.objInit dX2_init_1 oi_RX2_3 oi_inst oi_code (Nat.le_of_ble_eq_true rfl) ?_
  refine V.aload_n dX2_init_4 rfl 0 rfl ?_
  refine V.iconst (v := (0 : Int32)) dX2_init_5 (by decide) ?_
  obtain ⟨h1, e1, hf⟩ := bS hf
  refine V.xpF dX2_init_6 fl_RX2_9 (fun h9 => nomatch h9) (fun _ => rfl) (fun _ => rfl) e1 ?_
  refine V.aload_n dX2_init_9 rfl 0 rfl ?_
  refine V.bipush (v := (16 : Int32)) dX2_init_10 (by decide) ?_
  obtain ⟨h2, e2, hf⟩ := bS hf
  refine V.xmkI dX2_init_12 rfl rfl aw_int (by decide) e2 ?_
  obtain ⟨h3, e3, hf⟩ := bS hf
  refine V.xpF dX2_init_14 fl_RX2_15 (fun _ => rfl) (fun _ => rfl) (fun _ => rfl) e3 ?_
  refine V.aload_n dX2_init_17 rfl 0 rfl ?_
  refine V.bipush (v := (17 : Int32)) dX2_init_18 (by decide) ?_
  obtain ⟨h4, e4, hf⟩ := bS hf
  refine V.xmkI dX2_init_20 rfl rfl aw_int (by decide) e4 ?_
  obtain ⟨h5, e5, hf⟩ := bS hf
  refine V.xpF dX2_init_22 fl_RX2_19 (fun _ => rfl) (fun _ => rfl) (fun _ => rfl) e5 ?_
  refine V.aload_n dX2_init_25 rfl 0 rfl ?_
  refine V.bipush (v := (17 : Int32)) dX2_init_26 (by decide) ?_
  obtain ⟨h6, e6, hf⟩ := bS hf
  refine V.xmkI dX2_init_28 rfl rfl aw_int (by decide) e6 ?_
  obtain ⟨h7, e7, hf⟩ := bS hf
  refine V.xpF dX2_init_30 fl_RX2_22 (fun _ => rfl) (fun _ => rfl) (fun _ => rfl) e7 ?_
  refine V.aload_n dX2_init_33 rfl 0 rfl ?_
  refine V.bipush (v := (17 : Int32)) dX2_init_34 (by decide) ?_
  obtain ⟨h8, e8, hf⟩ := bS hf
  refine V.xmkI dX2_init_36 rfl rfl aw_int (by decide) e8 ?_
  obtain ⟨h9, e9, hf⟩ := bS hf
  refine V.xpF dX2_init_38 fl_RX2_25 (fun _ => rfl) (fun _ => rfl) (fun _ => rfl) e9 ?_
  refine V.aload_n dX2_init_41 rfl 0 rfl ?_
  refine V.bipush (v := (16 : Int32)) dX2_init_42 (by decide) ?_
  obtain ⟨h10, e10, hf⟩ := bS hf
  refine V.xmkI dX2_init_44 rfl rfl aw_int (by decide) e10 ?_
  obtain ⟨h11, e11, hf⟩ := bS hf
  refine V.xpF dX2_init_46 fl_RX2_28 (fun _ => rfl) (fun _ => rfl) (fun _ => rfl) e11 ?_
  obtain rfl := Option.some.inj hf
  exact V.vret dX2_init_49

def f_X2_seek (h : xH) : Nat → Nat → Int32 → Int32 → Int32 → Int32 → Option (Int32)
  | 0, _, _, _, _, _ => none
  | n + 1, l0, l1, l2, l3, l4 => (if (l2 ||| l3) = 0 then (some ((0 : Int32))) else ((if l1 ≤ 0 then (some ((-1 : Int32))) else ((gR h l0 2 2).bind fun v3 => (ldI h .int v3 l1).bind fun v4 => (if ((l2 ||| l3) &&& (v4 ^^^ (-1 : Int32))) = 0 then ((gR h l0 2 3).bind fun v6 => (ldI h .int v6 l1).bind fun v7 => (if (l3 &&& (v7 ^^^ (-1 : Int32))) = 0 then ((f_J6_bitCount_0f7a4 h l2).bind fun r9 => (f_J6_bitCount_0f7a4 h l3).bind fun r10 => (gR h l0 2 4).bind fun v11 => (ldI h .int v11 l1).bind fun v12 => (if (r9 + ((2 : Int32) * r10)) ≤ (l4 * v12) then ((f_X2_seek h n l0 (l1 - (1 : Int32)) l2 l3 l4).bind fun r14 => (gR h l0 2 1).bind fun v15 => (ldI h .int v15 (l1 - (1 : Int32))).bind fun v16 => (if r14 = (-1 : Int32) then ((if (v16 &&& (l2 ||| l3)) = 0 then (some (r14)) else ((f_X2_seek h n l0 (l1 - (1 : Int32)) ((l2 &&& (v16 ^^^ (-1 : Int32))) ||| (l3 &&& v16)) (l3 &&& (v16 ^^^ (-1 : Int32))) (l4 - (1 : Int32))).bind fun r19 => (if r19 = (-1 : Int32) then (some ((-1 : Int32))) else (some ((r19 ||| ((1 : Int32) <<< ((l1 - (1 : Int32)) &&& 31))))))))) else (some (r14)))) else (some ((-1 : Int32))))) else (some ((-1 : Int32))))) else (some ((-1 : Int32))))))))
set_option maxRecDepth 20000 in
theorem w_X2_seek (h : xH) : ∀ (n : Nat) (l0 : Nat) (l1 : Int32) (l2 : Int32) (l3 : Int32) (l4 : Int32) (r : Int32), f_X2_seek h n l0 l1 l2 l3 l4 = some r → Ev (n + 4) yX2_seek cX2_seek 7 (some .int) [] [.ref l0, .int l1, .int l2, .int l3, .int l4] h (oI h r) := by
  intro n
  induction n with
  | zero => intro l0 l1 l2 l3 l4 r hf; cases hf
  | succ n ih =>
    intro l0 l1 l2 l3 l4 r hf
    rw [f_X2_seek] at hf
    have hd' : 4 ≤ n + 4 := Nat.le_add_left _ _
    have hks := ih
    rw [Nat.succ_add n 4]
    refine Ev.of (by decide +kernel) (Nat.le_of_ble_eq_true rfl) ?_
    refine V.iload_n dX2_seek_0 rfl 2 rfl ?_
    refine V.iload_n dX2_seek_1 rfl 3 rfl ?_
    refine V.ior dX2_seek_2 ?_
    refine V.if_ne (tgt := 8) dX2_seek_3 (by decide) (fun c1 => ?_) (fun c1 => ?_)
    · rw [if_neg c1] at hf
      refine V.iload_n dX2_seek_8 rfl 1 rfl ?_
      refine V.if_le (tgt := 63) dX2_seek_9 (by decide) (fun c2 => ?_) (fun c2 => ?_)
      · rw [if_pos c2] at hf
        refine V.iconst (v := (-1 : Int32)) dX2_seek_63 (by decide) ?_
        obtain rfl := Option.some.inj hf
        exact V.iret dX2_seek_64
      · rw [if_neg c2] at hf
        refine V.iload_n dX2_seek_12 rfl 2 rfl ?_
        refine V.iload_n dX2_seek_13 rfl 3 rfl ?_
        refine V.ior dX2_seek_14 ?_
        refine V.aload_n dX2_seek_15 rfl 0 rfl ?_
        obtain ⟨v3, e1, hf⟩ := bS hf
        refine V.xgR dX2_seek_16 fl_RX2_19 e1 ?_
        refine V.iload_n dX2_seek_19 rfl 1 rfl ?_
        obtain ⟨v4, e2, hf⟩ := bS hf
        refine V.xldI dX2_seek_20 e2 ?_
        refine V.iconst (v := (-1 : Int32)) dX2_seek_21 (by decide) ?_
        refine V.ixor dX2_seek_22 ?_
        refine V.iand dX2_seek_23 ?_
        refine V.if_ne (tgt := 63) dX2_seek_24 (by decide) (fun c5 => ?_) (fun c5 => ?_)
        · rw [if_neg c5] at hf
          refine V.iconst (v := (-1 : Int32)) dX2_seek_63 (by decide) ?_
          obtain rfl := Option.some.inj hf
          exact V.iret dX2_seek_64
        · rw [if_pos c5] at hf
          refine V.iload_n dX2_seek_27 rfl 3 rfl ?_
          refine V.aload_n dX2_seek_28 rfl 0 rfl ?_
          obtain ⟨v6, e3, hf⟩ := bS hf
          refine V.xgR dX2_seek_29 fl_RX2_22 e3 ?_
          refine V.iload_n dX2_seek_32 rfl 1 rfl ?_
          obtain ⟨v7, e4, hf⟩ := bS hf
          refine V.xldI dX2_seek_33 e4 ?_
          refine V.iconst (v := (-1 : Int32)) dX2_seek_34 (by decide) ?_
          refine V.ixor dX2_seek_35 ?_
          refine V.iand dX2_seek_36 ?_
          refine V.if_ne (tgt := 63) dX2_seek_37 (by decide) (fun c8 => ?_) (fun c8 => ?_)
          · rw [if_neg c8] at hf
            refine V.iconst (v := (-1 : Int32)) dX2_seek_63 (by decide) ?_
            obtain rfl := Option.some.inj hf
            exact V.iret dX2_seek_64
          · rw [if_pos c8] at hf
            refine V.iload_n dX2_seek_40 rfl 2 rfl ?_
            obtain ⟨r9, e5, hf⟩ := bS hf
            refine V.callS (As := [.int l2]) (st := []) dX2_seek_41 cl_RX2_31 sw_yJ6_bitCount_0f7a4 (by omega) rfl (Nat.le_of_ble_eq_true rfl) rfl (w_J6_bitCount_0f7a4 _ _ _ e5) ?_
            refine V.iconst (v := (2 : Int32)) dX2_seek_44 (by decide) ?_
            refine V.iload_n dX2_seek_45 rfl 3 rfl ?_
            obtain ⟨r10, e6, hf⟩ := bS hf
            refine V.callS (As := [.int l3]) (st := [.int (2 : Int32), .int r9]) dX2_seek_46 cl_RX2_31 sw_yJ6_bitCount_0f7a4 (by omega) rfl (Nat.le_of_ble_eq_true rfl) rfl (w_J6_bitCount_0f7a4 _ _ _ e6) ?_
            refine V.imul dX2_seek_49 ?_
            refine V.iadd dX2_seek_50 ?_
            refine V.iload dX2_seek_51 4 rfl ?_
            refine V.aload_n dX2_seek_53 rfl 0 rfl ?_
            obtain ⟨v11, e7, hf⟩ := bS hf
            refine V.xgR dX2_seek_54 fl_RX2_25 e7 ?_
            refine V.iload_n dX2_seek_57 rfl 1 rfl ?_
            obtain ⟨v12, e8, hf⟩ := bS hf
            refine V.xldI dX2_seek_58 e8 ?_
            refine V.imul dX2_seek_59 ?_
            refine V.icmp_le (tgt := 65) dX2_seek_60 (by decide) (fun c13 => ?_) (fun c13 => ?_)
            · rw [if_pos c13] at hf
              refine V.aload_n dX2_seek_65 rfl 0 rfl ?_
              refine V.iload_n dX2_seek_66 rfl 1 rfl ?_
              refine V.iconst (v := (1 : Int32)) dX2_seek_67 (by decide) ?_
              refine V.isub dX2_seek_68 ?_
              refine V.iload_n dX2_seek_69 rfl 2 rfl ?_
              refine V.iload_n dX2_seek_70 rfl 3 rfl ?_
              refine V.iload dX2_seek_71 4 rfl ?_
              obtain ⟨r14, e9, hf⟩ := bS hf
              refine V.callS (As := [.ref l0, .int (l1 - (1 : Int32)), .int l2, .int l3, .int l4]) (st := []) dX2_seek_73 cl_RX2_43 sw_yX2_seek (Nat.le_refl _) rfl (Nat.le_of_ble_eq_true rfl) rfl (hks _ _ _ _ _ _ e9) ?_
              refine V.istore (lv' := [(5, .int r14), (0, .ref l0), (1, .int l1), (2, .int l2), (3, .int l3), (4, .int l4)]) dX2_seek_76 (by decide) rfl ?_
              refine V.aload_n dX2_seek_78 rfl 1 rfl ?_
              obtain ⟨v15, e10, hf⟩ := bS hf
              refine V.xgR dX2_seek_79 fl_RX2_15 e10 ?_
              refine V.iload_n dX2_seek_82 rfl 2 rfl ?_
              refine V.iconst (v := (1 : Int32)) dX2_seek_83 (by decide) ?_
              refine V.isub dX2_seek_84 ?_
              obtain ⟨v16, e11, hf⟩ := bS hf
              refine V.xldI dX2_seek_85 e11 ?_
              refine V.istore (lv' := [(6, .int v16), (5, .int r14), (0, .ref l0), (1, .int l1), (2, .int l2), (3, .int l3), (4, .int l4)]) dX2_seek_86 (by decide) rfl ?_
              refine V.iload dX2_seek_88 1 rfl ?_
              refine V.iconst (v := (-1 : Int32)) dX2_seek_90 (by decide) ?_
              refine V.icmp_ne (tgt := 103) dX2_seek_91 (by decide) (fun c17 => ?_) (fun c17 => ?_)
              · rw [if_neg c17] at hf
                refine V.iload dX2_seek_103 1 rfl ?_
                obtain rfl := Option.some.inj hf
                exact V.iret dX2_seek_105
              · rw [if_pos c17] at hf
                refine V.iload dX2_seek_94 0 rfl ?_
                refine V.iload_n dX2_seek_96 rfl 4 rfl ?_
                refine V.iload_n dX2_seek_97 rfl 5 rfl ?_
                refine V.ior dX2_seek_98 ?_
                refine V.iand dX2_seek_99 ?_
                refine V.if_ne (tgt := 106) dX2_seek_100 (by decide) (fun c18 => ?_) (fun c18 => ?_)
                · rw [if_neg c18] at hf
                  refine V.aload_n dX2_seek_106 rfl 2 rfl ?_
                  refine V.iload_n dX2_seek_107 rfl 3 rfl ?_
                  refine V.iconst (v := (1 : Int32)) dX2_seek_108 (by decide) ?_
                  refine V.isub dX2_seek_109 ?_
                  refine V.iload_n dX2_seek_110 rfl 4 rfl ?_
                  refine V.iload dX2_seek_111 0 rfl ?_
                  refine V.iconst (v := (-1 : Int32)) dX2_seek_113 (by decide) ?_
                  refine V.ixor dX2_seek_114 ?_
                  refine V.iand dX2_seek_115 ?_
                  refine V.iload_n dX2_seek_116 rfl 5 rfl ?_
                  refine V.iload dX2_seek_117 0 rfl ?_
                  refine V.iand dX2_seek_119 ?_
                  refine V.ior dX2_seek_120 ?_
                  refine V.iload_n dX2_seek_121 rfl 5 rfl ?_
                  refine V.iload dX2_seek_122 0 rfl ?_
                  refine V.iconst (v := (-1 : Int32)) dX2_seek_124 (by decide) ?_
                  refine V.ixor dX2_seek_125 ?_
                  refine V.iand dX2_seek_126 ?_
                  refine V.iload dX2_seek_127 6 rfl ?_
                  refine V.iconst (v := (1 : Int32)) dX2_seek_129 (by decide) ?_
                  refine V.isub dX2_seek_130 ?_
                  obtain ⟨r19, e12, hf⟩ := bS hf
                  refine V.callS (As := [.ref l0, .int (l1 - (1 : Int32)), .int ((l2 &&& (v16 ^^^ (-1 : Int32))) ||| (l3 &&& v16)), .int (l3 &&& (v16 ^^^ (-1 : Int32))), .int (l4 - (1 : Int32))]) (st := []) dX2_seek_131 cl_RX2_43 sw_yX2_seek (Nat.le_refl _) rfl (Nat.le_of_ble_eq_true rfl) rfl (hks _ _ _ _ _ _ e12) ?_
                  refine V.istore (lv' := [(5, .int r19), (6, .int v16), (0, .ref l0), (1, .int l1), (2, .int l2), (3, .int l3), (4, .int l4)]) dX2_seek_134 (by decide) rfl ?_
                  refine V.iload dX2_seek_136 0 rfl ?_
                  refine V.iconst (v := (-1 : Int32)) dX2_seek_138 (by decide) ?_
                  refine V.icmp_ne (tgt := 146) dX2_seek_139 (by decide) (fun c20 => ?_) (fun c20 => ?_)
                  · rw [if_neg c20] at hf
                    refine V.iload dX2_seek_146 0 rfl ?_
                    refine V.iconst (v := (1 : Int32)) dX2_seek_148 (by decide) ?_
                    refine V.iload_n dX2_seek_149 rfl 3 rfl ?_
                    refine V.iconst (v := (1 : Int32)) dX2_seek_150 (by decide) ?_
                    refine V.isub dX2_seek_151 ?_
                    refine V.ishl dX2_seek_152 ?_
                    refine V.ior dX2_seek_153 ?_
                    obtain rfl := Option.some.inj hf
                    exact V.iret dX2_seek_154
                  · rw [if_pos c20] at hf
                    refine V.iconst (v := (-1 : Int32)) dX2_seek_142 (by decide) ?_
                    refine V.goto (tgt := 154) dX2_seek_143 (by decide) ?_
                    obtain rfl := Option.some.inj hf
                    exact V.iret dX2_seek_154
                · rw [if_pos c18] at hf
                  refine V.iload dX2_seek_103 1 rfl ?_
                  obtain rfl := Option.some.inj hf
                  exact V.iret dX2_seek_105
            · rw [if_neg c13] at hf
              refine V.iconst (v := (-1 : Int32)) dX2_seek_63 (by decide) ?_
              obtain rfl := Option.some.inj hf
              exact V.iret dX2_seek_64
    · rw [if_pos c1] at hf
      refine V.iconst (v := (0 : Int32)) dX2_seek_6 (by decide) ?_
      obtain rfl := Option.some.inj hf
      exact V.iret dX2_seek_7

def f_X2_fewest_38 (h : xH) : Nat → Nat → Int32 → Int32 → Int32 → Option (Int32)
  | 0, _, _, _, _ => none
  | n + 1, l0, l1, l2, l3 => (gI h l0 2 0).bind fun v1 => (if v1 < l3 then (some ((-1 : Int32))) else ((gI h l0 2 0).bind fun v3 => (f_X2_seek h 40 l0 v3 l1 l2 l3).bind fun r4 => (if r4 = (-1 : Int32) then (f_X2_fewest_38 h n l0 l1 l2 (l3 + 1)) else (some (r4)))))
def f_X2_fewest (h : xH) (l0 : Nat) (l1 : Int32) (l2 : Int32) : Option (Int32) := (gR h l0 2 2).bind fun v1 => (gI h l0 2 0).bind fun v2 => (ldI h .int v1 v2).bind fun v3 => (if ((l1 ||| l2) &&& (v3 ^^^ (-1 : Int32))) = 0 then ((gR h l0 2 3).bind fun v5 => (gI h l0 2 0).bind fun v6 => (ldI h .int v5 v6).bind fun v7 => (if (l2 &&& (v7 ^^^ (-1 : Int32))) = 0 then (f_X2_fewest_38 h xFU l0 l1 l2 (0 : Int32)) else (some ((-1 : Int32))))) else (some ((-1 : Int32))))
set_option maxRecDepth 20000 in
theorem w_X2_fewest_38 (h : xH) : ∀ (n : Nat) (l0 : Nat) (l1 : Int32) (l2 : Int32) (l3 : Int32) (r : Int32), f_X2_fewest_38 h n l0 l1 l2 l3 = some r → V 46 yX2_fewest cX2_fewest 5 (some .int) [] none 38 [(0, .ref l0), (1, .int l1), (2, .int l2), (3, .int l3)] [] h (oI h r) := by
  intro n
  induction n with
  | zero => intro l0 l1 l2 l3 r hf; cases hf
  | succ n ih =>
    intro l0 l1 l2 l3 r hf
    rw [f_X2_fewest_38] at hf
    refine V.iload_n dX2_fewest_38 rfl 3 rfl ?_
    refine V.aload_n dX2_fewest_39 rfl 0 rfl ?_
    obtain ⟨v1, e1, hf⟩ := bS hf
    refine V.xgI dX2_fewest_40 fl_RX2_9 e1 ?_
    refine V.icmp_gt (tgt := 74) dX2_fewest_43 (by decide) (fun c2 => ?_) (fun c2 => ?_)
    · rw [if_pos c2] at hf
      refine V.iconst (v := (-1 : Int32)) dX2_fewest_74 (by decide) ?_
      obtain rfl := Option.some.inj hf
      exact V.iret dX2_fewest_75
    · rw [if_neg c2] at hf
      refine V.aload_n dX2_fewest_46 rfl 0 rfl ?_
      refine V.aload_n dX2_fewest_47 rfl 0 rfl ?_
      obtain ⟨v3, e2, hf⟩ := bS hf
      refine V.xgI dX2_fewest_48 fl_RX2_9 e2 ?_
      refine V.iload_n dX2_fewest_51 rfl 1 rfl ?_
      refine V.iload_n dX2_fewest_52 rfl 2 rfl ?_
      refine V.iload_n dX2_fewest_53 rfl 3 rfl ?_
      obtain ⟨r4, e3, hf⟩ := bS hf
      refine V.callS (As := [.ref l0, .int v3, .int l1, .int l2, .int l3]) (st := []) dX2_fewest_54 cl_RX2_43 sw_yX2_seek (by decide) rfl (Nat.le_of_ble_eq_true rfl) rfl ((w_X2_seek h 40 _ _ _ _ _ _ e3)) ?_
      refine V.istore (lv' := [(4, .int r4), (0, .ref l0), (1, .int l1), (2, .int l2), (3, .int l3)]) dX2_fewest_57 (by decide) rfl ?_
      refine V.iload dX2_fewest_59 0 rfl ?_
      refine V.iconst (v := (-1 : Int32)) dX2_fewest_61 (by decide) ?_
      refine V.icmp_eq (tgt := 68) dX2_fewest_62 (by decide) (fun c5 => ?_) (fun c5 => ?_)
      · rw [if_pos c5] at hf
        refine V.iinc (v := (l3 + 1)) (lv' := [(3, .int (l3 + 1)), (4, .int r4), (0, .ref l0), (1, .int l1), (2, .int l2)]) dX2_fewest_68 4 rfl rfl (Nat.le_of_ble_eq_true rfl) rfl ?_
        refine V.goto (tgt := 38) dX2_fewest_71 (by decide) ?_
        refine V.sub [2, 3, 4, 0] rfl ?_
        exact ih _ _ _ _ _ hf
      · rw [if_neg c5] at hf
        refine V.iload dX2_fewest_65 0 rfl ?_
        obtain rfl := Option.some.inj hf
        exact V.iret dX2_fewest_67

set_option maxRecDepth 20000 in
theorem w_X2_fewest (h : xH) (l0 : Nat) (l1 : Int32) (l2 : Int32) (r : Int32) (hf : f_X2_fewest h l0 l1 l2 = some r) : Ev 46 yX2_fewest cX2_fewest 5 (some .int) [] [.ref l0, .int l1, .int l2] h (oI h r) := by
  refine Ev.of (by decide +kernel) (Nat.le_of_ble_eq_true rfl) ?_
  unfold f_X2_fewest at hf
  refine V.iload_n dX2_fewest_0 rfl 1 rfl ?_
  refine V.iload_n dX2_fewest_1 rfl 2 rfl ?_
  refine V.ior dX2_fewest_2 ?_
  refine V.aload_n dX2_fewest_3 rfl 0 rfl ?_
  obtain ⟨v1, e4, hf⟩ := bS hf
  refine V.xgR dX2_fewest_4 fl_RX2_19 e4 ?_
  refine V.aload_n dX2_fewest_7 rfl 0 rfl ?_
  obtain ⟨v2, e5, hf⟩ := bS hf
  refine V.xgI dX2_fewest_8 fl_RX2_9 e5 ?_
  obtain ⟨v3, e6, hf⟩ := bS hf
  refine V.xldI dX2_fewest_11 e6 ?_
  refine V.iconst (v := (-1 : Int32)) dX2_fewest_12 (by decide) ?_
  refine V.ixor dX2_fewest_13 ?_
  refine V.iand dX2_fewest_14 ?_
  refine V.if_ne (tgt := 34) dX2_fewest_15 (by decide) (fun c4 => ?_) (fun c4 => ?_)
  · rw [if_neg c4] at hf
    refine V.iconst (v := (-1 : Int32)) dX2_fewest_34 (by decide) ?_
    obtain rfl := Option.some.inj hf
    exact V.iret dX2_fewest_35
  · rw [if_pos c4] at hf
    refine V.iload_n dX2_fewest_18 rfl 2 rfl ?_
    refine V.aload_n dX2_fewest_19 rfl 0 rfl ?_
    obtain ⟨v5, e7, hf⟩ := bS hf
    refine V.xgR dX2_fewest_20 fl_RX2_22 e7 ?_
    refine V.aload_n dX2_fewest_23 rfl 0 rfl ?_
    obtain ⟨v6, e8, hf⟩ := bS hf
    refine V.xgI dX2_fewest_24 fl_RX2_9 e8 ?_
    obtain ⟨v7, e9, hf⟩ := bS hf
    refine V.xldI dX2_fewest_27 e9 ?_
    refine V.iconst (v := (-1 : Int32)) dX2_fewest_28 (by decide) ?_
    refine V.ixor dX2_fewest_29 ?_
    refine V.iand dX2_fewest_30 ?_
    refine V.if_eq (tgt := 36) dX2_fewest_31 (by decide) (fun c8 => ?_) (fun c8 => ?_)
    · rw [if_pos c8] at hf
      refine V.iconst (v := (0 : Int32)) dX2_fewest_36 (by decide) ?_
      refine V.istore_n (lv' := [(3, .int (0 : Int32)), (0, .ref l0), (1, .int l1), (2, .int l2)]) dX2_fewest_37 rfl (by decide) rfl ?_
      refine V.sub [1, 2, 3, 0] rfl ?_
      exact w_X2_fewest_38 h _ _ _ _ _ _ hf
    · rw [if_neg c8] at hf
      refine V.iconst (v := (-1 : Int32)) dX2_fewest_34 (by decide) ?_
      obtain rfl := Option.some.inj hf
      exact V.iret dX2_fewest_35

def f_X2_lay_31 (k8 : xH → Nat → Int32 → Nat → Int32 → Int32 → Option (xH)) (h : xH) (l0 : Nat) (l1 : Int32) (l2 : Nat) (l3 : Int32) (l4 : Int32) (s0 : Int32) : Option (xH) := (gR h l0 2 1).bind fun v1 => (stI h .int v1 l4 s0).bind fun h2 => (gR h2 l0 2 3).bind fun v3 => (gR h2 l0 2 3).bind fun v4 => (ldI h2 .int v4 l4).bind fun v5 => (gR h2 l0 2 2).bind fun v6 => (ldI h2 .int v6 l4).bind fun v7 => (stI h2 .int v3 (l4 + (1 : Int32)) (v5 ||| (v7 &&& s0))).bind fun h8 => (gR h8 l0 2 2).bind fun v9 => (gR h8 l0 2 2).bind fun v10 => (ldI h8 .int v10 l4).bind fun v11 => (stI h8 .int v9 (l4 + (1 : Int32)) (v11 ||| s0)).bind fun h12 => (gR h12 l0 2 4).bind fun v13 => (gR h12 l0 2 4).bind fun v14 => (ldI h12 .int v14 l4).bind fun v15 => (f_J6_bitCount_0f7a4 h12 s0).bind fun r16 => (stI h12 .int v13 (l4 + (1 : Int32)) (if v15 < r16 then r16 else v15)).bind fun h17 => k8 h17 l0 l1 l2 l3 (l4 + 1)
def f_X2_lay_8 : Nat → xH → Nat → Int32 → Nat → Int32 → Int32 → Option (xH)
  | 0, _, _, _, _, _, _ => none
  | n + 1, h, l0, l1, l2, l3, l4 => (if l1 ≤ l4 then (some (h)) else ((if ((l3 >>> (l4 &&& 31)) &&& (1 : Int32)) = 0 then (f_X2_lay_31 (f_X2_lay_8 n) h l0 l1 l2 l3 l4 (0 : Int32)) else ((ldI h .int l2 l4).bind fun v3 => f_X2_lay_31 (f_X2_lay_8 n) h l0 l1 l2 l3 l4 v3))))
def f_X2_lay (h : xH) (l0 : Nat) (l1 : Int32) (l2 : Nat) (l3 : Int32) : Option (xH) := (pF h l0 2 0 (.int l1)).bind fun h1 => f_X2_lay_8 xFU h1 l0 l1 l2 l3 (0 : Int32)
set_option maxRecDepth 20000 in
theorem w_X2_lay_31 (h : xH) {k8 : xH → Nat → Int32 → Nat → Int32 → Int32 → Option (xH)} (hk8 : ∀ (h : xH) (l0 : Nat) (l1 : Int32) (l2 : Nat) (l3 : Int32) (l4 : Int32) (r : xH), k8 h l0 l1 l2 l3 l4 = some r → V 4 yX2_lay cX2_lay 6 none [] none 8 [(0, .ref l0), (1, .int l1), (2, .ref l2), (3, .int l3), (4, .int l4)] [] h (oVh r)) (l0 : Nat) (l1 : Int32) (l2 : Nat) (l3 : Int32) (l4 : Int32) (s0 : Int32) (r : xH) (hf : f_X2_lay_31 k8 h l0 l1 l2 l3 l4 s0 = some r) : V 4 yX2_lay cX2_lay 6 none [] none 31 [(0, .ref l0), (1, .int l1), (2, .ref l2), (3, .int l3), (4, .int l4)] [.int s0] h (oVh r) := by
  unfold f_X2_lay_31 at hf
  refine V.istore (lv' := [(5, .int s0), (0, .ref l0), (1, .int l1), (2, .ref l2), (3, .int l3), (4, .int l4)]) dX2_lay_31 (by decide) rfl ?_
  refine V.aload_n dX2_lay_33 rfl 1 rfl ?_
  obtain ⟨v1, e1, hf⟩ := bS hf
  refine V.xgR dX2_lay_34 fl_RX2_15 e1 ?_
  refine V.iload dX2_lay_37 5 rfl ?_
  refine V.iload dX2_lay_39 0 rfl ?_
  obtain ⟨h2, e2, hf⟩ := bS hf
  refine V.xstI dX2_lay_41 e2 ?_
  refine V.aload_n dX2_lay_42 rfl 1 rfl ?_
  obtain ⟨v3, e3, hf⟩ := bS hf
  refine V.xgR dX2_lay_43 fl_RX2_22 e3 ?_
  refine V.iload dX2_lay_46 5 rfl ?_
  refine V.iconst (v := (1 : Int32)) dX2_lay_48 (by decide) ?_
  refine V.iadd dX2_lay_49 ?_
  refine V.aload_n dX2_lay_50 rfl 1 rfl ?_
  obtain ⟨v4, e4, hf⟩ := bS hf
  refine V.xgR dX2_lay_51 fl_RX2_22 e4 ?_
  refine V.iload dX2_lay_54 5 rfl ?_
  obtain ⟨v5, e5, hf⟩ := bS hf
  refine V.xldI dX2_lay_56 e5 ?_
  refine V.aload_n dX2_lay_57 rfl 1 rfl ?_
  obtain ⟨v6, e6, hf⟩ := bS hf
  refine V.xgR dX2_lay_58 fl_RX2_19 e6 ?_
  refine V.iload dX2_lay_61 5 rfl ?_
  obtain ⟨v7, e7, hf⟩ := bS hf
  refine V.xldI dX2_lay_63 e7 ?_
  refine V.iload dX2_lay_64 0 rfl ?_
  refine V.iand dX2_lay_66 ?_
  refine V.ior dX2_lay_67 ?_
  obtain ⟨h8, e8, hf⟩ := bS hf
  refine V.xstI dX2_lay_68 e8 ?_
  refine V.aload_n dX2_lay_69 rfl 1 rfl ?_
  obtain ⟨v9, e9, hf⟩ := bS hf
  refine V.xgR dX2_lay_70 fl_RX2_19 e9 ?_
  refine V.iload dX2_lay_73 5 rfl ?_
  refine V.iconst (v := (1 : Int32)) dX2_lay_75 (by decide) ?_
  refine V.iadd dX2_lay_76 ?_
  refine V.aload_n dX2_lay_77 rfl 1 rfl ?_
  obtain ⟨v10, e10, hf⟩ := bS hf
  refine V.xgR dX2_lay_78 fl_RX2_19 e10 ?_
  refine V.iload dX2_lay_81 5 rfl ?_
  obtain ⟨v11, e11, hf⟩ := bS hf
  refine V.xldI dX2_lay_83 e11 ?_
  refine V.iload dX2_lay_84 0 rfl ?_
  refine V.ior dX2_lay_86 ?_
  obtain ⟨h12, e12, hf⟩ := bS hf
  refine V.xstI dX2_lay_87 e12 ?_
  refine V.aload_n dX2_lay_88 rfl 1 rfl ?_
  obtain ⟨v13, e13, hf⟩ := bS hf
  refine V.xgR dX2_lay_89 fl_RX2_25 e13 ?_
  refine V.iload dX2_lay_92 5 rfl ?_
  refine V.iconst (v := (1 : Int32)) dX2_lay_94 (by decide) ?_
  refine V.iadd dX2_lay_95 ?_
  refine V.aload_n dX2_lay_96 rfl 1 rfl ?_
  obtain ⟨v14, e14, hf⟩ := bS hf
  refine V.xgR dX2_lay_97 fl_RX2_25 e14 ?_
  refine V.iload dX2_lay_100 5 rfl ?_
  obtain ⟨v15, e15, hf⟩ := bS hf
  refine V.xldI dX2_lay_102 e15 ?_
  refine V.iload dX2_lay_103 0 rfl ?_
  obtain ⟨r16, e16, hf⟩ := bS hf
  refine V.callS (As := [.int s0]) (st := [.int v15, .int (l4 + (1 : Int32)), .ref v13]) dX2_lay_105 cl_RX2_31 sw_yJ6_bitCount_0f7a4 (by decide) rfl (Nat.le_of_ble_eq_true rfl) rfl (w_J6_bitCount_0f7a4 _ _ _ e16) ?_
  refine V.mmax dX2_lay_108 ml_RX2_37 ms_max mi_ mc_max (Nat.le_of_ble_eq_true rfl) ?_
  obtain ⟨h17, e17, hf⟩ := bS hf
  refine V.xstI dX2_lay_111 e17 ?_
  refine V.iinc (v := (l4 + 1)) (lv' := [(4, .int (l4 + 1)), (5, .int s0), (0, .ref l0), (1, .int l1), (2, .ref l2), (3, .int l3)]) dX2_lay_112 5 rfl rfl (Nat.le_of_ble_eq_true rfl) rfl ?_
  refine V.goto (tgt := 8) dX2_lay_115 (by decide) ?_
  refine V.sub [2, 3, 4, 5, 0] rfl ?_
  exact hk8 _ _ _ _ _ _ _ hf

set_option maxRecDepth 20000 in
theorem w_X2_lay_8 : ∀ (n : Nat) (h : xH) (l0 : Nat) (l1 : Int32) (l2 : Nat) (l3 : Int32) (l4 : Int32) (r : xH), f_X2_lay_8 n h l0 l1 l2 l3 l4 = some r → V 4 yX2_lay cX2_lay 6 none [] none 8 [(0, .ref l0), (1, .int l1), (2, .ref l2), (3, .int l3), (4, .int l4)] [] h (oVh r) := by
  intro n
  induction n with
  | zero => intro h l0 l1 l2 l3 l4 r hf; cases hf
  | succ n ih =>
    intro h l0 l1 l2 l3 l4 r hf
    rw [f_X2_lay_8] at hf
    refine V.iload dX2_lay_8 4 rfl ?_
    refine V.iload_n dX2_lay_10 rfl 1 rfl ?_
    refine V.icmp_ge (tgt := 118) dX2_lay_11 (by decide) (fun c1 => ?_) (fun c1 => ?_)
    · rw [if_pos c1] at hf
      obtain rfl := Option.some.inj hf
      exact V.vret dX2_lay_118
    · rw [if_neg c1] at hf
      refine V.iload_n dX2_lay_14 rfl 3 rfl ?_
      refine V.iload dX2_lay_15 4 rfl ?_
      refine V.ishr dX2_lay_17 ?_
      refine V.iconst (v := (1 : Int32)) dX2_lay_18 (by decide) ?_
      refine V.iand dX2_lay_19 ?_
      refine V.if_eq (tgt := 30) dX2_lay_20 (by decide) (fun c2 => ?_) (fun c2 => ?_)
      · rw [if_pos c2] at hf
        refine V.iconst (v := (0 : Int32)) dX2_lay_30 (by decide) ?_
        exact w_X2_lay_31 _ ih _ _ _ _ _ _ _ hf
      · rw [if_neg c2] at hf
        refine V.aload_n dX2_lay_23 rfl 2 rfl ?_
        refine V.iload dX2_lay_24 4 rfl ?_
        obtain ⟨v3, e18, hf⟩ := bS hf
        refine V.xldI dX2_lay_26 e18 ?_
        refine V.goto (tgt := 31) dX2_lay_27 (by decide) ?_
        exact w_X2_lay_31 _ ih _ _ _ _ _ _ _ hf

set_option maxRecDepth 20000 in
theorem w_X2_lay (h : xH) (l0 : Nat) (l1 : Int32) (l2 : Nat) (l3 : Int32) (r : xH) (hf : f_X2_lay h l0 l1 l2 l3 = some r) : Ev 4 yX2_lay cX2_lay 6 none [] [.ref l0, .int l1, .ref l2, .int l3] h (oVh r) := by
  refine Ev.of (by decide +kernel) (Nat.le_of_ble_eq_true rfl) ?_
  unfold f_X2_lay at hf
  refine V.aload_n dX2_lay_0 rfl 0 rfl ?_
  refine V.iload_n dX2_lay_1 rfl 1 rfl ?_
  obtain ⟨h1, e19, hf⟩ := bS hf
  refine V.xpF dX2_lay_2 fl_RX2_9 (fun h9 => nomatch h9) (fun _ => rfl) (fun _ => rfl) e19 ?_
  refine V.iconst (v := (0 : Int32)) dX2_lay_5 (by decide) ?_
  refine V.istore (lv' := [(4, .int (0 : Int32)), (0, .ref l0), (1, .int l1), (2, .ref l2), (3, .int l3)]) dX2_lay_6 (by decide) rfl ?_
  refine V.sub [1, 2, 3, 4, 0] rfl ?_
  exact w_X2_lay_8 _ _ _ _ _ _ _ _ hf

def f_X2_suffice (h : xH) (l0 : Nat) (l1 : Int32) (l2 : Int32) : Option (Int32) := (gI h l0 2 0).bind fun v1 => (f_X2_seek h 40 l0 v1 l1 (0 : Int32) l2).bind fun r2 => (if r2 = (-1 : Int32) then (some ((0 : Int32))) else (some ((1 : Int32))))
set_option maxRecDepth 20000 in
theorem w_X2_suffice (h : xH) (l0 : Nat) (l1 : Int32) (l2 : Int32) (r : Int32) (hf : f_X2_suffice h l0 l1 l2 = some r) : Ev 46 yX2_suffice cX2_suffice 3 (some .boolean) [] [.ref l0, .int l1, .int l2] h (oI h r) := by
  refine Ev.of (by decide +kernel) (Nat.le_of_ble_eq_true rfl) ?_
  unfold f_X2_suffice at hf
  refine V.aload_n dX2_suffice_0 rfl 0 rfl ?_
  refine V.aload_n dX2_suffice_1 rfl 0 rfl ?_
  obtain ⟨v1, e1, hf⟩ := bS hf
  refine V.xgI dX2_suffice_2 fl_RX2_9 e1 ?_
  refine V.iload_n dX2_suffice_5 rfl 1 rfl ?_
  refine V.iconst (v := (0 : Int32)) dX2_suffice_6 (by decide) ?_
  refine V.iload_n dX2_suffice_7 rfl 2 rfl ?_
  obtain ⟨r2, e2, hf⟩ := bS hf
  refine V.callS (As := [.ref l0, .int v1, .int l1, .int (0 : Int32), .int l2]) (st := []) dX2_suffice_8 cl_RX2_43 sw_yX2_seek (by decide) rfl (Nat.le_of_ble_eq_true rfl) rfl ((w_X2_seek h 40 _ _ _ _ _ _ e2)) ?_
  refine V.iconst (v := (-1 : Int32)) dX2_suffice_11 (by decide) ?_
  refine V.icmp_eq (tgt := 19) dX2_suffice_12 (by decide) (fun c3 => ?_) (fun c3 => ?_)
  · rw [if_pos c3] at hf
    refine V.iconst (v := (0 : Int32)) dX2_suffice_19 (by decide) ?_
    obtain rfl := Option.some.inj hf
    exact V.zret dX2_suffice_20 (by first | rfl | assumption)
  · rw [if_neg c3] at hf
    refine V.iconst (v := (1 : Int32)) dX2_suffice_15 (by decide) ?_
    refine V.goto (tgt := 20) dX2_suffice_16 (by decide) ?_
    obtain rfl := Option.some.inj hf
    exact V.zret dX2_suffice_20 (by first | rfl | assumption)

def f_X2_seekLone (h : xH) : Nat → Nat → Int32 → Int32 → Int32 → Option (Int32)
  | 0, _, _, _, _ => none
  | n + 1, l0, l1, l2, l3 => (if l3 = 0 then (some ((0 : Int32))) else ((if l1 ≤ 0 then (some ((-1 : Int32))) else ((f_J6_bitCount_0f7a4 h (l2 &&& (((1 : Int32) <<< (l1 &&& 31)) - (1 : Int32)))).bind fun r3 => (if l3 ≤ r3 then ((f_X2_seekLone h n l0 (l1 - (1 : Int32)) l2 l3).bind fun r5 => (if r5 = (-1 : Int32) then ((if ((l2 >>> ((l1 - (1 : Int32)) &&& 31)) &&& (1 : Int32)) = 0 then (some (r5)) else ((gR h l0 2 5).bind fun v8 => (ldI h .int v8 (l1 - (1 : Int32))).bind fun v9 => (f_X2_seekLone h n l0 (l1 - (1 : Int32)) (l2 &&& (v9 ^^^ (-1 : Int32))) (l3 - (1 : Int32))).bind fun r10 => (if r10 = (-1 : Int32) then (some ((-1 : Int32))) else (some ((r10 ||| ((1 : Int32) <<< ((l1 - (1 : Int32)) &&& 31))))))))) else (some (r5)))) else (some ((-1 : Int32))))))))
set_option maxRecDepth 20000 in
theorem w_X2_seekLone (h : xH) : ∀ (n : Nat) (l0 : Nat) (l1 : Int32) (l2 : Int32) (l3 : Int32) (r : Int32), f_X2_seekLone h n l0 l1 l2 l3 = some r → Ev (n + 4) yX2_seekLone cX2_seekLone 5 (some .int) [] [.ref l0, .int l1, .int l2, .int l3] h (oI h r) := by
  intro n
  induction n with
  | zero => intro l0 l1 l2 l3 r hf; cases hf
  | succ n ih =>
    intro l0 l1 l2 l3 r hf
    rw [f_X2_seekLone] at hf
    have hd' : 4 ≤ n + 4 := Nat.le_add_left _ _
    have hks := ih
    rw [Nat.succ_add n 4]
    refine Ev.of (by decide +kernel) (Nat.le_of_ble_eq_true rfl) ?_
    refine V.iload_n dX2_seekLone_0 rfl 3 rfl ?_
    refine V.if_ne (tgt := 6) dX2_seekLone_1 (by decide) (fun c1 => ?_) (fun c1 => ?_)
    · rw [if_neg c1] at hf
      refine V.iload_n dX2_seekLone_6 rfl 1 rfl ?_
      refine V.if_le (tgt := 24) dX2_seekLone_7 (by decide) (fun c2 => ?_) (fun c2 => ?_)
      · rw [if_pos c2] at hf
        refine V.iconst (v := (-1 : Int32)) dX2_seekLone_24 (by decide) ?_
        obtain rfl := Option.some.inj hf
        exact V.iret dX2_seekLone_25
      · rw [if_neg c2] at hf
        refine V.iload_n dX2_seekLone_10 rfl 2 rfl ?_
        refine V.iconst (v := (1 : Int32)) dX2_seekLone_11 (by decide) ?_
        refine V.iload_n dX2_seekLone_12 rfl 1 rfl ?_
        refine V.ishl dX2_seekLone_13 ?_
        refine V.iconst (v := (1 : Int32)) dX2_seekLone_14 (by decide) ?_
        refine V.isub dX2_seekLone_15 ?_
        refine V.iand dX2_seekLone_16 ?_
        obtain ⟨r3, e1, hf⟩ := bS hf
        refine V.callS (As := [.int (l2 &&& (((1 : Int32) <<< (l1 &&& 31)) - (1 : Int32)))]) (st := []) dX2_seekLone_17 cl_RX2_31 sw_yJ6_bitCount_0f7a4 (by omega) rfl (Nat.le_of_ble_eq_true rfl) rfl (w_J6_bitCount_0f7a4 _ _ _ e1) ?_
        refine V.iload_n dX2_seekLone_20 rfl 3 rfl ?_
        refine V.icmp_ge (tgt := 26) dX2_seekLone_21 (by decide) (fun c4 => ?_) (fun c4 => ?_)
        · rw [if_pos c4] at hf
          refine V.aload_n dX2_seekLone_26 rfl 0 rfl ?_
          refine V.iload_n dX2_seekLone_27 rfl 1 rfl ?_
          refine V.iconst (v := (1 : Int32)) dX2_seekLone_28 (by decide) ?_
          refine V.isub dX2_seekLone_29 ?_
          refine V.iload_n dX2_seekLone_30 rfl 2 rfl ?_
          refine V.iload_n dX2_seekLone_31 rfl 3 rfl ?_
          obtain ⟨r5, e2, hf⟩ := bS hf
          refine V.callS (As := [.ref l0, .int (l1 - (1 : Int32)), .int l2, .int l3]) (st := []) dX2_seekLone_32 cl_RX2_47 sw_yX2_seekLone (Nat.le_refl _) rfl (Nat.le_of_ble_eq_true rfl) rfl (hks _ _ _ _ _ e2) ?_
          refine V.istore (lv' := [(4, .int r5), (0, .ref l0), (1, .int l1), (2, .int l2), (3, .int l3)]) dX2_seekLone_35 (by decide) rfl ?_
          refine V.iload dX2_seekLone_37 0 rfl ?_
          refine V.iconst (v := (-1 : Int32)) dX2_seekLone_39 (by decide) ?_
          refine V.icmp_ne (tgt := 53) dX2_seekLone_40 (by decide) (fun c6 => ?_) (fun c6 => ?_)
          · rw [if_neg c6] at hf
            refine V.iload dX2_seekLone_53 0 rfl ?_
            obtain rfl := Option.some.inj hf
            exact V.iret dX2_seekLone_55
          · rw [if_pos c6] at hf
            refine V.iload_n dX2_seekLone_43 rfl 3 rfl ?_
            refine V.iload_n dX2_seekLone_44 rfl 2 rfl ?_
            refine V.iconst (v := (1 : Int32)) dX2_seekLone_45 (by decide) ?_
            refine V.isub dX2_seekLone_46 ?_
            refine V.ishr dX2_seekLone_47 ?_
            refine V.iconst (v := (1 : Int32)) dX2_seekLone_48 (by decide) ?_
            refine V.iand dX2_seekLone_49 ?_
            refine V.if_ne (tgt := 56) dX2_seekLone_50 (by decide) (fun c7 => ?_) (fun c7 => ?_)
            · rw [if_neg c7] at hf
              refine V.aload_n dX2_seekLone_56 rfl 1 rfl ?_
              refine V.iload_n dX2_seekLone_57 rfl 2 rfl ?_
              refine V.iconst (v := (1 : Int32)) dX2_seekLone_58 (by decide) ?_
              refine V.isub dX2_seekLone_59 ?_
              refine V.iload_n dX2_seekLone_60 rfl 3 rfl ?_
              refine V.aload_n dX2_seekLone_61 rfl 1 rfl ?_
              obtain ⟨v8, e3, hf⟩ := bS hf
              refine V.xgR dX2_seekLone_62 fl_RX2_28 e3 ?_
              refine V.iload_n dX2_seekLone_65 rfl 2 rfl ?_
              refine V.iconst (v := (1 : Int32)) dX2_seekLone_66 (by decide) ?_
              refine V.isub dX2_seekLone_67 ?_
              obtain ⟨v9, e4, hf⟩ := bS hf
              refine V.xldI dX2_seekLone_68 e4 ?_
              refine V.iconst (v := (-1 : Int32)) dX2_seekLone_69 (by decide) ?_
              refine V.ixor dX2_seekLone_70 ?_
              refine V.iand dX2_seekLone_71 ?_
              refine V.iload_n dX2_seekLone_72 rfl 4 rfl ?_
              refine V.iconst (v := (1 : Int32)) dX2_seekLone_73 (by decide) ?_
              refine V.isub dX2_seekLone_74 ?_
              obtain ⟨r10, e5, hf⟩ := bS hf
              refine V.callS (As := [.ref l0, .int (l1 - (1 : Int32)), .int (l2 &&& (v9 ^^^ (-1 : Int32))), .int (l3 - (1 : Int32))]) (st := []) dX2_seekLone_75 cl_RX2_47 sw_yX2_seekLone (Nat.le_refl _) rfl (Nat.le_of_ble_eq_true rfl) rfl (hks _ _ _ _ _ e5) ?_
              refine V.istore (lv' := [(4, .int r10), (0, .ref l0), (1, .int l1), (2, .int l2), (3, .int l3)]) dX2_seekLone_78 (by decide) rfl ?_
              refine V.iload dX2_seekLone_80 0 rfl ?_
              refine V.iconst (v := (-1 : Int32)) dX2_seekLone_82 (by decide) ?_
              refine V.icmp_ne (tgt := 90) dX2_seekLone_83 (by decide) (fun c11 => ?_) (fun c11 => ?_)
              · rw [if_neg c11] at hf
                refine V.iload dX2_seekLone_90 0 rfl ?_
                refine V.iconst (v := (1 : Int32)) dX2_seekLone_92 (by decide) ?_
                refine V.iload_n dX2_seekLone_93 rfl 2 rfl ?_
                refine V.iconst (v := (1 : Int32)) dX2_seekLone_94 (by decide) ?_
                refine V.isub dX2_seekLone_95 ?_
                refine V.ishl dX2_seekLone_96 ?_
                refine V.ior dX2_seekLone_97 ?_
                obtain rfl := Option.some.inj hf
                exact V.iret dX2_seekLone_98
              · rw [if_pos c11] at hf
                refine V.iconst (v := (-1 : Int32)) dX2_seekLone_86 (by decide) ?_
                refine V.goto (tgt := 98) dX2_seekLone_87 (by decide) ?_
                obtain rfl := Option.some.inj hf
                exact V.iret dX2_seekLone_98
            · rw [if_pos c7] at hf
              refine V.iload dX2_seekLone_53 0 rfl ?_
              obtain rfl := Option.some.inj hf
              exact V.iret dX2_seekLone_55
        · rw [if_neg c4] at hf
          refine V.iconst (v := (-1 : Int32)) dX2_seekLone_24 (by decide) ?_
          obtain rfl := Option.some.inj hf
          exact V.iret dX2_seekLone_25
    · rw [if_pos c1] at hf
      refine V.iconst (v := (0 : Int32)) dX2_seekLone_4 (by decide) ?_
      obtain rfl := Option.some.inj hf
      exact V.iret dX2_seekLone_5

def f_X2_lone_17 (k2 : xH → Nat → Int32 → Nat → Int32 → Option (Int32 × xH)) : Nat → xH → Nat → Int32 → Nat → Int32 → Int32 → Option (Int32 × xH)
  | 0, _, _, _, _, _, _ => none
  | n + 1, h, l0, l1, l2, l3, l4 => (if l1 ≤ l4 then (k2 h l0 l1 l2 (l3 + 1)) else ((if l4 = l3 then (f_X2_lone_17 k2 n h l0 l1 l2 l3 (l4 + 1)) else ((ldI h .int l2 l3).bind fun v3 => (ldI h .int l2 l4).bind fun v4 => (if (v3 &&& v4) = 0 then (f_X2_lone_17 k2 n h l0 l1 l2 l3 (l4 + 1)) else ((gR h l0 2 5).bind fun v6 => (ldI h .int v6 l3).bind fun v7 => (stI h .int v6 l3 (v7 ||| ((1 : Int32) <<< (l4 &&& 31)))).bind fun h8 => f_X2_lone_17 k2 n h8 l0 l1 l2 l3 (l4 + 1)))))))
def f_X2_lone_70 : Nat → xH → Nat → Int32 → Int32 → Int32 → Option (Int32 × xH)
  | 0, _, _, _, _, _ => none
  | n + 1, h, l0, l1, l3, l4 => (if l1 < l4 then (some ((l3, h))) else ((f_X2_seekLone h 40 l0 l1 (((1 : Int32) <<< (l1 &&& 31)) - (1 : Int32)) l4).bind fun r2 => (if r2 = (-1 : Int32) then (some ((l3, h))) else (f_X2_lone_70 n h l0 l1 r2 (l4 + 1)))))
def f_X2_lone_2 : Nat → xH → Nat → Int32 → Nat → Int32 → Option (Int32 × xH)
  | 0, _, _, _, _, _ => none
  | n + 1, h, l0, l1, l2, l3 => (if l1 ≤ l3 then (f_X2_lone_70 xFU h l0 l1 (0 : Int32) (1 : Int32)) else ((gR h l0 2 5).bind fun v2 => (stI h .int v2 l3 (0 : Int32)).bind fun h3 => f_X2_lone_17 (f_X2_lone_2 n) xFU h3 l0 l1 l2 l3 (0 : Int32)))
def f_X2_lone (h : xH) (l0 : Nat) (l1 : Int32) (l2 : Nat) : Option (Int32 × xH) := f_X2_lone_2 xFU h l0 l1 l2 (0 : Int32)
set_option maxRecDepth 20000 in
theorem w_X2_lone_17 {k2 : xH → Nat → Int32 → Nat → Int32 → Option (Int32 × xH)} (hk2 : ∀ (h : xH) (l0 : Nat) (l1 : Int32) (l2 : Nat) (l3 : Int32) (r : Int32 × xH), k2 h l0 l1 l2 l3 = some r → V 46 yX2_lone cX2_lone 6 (some .int) [] none 2 [(0, .ref l0), (1, .int l1), (2, .ref l2), (3, .int l3)] [] h (oIh r)) : ∀ (n : Nat) (h : xH) (l0 : Nat) (l1 : Int32) (l2 : Nat) (l3 : Int32) (l4 : Int32) (r : Int32 × xH), f_X2_lone_17 k2 n h l0 l1 l2 l3 l4 = some r → V 46 yX2_lone cX2_lone 6 (some .int) [] none 17 [(0, .ref l0), (1, .int l1), (2, .ref l2), (3, .int l3), (4, .int l4)] [] h (oIh r) := by
  intro n
  induction n with
  | zero => intro h l0 l1 l2 l3 l4 r hf; cases hf
  | succ n ih =>
    intro h l0 l1 l2 l3 l4 r hf
    rw [f_X2_lone_17] at hf
    refine V.iload dX2_lone_17 4 rfl ?_
    refine V.iload_n dX2_lone_19 rfl 1 rfl ?_
    refine V.icmp_ge (tgt := 59) dX2_lone_20 (by decide) (fun c1 => ?_) (fun c1 => ?_)
    · rw [if_pos c1] at hf
      refine V.iinc (v := (l3 + 1)) (lv' := [(3, .int (l3 + 1)), (0, .ref l0), (1, .int l1), (2, .ref l2), (4, .int l4)]) dX2_lone_59 3 rfl rfl (Nat.le_of_ble_eq_true rfl) rfl ?_
      refine V.goto (tgt := 2) dX2_lone_62 (by decide) ?_
      refine V.sub [1, 2, 3, 0] rfl ?_
      exact hk2 _ _ _ _ _ _ hf
    · rw [if_neg c1] at hf
      refine V.iload dX2_lone_23 4 rfl ?_
      refine V.iload_n dX2_lone_25 rfl 3 rfl ?_
      refine V.icmp_eq (tgt := 53) dX2_lone_26 (by decide) (fun c2 => ?_) (fun c2 => ?_)
      · rw [if_pos c2] at hf
        refine V.iinc (v := (l4 + 1)) (lv' := [(4, .int (l4 + 1)), (0, .ref l0), (1, .int l1), (2, .ref l2), (3, .int l3)]) dX2_lone_53 4 rfl rfl (Nat.le_of_ble_eq_true rfl) rfl ?_
        refine V.goto (tgt := 17) dX2_lone_56 (by decide) ?_
        refine V.sub [1, 2, 3, 4, 0] rfl ?_
        exact ih _ _ _ _ _ _ _ hf
      · rw [if_neg c2] at hf
        refine V.aload_n dX2_lone_29 rfl 2 rfl ?_
        refine V.iload_n dX2_lone_30 rfl 3 rfl ?_
        obtain ⟨v3, e1, hf⟩ := bS hf
        refine V.xldI dX2_lone_31 e1 ?_
        refine V.aload_n dX2_lone_32 rfl 2 rfl ?_
        refine V.iload dX2_lone_33 4 rfl ?_
        obtain ⟨v4, e2, hf⟩ := bS hf
        refine V.xldI dX2_lone_35 e2 ?_
        refine V.iand dX2_lone_36 ?_
        refine V.if_eq (tgt := 53) dX2_lone_37 (by decide) (fun c5 => ?_) (fun c5 => ?_)
        · rw [if_pos c5] at hf
          refine V.iinc (v := (l4 + 1)) (lv' := [(4, .int (l4 + 1)), (0, .ref l0), (1, .int l1), (2, .ref l2), (3, .int l3)]) dX2_lone_53 4 rfl rfl (Nat.le_of_ble_eq_true rfl) rfl ?_
          refine V.goto (tgt := 17) dX2_lone_56 (by decide) ?_
          refine V.sub [1, 2, 3, 4, 0] rfl ?_
          exact ih _ _ _ _ _ _ _ hf
        · rw [if_neg c5] at hf
          refine V.aload_n dX2_lone_40 rfl 0 rfl ?_
          obtain ⟨v6, e3, hf⟩ := bS hf
          refine V.xgR dX2_lone_41 fl_RX2_28 e3 ?_
          refine V.iload_n dX2_lone_44 rfl 3 rfl ?_
          refine V.dup2 dX2_lone_45 rfl rfl ?_
          obtain ⟨v7, e4, hf⟩ := bS hf
          refine V.xldI dX2_lone_46 e4 ?_
          refine V.iconst (v := (1 : Int32)) dX2_lone_47 (by decide) ?_
          refine V.iload dX2_lone_48 4 rfl ?_
          refine V.ishl dX2_lone_50 ?_
          refine V.ior dX2_lone_51 ?_
          obtain ⟨h8, e5, hf⟩ := bS hf
          refine V.xstI dX2_lone_52 e5 ?_
          refine V.iinc (v := (l4 + 1)) (lv' := [(4, .int (l4 + 1)), (0, .ref l0), (1, .int l1), (2, .ref l2), (3, .int l3)]) dX2_lone_53 4 rfl rfl (Nat.le_of_ble_eq_true rfl) rfl ?_
          refine V.goto (tgt := 17) dX2_lone_56 (by decide) ?_
          refine V.sub [1, 2, 3, 4, 0] rfl ?_
          exact ih _ _ _ _ _ _ _ hf

set_option maxRecDepth 20000 in
theorem w_X2_lone_70 : ∀ (n : Nat) (h : xH) (l0 : Nat) (l1 : Int32) (l3 : Int32) (l4 : Int32) (r : Int32 × xH), f_X2_lone_70 n h l0 l1 l3 l4 = some r → V 46 yX2_lone cX2_lone 6 (some .int) [] none 70 [(0, .ref l0), (1, .int l1), (3, .int l3), (4, .int l4)] [] h (oIh r) := by
  intro n
  induction n with
  | zero => intro h l0 l1 l3 l4 r hf; cases hf
  | succ n ih =>
    intro h l0 l1 l3 l4 r hf
    rw [f_X2_lone_70] at hf
    refine V.iload dX2_lone_70 3 rfl ?_
    refine V.iload_n dX2_lone_72 rfl 1 rfl ?_
    refine V.icmp_gt (tgt := 107) dX2_lone_73 (by decide) (fun c1 => ?_) (fun c1 => ?_)
    · rw [if_pos c1] at hf
      refine V.iload_n dX2_lone_107 rfl 2 rfl ?_
      obtain rfl := Option.some.inj hf
      exact V.iret dX2_lone_108
    · rw [if_neg c1] at hf
      refine V.aload_n dX2_lone_76 rfl 0 rfl ?_
      refine V.iload_n dX2_lone_77 rfl 1 rfl ?_
      refine V.iconst (v := (1 : Int32)) dX2_lone_78 (by decide) ?_
      refine V.iload_n dX2_lone_79 rfl 1 rfl ?_
      refine V.ishl dX2_lone_80 ?_
      refine V.iconst (v := (1 : Int32)) dX2_lone_81 (by decide) ?_
      refine V.isub dX2_lone_82 ?_
      refine V.iload dX2_lone_83 3 rfl ?_
      obtain ⟨r2, e6, hf⟩ := bS hf
      refine V.callS (As := [.ref l0, .int l1, .int (((1 : Int32) <<< (l1 &&& 31)) - (1 : Int32)), .int l4]) (st := []) dX2_lone_85 cl_RX2_47 sw_yX2_seekLone (by decide) rfl (Nat.le_of_ble_eq_true rfl) rfl ((w_X2_seekLone h 40 _ _ _ _ _ e6)) ?_
      refine V.istore (lv' := [(5, .int r2), (0, .ref l0), (1, .int l1), (3, .int l3), (4, .int l4)]) dX2_lone_88 (by decide) rfl ?_
      refine V.iload dX2_lone_90 0 rfl ?_
      refine V.iconst (v := (-1 : Int32)) dX2_lone_92 (by decide) ?_
      refine V.icmp_ne (tgt := 98) dX2_lone_93 (by decide) (fun c3 => ?_) (fun c3 => ?_)
      · rw [if_neg c3] at hf
        refine V.iload dX2_lone_98 0 rfl ?_
        refine V.istore_n (lv' := [(3, .int r2), (5, .int r2), (0, .ref l0), (1, .int l1), (4, .int l4)]) dX2_lone_100 rfl (by decide) rfl ?_
        refine V.iinc (v := (l4 + 1)) (lv' := [(4, .int (l4 + 1)), (3, .int r2), (5, .int r2), (0, .ref l0), (1, .int l1)]) dX2_lone_101 4 rfl rfl (Nat.le_of_ble_eq_true rfl) rfl ?_
        refine V.goto (tgt := 70) dX2_lone_104 (by decide) ?_
        refine V.sub [3, 4, 1, 0] rfl ?_
        exact ih _ _ _ _ _ _ hf
      · rw [if_pos c3] at hf
        refine V.iload_n dX2_lone_96 rfl 3 rfl ?_
        obtain rfl := Option.some.inj hf
        exact V.iret dX2_lone_97

set_option maxRecDepth 20000 in
theorem w_X2_lone_2 : ∀ (n : Nat) (h : xH) (l0 : Nat) (l1 : Int32) (l2 : Nat) (l3 : Int32) (r : Int32 × xH), f_X2_lone_2 n h l0 l1 l2 l3 = some r → V 46 yX2_lone cX2_lone 6 (some .int) [] none 2 [(0, .ref l0), (1, .int l1), (2, .ref l2), (3, .int l3)] [] h (oIh r) := by
  intro n
  induction n with
  | zero => intro h l0 l1 l2 l3 r hf; cases hf
  | succ n ih =>
    intro h l0 l1 l2 l3 r hf
    rw [f_X2_lone_2] at hf
    refine V.iload_n dX2_lone_2 rfl 3 rfl ?_
    refine V.iload_n dX2_lone_3 rfl 1 rfl ?_
    refine V.icmp_ge (tgt := 65) dX2_lone_4 (by decide) (fun c1 => ?_) (fun c1 => ?_)
    · rw [if_pos c1] at hf
      refine V.iconst (v := (0 : Int32)) dX2_lone_65 (by decide) ?_
      refine V.istore_n (lv' := [(3, .int (0 : Int32)), (0, .ref l0), (1, .int l1), (2, .ref l2)]) dX2_lone_66 rfl (by decide) rfl ?_
      refine V.iconst (v := (1 : Int32)) dX2_lone_67 (by decide) ?_
      refine V.istore (lv' := [(4, .int (1 : Int32)), (3, .int (0 : Int32)), (0, .ref l0), (1, .int l1), (2, .ref l2)]) dX2_lone_68 (by decide) rfl ?_
      refine V.sub [2, 3, 1, 0] rfl ?_
      exact w_X2_lone_70 _ _ _ _ _ _ _ hf
    · rw [if_neg c1] at hf
      refine V.aload_n dX2_lone_7 rfl 0 rfl ?_
      obtain ⟨v2, e7, hf⟩ := bS hf
      refine V.xgR dX2_lone_8 fl_RX2_28 e7 ?_
      refine V.iload_n dX2_lone_11 rfl 3 rfl ?_
      refine V.iconst (v := (0 : Int32)) dX2_lone_12 (by decide) ?_
      obtain ⟨h3, e8, hf⟩ := bS hf
      refine V.xstI dX2_lone_13 e8 ?_
      refine V.iconst (v := (0 : Int32)) dX2_lone_14 (by decide) ?_
      refine V.istore (lv' := [(4, .int (0 : Int32)), (0, .ref l0), (1, .int l1), (2, .ref l2), (3, .int l3)]) dX2_lone_15 (by decide) rfl ?_
      refine V.sub [1, 2, 3, 4, 0] rfl ?_
      exact w_X2_lone_17 ih _ _ _ _ _ _ _ _ hf

set_option maxRecDepth 20000 in
theorem w_X2_lone (h : xH) (l0 : Nat) (l1 : Int32) (l2 : Nat) (r : Int32 × xH) (hf : f_X2_lone h l0 l1 l2 = some r) : Ev 46 yX2_lone cX2_lone 6 (some .int) [] [.ref l0, .int l1, .ref l2] h (oIh r) := by
  refine Ev.of (by decide +kernel) (Nat.le_of_ble_eq_true rfl) ?_
  unfold f_X2_lone at hf
  refine V.iconst (v := (0 : Int32)) dX2_lone_0 (by decide) ?_
  refine V.istore_n (lv' := [(3, .int (0 : Int32)), (0, .ref l0), (1, .int l1), (2, .ref l2)]) dX2_lone_1 rfl (by decide) rfl ?_
  refine V.sub [1, 2, 3, 0] rfl ?_
  exact w_X2_lone_2 _ _ _ _ _ _ _ hf

