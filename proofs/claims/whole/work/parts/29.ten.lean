def f_X9_init (h : xH) (l0 : Nat) : Option (xH) := (mkI h .int (16 : Int32)).bind fun h1 => (pF h1 l0 9 0 (.ref (h.1.length))).bind fun h2 => (mkI h2 .int (17 : Int32)).bind fun h3 => (pF h3 l0 9 1 (.ref (h2.1.length))).bind fun h4 => (pF h4 l0 9 2 (.int (0 : Int32))).bind fun h5 => (mkI h5 .int (1024 : Int32)).bind fun h6 => (pF h6 l0 9 3 (.ref (h5.1.length))).bind fun h7 => (pF h7 l0 9 4 (.null)).bind fun h8 => some (h8)
set_option maxRecDepth 20000 in
theorem w_X9_init (h : xH) (l0 : Nat) (r : xH) (hf : f_X9_init h l0 = some r) : Ev 4 yX9_init cX9_init 1 none [] [.ref l0] h (oVh r) := by
  refine Ev.of (by decide +kernel) (Nat.le_of_ble_eq_true rfl) ?_
  unfold f_X9_init at hf
  refine V.aload_n dX9_init_0 rfl 0 rfl ?_
  refine V.objInit dX9_init_1 oi_RX9_3 oi_inst oi_code (Nat.le_of_ble_eq_true rfl) ?_
  refine V.aload_n dX9_init_4 rfl 0 rfl ?_
  refine V.bipush (v := (16 : Int32)) dX9_init_5 (by decide) ?_
  obtain ⟨h1, e1, hf⟩ := bS hf
  refine V.xmkI dX9_init_7 rfl rfl aw_int (by decide) e1 ?_
  obtain ⟨h2, e2, hf⟩ := bS hf
  refine V.xpF dX9_init_9 fl_RX9_9 (fun _ => rfl) (fun _ => rfl) (fun _ => rfl) e2 ?_
  refine V.aload_n dX9_init_12 rfl 0 rfl ?_
  refine V.bipush (v := (17 : Int32)) dX9_init_13 (by decide) ?_
  obtain ⟨h3, e3, hf⟩ := bS hf
  refine V.xmkI dX9_init_15 rfl rfl aw_int (by decide) e3 ?_
  obtain ⟨h4, e4, hf⟩ := bS hf
  refine V.xpF dX9_init_17 fl_RX9_15 (fun _ => rfl) (fun _ => rfl) (fun _ => rfl) e4 ?_
  refine V.aload_n dX9_init_20 rfl 0 rfl ?_
  refine V.iconst (v := (0 : Int32)) dX9_init_21 (by decide) ?_
  obtain ⟨h5, e5, hf⟩ := bS hf
  refine V.xpF dX9_init_22 fl_RX9_18 (fun h9 => nomatch h9) (fun _ => rfl) (fun _ => rfl) e5 ?_
  refine V.aload_n dX9_init_25 rfl 0 rfl ?_
  refine V.sipush (v := (1024 : Int32)) dX9_init_26 (by decide) ?_
  obtain ⟨h6, e6, hf⟩ := bS hf
  refine V.xmkI dX9_init_29 rfl rfl aw_int (by decide) e6 ?_
  obtain ⟨h7, e7, hf⟩ := bS hf
  refine V.xpF dX9_init_31 fl_RX9_22 (fun _ => rfl) (fun _ => rfl) (fun _ => rfl) e7 ?_
  refine V.aload_n dX9_init_34 rfl 0 rfl ?_
  refine V.anull dX9_init_35 ?_
  obtain ⟨h8, e8, hf⟩ := bS hf
  refine V.xpF dX9_init_36 fl_RX9_25 (fun h9 => nomatch h9) (fun _ => rfl) (fun _ => rfl) e8 ?_
  obtain rfl := Option.some.inj hf
  exact V.vret dX9_init_39

def f_X9_seek_112 (ks : xH → Nat → Nat → Int32 → Int32 → Int32 → Option (xH)) (h : xH) (l0 : Nat) (l1 : Nat) (l3 : Int32) (l4 : Int32) (l6 : Int32) : Option (xH) := (ks h l0 l1 l6 l3 l4).bind fun r1 => some (r1)
def f_X9_seek : Nat → xH → Nat → Nat → Int32 → Int32 → Int32 → Option (xH)
  | 0, _, _, _, _, _, _ => none
  | n + 1, h, l0, l1, l2, l3, l4 => (gI h l1 3 2).bind fun v1 => (gI h l0 9 2).bind fun v2 => (f_J6_bitCount_0f7a4 h l3).bind fun r3 => (pF h l0 9 2 (.int (if v2 < ((v1 * r3) - l4) then ((v1 * r3) - l4) else v2))).bind fun h4 => (if l2 ≤ 0 then (some (h4)) else ((gR h4 l0 9 1).bind fun v6 => (ldI h4 .int v6 l2).bind fun v7 => (f_J6_bitCount_0f7a4 h4 (l3 ||| v7)).bind fun r8 => (gI h4 l0 9 2).bind fun v9 => (if v9 < ((v1 * r8) - l4) then ((gR h4 l0 9 0).bind fun v11 => (ldI h4 .int v11 (l2 - (1 : Int32))).bind fun v12 => (gR h4 l1 3 11).bind fun v13 => (ldI h4 .int v13 (l2 - (1 : Int32))).bind fun v14 => (f_J6_bitCount_0f7a4 h4 (v12 &&& (l3 ^^^ (-1 : Int32)))).bind fun r15 => (if (v1 * r15) ≤ v14 then (f_X9_seek_112 (f_X9_seek n) h4 l0 l1 l3 l4 (l2 - (1 : Int32))) else ((f_X9_seek n h4 l0 l1 (l2 - (1 : Int32)) (l3 ||| (v12 &&& (l3 ^^^ (-1 : Int32)))) (l4 + v14)).bind fun r17 => f_X9_seek_112 (f_X9_seek n) r17 l0 l1 l3 l4 (l2 - (1 : Int32))))) else (some (h4)))))
set_option maxRecDepth 20000 in
theorem w_X9_seek_112 (h : xH) {d' : Nat} (hd' : 4 ≤ d') {ks : xH → Nat → Nat → Int32 → Int32 → Int32 → Option (xH)} (hks : ∀ (h : xH) (a0 : Nat) (a1 : Nat) (a2 : Int32) (a3 : Int32) (a4 : Int32) (r : xH), ks h a0 a1 a2 a3 a4 = some r → Ev d' yX9_seek cX9_seek 9 none [] [.ref a0, .ref a1, .int a2, .int a3, .int a4] h (oVh r)) (l0 : Nat) (l1 : Nat) (l3 : Int32) (l4 : Int32) (l6 : Int32) (r : xH) (hf : f_X9_seek_112 ks h l0 l1 l3 l4 l6 = some r) : V (d' + 1) yX9_seek cX9_seek 9 none [] none 112 [(0, .ref l0), (1, .ref l1), (3, .int l3), (4, .int l4), (6, .int l6)] [] h (oVh r) := by
  unfold f_X9_seek_112 at hf
  refine V.aload_n dX9_seek_112 rfl 0 rfl ?_
  refine V.aload_n dX9_seek_113 rfl 1 rfl ?_
  refine V.iload dX9_seek_114 4 rfl ?_
  refine V.iload_n dX9_seek_116 rfl 2 rfl ?_
  refine V.iload dX9_seek_117 3 rfl ?_
  obtain ⟨r1, e1, hf⟩ := bS hf
  refine V.callS (As := [.ref l0, .ref l1, .int l6, .int l3, .int l4]) (st := []) dX9_seek_119 cl_RX9_37 sw_yX9_seek (Nat.le_refl _) rfl (Nat.le_of_ble_eq_true rfl) rfl (hks _ _ _ _ _ _ _ e1) ?_
  obtain rfl := Option.some.inj hf
  exact V.vret dX9_seek_122

set_option maxRecDepth 20000 in
theorem w_X9_seek : ∀ (n : Nat) (h : xH) (l0 : Nat) (l1 : Nat) (l2 : Int32) (l3 : Int32) (l4 : Int32) (r : xH), f_X9_seek n h l0 l1 l2 l3 l4 = some r → Ev (n + 4) yX9_seek cX9_seek 9 none [] [.ref l0, .ref l1, .int l2, .int l3, .int l4] h (oVh r) := by
  intro n
  induction n with
  | zero => intro h l0 l1 l2 l3 l4 r hf; cases hf
  | succ n ih =>
    intro h l0 l1 l2 l3 l4 r hf
    rw [f_X9_seek] at hf
    have hd' : 4 ≤ n + 4 := Nat.le_add_left _ _
    have hks := ih
    rw [Nat.succ_add n 4]
    refine Ev.of (by decide +kernel) (Nat.le_of_ble_eq_true rfl) ?_
    refine V.aload_n dX9_seek_0 rfl 1 rfl ?_
    obtain ⟨v1, e2, hf⟩ := bS hf
    refine V.xgI dX9_seek_1 fl_RX9_41 e2 ?_
    refine V.istore (lv' := [(5, .int v1), (0, .ref l0), (1, .ref l1), (2, .int l2), (3, .int l3), (4, .int l4)]) dX9_seek_4 (by decide) rfl ?_
    refine V.aload_n dX9_seek_6 rfl 1 rfl ?_
    refine V.aload_n dX9_seek_7 rfl 1 rfl ?_
    obtain ⟨v2, e3, hf⟩ := bS hf
    refine V.xgI dX9_seek_8 fl_RX9_18 e3 ?_
    refine V.iload dX9_seek_11 0 rfl ?_
    refine V.iload_n dX9_seek_13 rfl 4 rfl ?_
    obtain ⟨r3, e4, hf⟩ := bS hf
    refine V.callS (As := [.int l3]) (st := [.int v1, .int v2, .ref l0]) dX9_seek_14 cl_RX9_44 sw_yJ6_bitCount_0f7a4 (by omega) rfl (Nat.le_of_ble_eq_true rfl) rfl (w_J6_bitCount_0f7a4 _ _ _ e4) ?_
    refine V.imul dX9_seek_17 ?_
    refine V.iload dX9_seek_18 5 rfl ?_
    refine V.isub dX9_seek_20 ?_
    refine V.mmax dX9_seek_21 ml_RX9_50 ms_max mi_ mc_max (Nat.le_of_ble_eq_true rfl) ?_
    obtain ⟨h4, e5, hf⟩ := bS hf
    refine V.xpF dX9_seek_24 fl_RX9_18 (fun h9 => nomatch h9) (fun _ => rfl) (fun _ => rfl) e5 ?_
    refine V.iload_n dX9_seek_27 rfl 3 rfl ?_
    refine V.if_le (tgt := 55) dX9_seek_28 (by decide) (fun c5 => ?_) (fun c5 => ?_)
    · rw [if_pos c5] at hf
      obtain rfl := Option.some.inj hf
      exact V.vret dX9_seek_55
    · rw [if_neg c5] at hf
      refine V.iload dX9_seek_31 0 rfl ?_
      refine V.iload_n dX9_seek_33 rfl 4 rfl ?_
      refine V.aload_n dX9_seek_34 rfl 1 rfl ?_
      obtain ⟨v6, e6, hf⟩ := bS hf
      refine V.xgR dX9_seek_35 fl_RX9_15 e6 ?_
      refine V.iload_n dX9_seek_38 rfl 3 rfl ?_
      obtain ⟨v7, e7, hf⟩ := bS hf
      refine V.xldI dX9_seek_39 e7 ?_
      refine V.ior dX9_seek_40 ?_
      obtain ⟨r8, e8, hf⟩ := bS hf
      refine V.callS (As := [.int (l3 ||| v7)]) (st := [.int v1]) dX9_seek_41 cl_RX9_44 sw_yJ6_bitCount_0f7a4 (by omega) rfl (Nat.le_of_ble_eq_true rfl) rfl (w_J6_bitCount_0f7a4 _ _ _ e8) ?_
      refine V.imul dX9_seek_44 ?_
      refine V.iload dX9_seek_45 5 rfl ?_
      refine V.isub dX9_seek_47 ?_
      refine V.aload_n dX9_seek_48 rfl 1 rfl ?_
      obtain ⟨v9, e9, hf⟩ := bS hf
      refine V.xgI dX9_seek_49 fl_RX9_18 e9 ?_
      refine V.icmp_gt (tgt := 56) dX9_seek_52 (by decide) (fun c10 => ?_) (fun c10 => ?_)
      · rw [if_pos c10] at hf
        refine V.iload_n dX9_seek_56 rfl 3 rfl ?_
        refine V.iconst (v := (1 : Int32)) dX9_seek_57 (by decide) ?_
        refine V.isub dX9_seek_58 ?_
        refine V.istore (lv' := [(6, .int (l2 - (1 : Int32))), (5, .int v1), (0, .ref l0), (1, .ref l1), (2, .int l2), (3, .int l3), (4, .int l4)]) dX9_seek_59 (by decide) rfl ?_
        refine V.aload_n dX9_seek_61 rfl 2 rfl ?_
        obtain ⟨v11, e10, hf⟩ := bS hf
        refine V.xgR dX9_seek_62 fl_RX9_9 e10 ?_
        refine V.iload dX9_seek_65 0 rfl ?_
        obtain ⟨v12, e11, hf⟩ := bS hf
        refine V.xldI dX9_seek_67 e11 ?_
        refine V.iload_n dX9_seek_68 rfl 5 rfl ?_
        refine V.iconst (v := (-1 : Int32)) dX9_seek_69 (by decide) ?_
        refine V.ixor dX9_seek_70 ?_
        refine V.iand dX9_seek_71 ?_
        refine V.istore (lv' := [(7, .int (v12 &&& (l3 ^^^ (-1 : Int32)))), (6, .int (l2 - (1 : Int32))), (5, .int v1), (0, .ref l0), (1, .ref l1), (2, .int l2), (3, .int l3), (4, .int l4)]) dX9_seek_72 (by decide) rfl ?_
        refine V.aload_n dX9_seek_74 rfl 4 rfl ?_
        obtain ⟨v13, e12, hf⟩ := bS hf
        refine V.rgR dX9_seek_75 fl_RX9_56 e12 ?_
        refine V.iload dX9_seek_78 1 rfl ?_
        obtain ⟨v14, e13, hf⟩ := bS hf
        refine V.xldI dX9_seek_80 e13 ?_
        refine V.istore (lv' := [(8, .int v14), (7, .int (v12 &&& (l3 ^^^ (-1 : Int32)))), (6, .int (l2 - (1 : Int32))), (5, .int v1), (0, .ref l0), (1, .ref l1), (2, .int l2), (3, .int l3), (4, .int l4)]) dX9_seek_81 (by decide) rfl ?_
        refine V.iload dX9_seek_83 0 rfl ?_
        refine V.iload dX9_seek_85 3 rfl ?_
        refine V.iload dX9_seek_87 1 rfl ?_
        obtain ⟨r15, e14, hf⟩ := bS hf
        refine V.callS (As := [.int (v12 &&& (l3 ^^^ (-1 : Int32)))]) (st := [.int v1, .int v14]) dX9_seek_89 cl_RX9_44 sw_yJ6_bitCount_0f7a4 (by omega) rfl (Nat.le_of_ble_eq_true rfl) rfl (w_J6_bitCount_0f7a4 _ _ _ e14) ?_
        refine V.imul dX9_seek_92 ?_
        refine V.icmp_ge (tgt := 112) dX9_seek_93 (by decide) (fun c16 => ?_) (fun c16 => ?_)
        · rw [if_pos c16] at hf
          refine V.sub [4, 5, 7, 8, 2] rfl ?_
          exact w_X9_seek_112 _ hd' hks _ _ _ _ _ _ hf
        · rw [if_neg c16] at hf
          refine V.aload_n dX9_seek_96 rfl 4 rfl ?_
          refine V.aload_n dX9_seek_97 rfl 5 rfl ?_
          refine V.iload dX9_seek_98 2 rfl ?_
          refine V.iload_n dX9_seek_100 rfl 7 rfl ?_
          refine V.iload dX9_seek_101 1 rfl ?_
          refine V.ior dX9_seek_103 ?_
          refine V.iload dX9_seek_104 8 rfl ?_
          refine V.iload dX9_seek_106 0 rfl ?_
          refine V.iadd dX9_seek_108 ?_
          obtain ⟨r17, e15, hf⟩ := bS hf
          refine V.callS (As := [.ref l0, .ref l1, .int (l2 - (1 : Int32)), .int (l3 ||| (v12 &&& (l3 ^^^ (-1 : Int32)))), .int (l4 + v14)]) (st := []) dX9_seek_109 cl_RX9_37 sw_yX9_seek (Nat.le_refl _) rfl (Nat.le_of_ble_eq_true rfl) rfl (hks _ _ _ _ _ _ _ e15) ?_
          refine V.sub [4, 5, 7, 8, 2] rfl ?_
          exact w_X9_seek_112 _ hd' hks _ _ _ _ _ _ hf
      · rw [if_neg c10] at hf
        obtain rfl := Option.some.inj hf
        exact V.vret dX9_seek_55

def f_X9_savingOf_40 (k7 : xH → Nat → Nat → Int32 → Int32 → Option (Int32 × xH)) (h : xH) (l0 : Nat) (l1 : Nat) (l2 : Int32) (l3 : Int32) (s0 : Int32) (s1 : Int32) (s2 : Nat) : Option (Int32 × xH) := (stI h .int s2 s1 s0).bind fun h1 => (gR h1 l0 9 1).bind fun v2 => (gR h1 l0 9 1).bind fun v3 => (ldI h1 .int v3 l3).bind fun v4 => (gR h1 l0 9 0).bind fun v5 => (ldI h1 .int v5 l3).bind fun v6 => (stI h1 .int v2 (l3 + (1 : Int32)) (v4 ||| v6)).bind fun h7 => k7 h7 l0 l1 l2 (l3 + 1)
def f_X9_savingOf_7 : Nat → xH → Nat → Nat → Int32 → Int32 → Option (Int32 × xH)
  | 0, _, _, _, _, _ => none
  | n + 1, h, l0, l1, l2, l3 => (gI h l1 3 1).bind fun v1 => (if v1 ≤ l3 then ((gI h l1 3 1).bind fun v3 => (f_X9_seek  40 h l0 l1 v3 (0 : Int32) (0 : Int32)).bind fun r4 => (gI r4 l0 9 2).bind fun v5 => some ((v5, r4))) else ((gR h l0 9 0).bind fun v6 => (if ((l2 >>> (l3 &&& 31)) &&& (1 : Int32)) = 0 then (f_X9_savingOf_40 (f_X9_savingOf_7 n) h l0 l1 l2 l3 (0 : Int32) l3 v6) else ((gR h l1 3 14).bind fun v8 => (ldI h .int v8 l3).bind fun v9 => f_X9_savingOf_40 (f_X9_savingOf_7 n) h l0 l1 l2 l3 (v9 &&& l2) l3 v6))))
def f_X9_savingOf (h : xH) (l0 : Nat) (l1 : Nat) (l2 : Int32) : Option (Int32 × xH) := (pF h l0 9 2 (.int (0 : Int32))).bind fun h1 => f_X9_savingOf_7 xFU h1 l0 l1 l2 (0 : Int32)
set_option maxRecDepth 20000 in
theorem w_X9_savingOf_40 (h : xH) {k7 : xH → Nat → Nat → Int32 → Int32 → Option (Int32 × xH)} (hk7 : ∀ (h : xH) (l0 : Nat) (l1 : Nat) (l2 : Int32) (l3 : Int32) (r : Int32 × xH), k7 h l0 l1 l2 l3 = some r → V 46 yX9_savingOf cX9_savingOf 4 (some .int) [] none 7 [(0, .ref l0), (1, .ref l1), (2, .int l2), (3, .int l3)] [] h (oIh r)) (l0 : Nat) (l1 : Nat) (l2 : Int32) (l3 : Int32) (s0 : Int32) (s1 : Int32) (s2 : Nat) (r : Int32 × xH) (hf : f_X9_savingOf_40 k7 h l0 l1 l2 l3 s0 s1 s2 = some r) : V 46 yX9_savingOf cX9_savingOf 4 (some .int) [] none 40 [(0, .ref l0), (1, .ref l1), (2, .int l2), (3, .int l3)] [.int s0, .int s1, .ref s2] h (oIh r) := by
  unfold f_X9_savingOf_40 at hf
  obtain ⟨h1, e1, hf⟩ := bS hf
  refine V.xstI dX9_savingOf_40 e1 ?_
  refine V.aload_n dX9_savingOf_41 rfl 0 rfl ?_
  obtain ⟨v2, e2, hf⟩ := bS hf
  refine V.xgR dX9_savingOf_42 fl_RX9_15 e2 ?_
  refine V.iload_n dX9_savingOf_45 rfl 3 rfl ?_
  refine V.iconst (v := (1 : Int32)) dX9_savingOf_46 (by decide) ?_
  refine V.iadd dX9_savingOf_47 ?_
  refine V.aload_n dX9_savingOf_48 rfl 0 rfl ?_
  obtain ⟨v3, e3, hf⟩ := bS hf
  refine V.xgR dX9_savingOf_49 fl_RX9_15 e3 ?_
  refine V.iload_n dX9_savingOf_52 rfl 3 rfl ?_
  obtain ⟨v4, e4, hf⟩ := bS hf
  refine V.xldI dX9_savingOf_53 e4 ?_
  refine V.aload_n dX9_savingOf_54 rfl 0 rfl ?_
  obtain ⟨v5, e5, hf⟩ := bS hf
  refine V.xgR dX9_savingOf_55 fl_RX9_9 e5 ?_
  refine V.iload_n dX9_savingOf_58 rfl 3 rfl ?_
  obtain ⟨v6, e6, hf⟩ := bS hf
  refine V.xldI dX9_savingOf_59 e6 ?_
  refine V.ior dX9_savingOf_60 ?_
  obtain ⟨h7, e7, hf⟩ := bS hf
  refine V.xstI dX9_savingOf_61 e7 ?_
  refine V.iinc (v := (l3 + 1)) (lv' := [(3, .int (l3 + 1)), (0, .ref l0), (1, .ref l1), (2, .int l2)]) dX9_savingOf_62 3 rfl rfl (Nat.le_of_ble_eq_true rfl) rfl ?_
  refine V.goto (tgt := 7) dX9_savingOf_65 (by decide) ?_
  refine V.sub [1, 2, 3, 0] rfl ?_
  exact hk7 _ _ _ _ _ _ hf

set_option maxRecDepth 20000 in
theorem w_X9_savingOf_7 : ∀ (n : Nat) (h : xH) (l0 : Nat) (l1 : Nat) (l2 : Int32) (l3 : Int32) (r : Int32 × xH), f_X9_savingOf_7 n h l0 l1 l2 l3 = some r → V 46 yX9_savingOf cX9_savingOf 4 (some .int) [] none 7 [(0, .ref l0), (1, .ref l1), (2, .int l2), (3, .int l3)] [] h (oIh r) := by
  intro n
  induction n with
  | zero => intro h l0 l1 l2 l3 r hf; cases hf
  | succ n ih =>
    intro h l0 l1 l2 l3 r hf
    rw [f_X9_savingOf_7] at hf
    refine V.iload_n dX9_savingOf_7 rfl 3 rfl ?_
    refine V.aload_n dX9_savingOf_8 rfl 1 rfl ?_
    obtain ⟨v1, e8, hf⟩ := bS hf
    refine V.xgI dX9_savingOf_9 fl_RX9_29 e8 ?_
    refine V.icmp_ge (tgt := 68) dX9_savingOf_12 (by decide) (fun c2 => ?_) (fun c2 => ?_)
    · rw [if_pos c2] at hf
      refine V.aload_n dX9_savingOf_68 rfl 0 rfl ?_
      refine V.aload_n dX9_savingOf_69 rfl 1 rfl ?_
      refine V.aload_n dX9_savingOf_70 rfl 1 rfl ?_
      obtain ⟨v3, e9, hf⟩ := bS hf
      refine V.xgI dX9_savingOf_71 fl_RX9_29 e9 ?_
      refine V.iconst (v := (0 : Int32)) dX9_savingOf_74 (by decide) ?_
      refine V.iconst (v := (0 : Int32)) dX9_savingOf_75 (by decide) ?_
      obtain ⟨r4, e10, hf⟩ := bS hf
      refine V.callS (As := [.ref l0, .ref l1, .int v3, .int (0 : Int32), .int (0 : Int32)]) (st := []) dX9_savingOf_76 cl_RX9_37 sw_yX9_seek (by decide) rfl (Nat.le_of_ble_eq_true rfl) rfl ((w_X9_seek 40 _ _ _ _ _ _ _ e10)) ?_
      refine V.aload_n dX9_savingOf_79 rfl 0 rfl ?_
      obtain ⟨v5, e11, hf⟩ := bS hf
      refine V.xgI dX9_savingOf_80 fl_RX9_18 e11 ?_
      obtain rfl := Option.some.inj hf
      exact V.iret dX9_savingOf_83
    · rw [if_neg c2] at hf
      refine V.aload_n dX9_savingOf_15 rfl 0 rfl ?_
      obtain ⟨v6, e12, hf⟩ := bS hf
      refine V.xgR dX9_savingOf_16 fl_RX9_9 e12 ?_
      refine V.iload_n dX9_savingOf_19 rfl 3 rfl ?_
      refine V.iload_n dX9_savingOf_20 rfl 2 rfl ?_
      refine V.iload_n dX9_savingOf_21 rfl 3 rfl ?_
      refine V.ishr dX9_savingOf_22 ?_
      refine V.iconst (v := (1 : Int32)) dX9_savingOf_23 (by decide) ?_
      refine V.iand dX9_savingOf_24 ?_
      refine V.if_eq (tgt := 39) dX9_savingOf_25 (by decide) (fun c7 => ?_) (fun c7 => ?_)
      · rw [if_pos c7] at hf
        refine V.iconst (v := (0 : Int32)) dX9_savingOf_39 (by decide) ?_
        exact w_X9_savingOf_40 _ ih _ _ _ _ _ _ _ _ hf
      · rw [if_neg c7] at hf
        refine V.aload_n dX9_savingOf_28 rfl 1 rfl ?_
        obtain ⟨v8, e13, hf⟩ := bS hf
        refine V.rgR dX9_savingOf_29 fl_RX9_34 e13 ?_
        refine V.iload_n dX9_savingOf_32 rfl 3 rfl ?_
        obtain ⟨v9, e14, hf⟩ := bS hf
        refine V.xldI dX9_savingOf_33 e14 ?_
        refine V.iload_n dX9_savingOf_34 rfl 2 rfl ?_
        refine V.iand dX9_savingOf_35 ?_
        refine V.goto (tgt := 40) dX9_savingOf_36 (by decide) ?_
        exact w_X9_savingOf_40 _ ih _ _ _ _ _ _ _ _ hf

set_option maxRecDepth 20000 in
theorem w_X9_savingOf (h : xH) (l0 : Nat) (l1 : Nat) (l2 : Int32) (r : Int32 × xH) (hf : f_X9_savingOf h l0 l1 l2 = some r) : Ev 46 yX9_savingOf cX9_savingOf 4 (some .int) [] [.ref l0, .ref l1, .int l2] h (oIh r) := by
  refine Ev.of (by decide +kernel) (Nat.le_of_ble_eq_true rfl) ?_
  unfold f_X9_savingOf at hf
  refine V.aload_n dX9_savingOf_0 rfl 0 rfl ?_
  refine V.iconst (v := (0 : Int32)) dX9_savingOf_1 (by decide) ?_
  obtain ⟨h1, e15, hf⟩ := bS hf
  refine V.xpF dX9_savingOf_2 fl_RX9_18 (fun h9 => nomatch h9) (fun _ => rfl) (fun _ => rfl) e15 ?_
  refine V.iconst (v := (0 : Int32)) dX9_savingOf_5 (by decide) ?_
  refine V.istore_n (lv' := [(3, .int (0 : Int32)), (0, .ref l0), (1, .ref l1), (2, .int l2)]) dX9_savingOf_6 rfl (by decide) rfl ?_
  refine V.sub [1, 2, 3, 0] rfl ?_
  exact w_X9_savingOf_7 _ _ _ _ _ _ _ hf

def f_X9_findSavings_46 (h : xH) (l0 : Nat) (l1 : Nat) : Option (xH) := (pF h l0 9 4 (.ref l1)).bind fun h1 => some (h1)
def f_X9_findSavings_11 : Nat → xH → Nat → Nat → Int32 → Option (xH)
  | 0, _, _, _, _ => none
  | n + 1, h, l0, l1, l2 => (gR h l0 9 3).bind fun v1 => (aln h v1).bind fun v2 => (if v2 ≤ l2 then (f_X9_findSavings_46 h l0 l1) else ((gO h l1 3).bind fun q4 => (f_X3_allRooms h l1).bind fun r5 => (if r5 < l2 then (f_X9_findSavings_46 h l0 l1) else ((gR h l0 9 3).bind fun v7 => (gO h l0 9).bind fun q8 => (f_X9_savingOf h l0 l1 l2).bind fun r9 => (stI r9.2 .int v7 l2 (r9.1)).bind fun h10 => f_X9_findSavings_11 n h10 l0 l1 (l2 + 1)))))
def f_X9_findSavings (h : xH) (l0 : Nat) (l1 : Nat) : Option (xH) := (gN h l0 9 4).bind fun v1 => (match v1 with | none => (f_X9_findSavings_11 xFU h l0 l1 (0 : Int32)) | some v2 => ((lt2 h v2 l1).bind fun v4 => (if v2 = l1 then (some (h)) else (f_X9_findSavings_11 xFU h l0 l1 (0 : Int32)))))
set_option maxRecDepth 20000 in
theorem w_X9_findSavings_46 (h : xH) (l0 : Nat) (l1 : Nat) (r : xH) (hf : f_X9_findSavings_46 h l0 l1 = some r) : V 47 yX9_findSavings cX9_findSavings 3 none [] none 46 [(0, .ref l0), (1, .ref l1)] [] h (oVh r) := by
  unfold f_X9_findSavings_46 at hf
  refine V.aload_n dX9_findSavings_46 rfl 0 rfl ?_
  refine V.aload_n dX9_findSavings_47 rfl 1 rfl ?_
  obtain ⟨h1, e1, hf⟩ := bS hf
  refine V.xpF dX9_findSavings_48 fl_RX9_25 (fun h9 => nomatch h9) (fun _ => rfl) (fun _ => rfl) e1 ?_
  obtain rfl := Option.some.inj hf
  exact V.vret dX9_findSavings_51

set_option maxRecDepth 20000 in
theorem w_X9_findSavings_11 : ∀ (n : Nat) (h : xH) (l0 : Nat) (l1 : Nat) (l2 : Int32) (r : xH), f_X9_findSavings_11 n h l0 l1 l2 = some r → V 47 yX9_findSavings cX9_findSavings 3 none [] none 11 [(0, .ref l0), (1, .ref l1), (2, .int l2)] [] h (oVh r) := by
  intro n
  induction n with
  | zero => intro h l0 l1 l2 r hf; cases hf
  | succ n ih =>
    intro h l0 l1 l2 r hf
    rw [f_X9_findSavings_11] at hf
    refine V.iload_n dX9_findSavings_11 rfl 2 rfl ?_
    refine V.aload_n dX9_findSavings_12 rfl 0 rfl ?_
    obtain ⟨v1, e2, hf⟩ := bS hf
    refine V.xgR dX9_findSavings_13 fl_RX9_22 e2 ?_
    obtain ⟨v2, e3, hf⟩ := bS hf
    refine V.xaln dX9_findSavings_16 e3 ?_
    refine V.icmp_ge (tgt := 46) dX9_findSavings_17 (by decide) (fun c3 => ?_) (fun c3 => ?_)
    · rw [if_pos c3] at hf
      refine V.sub [0, 1] rfl ?_
      exact w_X9_findSavings_46 _ _ _ _ hf
    · rw [if_neg c3] at hf
      refine V.iload_n dX9_findSavings_20 rfl 2 rfl ?_
      refine V.aload_n dX9_findSavings_21 rfl 1 rfl ?_
      obtain ⟨q4, e4, hf⟩ := bS hf
      obtain ⟨r5, e5, hf⟩ := bS hf
      refine V.callV (As := []) (st := [.int l2]) dX9_findSavings_22 cl_RX9_59 sw_yX3_allRooms (by decide) rfl (Nat.le_of_ble_eq_true rfl) rfl (gO_some e4) rfl (w_X3_allRooms _ _ _ e5) ?_
      refine V.icmp_gt (tgt := 46) dX9_findSavings_25 (by decide) (fun c6 => ?_) (fun c6 => ?_)
      · rw [if_pos c6] at hf
        refine V.sub [0, 1] rfl ?_
        exact w_X9_findSavings_46 _ _ _ _ hf
      · rw [if_neg c6] at hf
        refine V.aload_n dX9_findSavings_28 rfl 0 rfl ?_
        obtain ⟨v7, e6, hf⟩ := bS hf
        refine V.xgR dX9_findSavings_29 fl_RX9_22 e6 ?_
        refine V.iload_n dX9_findSavings_32 rfl 2 rfl ?_
        refine V.aload_n dX9_findSavings_33 rfl 0 rfl ?_
        refine V.aload_n dX9_findSavings_34 rfl 1 rfl ?_
        refine V.iload_n dX9_findSavings_35 rfl 2 rfl ?_
        obtain ⟨q8, e7, hf⟩ := bS hf
        obtain ⟨r9, e8, hf⟩ := bS hf
        refine V.callV (As := [.ref l1, .int l2]) (st := [.int l2, .ref v7]) dX9_findSavings_36 cl_RX9_63 sw_yX9_savingOf (by decide) rfl (Nat.le_of_ble_eq_true rfl) rfl (gO_some e7) rfl (w_X9_savingOf _ _ _ _ _ e8) ?_
        obtain ⟨h10, e9, hf⟩ := bS hf
        refine V.xstI dX9_findSavings_39 e9 ?_
        refine V.iinc (v := (l2 + 1)) (lv' := [(2, .int (l2 + 1)), (0, .ref l0), (1, .ref l1)]) dX9_findSavings_40 2 rfl rfl (Nat.le_of_ble_eq_true rfl) rfl ?_
        refine V.goto (tgt := 11) dX9_findSavings_43 (by decide) ?_
        refine V.sub [1, 2, 0] rfl ?_
        exact ih _ _ _ _ _ hf

set_option maxRecDepth 20000 in
theorem w_X9_findSavings (h : xH) (l0 : Nat) (l1 : Nat) (r : xH) (hf : f_X9_findSavings h l0 l1 = some r) : Ev 47 yX9_findSavings cX9_findSavings 3 none [] [.ref l0, .ref l1] h (oVh r) := by
  refine Ev.of (by decide +kernel) (Nat.le_of_ble_eq_true rfl) ?_
  unfold f_X9_findSavings at hf
  refine V.aload_n dX9_findSavings_0 rfl 0 rfl ?_
  obtain ⟨v1, e10, hf⟩ := bS hf
  rcases v1 with _ | v2
  · refine V.xgN0 dX9_findSavings_1 fl_RX9_25 e10 ?_
    refine V.aload_n dX9_findSavings_4 rfl 1 rfl ?_
    refine V.acmp_neN (tgt := 9) dX9_findSavings_5 (by decide) ?_
    refine V.iconst (v := (0 : Int32)) dX9_findSavings_9 (by decide) ?_
    refine V.istore_n (lv' := [(2, .int (0 : Int32)), (0, .ref l0), (1, .ref l1)]) dX9_findSavings_10 rfl (by decide) rfl ?_
    refine V.sub [1, 2, 0] rfl ?_
    exact w_X9_findSavings_11 _ _ _ _ _ _ hf
  · refine V.xgN dX9_findSavings_1 fl_RX9_25 e10 ?_
    refine V.aload_n dX9_findSavings_4 rfl 1 rfl ?_
    obtain ⟨v4, e11, hf⟩ := bS hf
    refine V.acmp_ne (tgt := 9) dX9_findSavings_5 (by decide) (lt2_l e11) (lt2_r e11) (fun c3 => ?_) (fun c3 => ?_)
    · rw [if_neg c3] at hf
      refine V.iconst (v := (0 : Int32)) dX9_findSavings_9 (by decide) ?_
      refine V.istore_n (lv' := [(2, .int (0 : Int32)), (0, .ref l0), (1, .ref l1)]) dX9_findSavings_10 rfl (by decide) rfl ?_
      refine V.sub [1, 2, 0] rfl ?_
      exact w_X9_findSavings_11 _ _ _ _ _ _ hf
    · rw [if_pos c3] at hf
      obtain rfl := Option.some.inj hf
      exact V.vret dX9_findSavings_8

def f_X9_owedOverOrders_15 : Nat → xH → Nat → Nat → Int64 → Int32 → Int32 → Option (Int64 × xH)
  | 0, _, _, _, _, _, _ => none
  | n + 1, h, l0, l1, l3, l5, l6 => (gR h l0 9 3).bind fun v1 => (aln h v1).bind fun v2 => (if v2 ≤ l6 then (some ((l3, h))) else ((gO h l1 3).bind fun q4 => (f_X3_allRooms h l1).bind fun r5 => (if r5 < l6 then (some ((l3, h))) else ((if (l6 &&& l5) = 0 then ((f_J6_bitCount_0f7a4 h l6).bind fun r8 => (f_X11_factorial h r8).bind fun r9 => (gI h l1 3 1).bind fun v10 => (f_X11_factorial h ((v10 - (1 : Int32)) - r8)).bind fun r11 => (gR h l0 9 3).bind fun v12 => (ldI h .int v12 (l6 ||| l5)).bind fun v13 => (gR h l0 9 3).bind fun v14 => (ldI h .int v14 l6).bind fun v15 => f_X9_owedOverOrders_15 n h l0 l1 (l3 + ((r9 * r11) * (Int32.toInt64 (v13 - v15)))) l5 (l6 + 1)) else (f_X9_owedOverOrders_15 n h l0 l1 l3 l5 (l6 + 1)))))))
def f_X9_owedOverOrders (h : xH) (l0 : Nat) (l1 : Nat) (l2 : Int32) : Option (Int64 × xH) := (gO h l0 9).bind fun q1 => (f_X9_findSavings h l0 l1).bind fun r2 => f_X9_owedOverOrders_15 xFU r2 l0 l1 (0 : Int64) ((1 : Int32) <<< (l2 &&& 31)) (0 : Int32)
set_option maxRecDepth 20000 in
theorem w_X9_owedOverOrders_15 : ∀ (n : Nat) (h : xH) (l0 : Nat) (l1 : Nat) (l3 : Int64) (l5 : Int32) (l6 : Int32) (r : Int64 × xH), f_X9_owedOverOrders_15 n h l0 l1 l3 l5 l6 = some r → V 48 yX9_owedOverOrders cX9_owedOverOrders 10 (some .long) [] none 15 [(0, .ref l0), (1, .ref l1), (3, .long l3), (5, .int l5), (6, .int l6)] [] h (oJh r) := by
  intro n
  induction n with
  | zero => intro h l0 l1 l3 l5 l6 r hf; cases hf
  | succ n ih =>
    intro h l0 l1 l3 l5 l6 r hf
    rw [f_X9_owedOverOrders_15] at hf
    refine V.iload dX9_owedOverOrders_15 4 rfl ?_
    refine V.aload_n dX9_owedOverOrders_17 rfl 0 rfl ?_
    obtain ⟨v1, e1, hf⟩ := bS hf
    refine V.xgR dX9_owedOverOrders_18 fl_RX9_22 e1 ?_
    obtain ⟨v2, e2, hf⟩ := bS hf
    refine V.xaln dX9_owedOverOrders_21 e2 ?_
    refine V.icmp_ge (tgt := 100) dX9_owedOverOrders_22 (by decide) (fun c3 => ?_) (fun c3 => ?_)
    · rw [if_pos c3] at hf
      refine V.lload_n dX9_owedOverOrders_100 rfl 2 rfl ?_
      obtain rfl := Option.some.inj hf
      exact V.lret dX9_owedOverOrders_101
    · rw [if_neg c3] at hf
      refine V.iload dX9_owedOverOrders_25 4 rfl ?_
      refine V.aload_n dX9_owedOverOrders_27 rfl 1 rfl ?_
      obtain ⟨q4, e3, hf⟩ := bS hf
      obtain ⟨r5, e4, hf⟩ := bS hf
      refine V.callV (As := []) (st := [.int l6]) dX9_owedOverOrders_28 cl_RX9_59 sw_yX3_allRooms (by decide) rfl (Nat.le_of_ble_eq_true rfl) rfl (gO_some e3) rfl (w_X3_allRooms _ _ _ e4) ?_
      refine V.icmp_gt (tgt := 100) dX9_owedOverOrders_31 (by decide) (fun c6 => ?_) (fun c6 => ?_)
      · rw [if_pos c6] at hf
        refine V.lload_n dX9_owedOverOrders_100 rfl 2 rfl ?_
        obtain rfl := Option.some.inj hf
        exact V.lret dX9_owedOverOrders_101
      · rw [if_neg c6] at hf
        refine V.iload dX9_owedOverOrders_34 4 rfl ?_
        refine V.iload dX9_owedOverOrders_36 3 rfl ?_
        refine V.iand dX9_owedOverOrders_38 ?_
        refine V.if_ne (tgt := 94) dX9_owedOverOrders_39 (by decide) (fun c7 => ?_) (fun c7 => ?_)
        · rw [if_neg c7] at hf
          refine V.iinc (v := (l6 + 1)) (lv' := [(6, .int (l6 + 1)), (0, .ref l0), (1, .ref l1), (3, .long l3), (5, .int l5)]) dX9_owedOverOrders_94 4 rfl rfl (Nat.le_of_ble_eq_true rfl) rfl ?_
          refine V.goto (tgt := 15) dX9_owedOverOrders_97 (by decide) ?_
          refine V.sub [1, 2, 3, 4, 0] rfl ?_
          exact ih _ _ _ _ _ _ _ hf
        · rw [if_pos c7] at hf
          refine V.iload dX9_owedOverOrders_42 4 rfl ?_
          obtain ⟨r8, e5, hf⟩ := bS hf
          refine V.callS (As := [.int l6]) (st := []) dX9_owedOverOrders_44 cl_RX9_44 sw_yJ6_bitCount_0f7a4 (by decide) rfl (Nat.le_of_ble_eq_true rfl) rfl (w_J6_bitCount_0f7a4 _ _ _ e5) ?_
          refine V.istore (lv' := [(7, .int r8), (0, .ref l0), (1, .ref l1), (3, .long l3), (5, .int l5), (6, .int l6)]) dX9_owedOverOrders_47 (by decide) rfl ?_
          refine V.iload dX9_owedOverOrders_49 0 rfl ?_
          obtain ⟨r9, e6, hf⟩ := bS hf
          refine V.callSN (host := "LitNextDoor") (As := [.int r8]) (st := []) dX9_owedOverOrders_51 nl_RX9_71.1 nl_RX9_71.2 sw_yX11_factorial (by decide) rfl (Nat.le_of_ble_eq_true rfl) rfl (w_X11_factorial _ _ _ e6) ?_
          refine V.aload_n dX9_owedOverOrders_54 rfl 2 rfl ?_
          obtain ⟨v10, e7, hf⟩ := bS hf
          refine V.xgI dX9_owedOverOrders_55 fl_RX9_29 e7 ?_
          refine V.iconst (v := (1 : Int32)) dX9_owedOverOrders_58 (by decide) ?_
          refine V.isub dX9_owedOverOrders_59 ?_
          refine V.iload dX9_owedOverOrders_60 0 rfl ?_
          refine V.isub dX9_owedOverOrders_62 ?_
          obtain ⟨r11, e8, hf⟩ := bS hf
          refine V.callSN (host := "LitNextDoor") (As := [.int ((v10 - (1 : Int32)) - r8)]) (st := [.long r9]) dX9_owedOverOrders_63 nl_RX9_71.1 nl_RX9_71.2 sw_yX11_factorial (by decide) rfl (Nat.le_of_ble_eq_true rfl) rfl (w_X11_factorial _ _ _ e8) ?_
          refine V.lmul dX9_owedOverOrders_66 ?_
          refine V.lstore (lv' := [(8, .long (r9 * r11)), (7, .int r8), (0, .ref l0), (1, .ref l1), (3, .long l3), (5, .int l5), (6, .int l6)]) dX9_owedOverOrders_67 (by decide) rfl ?_
          refine V.lload_n dX9_owedOverOrders_69 rfl 4 rfl ?_
          refine V.lload dX9_owedOverOrders_70 0 rfl ?_
          refine V.aload_n dX9_owedOverOrders_72 rfl 2 rfl ?_
          obtain ⟨v12, e9, hf⟩ := bS hf
          refine V.xgR dX9_owedOverOrders_73 fl_RX9_22 e9 ?_
          refine V.iload dX9_owedOverOrders_76 6 rfl ?_
          refine V.iload dX9_owedOverOrders_78 5 rfl ?_
          refine V.ior dX9_owedOverOrders_80 ?_
          obtain ⟨v13, e10, hf⟩ := bS hf
          refine V.xldI dX9_owedOverOrders_81 e10 ?_
          refine V.aload_n dX9_owedOverOrders_82 rfl 2 rfl ?_
          obtain ⟨v14, e11, hf⟩ := bS hf
          refine V.xgR dX9_owedOverOrders_83 fl_RX9_22 e11 ?_
          refine V.iload dX9_owedOverOrders_86 6 rfl ?_
          obtain ⟨v15, e12, hf⟩ := bS hf
          refine V.xldI dX9_owedOverOrders_88 e12 ?_
          refine V.isub dX9_owedOverOrders_89 ?_
          refine V.i2l dX9_owedOverOrders_90 ?_
          refine V.lmul dX9_owedOverOrders_91 ?_
          refine V.ladd dX9_owedOverOrders_92 ?_
          refine V.lstore_n (lv' := [(3, .long (l3 + ((r9 * r11) * (Int32.toInt64 (v13 - v15))))), (8, .long (r9 * r11)), (7, .int r8), (0, .ref l0), (1, .ref l1), (5, .int l5), (6, .int l6)]) dX9_owedOverOrders_93 rfl (by decide) rfl ?_
          refine V.iinc (v := (l6 + 1)) (lv' := [(6, .int (l6 + 1)), (3, .long (l3 + ((r9 * r11) * (Int32.toInt64 (v13 - v15))))), (8, .long (r9 * r11)), (7, .int r8), (0, .ref l0), (1, .ref l1), (5, .int l5)]) dX9_owedOverOrders_94 6 rfl rfl (Nat.le_of_ble_eq_true rfl) rfl ?_
          refine V.goto (tgt := 15) dX9_owedOverOrders_97 (by decide) ?_
          refine V.sub [4, 5, 1, 6, 0] rfl ?_
          exact ih _ _ _ _ _ _ _ hf

set_option maxRecDepth 20000 in
theorem w_X9_owedOverOrders (h : xH) (l0 : Nat) (l1 : Nat) (l2 : Int32) (r : Int64 × xH) (hf : f_X9_owedOverOrders h l0 l1 l2 = some r) : Ev 48 yX9_owedOverOrders cX9_owedOverOrders 10 (some .long) [] [.ref l0, .ref l1, .int l2] h (oJh r) := by
  refine Ev.of (by decide +kernel) (Nat.le_of_ble_eq_true rfl) ?_
  unfold f_X9_owedOverOrders at hf
  refine V.aload_n dX9_owedOverOrders_0 rfl 0 rfl ?_
  refine V.aload_n dX9_owedOverOrders_1 rfl 1 rfl ?_
  obtain ⟨q1, e13, hf⟩ := bS hf
  obtain ⟨r2, e14, hf⟩ := bS hf
  refine V.callV (As := [.ref l1]) (st := []) dX9_owedOverOrders_2 cl_RX9_67 sw_yX9_findSavings (by decide) rfl (Nat.le_of_ble_eq_true rfl) rfl (gO_some e13) rfl (w_X9_findSavings _ _ _ _ e14) ?_
  refine V.lconst (v := 0) dX9_owedOverOrders_5 (by decide) ?_
  refine V.lstore_n (lv' := [(3, .long (0 : Int64)), (0, .ref l0), (1, .ref l1), (2, .int l2)]) dX9_owedOverOrders_6 rfl (by decide) rfl ?_
  refine V.iconst (v := (1 : Int32)) dX9_owedOverOrders_7 (by decide) ?_
  refine V.iload_n dX9_owedOverOrders_8 rfl 3 rfl ?_
  refine V.ishl dX9_owedOverOrders_9 ?_
  refine V.istore (lv' := [(5, .int ((1 : Int32) <<< (l2 &&& 31))), (3, .long (0 : Int64)), (0, .ref l0), (1, .ref l1), (2, .int l2)]) dX9_owedOverOrders_10 (by decide) rfl ?_
  refine V.iconst (v := (0 : Int32)) dX9_owedOverOrders_12 (by decide) ?_
  refine V.istore (lv' := [(6, .int (0 : Int32)), (5, .int ((1 : Int32) <<< (l2 &&& 31))), (3, .long (0 : Int64)), (0, .ref l0), (1, .ref l1), (2, .int l2)]) dX9_owedOverOrders_13 (by decide) rfl ?_
  refine V.sub [3, 4, 2, 1, 0] rfl ?_
  exact w_X9_owedOverOrders_15 _ _ _ _ _ _ _ _ hf

def f_X9_firstWronged_33 (k8 : xH → Nat → Nat → Nat → Int32 → Int32 → Option (Int32 × xH)) : Nat → xH → Nat → Nat → Nat → Int32 → Int32 → Int64 → Int32 → Option (Int32 × xH)
  | 0, _, _, _, _, _, _, _, _ => none
  | n + 1, h, l0, l1, l2, l3, l4, l5, l7 => (gI h l1 3 1).bind fun v1 => (if v1 ≤ l7 then ((gR h l0 9 3).bind fun v3 => (ldI h .int v3 l4).bind fun v4 => (if (lg_cmp (Int32.toInt64 v4) l5) ≤ 0 then (k8 h l0 l1 l2 l3 (l4 + 1)) else (some ((l4, h))))) else ((if ((l4 >>> (l7 &&& 31)) &&& (1 : Int32)) = 0 then (f_X9_firstWronged_33 k8 n h l0 l1 l2 l3 l4 l5 (l7 + 1)) else ((gO h l2 10).bind fun q7 => (f_X10_numberAt h l2 l3 l7).bind fun r8 => f_X9_firstWronged_33 k8 n h l0 l1 l2 l3 l4 (l5 + r8) (l7 + 1)))))
def f_X9_firstWronged_8 : Nat → xH → Nat → Nat → Nat → Int32 → Int32 → Option (Int32 × xH)
  | 0, _, _, _, _, _, _ => none
  | n + 1, h, l0, l1, l2, l3, l4 => (gR h l0 9 3).bind fun v1 => (aln h v1).bind fun v2 => (if v2 ≤ l4 then (some (((-1 : Int32), h))) else ((gO h l1 3).bind fun q4 => (f_X3_allRooms h l1).bind fun r5 => (if r5 < l4 then (some (((-1 : Int32), h))) else (f_X9_firstWronged_33 (f_X9_firstWronged_8 n) xFU h l0 l1 l2 l3 l4 (0 : Int64) (0 : Int32)))))
def f_X9_firstWronged (h : xH) (l0 : Nat) (l1 : Nat) (l2 : Nat) (l3 : Int32) : Option (Int32 × xH) := (gO h l0 9).bind fun q1 => (f_X9_findSavings h l0 l1).bind fun r2 => f_X9_firstWronged_8 xFU r2 l0 l1 l2 l3 (1 : Int32)
set_option maxRecDepth 20000 in
theorem w_X9_firstWronged_33 {k8 : xH → Nat → Nat → Nat → Int32 → Int32 → Option (Int32 × xH)} (hk8 : ∀ (h : xH) (l0 : Nat) (l1 : Nat) (l2 : Nat) (l3 : Int32) (l4 : Int32) (r : Int32 × xH), k8 h l0 l1 l2 l3 l4 = some r → V 48 yX9_firstWronged cX9_firstWronged 8 (some .int) [] none 8 [(0, .ref l0), (1, .ref l1), (2, .ref l2), (3, .int l3), (4, .int l4)] [] h (oIh r)) : ∀ (n : Nat) (h : xH) (l0 : Nat) (l1 : Nat) (l2 : Nat) (l3 : Int32) (l4 : Int32) (l5 : Int64) (l7 : Int32) (r : Int32 × xH), f_X9_firstWronged_33 k8 n h l0 l1 l2 l3 l4 l5 l7 = some r → V 48 yX9_firstWronged cX9_firstWronged 8 (some .int) [] none 33 [(0, .ref l0), (1, .ref l1), (2, .ref l2), (3, .int l3), (4, .int l4), (5, .long l5), (7, .int l7)] [] h (oIh r) := by
  intro n
  induction n with
  | zero => intro h l0 l1 l2 l3 l4 l5 l7 r hf; cases hf
  | succ n ih =>
    intro h l0 l1 l2 l3 l4 l5 l7 r hf
    rw [f_X9_firstWronged_33] at hf
    refine V.iload dX9_firstWronged_33 6 rfl ?_
    refine V.aload_n dX9_firstWronged_35 rfl 1 rfl ?_
    obtain ⟨v1, e1, hf⟩ := bS hf
    refine V.xgI dX9_firstWronged_36 fl_RX9_29 e1 ?_
    refine V.icmp_ge (tgt := 70) dX9_firstWronged_39 (by decide) (fun c2 => ?_) (fun c2 => ?_)
    · rw [if_pos c2] at hf
      refine V.aload_n dX9_firstWronged_70 rfl 0 rfl ?_
      obtain ⟨v3, e2, hf⟩ := bS hf
      refine V.xgR dX9_firstWronged_71 fl_RX9_22 e2 ?_
      refine V.iload dX9_firstWronged_74 4 rfl ?_
      obtain ⟨v4, e3, hf⟩ := bS hf
      refine V.xldI dX9_firstWronged_76 e3 ?_
      refine V.i2l dX9_firstWronged_77 ?_
      refine V.lload dX9_firstWronged_78 5 rfl ?_
      refine V.lcmp dX9_firstWronged_80 ?_
      refine V.if_le (tgt := 87) dX9_firstWronged_81 (by decide) (fun c5 => ?_) (fun c5 => ?_)
      · rw [if_pos c5] at hf
        refine V.iinc (v := (l4 + 1)) (lv' := [(4, .int (l4 + 1)), (0, .ref l0), (1, .ref l1), (2, .ref l2), (3, .int l3), (5, .long l5), (7, .int l7)]) dX9_firstWronged_87 4 rfl rfl (Nat.le_of_ble_eq_true rfl) rfl ?_
        refine V.goto (tgt := 8) dX9_firstWronged_90 (by decide) ?_
        refine V.sub [1, 2, 3, 4, 0] rfl ?_
        exact hk8 _ _ _ _ _ _ _ hf
      · rw [if_neg c5] at hf
        refine V.iload dX9_firstWronged_84 4 rfl ?_
        obtain rfl := Option.some.inj hf
        exact V.iret dX9_firstWronged_86
    · rw [if_neg c2] at hf
      refine V.iload dX9_firstWronged_42 4 rfl ?_
      refine V.iload dX9_firstWronged_44 6 rfl ?_
      refine V.ishr dX9_firstWronged_46 ?_
      refine V.iconst (v := (1 : Int32)) dX9_firstWronged_47 (by decide) ?_
      refine V.iand dX9_firstWronged_48 ?_
      refine V.if_eq (tgt := 64) dX9_firstWronged_49 (by decide) (fun c6 => ?_) (fun c6 => ?_)
      · rw [if_pos c6] at hf
        refine V.iinc (v := (l7 + 1)) (lv' := [(7, .int (l7 + 1)), (0, .ref l0), (1, .ref l1), (2, .ref l2), (3, .int l3), (4, .int l4), (5, .long l5)]) dX9_firstWronged_64 6 rfl rfl (Nat.le_of_ble_eq_true rfl) rfl ?_
        refine V.goto (tgt := 33) dX9_firstWronged_67 (by decide) ?_
        refine V.sub [1, 2, 3, 4, 5, 6, 0] rfl ?_
        exact ih _ _ _ _ _ _ _ _ _ hf
      · rw [if_neg c6] at hf
        refine V.lload dX9_firstWronged_52 5 rfl ?_
        refine V.aload_n dX9_firstWronged_54 rfl 2 rfl ?_
        refine V.iload_n dX9_firstWronged_55 rfl 3 rfl ?_
        refine V.iload dX9_firstWronged_56 6 rfl ?_
        obtain ⟨q7, e4, hf⟩ := bS hf
        obtain ⟨r8, e5, hf⟩ := bS hf
        refine V.callV (As := [.int l3, .int l7]) (st := [.long l5]) dX9_firstWronged_58 cl_RX9_75 sw_yX10_numberAt (by decide) rfl (Nat.le_of_ble_eq_true rfl) rfl (gO_some e4) rfl (w_X10_numberAt _ _ _ _ _ e5) ?_
        refine V.ladd dX9_firstWronged_61 ?_
        refine V.lstore (lv' := [(5, .long (l5 + r8)), (0, .ref l0), (1, .ref l1), (2, .ref l2), (3, .int l3), (4, .int l4), (7, .int l7)]) dX9_firstWronged_62 (by decide) rfl ?_
        refine V.iinc (v := (l7 + 1)) (lv' := [(7, .int (l7 + 1)), (5, .long (l5 + r8)), (0, .ref l0), (1, .ref l1), (2, .ref l2), (3, .int l3), (4, .int l4)]) dX9_firstWronged_64 6 rfl rfl (Nat.le_of_ble_eq_true rfl) rfl ?_
        refine V.goto (tgt := 33) dX9_firstWronged_67 (by decide) ?_
        refine V.sub [2, 3, 4, 5, 6, 1, 0] rfl ?_
        exact ih _ _ _ _ _ _ _ _ _ hf

set_option maxRecDepth 20000 in
theorem w_X9_firstWronged_8 : ∀ (n : Nat) (h : xH) (l0 : Nat) (l1 : Nat) (l2 : Nat) (l3 : Int32) (l4 : Int32) (r : Int32 × xH), f_X9_firstWronged_8 n h l0 l1 l2 l3 l4 = some r → V 48 yX9_firstWronged cX9_firstWronged 8 (some .int) [] none 8 [(0, .ref l0), (1, .ref l1), (2, .ref l2), (3, .int l3), (4, .int l4)] [] h (oIh r) := by
  intro n
  induction n with
  | zero => intro h l0 l1 l2 l3 l4 r hf; cases hf
  | succ n ih =>
    intro h l0 l1 l2 l3 l4 r hf
    rw [f_X9_firstWronged_8] at hf
    refine V.iload dX9_firstWronged_8 4 rfl ?_
    refine V.aload_n dX9_firstWronged_10 rfl 0 rfl ?_
    obtain ⟨v1, e6, hf⟩ := bS hf
    refine V.xgR dX9_firstWronged_11 fl_RX9_22 e6 ?_
    obtain ⟨v2, e7, hf⟩ := bS hf
    refine V.xaln dX9_firstWronged_14 e7 ?_
    refine V.icmp_ge (tgt := 93) dX9_firstWronged_15 (by decide) (fun c3 => ?_) (fun c3 => ?_)
    · rw [if_pos c3] at hf
      refine V.iconst (v := (-1 : Int32)) dX9_firstWronged_93 (by decide) ?_
      obtain rfl := Option.some.inj hf
      exact V.iret dX9_firstWronged_94
    · rw [if_neg c3] at hf
      refine V.iload dX9_firstWronged_18 4 rfl ?_
      refine V.aload_n dX9_firstWronged_20 rfl 1 rfl ?_
      obtain ⟨q4, e8, hf⟩ := bS hf
      obtain ⟨r5, e9, hf⟩ := bS hf
      refine V.callV (As := []) (st := [.int l4]) dX9_firstWronged_21 cl_RX9_59 sw_yX3_allRooms (by decide) rfl (Nat.le_of_ble_eq_true rfl) rfl (gO_some e8) rfl (w_X3_allRooms _ _ _ e9) ?_
      refine V.icmp_gt (tgt := 93) dX9_firstWronged_24 (by decide) (fun c6 => ?_) (fun c6 => ?_)
      · rw [if_pos c6] at hf
        refine V.iconst (v := (-1 : Int32)) dX9_firstWronged_93 (by decide) ?_
        obtain rfl := Option.some.inj hf
        exact V.iret dX9_firstWronged_94
      · rw [if_neg c6] at hf
        refine V.lconst (v := 0) dX9_firstWronged_27 (by decide) ?_
        refine V.lstore (lv' := [(5, .long (0 : Int64)), (0, .ref l0), (1, .ref l1), (2, .ref l2), (3, .int l3), (4, .int l4)]) dX9_firstWronged_28 (by decide) rfl ?_
        refine V.iconst (v := (0 : Int32)) dX9_firstWronged_30 (by decide) ?_
        refine V.istore (lv' := [(7, .int (0 : Int32)), (5, .long (0 : Int64)), (0, .ref l0), (1, .ref l1), (2, .ref l2), (3, .int l3), (4, .int l4)]) dX9_firstWronged_31 (by decide) rfl ?_
        refine V.sub [2, 3, 4, 5, 6, 1, 0] rfl ?_
        exact w_X9_firstWronged_33 ih _ _ _ _ _ _ _ _ _ _ hf

set_option maxRecDepth 20000 in
theorem w_X9_firstWronged (h : xH) (l0 : Nat) (l1 : Nat) (l2 : Nat) (l3 : Int32) (r : Int32 × xH) (hf : f_X9_firstWronged h l0 l1 l2 l3 = some r) : Ev 48 yX9_firstWronged cX9_firstWronged 8 (some .int) [] [.ref l0, .ref l1, .ref l2, .int l3] h (oIh r) := by
  refine Ev.of (by decide +kernel) (Nat.le_of_ble_eq_true rfl) ?_
  unfold f_X9_firstWronged at hf
  refine V.aload_n dX9_firstWronged_0 rfl 0 rfl ?_
  refine V.aload_n dX9_firstWronged_1 rfl 1 rfl ?_
  obtain ⟨q1, e10, hf⟩ := bS hf
  obtain ⟨r2, e11, hf⟩ := bS hf
  refine V.callV (As := [.ref l1]) (st := []) dX9_firstWronged_2 cl_RX9_67 sw_yX9_findSavings (by decide) rfl (Nat.le_of_ble_eq_true rfl) rfl (gO_some e10) rfl (w_X9_findSavings _ _ _ _ e11) ?_
  refine V.iconst (v := (1 : Int32)) dX9_firstWronged_5 (by decide) ?_
  refine V.istore (lv' := [(4, .int (1 : Int32)), (0, .ref l0), (1, .ref l1), (2, .ref l2), (3, .int l3)]) dX9_firstWronged_6 (by decide) rfl ?_
  refine V.sub [1, 2, 3, 4, 0] rfl ?_
  exact w_X9_firstWronged_8 _ _ _ _ _ _ _ _ hf

