def f_X8_init (h : xH) (l0 : Nat) (l1 : Int32) : Option (xH) := (mkI h .int (24 : Int32)).bind fun h1 => (pF h1 l0 8 1 (.ref (h.1.length))).bind fun h2 => (pF h2 l0 8 4 (.int (0 : Int32))).bind fun h3 => (pF h3 l0 8 5 (.null)).bind fun h4 => (pF h4 l0 8 6 (.int (-1 : Int32))).bind fun h5 => (pF h5 l0 8 7 (.int (-1 : Int32))).bind fun h6 => (pF h6 l0 8 0 (.int (if (1 : Int32) < (if (12 : Int32) < l1 then (12 : Int32) else l1) then (if (12 : Int32) < l1 then (12 : Int32) else l1) else (1 : Int32)))).bind fun h7 => (gI h7 l0 8 0).bind fun v8 => (gI h7 l0 8 0).bind fun v9 => (mkI h7 .int (v8 <<< (v9 &&& 31))).bind fun h10 => (pF h10 l0 8 2 (.ref (h7.1.length))).bind fun h11 => (gI h11 l0 8 0).bind fun v12 => (gI h11 l0 8 0).bind fun v13 => (mkI h11 .int (v12 <<< (v13 &&& 31))).bind fun h14 => (pF h14 l0 8 3 (.ref (h11.1.length))).bind fun h15 => some (h15)
set_option maxRecDepth 20000 in
theorem w_X8_init (h : xH) (l0 : Nat) (l1 : Int32) (r : xH) (hf : f_X8_init h l0 l1 = some r) : Ev 4 yX8_init cX8_init 2 none [] [.ref l0, .int l1] h (oVh r) := by
  refine Ev.of (by decide +kernel) (Nat.le_of_ble_eq_true rfl) ?_
  unfold f_X8_init at hf
  refine V.aload_n dX8_init_0 rfl 0 rfl ?_
  refine V.objInit dX8_init_1 oi_RX8_3 oi_inst oi_code (Nat.le_of_ble_eq_true rfl) ?_
  refine V.aload_n dX8_init_4 rfl 0 rfl ?_
  refine V.bipush (v := (24 : Int32)) dX8_init_5 (by decide) ?_
  obtain ⟨h1, e1, hf⟩ := bS hf
  refine V.xmkI dX8_init_7 rfl rfl aw_int (by decide) e1 ?_
  obtain ⟨h2, e2, hf⟩ := bS hf
  refine V.xpF dX8_init_9 fl_RX8_9 (fun _ => rfl) (fun _ => rfl) (fun _ => rfl) e2 ?_
  refine V.aload_n dX8_init_12 rfl 0 rfl ?_
  refine V.iconst (v := (0 : Int32)) dX8_init_13 (by decide) ?_
  obtain ⟨h3, e3, hf⟩ := bS hf
  refine V.xpF dX8_init_14 fl_RX8_15 (fun h9 => nomatch h9) (fun _ => rfl) (fun _ => rfl) e3 ?_
  refine V.aload_n dX8_init_17 rfl 0 rfl ?_
  refine V.anull dX8_init_18 ?_
  obtain ⟨h4, e4, hf⟩ := bS hf
  refine V.xpF dX8_init_19 fl_RX8_19 (fun h9 => nomatch h9) (fun _ => rfl) (fun _ => rfl) e4 ?_
  refine V.aload_n dX8_init_22 rfl 0 rfl ?_
  refine V.iconst (v := (-1 : Int32)) dX8_init_23 (by decide) ?_
  obtain ⟨h5, e5, hf⟩ := bS hf
  refine V.xpF dX8_init_24 fl_RX8_23 (fun h9 => nomatch h9) (fun _ => rfl) (fun _ => rfl) e5 ?_
  refine V.aload_n dX8_init_27 rfl 0 rfl ?_
  refine V.iconst (v := (-1 : Int32)) dX8_init_28 (by decide) ?_
  obtain ⟨h6, e6, hf⟩ := bS hf
  refine V.xpF dX8_init_29 fl_RX8_26 (fun h9 => nomatch h9) (fun _ => rfl) (fun _ => rfl) e6 ?_
  refine V.aload_n dX8_init_32 rfl 0 rfl ?_
  refine V.iconst (v := (1 : Int32)) dX8_init_33 (by decide) ?_
  refine V.iload_n dX8_init_34 rfl 1 rfl ?_
  refine V.bipush (v := (12 : Int32)) dX8_init_35 (by decide) ?_
  refine V.mmin dX8_init_37 ml_RX8_29 ms_min mi_ mc_min (Nat.le_of_ble_eq_true rfl) ?_
  refine V.mmax dX8_init_40 ml_RX8_35 ms_max mi_ mc_max (Nat.le_of_ble_eq_true rfl) ?_
  obtain ⟨h7, e7, hf⟩ := bS hf
  refine V.xpF dX8_init_43 fl_RX8_38 (fun _ => rfl) (fun _ => rfl) (fun _ => rfl) e7 ?_
  refine V.aload_n dX8_init_46 rfl 0 rfl ?_
  refine V.aload_n dX8_init_47 rfl 0 rfl ?_
  obtain ⟨v8, e8, hf⟩ := bS hf
  refine V.xgI dX8_init_48 fl_RX8_38 e8 ?_
  refine V.aload_n dX8_init_51 rfl 0 rfl ?_
  obtain ⟨v9, e9, hf⟩ := bS hf
  refine V.xgI dX8_init_52 fl_RX8_38 e9 ?_
  refine V.ishl dX8_init_55 ?_
  obtain ⟨h10, e10, hf⟩ := bS hf
  refine V.xmkI dX8_init_56 rfl rfl aw_int (by decide) e10 ?_
  obtain ⟨h11, e11, hf⟩ := bS hf
  refine V.xpF dX8_init_58 fl_RX8_41 (fun _ => rfl) (fun _ => rfl) (fun _ => rfl) e11 ?_
  refine V.aload_n dX8_init_61 rfl 0 rfl ?_
  refine V.aload_n dX8_init_62 rfl 0 rfl ?_
  obtain ⟨v12, e12, hf⟩ := bS hf
  refine V.xgI dX8_init_63 fl_RX8_38 e12 ?_
  refine V.aload_n dX8_init_66 rfl 0 rfl ?_
  obtain ⟨v13, e13, hf⟩ := bS hf
  refine V.xgI dX8_init_67 fl_RX8_38 e13 ?_
  refine V.ishl dX8_init_70 ?_
  obtain ⟨h14, e14, hf⟩ := bS hf
  refine V.xmkI dX8_init_71 rfl rfl aw_int (by decide) e14 ?_
  obtain ⟨h15, e15, hf⟩ := bS hf
  refine V.xpF dX8_init_73 fl_RX8_44 (fun _ => rfl) (fun _ => rfl) (fun _ => rfl) e15 ?_
  obtain rfl := Option.some.inj hf
  exact V.vret dX8_init_76

def f_X8_canBe_4 (h : xH) : Nat → Nat → Int32 → Int32 → Int32 → Option (Int32)
  | 0, _, _, _, _ => none
  | n + 1, l0, l1, l2, l3 => (gI h l0 3 1).bind fun v1 => (if v1 ≤ l3 then ((gO h l0 3).bind fun q3 => (f_X3_litBy h l0 l2).bind fun r4 => (gO h l0 3).bind fun q5 => (f_X3_allRooms h l0).bind fun r6 => (if r4 = r6 then (some ((1 : Int32))) else (some ((0 : Int32))))) else ((gR h l0 3 15).bind fun v8 => (ldI h .int v8 ((l1 * (16 : Int32)) + l3)).bind fun v9 => (if v9 = (-1 : Int32) then (f_X8_canBe_4 h n l0 l1 l2 (l3 + 1)) else (f_X8_canBe_4 h n l0 l1 (l2 ||| ((1 : Int32) <<< (l3 &&& 31))) (l3 + 1)))))
def f_X8_canBe (h : xH) (l0 : Nat) (l1 : Int32) : Option (Int32) := f_X8_canBe_4 h xFU l0 l1 (0 : Int32) (0 : Int32)
set_option maxRecDepth 20000 in
theorem w_X8_canBe_4 (h : xH) : ∀ (n : Nat) (l0 : Nat) (l1 : Int32) (l2 : Int32) (l3 : Int32) (r : Int32), f_X8_canBe_4 h n l0 l1 l2 l3 = some r → V 4 yX8_canBe cX8_canBe 4 (some .boolean) [] none 4 [(0, .ref l0), (1, .int l1), (2, .int l2), (3, .int l3)] [] h (oI h r) := by
  intro n
  induction n with
  | zero => intro l0 l1 l2 l3 r hf; cases hf
  | succ n ih =>
    intro l0 l1 l2 l3 r hf
    rw [f_X8_canBe_4] at hf
    refine V.iload_n dX8_canBe_4 rfl 3 rfl ?_
    refine V.aload_n dX8_canBe_5 rfl 0 rfl ?_
    obtain ⟨v1, e1, hf⟩ := bS hf
    refine V.xgI dX8_canBe_6 fl_RX8_74 e1 ?_
    refine V.icmp_ge (tgt := 39) dX8_canBe_9 (by decide) (fun c2 => ?_) (fun c2 => ?_)
    · rw [if_pos c2] at hf
      refine V.aload_n dX8_canBe_39 rfl 0 rfl ?_
      refine V.iload_n dX8_canBe_40 rfl 2 rfl ?_
      obtain ⟨q3, e2, hf⟩ := bS hf
      obtain ⟨r4, e3, hf⟩ := bS hf
      refine V.callV (As := [.int l2]) (st := []) dX8_canBe_41 cl_RX8_85 sw_yX3_litBy (by decide) rfl (Nat.le_of_ble_eq_true rfl) rfl (gO_some e2) rfl (w_X3_litBy _ _ _ _ e3) ?_
      refine V.aload_n dX8_canBe_44 rfl 0 rfl ?_
      obtain ⟨q5, e4, hf⟩ := bS hf
      obtain ⟨r6, e5, hf⟩ := bS hf
      refine V.callV (As := []) (st := [.int r4]) dX8_canBe_45 cl_RX8_55 sw_yX3_allRooms (by decide) rfl (Nat.le_of_ble_eq_true rfl) rfl (gO_some e4) rfl (w_X3_allRooms _ _ _ e5) ?_
      refine V.icmp_ne (tgt := 55) dX8_canBe_48 (by decide) (fun c7 => ?_) (fun c7 => ?_)
      · rw [if_neg c7] at hf
        refine V.iconst (v := (0 : Int32)) dX8_canBe_55 (by decide) ?_
        obtain rfl := Option.some.inj hf
        exact V.zret dX8_canBe_56 (by first | rfl | assumption)
      · rw [if_pos c7] at hf
        refine V.iconst (v := (1 : Int32)) dX8_canBe_51 (by decide) ?_
        refine V.goto (tgt := 56) dX8_canBe_52 (by decide) ?_
        obtain rfl := Option.some.inj hf
        exact V.zret dX8_canBe_56 (by first | rfl | assumption)
    · rw [if_neg c2] at hf
      refine V.aload_n dX8_canBe_12 rfl 0 rfl ?_
      obtain ⟨v8, e6, hf⟩ := bS hf
      refine V.rgR dX8_canBe_13 fl_RX8_82 e6 ?_
      refine V.iload_n dX8_canBe_16 rfl 1 rfl ?_
      refine V.bipush (v := (16 : Int32)) dX8_canBe_17 (by decide) ?_
      refine V.imul dX8_canBe_19 ?_
      refine V.iload_n dX8_canBe_20 rfl 3 rfl ?_
      refine V.iadd dX8_canBe_21 ?_
      obtain ⟨v9, e7, hf⟩ := bS hf
      refine V.xldI dX8_canBe_22 e7 ?_
      refine V.iconst (v := (-1 : Int32)) dX8_canBe_23 (by decide) ?_
      refine V.icmp_eq (tgt := 33) dX8_canBe_24 (by decide) (fun c10 => ?_) (fun c10 => ?_)
      · rw [if_pos c10] at hf
        refine V.iinc (v := (l3 + 1)) (lv' := [(3, .int (l3 + 1)), (0, .ref l0), (1, .int l1), (2, .int l2)]) dX8_canBe_33 3 rfl rfl (Nat.le_of_ble_eq_true rfl) rfl ?_
        refine V.goto (tgt := 4) dX8_canBe_36 (by decide) ?_
        refine V.sub [1, 2, 3, 0] rfl ?_
        exact ih _ _ _ _ _ hf
      · rw [if_neg c10] at hf
        refine V.iload_n dX8_canBe_27 rfl 2 rfl ?_
        refine V.iconst (v := (1 : Int32)) dX8_canBe_28 (by decide) ?_
        refine V.iload_n dX8_canBe_29 rfl 3 rfl ?_
        refine V.ishl dX8_canBe_30 ?_
        refine V.ior dX8_canBe_31 ?_
        refine V.istore_n (lv' := [(2, .int (l2 ||| ((1 : Int32) <<< (l3 &&& 31)))), (0, .ref l0), (1, .int l1), (3, .int l3)]) dX8_canBe_32 rfl (by decide) rfl ?_
        refine V.iinc (v := (l3 + 1)) (lv' := [(3, .int (l3 + 1)), (2, .int (l2 ||| ((1 : Int32) <<< (l3 &&& 31)))), (0, .ref l0), (1, .int l1)]) dX8_canBe_33 3 rfl rfl (Nat.le_of_ble_eq_true rfl) rfl ?_
        refine V.goto (tgt := 4) dX8_canBe_36 (by decide) ?_
        refine V.sub [2, 3, 1, 0] rfl ?_
        exact ih _ _ _ _ _ hf

set_option maxRecDepth 20000 in
theorem w_X8_canBe (h : xH) (l0 : Nat) (l1 : Int32) (r : Int32) (hf : f_X8_canBe h l0 l1 = some r) : Ev 4 yX8_canBe cX8_canBe 4 (some .boolean) [] [.ref l0, .int l1] h (oI h r) := by
  refine Ev.of (by decide +kernel) (Nat.le_of_ble_eq_true rfl) ?_
  unfold f_X8_canBe at hf
  refine V.iconst (v := (0 : Int32)) dX8_canBe_0 (by decide) ?_
  refine V.istore_n (lv' := [(2, .int (0 : Int32)), (0, .ref l0), (1, .int l1)]) dX8_canBe_1 rfl (by decide) rfl ?_
  refine V.iconst (v := (0 : Int32)) dX8_canBe_2 (by decide) ?_
  refine V.istore_n (lv' := [(3, .int (0 : Int32)), (2, .int (0 : Int32)), (0, .ref l0), (1, .int l1)]) dX8_canBe_3 rfl (by decide) rfl ?_
  refine V.sub [2, 3, 1, 0] rfl ?_
  exact w_X8_canBe_4 h _ _ _ _ _ _ hf

def f_X8_enter (h : xH) (l0 : Nat) (l1 : Int32) (l2 : Int32) : Option (xH) := (gR h l0 8 2).bind fun v1 => (ldI h .int v1 l1).bind fun v2 => (if v2 = 0 then ((gI h l0 8 4).bind fun v4 => (gR h l0 8 3).bind fun v5 => (aln h v5).bind fun v6 => (if v6 ≤ v4 then (some (h)) else ((gR h l0 8 2).bind fun v8 => (stI h .int v8 l1 (l2 + (1 : Int32))).bind fun h9 => (gR h9 l0 8 3).bind fun v10 => (gI h9 l0 8 4).bind fun v11 => (stI h9 .int v10 v11 l1).bind fun h12 => (gI h12 l0 8 4).bind fun v13 => (pF h12 l0 8 4 (.int (v13 + (1 : Int32)))).bind fun h14 => some (h14)))) else (some (h)))
set_option maxRecDepth 20000 in
theorem w_X8_enter (h : xH) (l0 : Nat) (l1 : Int32) (l2 : Int32) (r : xH) (hf : f_X8_enter h l0 l1 l2 = some r) : Ev 3 yX8_enter cX8_enter 3 none [] [.ref l0, .int l1, .int l2] h (oVh r) := by
  refine Ev.of (by decide +kernel) (Nat.le_of_ble_eq_true rfl) ?_
  unfold f_X8_enter at hf
  refine V.aload_n dX8_enter_0 rfl 0 rfl ?_
  obtain ⟨v1, e1, hf⟩ := bS hf
  refine V.xgR dX8_enter_1 fl_RX8_41 e1 ?_
  refine V.iload_n dX8_enter_4 rfl 1 rfl ?_
  obtain ⟨v2, e2, hf⟩ := bS hf
  refine V.xldI dX8_enter_5 e2 ?_
  refine V.if_ne (tgt := 50) dX8_enter_6 (by decide) (fun c3 => ?_) (fun c3 => ?_)
  · rw [if_neg c3] at hf
    obtain rfl := Option.some.inj hf
    exact V.vret dX8_enter_50
  · rw [if_pos c3] at hf
    refine V.aload_n dX8_enter_9 rfl 0 rfl ?_
    obtain ⟨v4, e3, hf⟩ := bS hf
    refine V.xgI dX8_enter_10 fl_RX8_15 e3 ?_
    refine V.aload_n dX8_enter_13 rfl 0 rfl ?_
    obtain ⟨v5, e4, hf⟩ := bS hf
    refine V.xgR dX8_enter_14 fl_RX8_44 e4 ?_
    obtain ⟨v6, e5, hf⟩ := bS hf
    refine V.xaln dX8_enter_17 e5 ?_
    refine V.icmp_ge (tgt := 50) dX8_enter_18 (by decide) (fun c7 => ?_) (fun c7 => ?_)
    · rw [if_pos c7] at hf
      obtain rfl := Option.some.inj hf
      exact V.vret dX8_enter_50
    · rw [if_neg c7] at hf
      refine V.aload_n dX8_enter_21 rfl 0 rfl ?_
      obtain ⟨v8, e6, hf⟩ := bS hf
      refine V.xgR dX8_enter_22 fl_RX8_41 e6 ?_
      refine V.iload_n dX8_enter_25 rfl 1 rfl ?_
      refine V.iload_n dX8_enter_26 rfl 2 rfl ?_
      refine V.iconst (v := (1 : Int32)) dX8_enter_27 (by decide) ?_
      refine V.iadd dX8_enter_28 ?_
      obtain ⟨h9, e7, hf⟩ := bS hf
      refine V.xstI dX8_enter_29 e7 ?_
      refine V.aload_n dX8_enter_30 rfl 0 rfl ?_
      obtain ⟨v10, e8, hf⟩ := bS hf
      refine V.xgR dX8_enter_31 fl_RX8_44 e8 ?_
      refine V.aload_n dX8_enter_34 rfl 0 rfl ?_
      obtain ⟨v11, e9, hf⟩ := bS hf
      refine V.xgI dX8_enter_35 fl_RX8_15 e9 ?_
      refine V.iload_n dX8_enter_38 rfl 1 rfl ?_
      obtain ⟨h12, e10, hf⟩ := bS hf
      refine V.xstI dX8_enter_39 e10 ?_
      refine V.aload_n dX8_enter_40 rfl 0 rfl ?_
      refine V.dup dX8_enter_41 rfl ?_
      obtain ⟨v13, e11, hf⟩ := bS hf
      refine V.xgI dX8_enter_42 fl_RX8_15 e11 ?_
      refine V.iconst (v := (1 : Int32)) dX8_enter_45 (by decide) ?_
      refine V.iadd dX8_enter_46 ?_
      obtain ⟨h14, e12, hf⟩ := bS hf
      refine V.xpF dX8_enter_47 fl_RX8_15 (fun h9 => nomatch h9) (fun _ => rfl) (fun _ => rfl) e12 ?_
      obtain rfl := Option.some.inj hf
      exact V.vret dX8_enter_50

def f_X8_forget_2 : Nat → xH → Nat → Int32 → Option (xH)
  | 0, _, _, _ => none
  | n + 1, h, l0, l1 => (gI h l0 8 4).bind fun v1 => (if v1 ≤ l1 then (some (h)) else ((gR h l0 8 2).bind fun v3 => (gR h l0 8 3).bind fun v4 => (ldI h .int v4 l1).bind fun v5 => (stI h .int v3 v5 (0 : Int32)).bind fun h6 => f_X8_forget_2 n h6 l0 (l1 + 1)))
def f_X8_forget (h : xH) (l0 : Nat) : Option (xH) := f_X8_forget_2 xFU h l0 (0 : Int32)
set_option maxRecDepth 20000 in
theorem w_X8_forget_2 : ∀ (n : Nat) (h : xH) (l0 : Nat) (l1 : Int32) (r : xH), f_X8_forget_2 n h l0 l1 = some r → V 3 yX8_forget cX8_forget 2 none [] none 2 [(0, .ref l0), (1, .int l1)] [] h (oVh r) := by
  intro n
  induction n with
  | zero => intro h l0 l1 r hf; cases hf
  | succ n ih =>
    intro h l0 l1 r hf
    rw [f_X8_forget_2] at hf
    refine V.iload_n dX8_forget_2 rfl 1 rfl ?_
    refine V.aload_n dX8_forget_3 rfl 0 rfl ?_
    obtain ⟨v1, e1, hf⟩ := bS hf
    refine V.xgI dX8_forget_4 fl_RX8_15 e1 ?_
    refine V.icmp_ge (tgt := 28) dX8_forget_7 (by decide) (fun c2 => ?_) (fun c2 => ?_)
    · rw [if_pos c2] at hf
      obtain rfl := Option.some.inj hf
      exact V.vret dX8_forget_28
    · rw [if_neg c2] at hf
      refine V.aload_n dX8_forget_10 rfl 0 rfl ?_
      obtain ⟨v3, e2, hf⟩ := bS hf
      refine V.xgR dX8_forget_11 fl_RX8_41 e2 ?_
      refine V.aload_n dX8_forget_14 rfl 0 rfl ?_
      obtain ⟨v4, e3, hf⟩ := bS hf
      refine V.xgR dX8_forget_15 fl_RX8_44 e3 ?_
      refine V.iload_n dX8_forget_18 rfl 1 rfl ?_
      obtain ⟨v5, e4, hf⟩ := bS hf
      refine V.xldI dX8_forget_19 e4 ?_
      refine V.iconst (v := (0 : Int32)) dX8_forget_20 (by decide) ?_
      obtain ⟨h6, e5, hf⟩ := bS hf
      refine V.xstI dX8_forget_21 e5 ?_
      refine V.iinc (v := (l1 + 1)) (lv' := [(1, .int (l1 + 1)), (0, .ref l0)]) dX8_forget_22 1 rfl rfl (Nat.le_of_ble_eq_true rfl) rfl ?_
      refine V.goto (tgt := 2) dX8_forget_25 (by decide) ?_
      refine V.sub [1, 0] rfl ?_
      exact ih _ _ _ _ hf

set_option maxRecDepth 20000 in
theorem w_X8_forget (h : xH) (l0 : Nat) (r : xH) (hf : f_X8_forget h l0 = some r) : Ev 3 yX8_forget cX8_forget 2 none [] [.ref l0] h (oVh r) := by
  refine Ev.of (by decide +kernel) (Nat.le_of_ble_eq_true rfl) ?_
  unfold f_X8_forget at hf
  refine V.iconst (v := (0 : Int32)) dX8_forget_0 (by decide) ?_
  refine V.istore_n (lv' := [(1, .int (0 : Int32)), (0, .ref l0)]) dX8_forget_1 rfl (by decide) rfl ?_
  refine V.sub [1, 0] rfl ?_
  exact w_X8_forget_2 _ _ _ _ _ hf

def f_X8_stateOf (h : xH) (l0 : Nat) (l1 : Int32) (l2 : Int32) : Option (Int32) := (gI h l0 8 0).bind fun v1 => some (((l1 * v1) + l2))
set_option maxRecDepth 20000 in
theorem w_X8_stateOf (h : xH) (l0 : Nat) (l1 : Int32) (l2 : Int32) (r : Int32) (hf : f_X8_stateOf h l0 l1 l2 = some r) : Ev 3 yX8_stateOf cX8_stateOf 3 (some .int) [] [.ref l0, .int l1, .int l2] h (oI h r) := by
  refine Ev.of (by decide +kernel) (Nat.le_of_ble_eq_true rfl) ?_
  unfold f_X8_stateOf at hf
  refine V.iload_n dX8_stateOf_0 rfl 1 rfl ?_
  refine V.aload_n dX8_stateOf_1 rfl 0 rfl ?_
  obtain ⟨v1, e1, hf⟩ := bS hf
  refine V.xgI dX8_stateOf_2 fl_RX8_38 e1 ?_
  refine V.imul dX8_stateOf_5 ?_
  refine V.iload_n dX8_stateOf_6 rfl 2 rfl ?_
  refine V.iadd dX8_stateOf_7 ?_
  obtain rfl := Option.some.inj hf
  exact V.iret dX8_stateOf_8

def f_X8_before (h : xH) (l0 : Nat) (l1 : Int32) : Option (Int32) := (gR h l0 8 2).bind fun v1 => (ldI h .int v1 l1).bind fun v2 => (if (v2 - (1 : Int32)) < 0 then (some (l1)) else ((gR h l0 8 3).bind fun v4 => (ldI h .int v4 (v2 - (1 : Int32))).bind fun v5 => some (v5)))
set_option maxRecDepth 20000 in
theorem w_X8_before (h : xH) (l0 : Nat) (l1 : Int32) (r : Int32) (hf : f_X8_before h l0 l1 = some r) : Ev 3 yX8_before cX8_before 3 (some .int) [] [.ref l0, .int l1] h (oI h r) := by
  refine Ev.of (by decide +kernel) (Nat.le_of_ble_eq_true rfl) ?_
  unfold f_X8_before at hf
  refine V.aload_n dX8_before_0 rfl 0 rfl ?_
  obtain ⟨v1, e1, hf⟩ := bS hf
  refine V.xgR dX8_before_1 fl_RX8_41 e1 ?_
  refine V.iload_n dX8_before_4 rfl 1 rfl ?_
  obtain ⟨v2, e2, hf⟩ := bS hf
  refine V.xldI dX8_before_5 e2 ?_
  refine V.iconst (v := (1 : Int32)) dX8_before_6 (by decide) ?_
  refine V.isub dX8_before_7 ?_
  refine V.istore_n (lv' := [(2, .int (v2 - (1 : Int32))), (0, .ref l0), (1, .int l1)]) dX8_before_8 rfl (by decide) rfl ?_
  refine V.iload_n dX8_before_9 rfl 0 rfl ?_
  refine V.if_lt (tgt := 22) dX8_before_10 (by decide) (fun c3 => ?_) (fun c3 => ?_)
  · rw [if_pos c3] at hf
    refine V.iload_n dX8_before_22 rfl 2 rfl ?_
    obtain rfl := Option.some.inj hf
    exact V.iret dX8_before_23
  · rw [if_neg c3] at hf
    refine V.aload_n dX8_before_13 rfl 1 rfl ?_
    obtain ⟨v4, e3, hf⟩ := bS hf
    refine V.xgR dX8_before_14 fl_RX8_44 e3 ?_
    refine V.iload_n dX8_before_17 rfl 0 rfl ?_
    obtain ⟨v5, e4, hf⟩ := bS hf
    refine V.xldI dX8_before_18 e4 ?_
    refine V.goto (tgt := 23) dX8_before_19 (by decide) ?_
    obtain rfl := Option.some.inj hf
    exact V.iret dX8_before_23

def f_X8_tracePath_42 : Nat → xH → Nat → Int32 → Int32 → Int32 → Option (Int32 × xH)
  | 0, _, _, _, _, _ => none
  | n + 1, h, l0, l2, l3, l4 => (if l4 < 0 then (some ((l2, h))) else ((gR h l0 8 1).bind fun v2 => (gI h l0 8 0).bind fun v3 => (rmI l3 v3).bind fun v4 => (stI h .int v2 l4 v4).bind fun h5 => (gO h5 l0 8).bind fun q6 => (f_X8_before h5 l0 l3).bind fun r7 => f_X8_tracePath_42 n h5 l0 l2 r7 (l4 + (-1))))
def f_X8_tracePath_37 (h : xH) (l0 : Nat) (l1 : Int32) (l2 : Int32) : Option (Int32 × xH) := f_X8_tracePath_42 xFU h l0 l2 l1 l2
def f_X8_tracePath_4 : Nat → xH → Nat → Int32 → Int32 → Int32 → Option (Int32 × xH)
  | 0, _, _, _, _, _ => none
  | n + 1, h, l0, l1, l2, l3 => (gR h l0 8 1).bind fun v1 => (aln h v1).bind fun v2 => (if (v2 - (1 : Int32)) ≤ l2 then (f_X8_tracePath_37 h l0 l1 l2) else ((gR h l0 8 3).bind fun v4 => (ldI h .int v4 (0 : Int32)).bind fun v5 => (if l3 = v5 then (f_X8_tracePath_37 h l0 l1 l2) else ((gO h l0 8).bind fun q7 => (f_X8_before h l0 l3).bind fun r8 => f_X8_tracePath_4 n h l0 l1 (l2 + 1) r8))))
def f_X8_tracePath (h : xH) (l0 : Nat) (l1 : Int32) : Option (Int32 × xH) := f_X8_tracePath_4 xFU h l0 l1 (0 : Int32) l1
set_option maxRecDepth 20000 in
theorem w_X8_tracePath_42 : ∀ (n : Nat) (h : xH) (l0 : Nat) (l2 : Int32) (l3 : Int32) (l4 : Int32) (r : Int32 × xH), f_X8_tracePath_42 n h l0 l2 l3 l4 = some r → V 4 yX8_tracePath cX8_tracePath 5 (some .int) [] none 42 [(0, .ref l0), (2, .int l2), (3, .int l3), (4, .int l4)] [] h (oIh r) := by
  intro n
  induction n with
  | zero => intro h l0 l2 l3 l4 r hf; cases hf
  | succ n ih =>
    intro h l0 l2 l3 l4 r hf
    rw [f_X8_tracePath_42] at hf
    refine V.iload dX8_tracePath_42 3 rfl ?_
    refine V.if_lt (tgt := 72) dX8_tracePath_44 (by decide) (fun c1 => ?_) (fun c1 => ?_)
    · rw [if_pos c1] at hf
      refine V.iload_n dX8_tracePath_72 rfl 1 rfl ?_
      obtain rfl := Option.some.inj hf
      exact V.iret dX8_tracePath_73
    · rw [if_neg c1] at hf
      refine V.aload_n dX8_tracePath_47 rfl 0 rfl ?_
      obtain ⟨v2, e1, hf⟩ := bS hf
      refine V.xgR dX8_tracePath_48 fl_RX8_9 e1 ?_
      refine V.iload dX8_tracePath_51 3 rfl ?_
      refine V.iload_n dX8_tracePath_53 rfl 2 rfl ?_
      refine V.aload_n dX8_tracePath_54 rfl 0 rfl ?_
      obtain ⟨v3, e2, hf⟩ := bS hf
      refine V.xgI dX8_tracePath_55 fl_RX8_38 e2 ?_
      obtain ⟨v4, e3, hf⟩ := bS hf
      refine V.xrmI dX8_tracePath_58 e3 ?_
      obtain ⟨h5, e4, hf⟩ := bS hf
      refine V.xstI dX8_tracePath_59 e4 ?_
      refine V.aload_n dX8_tracePath_60 rfl 0 rfl ?_
      refine V.iload_n dX8_tracePath_61 rfl 2 rfl ?_
      obtain ⟨q6, e5, hf⟩ := bS hf
      obtain ⟨r7, e6, hf⟩ := bS hf
      refine V.callV (As := [.int l3]) (st := []) dX8_tracePath_62 cl_RX8_88 sw_yX8_before (by decide) rfl (Nat.le_of_ble_eq_true rfl) rfl (gO_some e5) rfl (w_X8_before _ _ _ _ e6) ?_
      refine V.istore_n (lv' := [(3, .int r7), (0, .ref l0), (2, .int l2), (4, .int l4)]) dX8_tracePath_65 rfl (by decide) rfl ?_
      refine V.iinc (v := (l4 + (-1))) (lv' := [(4, .int (l4 + (-1))), (3, .int r7), (0, .ref l0), (2, .int l2)]) dX8_tracePath_66 3 rfl rfl (Nat.le_of_ble_eq_true rfl) rfl ?_
      refine V.goto (tgt := 42) dX8_tracePath_69 (by decide) ?_
      refine V.sub [2, 3, 1, 0] rfl ?_
      exact ih _ _ _ _ _ _ hf

set_option maxRecDepth 20000 in
theorem w_X8_tracePath_37 (h : xH) (l0 : Nat) (l1 : Int32) (l2 : Int32) (r : Int32 × xH) (hf : f_X8_tracePath_37 h l0 l1 l2 = some r) : V 4 yX8_tracePath cX8_tracePath 5 (some .int) [] none 37 [(0, .ref l0), (1, .int l1), (2, .int l2)] [] h (oIh r) := by
  unfold f_X8_tracePath_37 at hf
  refine V.iload_n dX8_tracePath_37 rfl 1 rfl ?_
  refine V.istore_n (lv' := [(3, .int l1), (0, .ref l0), (1, .int l1), (2, .int l2)]) dX8_tracePath_38 rfl (by decide) rfl ?_
  refine V.iload_n dX8_tracePath_39 rfl 3 rfl ?_
  refine V.istore (lv' := [(4, .int l2), (3, .int l1), (0, .ref l0), (1, .int l1), (2, .int l2)]) dX8_tracePath_40 (by decide) rfl ?_
  refine V.sub [2, 4, 1, 0] rfl ?_
  exact w_X8_tracePath_42 _ _ _ _ _ _ _ hf

set_option maxRecDepth 20000 in
theorem w_X8_tracePath_4 : ∀ (n : Nat) (h : xH) (l0 : Nat) (l1 : Int32) (l2 : Int32) (l3 : Int32) (r : Int32 × xH), f_X8_tracePath_4 n h l0 l1 l2 l3 = some r → V 4 yX8_tracePath cX8_tracePath 5 (some .int) [] none 4 [(0, .ref l0), (1, .int l1), (2, .int l2), (3, .int l3)] [] h (oIh r) := by
  intro n
  induction n with
  | zero => intro h l0 l1 l2 l3 r hf; cases hf
  | succ n ih =>
    intro h l0 l1 l2 l3 r hf
    rw [f_X8_tracePath_4] at hf
    refine V.iload_n dX8_tracePath_4 rfl 2 rfl ?_
    refine V.aload_n dX8_tracePath_5 rfl 0 rfl ?_
    obtain ⟨v1, e7, hf⟩ := bS hf
    refine V.xgR dX8_tracePath_6 fl_RX8_9 e7 ?_
    obtain ⟨v2, e8, hf⟩ := bS hf
    refine V.xaln dX8_tracePath_9 e8 ?_
    refine V.iconst (v := (1 : Int32)) dX8_tracePath_10 (by decide) ?_
    refine V.isub dX8_tracePath_11 ?_
    refine V.icmp_ge (tgt := 37) dX8_tracePath_12 (by decide) (fun c3 => ?_) (fun c3 => ?_)
    · rw [if_pos c3] at hf
      refine V.sub [0, 1, 2] rfl ?_
      exact w_X8_tracePath_37 _ _ _ _ _ hf
    · rw [if_neg c3] at hf
      refine V.iload_n dX8_tracePath_15 rfl 3 rfl ?_
      refine V.aload_n dX8_tracePath_16 rfl 0 rfl ?_
      obtain ⟨v4, e9, hf⟩ := bS hf
      refine V.xgR dX8_tracePath_17 fl_RX8_44 e9 ?_
      refine V.iconst (v := (0 : Int32)) dX8_tracePath_20 (by decide) ?_
      obtain ⟨v5, e10, hf⟩ := bS hf
      refine V.xldI dX8_tracePath_21 e10 ?_
      refine V.icmp_eq (tgt := 37) dX8_tracePath_22 (by decide) (fun c6 => ?_) (fun c6 => ?_)
      · rw [if_pos c6] at hf
        refine V.sub [0, 1, 2] rfl ?_
        exact w_X8_tracePath_37 _ _ _ _ _ hf
      · rw [if_neg c6] at hf
        refine V.aload_n dX8_tracePath_25 rfl 0 rfl ?_
        refine V.iload_n dX8_tracePath_26 rfl 3 rfl ?_
        obtain ⟨q7, e11, hf⟩ := bS hf
        obtain ⟨r8, e12, hf⟩ := bS hf
        refine V.callV (As := [.int l3]) (st := []) dX8_tracePath_27 cl_RX8_88 sw_yX8_before (by decide) rfl (Nat.le_of_ble_eq_true rfl) rfl (gO_some e11) rfl (w_X8_before _ _ _ _ e12) ?_
        refine V.istore_n (lv' := [(3, .int r8), (0, .ref l0), (1, .int l1), (2, .int l2)]) dX8_tracePath_30 rfl (by decide) rfl ?_
        refine V.iinc (v := (l2 + 1)) (lv' := [(2, .int (l2 + 1)), (3, .int r8), (0, .ref l0), (1, .int l1)]) dX8_tracePath_31 3 rfl rfl (Nat.le_of_ble_eq_true rfl) rfl ?_
        refine V.goto (tgt := 4) dX8_tracePath_34 (by decide) ?_
        refine V.sub [2, 3, 0, 1] rfl ?_
        exact ih _ _ _ _ _ _ hf

set_option maxRecDepth 20000 in
theorem w_X8_tracePath (h : xH) (l0 : Nat) (l1 : Int32) (r : Int32 × xH) (hf : f_X8_tracePath h l0 l1 = some r) : Ev 4 yX8_tracePath cX8_tracePath 5 (some .int) [] [.ref l0, .int l1] h (oIh r) := by
  refine Ev.of (by decide +kernel) (Nat.le_of_ble_eq_true rfl) ?_
  unfold f_X8_tracePath at hf
  refine V.iconst (v := (0 : Int32)) dX8_tracePath_0 (by decide) ?_
  refine V.istore_n (lv' := [(2, .int (0 : Int32)), (0, .ref l0), (1, .int l1)]) dX8_tracePath_1 rfl (by decide) rfl ?_
  refine V.iload_n dX8_tracePath_2 rfl 2 rfl ?_
  refine V.istore_n (lv' := [(3, .int l1), (2, .int (0 : Int32)), (0, .ref l0), (1, .int l1)]) dX8_tracePath_3 rfl (by decide) rfl ?_
  refine V.sub [2, 3, 1, 0] rfl ?_
  exact w_X8_tracePath_4 _ _ _ _ _ _ _ hf

def f_X8_search_120 (k44 : xH → Nat → Nat → Int32 → Int32 → Option (Int32 × xH)) : Nat → xH → Nat → Nat → Int32 → Int32 → Int32 → Int32 → Int32 → Option (Int32 × xH)
  | 0, _, _, _, _, _, _, _, _ => none
  | n + 1, h, l0, l1, l3, l4, l5, l7, l8 => (gI h l1 3 1).bind fun v1 => (if v1 ≤ l8 then (k44 h l0 l1 l3 (l4 + 1)) else ((if ((l7 >>> (l8 &&& 31)) &&& (1 : Int32)) = 0 then (f_X8_search_120 k44 n h l0 l1 l3 l4 l5 l7 (l8 + 1)) else ((gR h l1 3 14).bind fun v4 => (ldI h .int v4 l8).bind fun v5 => (gO h l0 8).bind fun q6 => (f_X8_stateOf h l0 (l5 ||| v5) l8).bind fun r7 => (gO h l0 8).bind fun q8 => (f_X8_enter h l0 r7 l4).bind fun r9 => f_X8_search_120 k44 n r9 l0 l1 l3 l4 l5 l7 (l8 + 1)))))
def f_X8_search_191 (h : xH) (l0 : Nat) (s0 : Int32) : Option (Int32 × xH) := (gO h l0 8).bind fun q1 => (f_X8_forget h l0).bind fun r2 => some ((s0, r2))
def f_X8_search_173 (h : xH) (l0 : Nat) (l3 : Int32) : Option (Int32 × xH) := (gR h l0 8 2).bind fun v1 => (ldI h .int v1 l3).bind fun v2 => (if v2 = 0 then (f_X8_search_191 h l0 (-1 : Int32)) else ((gO h l0 8).bind fun q4 => (f_X8_tracePath h l0 l3).bind fun r5 => f_X8_search_191 r5.2 l0 (r5.1)))
def f_X8_search_44 : Nat → xH → Nat → Nat → Int32 → Int32 → Option (Int32 × xH)
  | 0, _, _, _, _, _ => none
  | n + 1, h, l0, l1, l3, l4 => (gR h l0 8 3).bind fun v1 => (aln h v1).bind fun v2 => (if v2 ≤ l4 then (f_X8_search_173 h l0 l3) else ((gI h l0 8 4).bind fun v4 => (if v4 ≤ l4 then (f_X8_search_173 h l0 l3) else ((gR h l0 8 2).bind fun v6 => (ldI h .int v6 l3).bind fun v7 => (if v7 = 0 then ((gR h l0 8 3).bind fun v9 => (ldI h .int v9 l4).bind fun v10 => (gI h l0 8 0).bind fun v11 => (dvI v10 v11).bind fun v12 => (gR h l0 8 3).bind fun v13 => (ldI h .int v13 l4).bind fun v14 => (gI h l0 8 0).bind fun v15 => (rmI v14 v15).bind fun v16 => (gR h l1 3 13).bind fun v17 => (ldI h .int v17 v16).bind fun v18 => (gR h l1 3 14).bind fun v19 => (ldI h .int v19 v16).bind fun v20 => f_X8_search_120 (f_X8_search_44 n) xFU h l0 l1 l3 l4 v12 (v18 ||| v20) (0 : Int32)) else (f_X8_search_173 h l0 l3))))))
def f_X8_search (h : xH) (l0 : Nat) (l1 : Nat) (l2 : Int32) : Option (Int32 × xH) := (f_X8_canBe h l1 l2).bind fun r1 => (if r1 = 0 then (some (((-1 : Int32), h))) else ((gO h l1 3).bind fun q3 => (f_X3_allRooms h l1).bind fun r4 => (gO h l0 8).bind fun q5 => (f_X8_stateOf h l0 r4 l2).bind fun r6 => (pF h l0 8 4 (.int (0 : Int32))).bind fun h7 => (gR h7 l1 3 14).bind fun v8 => (ldI h7 .int v8 l2).bind fun v9 => (gO h7 l0 8).bind fun q10 => (f_X8_stateOf h7 l0 v9 l2).bind fun r11 => (gO h7 l0 8).bind fun q12 => (f_X8_enter h7 l0 r11 (0 : Int32)).bind fun r13 => f_X8_search_44 xFU r13 l0 l1 r6 (0 : Int32)))
set_option maxRecDepth 20000 in
theorem w_X8_search_120 {k44 : xH → Nat → Nat → Int32 → Int32 → Option (Int32 × xH)} (hk44 : ∀ (h : xH) (l0 : Nat) (l1 : Nat) (l3 : Int32) (l4 : Int32) (r : Int32 × xH), k44 h l0 l1 l3 l4 = some r → V 5 yX8_search cX8_search 9 (some .int) [] none 44 [(0, .ref l0), (1, .ref l1), (3, .int l3), (4, .int l4)] [] h (oIh r)) : ∀ (n : Nat) (h : xH) (l0 : Nat) (l1 : Nat) (l3 : Int32) (l4 : Int32) (l5 : Int32) (l7 : Int32) (l8 : Int32) (r : Int32 × xH), f_X8_search_120 k44 n h l0 l1 l3 l4 l5 l7 l8 = some r → V 5 yX8_search cX8_search 9 (some .int) [] none 120 [(0, .ref l0), (1, .ref l1), (3, .int l3), (4, .int l4), (5, .int l5), (7, .int l7), (8, .int l8)] [] h (oIh r) := by
  intro n
  induction n with
  | zero => intro h l0 l1 l3 l4 l5 l7 l8 r hf; cases hf
  | succ n ih =>
    intro h l0 l1 l3 l4 l5 l7 l8 r hf
    rw [f_X8_search_120] at hf
    refine V.iload dX8_search_120 6 rfl ?_
    refine V.aload_n dX8_search_122 rfl 1 rfl ?_
    obtain ⟨v1, e1, hf⟩ := bS hf
    refine V.xgI dX8_search_123 fl_RX8_74 e1 ?_
    refine V.icmp_ge (tgt := 167) dX8_search_126 (by decide) (fun c2 => ?_) (fun c2 => ?_)
    · rw [if_pos c2] at hf
      refine V.iinc (v := (l4 + 1)) (lv' := [(4, .int (l4 + 1)), (0, .ref l0), (1, .ref l1), (3, .int l3), (5, .int l5), (7, .int l7), (8, .int l8)]) dX8_search_167 3 rfl rfl (Nat.le_of_ble_eq_true rfl) rfl ?_
      refine V.goto (tgt := 44) dX8_search_170 (by decide) ?_
      refine V.sub [1, 2, 3, 0] rfl ?_
      exact hk44 _ _ _ _ _ _ hf
    · rw [if_neg c2] at hf
      refine V.iload dX8_search_129 5 rfl ?_
      refine V.iload dX8_search_131 6 rfl ?_
      refine V.ishr dX8_search_133 ?_
      refine V.iconst (v := (1 : Int32)) dX8_search_134 (by decide) ?_
      refine V.iand dX8_search_135 ?_
      refine V.if_eq (tgt := 161) dX8_search_136 (by decide) (fun c3 => ?_) (fun c3 => ?_)
      · rw [if_pos c3] at hf
        refine V.iinc (v := (l8 + 1)) (lv' := [(8, .int (l8 + 1)), (0, .ref l0), (1, .ref l1), (3, .int l3), (4, .int l4), (5, .int l5), (7, .int l7)]) dX8_search_161 6 rfl rfl (Nat.le_of_ble_eq_true rfl) rfl ?_
        refine V.goto (tgt := 120) dX8_search_164 (by decide) ?_
        refine V.sub [1, 2, 3, 4, 5, 6, 0] rfl ?_
        exact ih _ _ _ _ _ _ _ _ _ hf
      · rw [if_neg c3] at hf
        refine V.aload_n dX8_search_139 rfl 0 rfl ?_
        refine V.aload_n dX8_search_140 rfl 0 rfl ?_
        refine V.iload dX8_search_141 4 rfl ?_
        refine V.aload_n dX8_search_143 rfl 1 rfl ?_
        obtain ⟨v4, e2, hf⟩ := bS hf
        refine V.rgR dX8_search_144 fl_RX8_64 e2 ?_
        refine V.iload dX8_search_147 6 rfl ?_
        obtain ⟨v5, e3, hf⟩ := bS hf
        refine V.xldI dX8_search_149 e3 ?_
        refine V.ior dX8_search_150 ?_
        refine V.iload dX8_search_151 6 rfl ?_
        obtain ⟨q6, e4, hf⟩ := bS hf
        obtain ⟨r7, e5, hf⟩ := bS hf
        refine V.callV (As := [.int (l5 ||| v5), .int l8]) (st := [.ref l0]) dX8_search_153 cl_RX8_61 sw_yX8_stateOf (by decide) rfl (Nat.le_of_ble_eq_true rfl) rfl (gO_some e4) rfl (w_X8_stateOf _ _ _ _ _ e5) ?_
        refine V.iload dX8_search_156 3 rfl ?_
        obtain ⟨q8, e6, hf⟩ := bS hf
        obtain ⟨r9, e7, hf⟩ := bS hf
        refine V.callV (As := [.int r7, .int l4]) (st := []) dX8_search_158 cl_RX8_67 sw_yX8_enter (by decide) rfl (Nat.le_of_ble_eq_true rfl) rfl (gO_some e6) rfl (w_X8_enter _ _ _ _ _ e7) ?_
        refine V.iinc (v := (l8 + 1)) (lv' := [(8, .int (l8 + 1)), (0, .ref l0), (1, .ref l1), (3, .int l3), (4, .int l4), (5, .int l5), (7, .int l7)]) dX8_search_161 6 rfl rfl (Nat.le_of_ble_eq_true rfl) rfl ?_
        refine V.goto (tgt := 120) dX8_search_164 (by decide) ?_
        refine V.sub [1, 2, 3, 4, 5, 6, 0] rfl ?_
        exact ih _ _ _ _ _ _ _ _ _ hf

set_option maxRecDepth 20000 in
theorem w_X8_search_191 (h : xH) (l0 : Nat) (s0 : Int32) (r : Int32 × xH) (hf : f_X8_search_191 h l0 s0 = some r) : V 5 yX8_search cX8_search 9 (some .int) [] none 191 [(0, .ref l0)] [.int s0] h (oIh r) := by
  unfold f_X8_search_191 at hf
  refine V.istore (lv' := [(4, .int s0), (0, .ref l0)]) dX8_search_191 (by decide) rfl ?_
  refine V.aload_n dX8_search_193 rfl 1 rfl ?_
  obtain ⟨q1, e8, hf⟩ := bS hf
  obtain ⟨r2, e9, hf⟩ := bS hf
  refine V.callV (As := []) (st := []) dX8_search_194 cl_RX8_79 sw_yX8_forget (by decide) rfl (Nat.le_of_ble_eq_true rfl) rfl (gO_some e8) rfl (w_X8_forget _ _ _ e9) ?_
  refine V.iload dX8_search_197 0 rfl ?_
  obtain rfl := Option.some.inj hf
  exact V.iret dX8_search_199

set_option maxRecDepth 20000 in
theorem w_X8_search_173 (h : xH) (l0 : Nat) (l3 : Int32) (r : Int32 × xH) (hf : f_X8_search_173 h l0 l3 = some r) : V 5 yX8_search cX8_search 9 (some .int) [] none 173 [(0, .ref l0), (3, .int l3)] [] h (oIh r) := by
  unfold f_X8_search_173 at hf
  refine V.aload_n dX8_search_173 rfl 0 rfl ?_
  obtain ⟨v1, e10, hf⟩ := bS hf
  refine V.xgR dX8_search_174 fl_RX8_41 e10 ?_
  refine V.iload_n dX8_search_177 rfl 1 rfl ?_
  obtain ⟨v2, e11, hf⟩ := bS hf
  refine V.xldI dX8_search_178 e11 ?_
  refine V.if_ne (tgt := 186) dX8_search_179 (by decide) (fun c3 => ?_) (fun c3 => ?_)
  · rw [if_neg c3] at hf
    refine V.aload_n dX8_search_186 rfl 0 rfl ?_
    refine V.iload_n dX8_search_187 rfl 1 rfl ?_
    obtain ⟨q4, e12, hf⟩ := bS hf
    obtain ⟨r5, e13, hf⟩ := bS hf
    refine V.callV (As := [.int l3]) (st := []) dX8_search_188 cl_RX8_75 sw_yX8_tracePath (by decide) rfl (Nat.le_of_ble_eq_true rfl) rfl (gO_some e12) rfl (w_X8_tracePath _ _ _ _ e13) ?_
    refine V.sub [0] rfl ?_
    exact w_X8_search_191 _ _ _ _ hf
  · rw [if_pos c3] at hf
    refine V.iconst (v := (-1 : Int32)) dX8_search_182 (by decide) ?_
    refine V.goto (tgt := 191) dX8_search_183 (by decide) ?_
    refine V.sub [0] rfl ?_
    exact w_X8_search_191 _ _ _ _ hf

set_option maxRecDepth 20000 in
theorem w_X8_search_44 : ∀ (n : Nat) (h : xH) (l0 : Nat) (l1 : Nat) (l3 : Int32) (l4 : Int32) (r : Int32 × xH), f_X8_search_44 n h l0 l1 l3 l4 = some r → V 5 yX8_search cX8_search 9 (some .int) [] none 44 [(0, .ref l0), (1, .ref l1), (3, .int l3), (4, .int l4)] [] h (oIh r) := by
  intro n
  induction n with
  | zero => intro h l0 l1 l3 l4 r hf; cases hf
  | succ n ih =>
    intro h l0 l1 l3 l4 r hf
    rw [f_X8_search_44] at hf
    refine V.iload dX8_search_44 3 rfl ?_
    refine V.aload_n dX8_search_46 rfl 0 rfl ?_
    obtain ⟨v1, e14, hf⟩ := bS hf
    refine V.xgR dX8_search_47 fl_RX8_44 e14 ?_
    obtain ⟨v2, e15, hf⟩ := bS hf
    refine V.xaln dX8_search_50 e15 ?_
    refine V.icmp_ge (tgt := 173) dX8_search_51 (by decide) (fun c3 => ?_) (fun c3 => ?_)
    · rw [if_pos c3] at hf
      refine V.sub [0, 2] rfl ?_
      exact w_X8_search_173 _ _ _ _ hf
    · rw [if_neg c3] at hf
      refine V.iload dX8_search_54 3 rfl ?_
      refine V.aload_n dX8_search_56 rfl 0 rfl ?_
      obtain ⟨v4, e16, hf⟩ := bS hf
      refine V.xgI dX8_search_57 fl_RX8_15 e16 ?_
      refine V.icmp_ge (tgt := 173) dX8_search_60 (by decide) (fun c5 => ?_) (fun c5 => ?_)
      · rw [if_pos c5] at hf
        refine V.sub [0, 2] rfl ?_
        exact w_X8_search_173 _ _ _ _ hf
      · rw [if_neg c5] at hf
        refine V.aload_n dX8_search_63 rfl 0 rfl ?_
        obtain ⟨v6, e17, hf⟩ := bS hf
        refine V.xgR dX8_search_64 fl_RX8_41 e17 ?_
        refine V.iload_n dX8_search_67 rfl 2 rfl ?_
        obtain ⟨v7, e18, hf⟩ := bS hf
        refine V.xldI dX8_search_68 e18 ?_
        refine V.if_ne (tgt := 173) dX8_search_69 (by decide) (fun c8 => ?_) (fun c8 => ?_)
        · rw [if_neg c8] at hf
          refine V.sub [0, 2] rfl ?_
          exact w_X8_search_173 _ _ _ _ hf
        · rw [if_pos c8] at hf
          refine V.aload_n dX8_search_72 rfl 0 rfl ?_
          obtain ⟨v9, e19, hf⟩ := bS hf
          refine V.xgR dX8_search_73 fl_RX8_44 e19 ?_
          refine V.iload dX8_search_76 3 rfl ?_
          obtain ⟨v10, e20, hf⟩ := bS hf
          refine V.xldI dX8_search_78 e20 ?_
          refine V.aload_n dX8_search_79 rfl 0 rfl ?_
          obtain ⟨v11, e21, hf⟩ := bS hf
          refine V.xgI dX8_search_80 fl_RX8_38 e21 ?_
          obtain ⟨v12, e22, hf⟩ := bS hf
          refine V.xdvI dX8_search_83 e22 ?_
          refine V.istore (lv' := [(5, .int v12), (0, .ref l0), (1, .ref l1), (3, .int l3), (4, .int l4)]) dX8_search_84 (by decide) rfl ?_
          refine V.aload_n dX8_search_86 rfl 1 rfl ?_
          obtain ⟨v13, e23, hf⟩ := bS hf
          refine V.xgR dX8_search_87 fl_RX8_44 e23 ?_
          refine V.iload dX8_search_90 4 rfl ?_
          obtain ⟨v14, e24, hf⟩ := bS hf
          refine V.xldI dX8_search_92 e24 ?_
          refine V.aload_n dX8_search_93 rfl 1 rfl ?_
          obtain ⟨v15, e25, hf⟩ := bS hf
          refine V.xgI dX8_search_94 fl_RX8_38 e25 ?_
          obtain ⟨v16, e26, hf⟩ := bS hf
          refine V.xrmI dX8_search_97 e26 ?_
          refine V.istore (lv' := [(6, .int v16), (5, .int v12), (0, .ref l0), (1, .ref l1), (3, .int l3), (4, .int l4)]) dX8_search_98 (by decide) rfl ?_
          refine V.aload_n dX8_search_100 rfl 3 rfl ?_
          obtain ⟨v17, e27, hf⟩ := bS hf
          refine V.rgR dX8_search_101 fl_RX8_71 e27 ?_
          refine V.iload dX8_search_104 0 rfl ?_
          obtain ⟨v18, e28, hf⟩ := bS hf
          refine V.xldI dX8_search_106 e28 ?_
          refine V.aload_n dX8_search_107 rfl 3 rfl ?_
          obtain ⟨v19, e29, hf⟩ := bS hf
          refine V.rgR dX8_search_108 fl_RX8_64 e29 ?_
          refine V.iload dX8_search_111 0 rfl ?_
          obtain ⟨v20, e30, hf⟩ := bS hf
          refine V.xldI dX8_search_113 e30 ?_
          refine V.ior dX8_search_114 ?_
          refine V.istore (lv' := [(7, .int (v18 ||| v20)), (6, .int v16), (5, .int v12), (0, .ref l0), (1, .ref l1), (3, .int l3), (4, .int l4)]) dX8_search_115 (by decide) rfl ?_
          refine V.iconst (v := (0 : Int32)) dX8_search_117 (by decide) ?_
          refine V.istore (lv' := [(8, .int (0 : Int32)), (7, .int (v18 ||| v20)), (6, .int v16), (5, .int v12), (0, .ref l0), (1, .ref l1), (3, .int l3), (4, .int l4)]) dX8_search_118 (by decide) rfl ?_
          refine V.sub [4, 5, 6, 7, 3, 1, 0] rfl ?_
          exact w_X8_search_120 ih _ _ _ _ _ _ _ _ _ _ hf

set_option maxRecDepth 20000 in
theorem w_X8_search (h : xH) (l0 : Nat) (l1 : Nat) (l2 : Int32) (r : Int32 × xH) (hf : f_X8_search h l0 l1 l2 = some r) : Ev 5 yX8_search cX8_search 9 (some .int) [] [.ref l0, .ref l1, .int l2] h (oIh r) := by
  refine Ev.of (by decide +kernel) (Nat.le_of_ble_eq_true rfl) ?_
  unfold f_X8_search at hf
  refine V.aload_n dX8_search_0 rfl 1 rfl ?_
  refine V.iload_n dX8_search_1 rfl 2 rfl ?_
  obtain ⟨r1, e31, hf⟩ := bS hf
  refine V.callS (As := [.ref l1, .int l2]) (st := []) dX8_search_2 cl_RX8_51 sw_yX8_canBe (by decide) rfl (Nat.le_of_ble_eq_true rfl) rfl (w_X8_canBe _ _ _ _ e31) ?_
  refine V.if_ne (tgt := 10) dX8_search_5 (by decide) (fun c2 => ?_) (fun c2 => ?_)
  · rw [if_neg c2] at hf
    refine V.aload_n dX8_search_10 rfl 0 rfl ?_
    refine V.aload_n dX8_search_11 rfl 1 rfl ?_
    obtain ⟨q3, e32, hf⟩ := bS hf
    obtain ⟨r4, e33, hf⟩ := bS hf
    refine V.callV (As := []) (st := [.ref l0]) dX8_search_12 cl_RX8_55 sw_yX3_allRooms (by decide) rfl (Nat.le_of_ble_eq_true rfl) rfl (gO_some e32) rfl (w_X3_allRooms _ _ _ e33) ?_
    refine V.iload_n dX8_search_15 rfl 2 rfl ?_
    obtain ⟨q5, e34, hf⟩ := bS hf
    obtain ⟨r6, e35, hf⟩ := bS hf
    refine V.callV (As := [.int r4, .int l2]) (st := []) dX8_search_16 cl_RX8_61 sw_yX8_stateOf (by decide) rfl (Nat.le_of_ble_eq_true rfl) rfl (gO_some e34) rfl (w_X8_stateOf _ _ _ _ _ e35) ?_
    refine V.istore_n (lv' := [(3, .int r6), (0, .ref l0), (1, .ref l1), (2, .int l2)]) dX8_search_19 rfl (by decide) rfl ?_
    refine V.aload_n dX8_search_20 rfl 1 rfl ?_
    refine V.iconst (v := (0 : Int32)) dX8_search_21 (by decide) ?_
    obtain ⟨h7, e36, hf⟩ := bS hf
    refine V.xpF dX8_search_22 fl_RX8_15 (fun h9 => nomatch h9) (fun _ => rfl) (fun _ => rfl) e36 ?_
    refine V.aload_n dX8_search_25 rfl 1 rfl ?_
    refine V.aload_n dX8_search_26 rfl 1 rfl ?_
    refine V.aload_n dX8_search_27 rfl 2 rfl ?_
    obtain ⟨v8, e37, hf⟩ := bS hf
    refine V.rgR dX8_search_28 fl_RX8_64 e37 ?_
    refine V.iload_n dX8_search_31 rfl 3 rfl ?_
    obtain ⟨v9, e38, hf⟩ := bS hf
    refine V.xldI dX8_search_32 e38 ?_
    refine V.iload_n dX8_search_33 rfl 3 rfl ?_
    obtain ⟨q10, e39, hf⟩ := bS hf
    obtain ⟨r11, e40, hf⟩ := bS hf
    refine V.callV (As := [.int v9, .int l2]) (st := [.ref l0]) dX8_search_34 cl_RX8_61 sw_yX8_stateOf (by decide) rfl (Nat.le_of_ble_eq_true rfl) rfl (gO_some e39) rfl (w_X8_stateOf _ _ _ _ _ e40) ?_
    refine V.iconst (v := (0 : Int32)) dX8_search_37 (by decide) ?_
    obtain ⟨q12, e41, hf⟩ := bS hf
    obtain ⟨r13, e42, hf⟩ := bS hf
    refine V.callV (As := [.int r11, .int (0 : Int32)]) (st := []) dX8_search_38 cl_RX8_67 sw_yX8_enter (by decide) rfl (Nat.le_of_ble_eq_true rfl) rfl (gO_some e41) rfl (w_X8_enter _ _ _ _ _ e42) ?_
    refine V.iconst (v := (0 : Int32)) dX8_search_41 (by decide) ?_
    refine V.istore (lv' := [(4, .int (0 : Int32)), (3, .int r6), (0, .ref l0), (1, .ref l1), (2, .int l2)]) dX8_search_42 (by decide) rfl ?_
    refine V.sub [2, 3, 1, 0] rfl ?_
    exact w_X8_search_44 _ _ _ _ _ _ _ hf
  · rw [if_pos c2] at hf
    refine V.iconst (v := (-1 : Int32)) dX8_search_8 (by decide) ?_
    obtain rfl := Option.some.inj hf
    exact V.iret dX8_search_9

def f_X8_stepsFrom_36 (h : xH) (l0 : Nat) : Option (Int32 × xH) := (gI h l0 8 7).bind fun v1 => some ((v1, h))
def f_X8_stepsFrom_16 (h : xH) (l0 : Nat) (l1 : Nat) (l2 : Int32) : Option (Int32 × xH) := (pF h l0 8 5 (.ref l1)).bind fun h1 => (pF h1 l0 8 6 (.int l2)).bind fun h2 => (gO h2 l0 8).bind fun q3 => (f_X8_search h2 l0 l1 l2).bind fun r4 => (pF r4.2 l0 8 7 (.int (r4.1))).bind fun h5 => f_X8_stepsFrom_36 h5 l0
def f_X8_stepsFrom (h : xH) (l0 : Nat) (l1 : Nat) (l2 : Int32) : Option (Int32 × xH) := (gN h l0 8 5).bind fun v1 => (match v1 with | none => (f_X8_stepsFrom_16 h l0 l1 l2) | some v2 => ((lt2 h v2 l1).bind fun v4 => (if v2 = l1 then ((gI h l0 8 6).bind fun v5 => (if v5 = l2 then (f_X8_stepsFrom_36 h l0) else (f_X8_stepsFrom_16 h l0 l1 l2))) else (f_X8_stepsFrom_16 h l0 l1 l2))))
set_option maxRecDepth 20000 in
theorem w_X8_stepsFrom_36 (h : xH) (l0 : Nat) (r : Int32 × xH) (hf : f_X8_stepsFrom_36 h l0 = some r) : V 6 yX8_stepsFrom cX8_stepsFrom 3 (some .int) [] none 36 [(0, .ref l0)] [] h (oIh r) := by
  unfold f_X8_stepsFrom_36 at hf
  refine V.aload_n dX8_stepsFrom_36 rfl 0 rfl ?_
  obtain ⟨v1, e1, hf⟩ := bS hf
  refine V.xgI dX8_stepsFrom_37 fl_RX8_26 e1 ?_
  obtain rfl := Option.some.inj hf
  exact V.iret dX8_stepsFrom_40

set_option maxRecDepth 20000 in
theorem w_X8_stepsFrom_16 (h : xH) (l0 : Nat) (l1 : Nat) (l2 : Int32) (r : Int32 × xH) (hf : f_X8_stepsFrom_16 h l0 l1 l2 = some r) : V 6 yX8_stepsFrom cX8_stepsFrom 3 (some .int) [] none 16 [(0, .ref l0), (1, .ref l1), (2, .int l2)] [] h (oIh r) := by
  unfold f_X8_stepsFrom_16 at hf
  refine V.aload_n dX8_stepsFrom_16 rfl 0 rfl ?_
  refine V.aload_n dX8_stepsFrom_17 rfl 1 rfl ?_
  obtain ⟨h1, e2, hf⟩ := bS hf
  refine V.xpF dX8_stepsFrom_18 fl_RX8_19 (fun h9 => nomatch h9) (fun _ => rfl) (fun _ => rfl) e2 ?_
  refine V.aload_n dX8_stepsFrom_21 rfl 0 rfl ?_
  refine V.iload_n dX8_stepsFrom_22 rfl 2 rfl ?_
  obtain ⟨h2, e3, hf⟩ := bS hf
  refine V.xpF dX8_stepsFrom_23 fl_RX8_23 (fun h9 => nomatch h9) (fun _ => rfl) (fun _ => rfl) e3 ?_
  refine V.aload_n dX8_stepsFrom_26 rfl 0 rfl ?_
  refine V.aload_n dX8_stepsFrom_27 rfl 0 rfl ?_
  refine V.aload_n dX8_stepsFrom_28 rfl 1 rfl ?_
  refine V.iload_n dX8_stepsFrom_29 rfl 2 rfl ?_
  obtain ⟨q3, e4, hf⟩ := bS hf
  obtain ⟨r4, e5, hf⟩ := bS hf
  refine V.callV (As := [.ref l1, .int l2]) (st := [.ref l0]) dX8_stepsFrom_30 cl_RX8_47 sw_yX8_search (by decide) rfl (Nat.le_of_ble_eq_true rfl) rfl (gO_some e4) rfl (w_X8_search _ _ _ _ _ e5) ?_
  obtain ⟨h5, e6, hf⟩ := bS hf
  refine V.xpF dX8_stepsFrom_33 fl_RX8_26 (fun h9 => nomatch h9) (fun _ => rfl) (fun _ => rfl) e6 ?_
  refine V.sub [0] rfl ?_
  exact w_X8_stepsFrom_36 _ _ _ hf

set_option maxRecDepth 20000 in
theorem w_X8_stepsFrom (h : xH) (l0 : Nat) (l1 : Nat) (l2 : Int32) (r : Int32 × xH) (hf : f_X8_stepsFrom h l0 l1 l2 = some r) : Ev 6 yX8_stepsFrom cX8_stepsFrom 3 (some .int) [] [.ref l0, .ref l1, .int l2] h (oIh r) := by
  refine Ev.of (by decide +kernel) (Nat.le_of_ble_eq_true rfl) ?_
  unfold f_X8_stepsFrom at hf
  refine V.aload_n dX8_stepsFrom_0 rfl 0 rfl ?_
  obtain ⟨v1, e7, hf⟩ := bS hf
  rcases v1 with _ | v2
  · refine V.xgN0 dX8_stepsFrom_1 fl_RX8_19 e7 ?_
    refine V.aload_n dX8_stepsFrom_4 rfl 1 rfl ?_
    refine V.acmp_neN (tgt := 16) dX8_stepsFrom_5 (by decide) ?_
    exact w_X8_stepsFrom_16 _ _ _ _ _ hf
  · refine V.xgN dX8_stepsFrom_1 fl_RX8_19 e7 ?_
    refine V.aload_n dX8_stepsFrom_4 rfl 1 rfl ?_
    obtain ⟨v4, e8, hf⟩ := bS hf
    refine V.acmp_ne (tgt := 16) dX8_stepsFrom_5 (by decide) (lt2_l e8) (lt2_r e8) (fun c3 => ?_) (fun c3 => ?_)
    · rw [if_neg c3] at hf
      exact w_X8_stepsFrom_16 _ _ _ _ _ hf
    · rw [if_pos c3] at hf
      refine V.aload_n dX8_stepsFrom_8 rfl 0 rfl ?_
      obtain ⟨v5, e9, hf⟩ := bS hf
      refine V.xgI dX8_stepsFrom_9 fl_RX8_23 e9 ?_
      refine V.iload_n dX8_stepsFrom_12 rfl 2 rfl ?_
      refine V.icmp_eq (tgt := 36) dX8_stepsFrom_13 (by decide) (fun c6 => ?_) (fun c6 => ?_)
      · rw [if_pos c6] at hf
        refine V.sub [0] rfl ?_
        exact w_X8_stepsFrom_36 _ _ _ hf
      · rw [if_neg c6] at hf
        exact w_X8_stepsFrom_16 _ _ _ _ _ hf

