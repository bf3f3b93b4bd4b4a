def f_X0_init (h : xH) (l0 : Nat) : Option (xH) := (mkI h .int (16 : Int32)).bind fun h1 => (pF h1 l0 0 0 (.ref (h.1.length))).bind fun h2 => (mkI h2 .int (16 : Int32)).bind fun h3 => (pF h3 l0 0 1 (.ref (h2.1.length))).bind fun h4 => (mkI h4 .int (16 : Int32)).bind fun h5 => (pF h5 l0 0 2 (.ref (h4.1.length))).bind fun h6 => (mkI h6 .int (16 : Int32)).bind fun h7 => (pF h7 l0 0 3 (.ref (h6.1.length))).bind fun h8 => (pF h8 l0 0 4 (.int (0 : Int32))).bind fun h9 => some (h9)
set_option maxRecDepth 20000 in
theorem w_X0_init (h : xH) (l0 : Nat) (r : xH) (hf : f_X0_init h l0 = some r) : Ev 4 yX0_init cX0_init 1 none [] [.ref l0] h (oVh r) := by
  refine Ev.of (by decide +kernel) (Nat.le_of_ble_eq_true rfl) ?_
  unfold f_X0_init at hf
  refine V.aload_n dX0_init_0 rfl 0 rfl ?_
  refine V.objInit dX0_init_1 oi_RX0_3 oi_inst oi_code (Nat.le_of_ble_eq_true rfl) ?_
  refine V.aload_n dX0_init_4 rfl 0 rfl ?_
  refine V.bipush (v := (16 : Int32)) dX0_init_5 (by decide) ?_
  obtain ⟨h1, e1, hf⟩ := bS hf
  refine V.xmkI dX0_init_7 rfl rfl aw_int (by decide) e1 ?_
  obtain ⟨h2, e2, hf⟩ := bS hf
  refine V.xpF dX0_init_9 fl_RX0_9 (fun _ => rfl) (fun _ => rfl) (fun _ => rfl) e2 ?_
  refine V.aload_n dX0_init_12 rfl 0 rfl ?_
  refine V.bipush (v := (16 : Int32)) dX0_init_13 (by decide) ?_
  obtain ⟨h3, e3, hf⟩ := bS hf
  refine V.xmkI dX0_init_15 rfl rfl aw_int (by decide) e3 ?_
  obtain ⟨h4, e4, hf⟩ := bS hf
  refine V.xpF dX0_init_17 fl_RX0_15 (fun _ => rfl) (fun _ => rfl) (fun _ => rfl) e4 ?_
  refine V.aload_n dX0_init_20 rfl 0 rfl ?_
  refine V.bipush (v := (16 : Int32)) dX0_init_21 (by decide) ?_
  obtain ⟨h5, e5, hf⟩ := bS hf
  refine V.xmkI dX0_init_23 rfl rfl aw_int (by decide) e5 ?_
  obtain ⟨h6, e6, hf⟩ := bS hf
  refine V.xpF dX0_init_25 fl_RX0_18 (fun _ => rfl) (fun _ => rfl) (fun _ => rfl) e6 ?_
  refine V.aload_n dX0_init_28 rfl 0 rfl ?_
  refine V.bipush (v := (16 : Int32)) dX0_init_29 (by decide) ?_
  obtain ⟨h7, e7, hf⟩ := bS hf
  refine V.xmkI dX0_init_31 rfl rfl aw_int (by decide) e7 ?_
  obtain ⟨h8, e8, hf⟩ := bS hf
  refine V.xpF dX0_init_33 fl_RX0_21 (fun _ => rfl) (fun _ => rfl) (fun _ => rfl) e8 ?_
  refine V.aload_n dX0_init_36 rfl 0 rfl ?_
  refine V.iconst (v := (0 : Int32)) dX0_init_37 (by decide) ?_
  obtain ⟨h9, e9, hf⟩ := bS hf
  refine V.xpF dX0_init_38 fl_RX0_24 (fun h9 => nomatch h9) (fun _ => rfl) (fun _ => rfl) e9 ?_
  obtain rfl := Option.some.inj hf
  exact V.vret dX0_init_41

def f_X4_init (h : xH) (l0 : Nat) : Option (xH) := (mkO h 0 5 [.null, .null, .null, .null, .int 0]).bind fun h1 => (f_X0_init h1 (h.1.length)).bind fun r2 => (pF r2 l0 4 0 (.ref (h.1.length))).bind fun h3 => (mkI h3 .int (256 : Int32)).bind fun h4 => (pF h4 l0 4 1 (.ref (h3.1.length))).bind fun h5 => (mkI h5 .int (272 : Int32)).bind fun h6 => (pF h6 l0 4 2 (.ref (h5.1.length))).bind fun h7 => (mkI h7 .int (17 : Int32)).bind fun h8 => (pF h8 l0 4 3 (.ref (h7.1.length))).bind fun h9 => (mkI h9 .int (24 : Int32)).bind fun h10 => (pF h10 l0 4 4 (.ref (h9.1.length))).bind fun h11 => (mkI h11 .int (24 : Int32)).bind fun h12 => (pF h12 l0 4 5 (.ref (h11.1.length))).bind fun h13 => (pF h13 l0 4 6 (.int (-1 : Int32))).bind fun h14 => (pF h14 l0 4 7 (.int (0 : Int32))).bind fun h15 => some (h15)
set_option maxRecDepth 20000 in
theorem w_X4_init (h : xH) (l0 : Nat) (r : xH) (hf : f_X4_init h l0 = some r) : Ev 5 yX4_init cX4_init 1 none [] [.ref l0] h (oVh r) := by
  refine Ev.of (by decide +kernel) (Nat.le_of_ble_eq_true rfl) ?_
  unfold f_X4_init at hf
  refine V.aload_n dX4_init_0 rfl 0 rfl ?_
  refine V.objInit dX4_init_1 oi_RX4_3 oi_inst oi_code (Nat.le_of_ble_eq_true rfl) ?_
  refine V.aload_n dX4_init_4 rfl 0 rfl ?_
  obtain ⟨h1, e1, hf⟩ := bS hf
  refine V.xmkO dX4_init_5 nc_RX4_9 e1 ?_
  refine V.dup dX4_init_8 rfl ?_
  obtain ⟨r2, e2, hf⟩ := bS hf
  refine V.callIN (host := "LitNextDoor") (As := []) (st := [.ref (h.1.length), .ref l0]) dX4_init_9 nl_RX4_11.1 nl_RX4_11.2 sw_yX0_init rfl (by decide) rfl (Nat.le_of_ble_eq_true rfl) rfl (w_X0_init _ _ _ e2) ?_
  obtain ⟨h3, e3, hf⟩ := bS hf
  refine V.xpF dX4_init_12 fl_RX4_12 (fun _ => rfl) (fun _ => rfl) (fun _ => rfl) e3 ?_
  refine V.aload_n dX4_init_15 rfl 0 rfl ?_
  refine V.sipush (v := (256 : Int32)) dX4_init_16 (by decide) ?_
  obtain ⟨h4, e4, hf⟩ := bS hf
  refine V.xmkI dX4_init_19 rfl rfl aw_int (by decide) e4 ?_
  obtain ⟨h5, e5, hf⟩ := bS hf
  refine V.xpF dX4_init_21 fl_RX4_18 (fun _ => rfl) (fun _ => rfl) (fun _ => rfl) e5 ?_
  refine V.aload_n dX4_init_24 rfl 0 rfl ?_
  refine V.sipush (v := (272 : Int32)) dX4_init_25 (by decide) ?_
  obtain ⟨h6, e6, hf⟩ := bS hf
  refine V.xmkI dX4_init_28 rfl rfl aw_int (by decide) e6 ?_
  obtain ⟨h7, e7, hf⟩ := bS hf
  refine V.xpF dX4_init_30 fl_RX4_22 (fun _ => rfl) (fun _ => rfl) (fun _ => rfl) e7 ?_
  refine V.aload_n dX4_init_33 rfl 0 rfl ?_
  refine V.bipush (v := (17 : Int32)) dX4_init_34 (by decide) ?_
  obtain ⟨h8, e8, hf⟩ := bS hf
  refine V.xmkI dX4_init_36 rfl rfl aw_int (by decide) e8 ?_
  obtain ⟨h9, e9, hf⟩ := bS hf
  refine V.xpF dX4_init_38 fl_RX4_25 (fun _ => rfl) (fun _ => rfl) (fun _ => rfl) e9 ?_
  refine V.aload_n dX4_init_41 rfl 0 rfl ?_
  refine V.bipush (v := (24 : Int32)) dX4_init_42 (by decide) ?_
  obtain ⟨h10, e10, hf⟩ := bS hf
  refine V.xmkI dX4_init_44 rfl rfl aw_int (by decide) e10 ?_
  obtain ⟨h11, e11, hf⟩ := bS hf
  refine V.xpF dX4_init_46 fl_RX4_28 (fun _ => rfl) (fun _ => rfl) (fun _ => rfl) e11 ?_
  refine V.aload_n dX4_init_49 rfl 0 rfl ?_
  refine V.bipush (v := (24 : Int32)) dX4_init_50 (by decide) ?_
  obtain ⟨h12, e12, hf⟩ := bS hf
  refine V.xmkI dX4_init_52 rfl rfl aw_int (by decide) e12 ?_
  obtain ⟨h13, e13, hf⟩ := bS hf
  refine V.xpF dX4_init_54 fl_RX4_31 (fun _ => rfl) (fun _ => rfl) (fun _ => rfl) e13 ?_
  refine V.aload_n dX4_init_57 rfl 0 rfl ?_
  refine V.iconst (v := (-1 : Int32)) dX4_init_58 (by decide) ?_
  obtain ⟨h14, e14, hf⟩ := bS hf
  refine V.xpF dX4_init_59 fl_RX4_34 (fun h9 => nomatch h9) (fun _ => rfl) (fun _ => rfl) e14 ?_
  refine V.aload_n dX4_init_62 rfl 0 rfl ?_
  refine V.iconst (v := (0 : Int32)) dX4_init_63 (by decide) ?_
  obtain ⟨h15, e15, hf⟩ := bS hf
  refine V.xpF dX4_init_64 fl_RX4_38 (fun h9 => nomatch h9) (fun _ => rfl) (fun _ => rfl) e15 ?_
  obtain rfl := Option.some.inj hf
  exact V.vret dX4_init_67

def f_X0_watch_33 (k7 : xH → Nat → Int32 → Option (xH)) (h : xH) (l0 : Nat) (l1 : Int32) : Option (xH) := (gR h l0 0 3).bind fun v1 => (gI h l0 0 4).bind fun v2 => (stI h .int v1 v2 l1).bind fun h3 => (gI h3 l0 0 4).bind fun v4 => (pF h3 l0 0 4 (.int (v4 + (1 : Int32)))).bind fun h5 => k7 h5 l0 (l1 + 1)
def f_X0_watch_7 : Nat → xH → Nat → Int32 → Option (xH)
  | 0, _, _, _ => none
  | n + 1, h, l0, l1 => (if (16 : Int32) ≤ l1 then (some (h)) else ((gR h l0 0 0).bind fun v2 => (ldI h .int v2 l1).bind fun v3 => (if 0 < v3 then (f_X0_watch_33 (f_X0_watch_7 n) h l0 l1) else ((gR h l0 0 1).bind fun v5 => (ldI h .int v5 l1).bind fun v6 => (if (99999 : Int32) ≤ v6 then (f_X0_watch_7 n h l0 (l1 + 1)) else (f_X0_watch_33 (f_X0_watch_7 n) h l0 l1))))))
def f_X0_watch (h : xH) (l0 : Nat) : Option (xH) := (pF h l0 0 4 (.int (0 : Int32))).bind fun h1 => f_X0_watch_7 xFU h1 l0 (0 : Int32)
set_option maxRecDepth 20000 in
theorem w_X0_watch_33 (h : xH) {k7 : xH → Nat → Int32 → Option (xH)} (hk7 : ∀ (h : xH) (l0 : Nat) (l1 : Int32) (r : xH), k7 h l0 l1 = some r → V 3 yX0_watch cX0_watch 2 none [] none 7 [(0, .ref l0), (1, .int l1)] [] h (oVh r)) (l0 : Nat) (l1 : Int32) (r : xH) (hf : f_X0_watch_33 k7 h l0 l1 = some r) : V 3 yX0_watch cX0_watch 2 none [] none 33 [(0, .ref l0), (1, .int l1)] [] h (oVh r) := by
  unfold f_X0_watch_33 at hf
  refine V.aload_n dX0_watch_33 rfl 0 rfl ?_
  obtain ⟨v1, e1, hf⟩ := bS hf
  refine V.xgR dX0_watch_34 fl_RX0_21 e1 ?_
  refine V.aload_n dX0_watch_37 rfl 0 rfl ?_
  obtain ⟨v2, e2, hf⟩ := bS hf
  refine V.xgI dX0_watch_38 fl_RX0_24 e2 ?_
  refine V.iload_n dX0_watch_41 rfl 1 rfl ?_
  obtain ⟨h3, e3, hf⟩ := bS hf
  refine V.xstI dX0_watch_42 e3 ?_
  refine V.aload_n dX0_watch_43 rfl 0 rfl ?_
  refine V.dup dX0_watch_44 rfl ?_
  obtain ⟨v4, e4, hf⟩ := bS hf
  refine V.xgI dX0_watch_45 fl_RX0_24 e4 ?_
  refine V.iconst (v := (1 : Int32)) dX0_watch_48 (by decide) ?_
  refine V.iadd dX0_watch_49 ?_
  obtain ⟨h5, e5, hf⟩ := bS hf
  refine V.xpF dX0_watch_50 fl_RX0_24 (fun h9 => nomatch h9) (fun _ => rfl) (fun _ => rfl) e5 ?_
  refine V.iinc (v := (l1 + 1)) (lv' := [(1, .int (l1 + 1)), (0, .ref l0)]) dX0_watch_53 1 rfl rfl (Nat.le_of_ble_eq_true rfl) rfl ?_
  refine V.goto (tgt := 7) dX0_watch_56 (by decide) ?_
  refine V.sub [1, 0] rfl ?_
  exact hk7 _ _ _ _ hf

set_option maxRecDepth 20000 in
theorem w_X0_watch_7 : ∀ (n : Nat) (h : xH) (l0 : Nat) (l1 : Int32) (r : xH), f_X0_watch_7 n h l0 l1 = some r → V 3 yX0_watch cX0_watch 2 none [] none 7 [(0, .ref l0), (1, .int l1)] [] h (oVh r) := by
  intro n
  induction n with
  | zero => intro h l0 l1 r hf; cases hf
  | succ n ih =>
    intro h l0 l1 r hf
    rw [f_X0_watch_7] at hf
    refine V.iload_n dX0_watch_7 rfl 1 rfl ?_
    refine V.bipush (v := (16 : Int32)) dX0_watch_8 (by decide) ?_
    refine V.icmp_ge (tgt := 59) dX0_watch_10 (by decide) (fun c1 => ?_) (fun c1 => ?_)
    · rw [if_pos c1] at hf
      obtain rfl := Option.some.inj hf
      exact V.vret dX0_watch_59
    · rw [if_neg c1] at hf
      refine V.aload_n dX0_watch_13 rfl 0 rfl ?_
      obtain ⟨v2, e6, hf⟩ := bS hf
      refine V.xgR dX0_watch_14 fl_RX0_9 e6 ?_
      refine V.iload_n dX0_watch_17 rfl 1 rfl ?_
      obtain ⟨v3, e7, hf⟩ := bS hf
      refine V.xldI dX0_watch_18 e7 ?_
      refine V.if_gt (tgt := 33) dX0_watch_19 (by decide) (fun c4 => ?_) (fun c4 => ?_)
      · rw [if_pos c4] at hf
        exact w_X0_watch_33 _ ih _ _ _ hf
      · rw [if_neg c4] at hf
        refine V.aload_n dX0_watch_22 rfl 0 rfl ?_
        obtain ⟨v5, e8, hf⟩ := bS hf
        refine V.xgR dX0_watch_23 fl_RX0_15 e8 ?_
        refine V.iload_n dX0_watch_26 rfl 1 rfl ?_
        obtain ⟨v6, e9, hf⟩ := bS hf
        refine V.xldI dX0_watch_27 e9 ?_
        refine V.ldc (v := 99999) dX0_watch_28 co_RX0_34 ?_
        refine V.icmp_ge (tgt := 53) dX0_watch_30 (by decide) (fun c7 => ?_) (fun c7 => ?_)
        · rw [if_pos c7] at hf
          refine V.iinc (v := (l1 + 1)) (lv' := [(1, .int (l1 + 1)), (0, .ref l0)]) dX0_watch_53 1 rfl rfl (Nat.le_of_ble_eq_true rfl) rfl ?_
          refine V.goto (tgt := 7) dX0_watch_56 (by decide) ?_
          refine V.sub [1, 0] rfl ?_
          exact ih _ _ _ _ hf
        · rw [if_neg c7] at hf
          exact w_X0_watch_33 _ ih _ _ _ hf

set_option maxRecDepth 20000 in
theorem w_X0_watch (h : xH) (l0 : Nat) (r : xH) (hf : f_X0_watch h l0 = some r) : Ev 3 yX0_watch cX0_watch 2 none [] [.ref l0] h (oVh r) := by
  refine Ev.of (by decide +kernel) (Nat.le_of_ble_eq_true rfl) ?_
  unfold f_X0_watch at hf
  refine V.aload_n dX0_watch_0 rfl 0 rfl ?_
  refine V.iconst (v := (0 : Int32)) dX0_watch_1 (by decide) ?_
  obtain ⟨h1, e10, hf⟩ := bS hf
  refine V.xpF dX0_watch_2 fl_RX0_24 (fun h9 => nomatch h9) (fun _ => rfl) (fun _ => rfl) e10 ?_
  refine V.iconst (v := (0 : Int32)) dX0_watch_5 (by decide) ?_
  refine V.istore_n (lv' := [(1, .int (0 : Int32)), (0, .ref l0)]) dX0_watch_6 rfl (by decide) rfl ?_
  refine V.sub [1, 0] rfl ?_
  exact w_X0_watch_7 _ _ _ _ _ hf

def f_X0_begin_30 : Nat → xH → Nat → Nat → Int32 → Int32 → Int32 → Option (Int32 × xH)
  | 0, _, _, _, _, _, _ => none
  | n + 1, h, l0, l1, l2, l3, l4 => (gI h l1 3 5).bind fun v1 => (if v1 ≤ l4 then ((gO h l0 0).bind fun q3 => (f_X0_watch h l0).bind fun r4 => (if narrow .boolean (.int l3) = .int l3 then some (l3, r4) else none)) else ((gO h l1 3).bind fun q6 => (f_X3_wantedAt h l1 l4 l2).bind fun r7 => (if r7 = 0 then (f_X0_begin_30 n h l0 l1 l2 l3 (l4 + 1)) else ((gR h l1 3 9).bind fun v9 => (ldI h .int v9 (l4 * (5 : Int32))).bind fun v10 => (gR h l0 0 0).bind fun v11 => (gR h l0 0 0).bind fun v12 => (ldI h .int v12 v10).bind fun v13 => (gR h l1 3 9).bind fun v14 => (ldI h .int v14 ((l4 * (5 : Int32)) + (1 : Int32))).bind fun v15 => (stI h .int v11 v10 (if v13 < v15 then v15 else v13)).bind fun h16 => (gR h16 l0 0 1).bind fun v17 => (gR h16 l0 0 1).bind fun v18 => (ldI h16 .int v18 v10).bind fun v19 => (gR h16 l1 3 9).bind fun v20 => (ldI h16 .int v20 ((l4 * (5 : Int32)) + (2 : Int32))).bind fun v21 => (stI h16 .int v17 v10 (if v21 < v19 then v21 else v19)).bind fun h22 => (if l3 = 0 then (f_X0_begin_30 n h22 l0 l1 l2 (0 : Int32) (l4 + 1)) else ((gR h22 l0 0 0).bind fun v24 => (ldI h22 .int v24 v10).bind fun v25 => (gR h22 l0 0 1).bind fun v26 => (ldI h22 .int v26 v10).bind fun v27 => (if v27 < v25 then (f_X0_begin_30 n h22 l0 l1 l2 (0 : Int32) (l4 + 1)) else (f_X0_begin_30 n h22 l0 l1 l2 (1 : Int32) (l4 + 1)))))))))
def f_X0_begin (h : xH) (l0 : Nat) (l1 : Nat) (l2 : Int32) : Option (Int32 × xH) := (gR h l0 0 0).bind fun v1 => (f_J7_fill_53178 h v1 (0 : Int32)).bind fun r2 => (gR r2 l0 0 1).bind fun v3 => (f_J7_fill_53178 r2 v3 (99999 : Int32)).bind fun r4 => (gR r4 l0 0 2).bind fun v5 => (f_J7_fill_53178 r4 v5 (0 : Int32)).bind fun r6 => f_X0_begin_30 xFU r6 l0 l1 l2 (1 : Int32) (0 : Int32)
set_option maxRecDepth 20000 in
theorem w_X0_begin_30 : ∀ (n : Nat) (h : xH) (l0 : Nat) (l1 : Nat) (l2 : Int32) (l3 : Int32) (l4 : Int32) (r : Int32 × xH), f_X0_begin_30 n h l0 l1 l2 l3 l4 = some r → V 4 yX0_begin cX0_begin 6 (some .boolean) [] none 30 [(0, .ref l0), (1, .ref l1), (2, .int l2), (3, .int l3), (4, .int l4)] [] h (oIh r) := by
  intro n
  induction n with
  | zero => intro h l0 l1 l2 l3 l4 r hf; cases hf
  | succ n ih =>
    intro h l0 l1 l2 l3 l4 r hf
    rw [f_X0_begin_30] at hf
    refine V.iload dX0_begin_30 4 rfl ?_
    refine V.aload_n dX0_begin_32 rfl 1 rfl ?_
    obtain ⟨v1, e1, hf⟩ := bS hf
    refine V.xgI dX0_begin_33 fl_RX0_35 e1 ?_
    refine V.icmp_ge (tgt := 149) dX0_begin_36 (by decide) (fun c2 => ?_) (fun c2 => ?_)
    · rw [if_pos c2] at hf
      refine V.aload_n dX0_begin_149 rfl 0 rfl ?_
      obtain ⟨q3, e2, hf⟩ := bS hf
      obtain ⟨r4, e3, hf⟩ := bS hf
      refine V.callV (As := []) (st := []) dX0_begin_150 cl_RX0_56 sw_yX0_watch (by decide) rfl (Nat.le_of_ble_eq_true rfl) rfl (gO_some e2) rfl (w_X0_watch _ _ _ e3) ?_
      refine V.iload_n dX0_begin_153 rfl 3 rfl ?_
      by_cases c5 : narrow .boolean (.int l3) = .int l3
      · rw [if_pos c5] at hf
        obtain rfl := Option.some.inj hf
        exact V.zret dX0_begin_154 c5
      · rw [if_neg c5] at hf
        cases hf
    · rw [if_neg c2] at hf
      refine V.aload_n dX0_begin_39 rfl 1 rfl ?_
      refine V.iload dX0_begin_40 4 rfl ?_
      refine V.iload_n dX0_begin_42 rfl 2 rfl ?_
      obtain ⟨q6, e4, hf⟩ := bS hf
      obtain ⟨r7, e5, hf⟩ := bS hf
      refine V.callV (As := [.int l4, .int l2]) (st := []) dX0_begin_43 cl_RX0_40 sw_yX3_wantedAt (by decide) rfl (Nat.le_of_ble_eq_true rfl) rfl (gO_some e4) rfl (w_X3_wantedAt _ _ _ _ _ e5) ?_
      refine V.if_eq (tgt := 143) dX0_begin_46 (by decide) (fun c8 => ?_) (fun c8 => ?_)
      · rw [if_pos c8] at hf
        refine V.iinc (v := (l4 + 1)) (lv' := [(4, .int (l4 + 1)), (0, .ref l0), (1, .ref l1), (2, .int l2), (3, .int l3)]) dX0_begin_143 4 rfl rfl (Nat.le_of_ble_eq_true rfl) rfl ?_
        refine V.goto (tgt := 30) dX0_begin_146 (by decide) ?_
        refine V.sub [1, 2, 3, 4, 0] rfl ?_
        exact ih _ _ _ _ _ _ _ hf
      · rw [if_neg c8] at hf
        refine V.aload_n dX0_begin_49 rfl 1 rfl ?_
        obtain ⟨v9, e6, hf⟩ := bS hf
        refine V.rgR dX0_begin_50 fl_RX0_44 e6 ?_
        refine V.iload dX0_begin_53 4 rfl ?_
        refine V.iconst (v := (5 : Int32)) dX0_begin_55 (by decide) ?_
        refine V.imul dX0_begin_56 ?_
        obtain ⟨v10, e7, hf⟩ := bS hf
        refine V.xldI dX0_begin_57 e7 ?_
        refine V.istore (lv' := [(5, .int v10), (0, .ref l0), (1, .ref l1), (2, .int l2), (3, .int l3), (4, .int l4)]) dX0_begin_58 (by decide) rfl ?_
        refine V.aload_n dX0_begin_60 rfl 1 rfl ?_
        obtain ⟨v11, e8, hf⟩ := bS hf
        refine V.xgR dX0_begin_61 fl_RX0_9 e8 ?_
        refine V.iload dX0_begin_64 0 rfl ?_
        refine V.aload_n dX0_begin_66 rfl 1 rfl ?_
        obtain ⟨v12, e9, hf⟩ := bS hf
        refine V.xgR dX0_begin_67 fl_RX0_9 e9 ?_
        refine V.iload dX0_begin_70 0 rfl ?_
        obtain ⟨v13, e10, hf⟩ := bS hf
        refine V.xldI dX0_begin_72 e10 ?_
        refine V.aload_n dX0_begin_73 rfl 2 rfl ?_
        obtain ⟨v14, e11, hf⟩ := bS hf
        refine V.rgR dX0_begin_74 fl_RX0_44 e11 ?_
        refine V.iload dX0_begin_77 5 rfl ?_
        refine V.iconst (v := (5 : Int32)) dX0_begin_79 (by decide) ?_
        refine V.imul dX0_begin_80 ?_
        refine V.iconst (v := (1 : Int32)) dX0_begin_81 (by decide) ?_
        refine V.iadd dX0_begin_82 ?_
        obtain ⟨v15, e12, hf⟩ := bS hf
        refine V.xldI dX0_begin_83 e12 ?_
        refine V.mmax dX0_begin_84 ml_RX0_47 ms_max mi_ mc_max (Nat.le_of_ble_eq_true rfl) ?_
        obtain ⟨h16, e13, hf⟩ := bS hf
        refine V.xstI dX0_begin_87 e13 ?_
        refine V.aload_n dX0_begin_88 rfl 1 rfl ?_
        obtain ⟨v17, e14, hf⟩ := bS hf
        refine V.xgR dX0_begin_89 fl_RX0_15 e14 ?_
        refine V.iload dX0_begin_92 0 rfl ?_
        refine V.aload_n dX0_begin_94 rfl 1 rfl ?_
        obtain ⟨v18, e15, hf⟩ := bS hf
        refine V.xgR dX0_begin_95 fl_RX0_15 e15 ?_
        refine V.iload dX0_begin_98 0 rfl ?_
        obtain ⟨v19, e16, hf⟩ := bS hf
        refine V.xldI dX0_begin_100 e16 ?_
        refine V.aload_n dX0_begin_101 rfl 2 rfl ?_
        obtain ⟨v20, e17, hf⟩ := bS hf
        refine V.rgR dX0_begin_102 fl_RX0_44 e17 ?_
        refine V.iload dX0_begin_105 5 rfl ?_
        refine V.iconst (v := (5 : Int32)) dX0_begin_107 (by decide) ?_
        refine V.imul dX0_begin_108 ?_
        refine V.iconst (v := (2 : Int32)) dX0_begin_109 (by decide) ?_
        refine V.iadd dX0_begin_110 ?_
        obtain ⟨v21, e18, hf⟩ := bS hf
        refine V.xldI dX0_begin_111 e18 ?_
        refine V.mmin dX0_begin_112 ml_RX0_53 ms_min mi_ mc_min (Nat.le_of_ble_eq_true rfl) ?_
        obtain ⟨h22, e19, hf⟩ := bS hf
        refine V.xstI dX0_begin_115 e19 ?_
        refine V.iload_n dX0_begin_116 rfl 4 rfl ?_
        refine V.if_eq (tgt := 141) dX0_begin_117 (by decide) (fun c23 => ?_) (fun c23 => ?_)
        · rw [if_pos c23] at hf
          refine V.iconst (v := (0 : Int32)) dX0_begin_141 (by decide) ?_
          refine V.istore_n (lv' := [(3, .int (0 : Int32)), (5, .int v10), (0, .ref l0), (1, .ref l1), (2, .int l2), (4, .int l4)]) dX0_begin_142 rfl (by decide) rfl ?_
          refine V.iinc (v := (l4 + 1)) (lv' := [(4, .int (l4 + 1)), (3, .int (0 : Int32)), (5, .int v10), (0, .ref l0), (1, .ref l1), (2, .int l2)]) dX0_begin_143 5 rfl rfl (Nat.le_of_ble_eq_true rfl) rfl ?_
          refine V.goto (tgt := 30) dX0_begin_146 (by decide) ?_
          refine V.sub [3, 4, 5, 1, 0] rfl ?_
          exact ih _ _ _ _ _ _ _ hf
        · rw [if_neg c23] at hf
          refine V.aload_n dX0_begin_120 rfl 1 rfl ?_
          obtain ⟨v24, e20, hf⟩ := bS hf
          refine V.xgR dX0_begin_121 fl_RX0_9 e20 ?_
          refine V.iload dX0_begin_124 0 rfl ?_
          obtain ⟨v25, e21, hf⟩ := bS hf
          refine V.xldI dX0_begin_126 e21 ?_
          refine V.aload_n dX0_begin_127 rfl 1 rfl ?_
          obtain ⟨v26, e22, hf⟩ := bS hf
          refine V.xgR dX0_begin_128 fl_RX0_15 e22 ?_
          refine V.iload dX0_begin_131 0 rfl ?_
          obtain ⟨v27, e23, hf⟩ := bS hf
          refine V.xldI dX0_begin_133 e23 ?_
          refine V.icmp_gt (tgt := 141) dX0_begin_134 (by decide) (fun c28 => ?_) (fun c28 => ?_)
          · rw [if_pos c28] at hf
            refine V.iconst (v := (0 : Int32)) dX0_begin_141 (by decide) ?_
            refine V.istore_n (lv' := [(3, .int (0 : Int32)), (5, .int v10), (0, .ref l0), (1, .ref l1), (2, .int l2), (4, .int l4)]) dX0_begin_142 rfl (by decide) rfl ?_
            refine V.iinc (v := (l4 + 1)) (lv' := [(4, .int (l4 + 1)), (3, .int (0 : Int32)), (5, .int v10), (0, .ref l0), (1, .ref l1), (2, .int l2)]) dX0_begin_143 5 rfl rfl (Nat.le_of_ble_eq_true rfl) rfl ?_
            refine V.goto (tgt := 30) dX0_begin_146 (by decide) ?_
            refine V.sub [3, 4, 5, 1, 0] rfl ?_
            exact ih _ _ _ _ _ _ _ hf
          · rw [if_neg c28] at hf
            refine V.iconst (v := (1 : Int32)) dX0_begin_137 (by decide) ?_
            refine V.goto (tgt := 142) dX0_begin_138 (by decide) ?_
            refine V.istore_n (lv' := [(3, .int (1 : Int32)), (5, .int v10), (0, .ref l0), (1, .ref l1), (2, .int l2), (4, .int l4)]) dX0_begin_142 rfl (by decide) rfl ?_
            refine V.iinc (v := (l4 + 1)) (lv' := [(4, .int (l4 + 1)), (3, .int (1 : Int32)), (5, .int v10), (0, .ref l0), (1, .ref l1), (2, .int l2)]) dX0_begin_143 5 rfl rfl (Nat.le_of_ble_eq_true rfl) rfl ?_
            refine V.goto (tgt := 30) dX0_begin_146 (by decide) ?_
            refine V.sub [3, 4, 5, 1, 0] rfl ?_
            exact ih _ _ _ _ _ _ _ hf

set_option maxRecDepth 20000 in
theorem w_X0_begin (h : xH) (l0 : Nat) (l1 : Nat) (l2 : Int32) (r : Int32 × xH) (hf : f_X0_begin h l0 l1 l2 = some r) : Ev 4 yX0_begin cX0_begin 6 (some .boolean) [] [.ref l0, .ref l1, .int l2] h (oIh r) := by
  refine Ev.of (by decide +kernel) (Nat.le_of_ble_eq_true rfl) ?_
  unfold f_X0_begin at hf
  refine V.aload_n dX0_begin_0 rfl 0 rfl ?_
  obtain ⟨v1, e24, hf⟩ := bS hf
  refine V.xgR dX0_begin_1 fl_RX0_9 e24 ?_
  refine V.iconst (v := (0 : Int32)) dX0_begin_4 (by decide) ?_
  obtain ⟨r2, e25, hf⟩ := bS hf
  refine V.callS (As := [.ref v1, .int (0 : Int32)]) (st := []) dX0_begin_5 cl_RX0_28 sw_yJ7_fill_53178 (by decide) rfl (Nat.le_of_ble_eq_true rfl) rfl (w_J7_fill_53178 _ _ _ _ e25) ?_
  refine V.aload_n dX0_begin_8 rfl 0 rfl ?_
  obtain ⟨v3, e26, hf⟩ := bS hf
  refine V.xgR dX0_begin_9 fl_RX0_15 e26 ?_
  refine V.ldc (v := 99999) dX0_begin_12 co_RX0_34 ?_
  obtain ⟨r4, e27, hf⟩ := bS hf
  refine V.callS (As := [.ref v3, .int (99999 : Int32)]) (st := []) dX0_begin_14 cl_RX0_28 sw_yJ7_fill_53178 (by decide) rfl (Nat.le_of_ble_eq_true rfl) rfl (w_J7_fill_53178 _ _ _ _ e27) ?_
  refine V.aload_n dX0_begin_17 rfl 0 rfl ?_
  obtain ⟨v5, e28, hf⟩ := bS hf
  refine V.xgR dX0_begin_18 fl_RX0_18 e28 ?_
  refine V.iconst (v := (0 : Int32)) dX0_begin_21 (by decide) ?_
  obtain ⟨r6, e29, hf⟩ := bS hf
  refine V.callS (As := [.ref v5, .int (0 : Int32)]) (st := []) dX0_begin_22 cl_RX0_28 sw_yJ7_fill_53178 (by decide) rfl (Nat.le_of_ble_eq_true rfl) rfl (w_J7_fill_53178 _ _ _ _ e29) ?_
  refine V.iconst (v := (1 : Int32)) dX0_begin_25 (by decide) ?_
  refine V.istore_n (lv' := [(3, .int (1 : Int32)), (0, .ref l0), (1, .ref l1), (2, .int l2)]) dX0_begin_26 rfl (by decide) rfl ?_
  refine V.iconst (v := (0 : Int32)) dX0_begin_27 (by decide) ?_
  refine V.istore (lv' := [(4, .int (0 : Int32)), (3, .int (1 : Int32)), (0, .ref l0), (1, .ref l1), (2, .int l2)]) dX0_begin_28 (by decide) rfl ?_
  refine V.sub [2, 3, 4, 1, 0] rfl ?_
  exact w_X0_begin_30 _ _ _ _ _ _ _ _ hf

def f_X0_enoughWith_3 (h : xH) : Nat → Nat → Nat → Int32 → Int32 → Int32 → Option (Int32)
  | 0, _, _, _, _, _ => none
  | n + 1, l0, l1, l2, l3, l4 => (gI h l0 0 4).bind fun v1 => (if v1 ≤ l4 then (some ((1 : Int32))) else ((gR h l0 0 3).bind fun v3 => (ldI h .int v3 l4).bind fun v4 => (if ((l3 >>> (v4 &&& 31)) &&& (1 : Int32)) = 0 then (f_X0_enoughWith_3 h n l0 l1 l2 l3 (l4 + 1)) else ((gR h l0 0 2).bind fun v6 => (ldI h .int v6 v4).bind fun v7 => (ldI h .int l1 (l2 + v4)).bind fun v8 => (gR h l0 0 0).bind fun v9 => (ldI h .int v9 v4).bind fun v10 => (if v10 ≤ (v7 + v8) then (f_X0_enoughWith_3 h n l0 l1 l2 l3 (l4 + 1)) else (some ((0 : Int32))))))))
def f_X0_enoughWith (h : xH) (l0 : Nat) (l1 : Nat) (l2 : Int32) (l3 : Int32) : Option (Int32) := f_X0_enoughWith_3 h xFU l0 l1 l2 l3 (0 : Int32)
set_option maxRecDepth 20000 in
theorem w_X0_enoughWith_3 (h : xH) : ∀ (n : Nat) (l0 : Nat) (l1 : Nat) (l2 : Int32) (l3 : Int32) (l4 : Int32) (r : Int32), f_X0_enoughWith_3 h n l0 l1 l2 l3 l4 = some r → V 3 yX0_enoughWith cX0_enoughWith 6 (some .boolean) [] none 3 [(0, .ref l0), (1, .ref l1), (2, .int l2), (3, .int l3), (4, .int l4)] [] h (oI h r) := by
  intro n
  induction n with
  | zero => intro l0 l1 l2 l3 l4 r hf; cases hf
  | succ n ih =>
    intro l0 l1 l2 l3 l4 r hf
    rw [f_X0_enoughWith_3] at hf
    refine V.iload dX0_enoughWith_3 4 rfl ?_
    refine V.aload_n dX0_enoughWith_5 rfl 0 rfl ?_
    obtain ⟨v1, e1, hf⟩ := bS hf
    refine V.xgI dX0_enoughWith_6 fl_RX0_24 e1 ?_
    refine V.icmp_ge (tgt := 62) dX0_enoughWith_9 (by decide) (fun c2 => ?_) (fun c2 => ?_)
    · rw [if_pos c2] at hf
      refine V.iconst (v := (1 : Int32)) dX0_enoughWith_62 (by decide) ?_
      obtain rfl := Option.some.inj hf
      exact V.zret dX0_enoughWith_63 (by first | rfl | assumption)
    · rw [if_neg c2] at hf
      refine V.aload_n dX0_enoughWith_12 rfl 0 rfl ?_
      obtain ⟨v3, e2, hf⟩ := bS hf
      refine V.xgR dX0_enoughWith_13 fl_RX0_21 e2 ?_
      refine V.iload dX0_enoughWith_16 4 rfl ?_
      obtain ⟨v4, e3, hf⟩ := bS hf
      refine V.xldI dX0_enoughWith_18 e3 ?_
      refine V.istore (lv' := [(5, .int v4), (0, .ref l0), (1, .ref l1), (2, .int l2), (3, .int l3), (4, .int l4)]) dX0_enoughWith_19 (by decide) rfl ?_
      refine V.iload_n dX0_enoughWith_21 rfl 4 rfl ?_
      refine V.iload dX0_enoughWith_22 0 rfl ?_
      refine V.ishr dX0_enoughWith_24 ?_
      refine V.iconst (v := (1 : Int32)) dX0_enoughWith_25 (by decide) ?_
      refine V.iand dX0_enoughWith_26 ?_
      refine V.if_eq (tgt := 56) dX0_enoughWith_27 (by decide) (fun c5 => ?_) (fun c5 => ?_)
      · rw [if_pos c5] at hf
        refine V.iinc (v := (l4 + 1)) (lv' := [(4, .int (l4 + 1)), (5, .int v4), (0, .ref l0), (1, .ref l1), (2, .int l2), (3, .int l3)]) dX0_enoughWith_56 5 rfl rfl (Nat.le_of_ble_eq_true rfl) rfl ?_
        refine V.goto (tgt := 3) dX0_enoughWith_59 (by decide) ?_
        refine V.sub [2, 3, 4, 5, 0] rfl ?_
        exact ih _ _ _ _ _ _ hf
      · rw [if_neg c5] at hf
        refine V.aload_n dX0_enoughWith_30 rfl 1 rfl ?_
        obtain ⟨v6, e4, hf⟩ := bS hf
        refine V.xgR dX0_enoughWith_31 fl_RX0_18 e4 ?_
        refine V.iload dX0_enoughWith_34 0 rfl ?_
        obtain ⟨v7, e5, hf⟩ := bS hf
        refine V.xldI dX0_enoughWith_36 e5 ?_
        refine V.aload_n dX0_enoughWith_37 rfl 2 rfl ?_
        refine V.iload_n dX0_enoughWith_38 rfl 3 rfl ?_
        refine V.iload dX0_enoughWith_39 0 rfl ?_
        refine V.iadd dX0_enoughWith_41 ?_
        obtain ⟨v8, e6, hf⟩ := bS hf
        refine V.xldI dX0_enoughWith_42 e6 ?_
        refine V.iadd dX0_enoughWith_43 ?_
        refine V.aload_n dX0_enoughWith_44 rfl 1 rfl ?_
        obtain ⟨v9, e7, hf⟩ := bS hf
        refine V.xgR dX0_enoughWith_45 fl_RX0_9 e7 ?_
        refine V.iload dX0_enoughWith_48 0 rfl ?_
        obtain ⟨v10, e8, hf⟩ := bS hf
        refine V.xldI dX0_enoughWith_50 e8 ?_
        refine V.icmp_ge (tgt := 56) dX0_enoughWith_51 (by decide) (fun c11 => ?_) (fun c11 => ?_)
        · rw [if_pos c11] at hf
          refine V.iinc (v := (l4 + 1)) (lv' := [(4, .int (l4 + 1)), (5, .int v4), (0, .ref l0), (1, .ref l1), (2, .int l2), (3, .int l3)]) dX0_enoughWith_56 5 rfl rfl (Nat.le_of_ble_eq_true rfl) rfl ?_
          refine V.goto (tgt := 3) dX0_enoughWith_59 (by decide) ?_
          refine V.sub [2, 3, 4, 5, 0] rfl ?_
          exact ih _ _ _ _ _ _ hf
        · rw [if_neg c11] at hf
          refine V.iconst (v := (0 : Int32)) dX0_enoughWith_54 (by decide) ?_
          obtain rfl := Option.some.inj hf
          exact V.zret dX0_enoughWith_55 (by first | rfl | assumption)

set_option maxRecDepth 20000 in
theorem w_X0_enoughWith (h : xH) (l0 : Nat) (l1 : Nat) (l2 : Int32) (l3 : Int32) (r : Int32) (hf : f_X0_enoughWith h l0 l1 l2 l3 = some r) : Ev 3 yX0_enoughWith cX0_enoughWith 6 (some .boolean) [] [.ref l0, .ref l1, .int l2, .int l3] h (oI h r) := by
  refine Ev.of (by decide +kernel) (Nat.le_of_ble_eq_true rfl) ?_
  unfold f_X0_enoughWith at hf
  refine V.iconst (v := (0 : Int32)) dX0_enoughWith_0 (by decide) ?_
  refine V.istore (lv' := [(4, .int (0 : Int32)), (0, .ref l0), (1, .ref l1), (2, .int l2), (3, .int l3)]) dX0_enoughWith_1 (by decide) rfl ?_
  refine V.sub [1, 2, 3, 4, 0] rfl ?_
  exact w_X0_enoughWith_3 h _ _ _ _ _ _ _ hf

def f_X0_lacking_4 (h : xH) : Nat → Nat → Int32 → Int32 → Option (Int32)
  | 0, _, _, _ => none
  | n + 1, l0, l1, l2 => (gI h l0 0 4).bind fun v1 => (if v1 ≤ l2 then (some (l1)) else ((gR h l0 0 3).bind fun v3 => (ldI h .int v3 l2).bind fun v4 => (gR h l0 0 2).bind fun v5 => (ldI h .int v5 v4).bind fun v6 => (gR h l0 0 0).bind fun v7 => (ldI h .int v7 v4).bind fun v8 => (if v8 ≤ v6 then (f_X0_lacking_4 h n l0 l1 (l2 + 1)) else (f_X0_lacking_4 h n l0 (l1 ||| ((1 : Int32) <<< (v4 &&& 31))) (l2 + 1)))))
def f_X0_lacking (h : xH) (l0 : Nat) : Option (Int32) := f_X0_lacking_4 h xFU l0 (0 : Int32) (0 : Int32)
set_option maxRecDepth 20000 in
theorem w_X0_lacking_4 (h : xH) : ∀ (n : Nat) (l0 : Nat) (l1 : Int32) (l2 : Int32) (r : Int32), f_X0_lacking_4 h n l0 l1 l2 = some r → V 3 yX0_lacking cX0_lacking 4 (some .int) [] none 4 [(0, .ref l0), (1, .int l1), (2, .int l2)] [] h (oI h r) := by
  intro n
  induction n with
  | zero => intro l0 l1 l2 r hf; cases hf
  | succ n ih =>
    intro l0 l1 l2 r hf
    rw [f_X0_lacking_4] at hf
    refine V.iload_n dX0_lacking_4 rfl 2 rfl ?_
    refine V.aload_n dX0_lacking_5 rfl 0 rfl ?_
    obtain ⟨v1, e1, hf⟩ := bS hf
    refine V.xgI dX0_lacking_6 fl_RX0_24 e1 ?_
    refine V.icmp_ge (tgt := 46) dX0_lacking_9 (by decide) (fun c2 => ?_) (fun c2 => ?_)
    · rw [if_pos c2] at hf
      refine V.iload_n dX0_lacking_46 rfl 1 rfl ?_
      obtain rfl := Option.some.inj hf
      exact V.iret dX0_lacking_47
    · rw [if_neg c2] at hf
      refine V.aload_n dX0_lacking_12 rfl 0 rfl ?_
      obtain ⟨v3, e2, hf⟩ := bS hf
      refine V.xgR dX0_lacking_13 fl_RX0_21 e2 ?_
      refine V.iload_n dX0_lacking_16 rfl 2 rfl ?_
      obtain ⟨v4, e3, hf⟩ := bS hf
      refine V.xldI dX0_lacking_17 e3 ?_
      refine V.istore_n (lv' := [(3, .int v4), (0, .ref l0), (1, .int l1), (2, .int l2)]) dX0_lacking_18 rfl (by decide) rfl ?_
      refine V.aload_n dX0_lacking_19 rfl 1 rfl ?_
      obtain ⟨v5, e4, hf⟩ := bS hf
      refine V.xgR dX0_lacking_20 fl_RX0_18 e4 ?_
      refine V.iload_n dX0_lacking_23 rfl 0 rfl ?_
      obtain ⟨v6, e5, hf⟩ := bS hf
      refine V.xldI dX0_lacking_24 e5 ?_
      refine V.aload_n dX0_lacking_25 rfl 1 rfl ?_
      obtain ⟨v7, e6, hf⟩ := bS hf
      refine V.xgR dX0_lacking_26 fl_RX0_9 e6 ?_
      refine V.iload_n dX0_lacking_29 rfl 0 rfl ?_
      obtain ⟨v8, e7, hf⟩ := bS hf
      refine V.xldI dX0_lacking_30 e7 ?_
      refine V.icmp_ge (tgt := 40) dX0_lacking_31 (by decide) (fun c9 => ?_) (fun c9 => ?_)
      · rw [if_pos c9] at hf
        refine V.iinc (v := (l2 + 1)) (lv' := [(2, .int (l2 + 1)), (3, .int v4), (0, .ref l0), (1, .int l1)]) dX0_lacking_40 3 rfl rfl (Nat.le_of_ble_eq_true rfl) rfl ?_
        refine V.goto (tgt := 4) dX0_lacking_43 (by decide) ?_
        refine V.sub [2, 3, 0] rfl ?_
        exact ih _ _ _ _ hf
      · rw [if_neg c9] at hf
        refine V.iload_n dX0_lacking_34 rfl 2 rfl ?_
        refine V.iconst (v := (1 : Int32)) dX0_lacking_35 (by decide) ?_
        refine V.iload_n dX0_lacking_36 rfl 0 rfl ?_
        refine V.ishl dX0_lacking_37 ?_
        refine V.ior dX0_lacking_38 ?_
        refine V.istore_n (lv' := [(1, .int (l1 ||| ((1 : Int32) <<< (v4 &&& 31)))), (3, .int v4), (0, .ref l0), (2, .int l2)]) dX0_lacking_39 rfl (by decide) rfl ?_
        refine V.iinc (v := (l2 + 1)) (lv' := [(2, .int (l2 + 1)), (1, .int (l1 ||| ((1 : Int32) <<< (v4 &&& 31)))), (3, .int v4), (0, .ref l0)]) dX0_lacking_40 3 rfl rfl (Nat.le_of_ble_eq_true rfl) rfl ?_
        refine V.goto (tgt := 4) dX0_lacking_43 (by decide) ?_
        refine V.sub [3, 1, 0] rfl ?_
        exact ih _ _ _ _ hf

set_option maxRecDepth 20000 in
theorem w_X0_lacking (h : xH) (l0 : Nat) (r : Int32) (hf : f_X0_lacking h l0 = some r) : Ev 3 yX0_lacking cX0_lacking 4 (some .int) [] [.ref l0] h (oI h r) := by
  refine Ev.of (by decide +kernel) (Nat.le_of_ble_eq_true rfl) ?_
  unfold f_X0_lacking at hf
  refine V.iconst (v := (0 : Int32)) dX0_lacking_0 (by decide) ?_
  refine V.istore_n (lv' := [(1, .int (0 : Int32)), (0, .ref l0)]) dX0_lacking_1 rfl (by decide) rfl ?_
  refine V.iconst (v := (0 : Int32)) dX0_lacking_2 (by decide) ?_
  refine V.istore_n (lv' := [(2, .int (0 : Int32)), (1, .int (0 : Int32)), (0, .ref l0)]) dX0_lacking_3 rfl (by decide) rfl ?_
  refine V.sub [2, 1, 0] rfl ?_
  exact w_X0_lacking_4 h _ _ _ _ _ hf

def f_X4_lay_57 (k20 : xH → Nat → Nat → Int32 → Option (xH)) : Nat → xH → Nat → Nat → Int32 → Int32 → Option (xH)
  | 0, _, _, _, _, _ => none
  | n + 1, h, l0, l1, l3, l4 => (gI h l1 3 1).bind fun v1 => (if v1 ≤ l4 then (k20 h l0 l1 (l3 + 1)) else ((gR h l0 4 2).bind fun v3 => (gR h l0 4 2).bind fun v4 => (ldI h .int v4 ((l3 * (16 : Int32)) + l4)).bind fun v5 => (gR h l0 4 1).bind fun v6 => (ldI h .int v6 ((l3 * (16 : Int32)) + l4)).bind fun v7 => (stI h .int v3 (((l3 + (1 : Int32)) * (16 : Int32)) + l4) (v5 + v7)).bind fun h8 => f_X4_lay_57 k20 n h8 l0 l1 l3 (l4 + 1)))
def f_X4_lay_20 : Nat → xH → Nat → Nat → Int32 → Option (xH)
  | 0, _, _, _, _ => none
  | n + 1, h, l0, l1, l3 => (gI h l1 3 1).bind fun v1 => (if v1 ≤ l3 then (some (h)) else ((gR h l0 4 3).bind fun v3 => (gR h l0 4 3).bind fun v4 => (ldI h .int v4 l3).bind fun v5 => (gR h l1 3 14).bind fun v6 => (ldI h .int v6 l3).bind fun v7 => (f_J6_bitCount_0f7a4 h v7).bind fun r8 => (stI h .int v3 (l3 + (1 : Int32)) (if v5 < r8 then r8 else v5)).bind fun h9 => f_X4_lay_57 (f_X4_lay_20 n) xFU h9 l0 l1 l3 (0 : Int32)))
def f_X4_lay (h : xH) (l0 : Nat) (l1 : Nat) (l2 : Int32) : Option (xH) := (gR h l0 4 1).bind fun v1 => (f_J7_fill_53178 h v1 (0 : Int32)).bind fun r2 => (gR r2 l0 4 1).bind fun v3 => (gO r2 l1 3).bind fun q4 => (f_X3_shineOf r2 l1 l2 v3 (0 : Int32)).bind fun r5 => f_X4_lay_20 xFU r5 l0 l1 (0 : Int32)
set_option maxRecDepth 20000 in
theorem w_X4_lay_57 {k20 : xH → Nat → Nat → Int32 → Option (xH)} (hk20 : ∀ (h : xH) (l0 : Nat) (l1 : Nat) (l3 : Int32) (r : xH), k20 h l0 l1 l3 = some r → V 5 yX4_lay cX4_lay 5 none [] none 20 [(0, .ref l0), (1, .ref l1), (3, .int l3)] [] h (oVh r)) : ∀ (n : Nat) (h : xH) (l0 : Nat) (l1 : Nat) (l3 : Int32) (l4 : Int32) (r : xH), f_X4_lay_57 k20 n h l0 l1 l3 l4 = some r → V 5 yX4_lay cX4_lay 5 none [] none 57 [(0, .ref l0), (1, .ref l1), (3, .int l3), (4, .int l4)] [] h (oVh r) := by
  intro n
  induction n with
  | zero => intro h l0 l1 l3 l4 r hf; cases hf
  | succ n ih =>
    intro h l0 l1 l3 l4 r hf
    rw [f_X4_lay_57] at hf
    refine V.iload dX4_lay_57 3 rfl ?_
    refine V.aload_n dX4_lay_59 rfl 1 rfl ?_
    obtain ⟨v1, e1, hf⟩ := bS hf
    refine V.xgI dX4_lay_60 fl_RX4_59 e1 ?_
    refine V.icmp_ge (tgt := 111) dX4_lay_63 (by decide) (fun c2 => ?_) (fun c2 => ?_)
    · rw [if_pos c2] at hf
      refine V.iinc (v := (l3 + 1)) (lv' := [(3, .int (l3 + 1)), (0, .ref l0), (1, .ref l1), (4, .int l4)]) dX4_lay_111 2 rfl rfl (Nat.le_of_ble_eq_true rfl) rfl ?_
      refine V.goto (tgt := 20) dX4_lay_114 (by decide) ?_
      refine V.sub [1, 2, 0] rfl ?_
      exact hk20 _ _ _ _ _ hf
    · rw [if_neg c2] at hf
      refine V.aload_n dX4_lay_66 rfl 0 rfl ?_
      obtain ⟨v3, e2, hf⟩ := bS hf
      refine V.xgR dX4_lay_67 fl_RX4_22 e2 ?_
      refine V.iload_n dX4_lay_70 rfl 2 rfl ?_
      refine V.iconst (v := (1 : Int32)) dX4_lay_71 (by decide) ?_
      refine V.iadd dX4_lay_72 ?_
      refine V.bipush (v := (16 : Int32)) dX4_lay_73 (by decide) ?_
      refine V.imul dX4_lay_75 ?_
      refine V.iload dX4_lay_76 3 rfl ?_
      refine V.iadd dX4_lay_78 ?_
      refine V.aload_n dX4_lay_79 rfl 0 rfl ?_
      obtain ⟨v4, e3, hf⟩ := bS hf
      refine V.xgR dX4_lay_80 fl_RX4_22 e3 ?_
      refine V.iload_n dX4_lay_83 rfl 2 rfl ?_
      refine V.bipush (v := (16 : Int32)) dX4_lay_84 (by decide) ?_
      refine V.imul dX4_lay_86 ?_
      refine V.iload dX4_lay_87 3 rfl ?_
      refine V.iadd dX4_lay_89 ?_
      obtain ⟨v5, e4, hf⟩ := bS hf
      refine V.xldI dX4_lay_90 e4 ?_
      refine V.aload_n dX4_lay_91 rfl 0 rfl ?_
      obtain ⟨v6, e5, hf⟩ := bS hf
      refine V.xgR dX4_lay_92 fl_RX4_18 e5 ?_
      refine V.iload_n dX4_lay_95 rfl 2 rfl ?_
      refine V.bipush (v := (16 : Int32)) dX4_lay_96 (by decide) ?_
      refine V.imul dX4_lay_98 ?_
      refine V.iload dX4_lay_99 3 rfl ?_
      refine V.iadd dX4_lay_101 ?_
      obtain ⟨v7, e6, hf⟩ := bS hf
      refine V.xldI dX4_lay_102 e6 ?_
      refine V.iadd dX4_lay_103 ?_
      obtain ⟨h8, e7, hf⟩ := bS hf
      refine V.xstI dX4_lay_104 e7 ?_
      refine V.iinc (v := (l4 + 1)) (lv' := [(4, .int (l4 + 1)), (0, .ref l0), (1, .ref l1), (3, .int l3)]) dX4_lay_105 3 rfl rfl (Nat.le_of_ble_eq_true rfl) rfl ?_
      refine V.goto (tgt := 57) dX4_lay_108 (by decide) ?_
      refine V.sub [1, 2, 3, 0] rfl ?_
      exact ih _ _ _ _ _ _ hf

set_option maxRecDepth 20000 in
theorem w_X4_lay_20 : ∀ (n : Nat) (h : xH) (l0 : Nat) (l1 : Nat) (l3 : Int32) (r : xH), f_X4_lay_20 n h l0 l1 l3 = some r → V 5 yX4_lay cX4_lay 5 none [] none 20 [(0, .ref l0), (1, .ref l1), (3, .int l3)] [] h (oVh r) := by
  intro n
  induction n with
  | zero => intro h l0 l1 l3 r hf; cases hf
  | succ n ih =>
    intro h l0 l1 l3 r hf
    rw [f_X4_lay_20] at hf
    refine V.iload_n dX4_lay_20 rfl 2 rfl ?_
    refine V.aload_n dX4_lay_21 rfl 1 rfl ?_
    obtain ⟨v1, e8, hf⟩ := bS hf
    refine V.xgI dX4_lay_22 fl_RX4_59 e8 ?_
    refine V.icmp_ge (tgt := 117) dX4_lay_25 (by decide) (fun c2 => ?_) (fun c2 => ?_)
    · rw [if_pos c2] at hf
      obtain rfl := Option.some.inj hf
      exact V.vret dX4_lay_117
    · rw [if_neg c2] at hf
      refine V.aload_n dX4_lay_28 rfl 0 rfl ?_
      obtain ⟨v3, e9, hf⟩ := bS hf
      refine V.xgR dX4_lay_29 fl_RX4_25 e9 ?_
      refine V.iload_n dX4_lay_32 rfl 2 rfl ?_
      refine V.iconst (v := (1 : Int32)) dX4_lay_33 (by decide) ?_
      refine V.iadd dX4_lay_34 ?_
      refine V.aload_n dX4_lay_35 rfl 0 rfl ?_
      obtain ⟨v4, e10, hf⟩ := bS hf
      refine V.xgR dX4_lay_36 fl_RX4_25 e10 ?_
      refine V.iload_n dX4_lay_39 rfl 2 rfl ?_
      obtain ⟨v5, e11, hf⟩ := bS hf
      refine V.xldI dX4_lay_40 e11 ?_
      refine V.aload_n dX4_lay_41 rfl 1 rfl ?_
      obtain ⟨v6, e12, hf⟩ := bS hf
      refine V.rgR dX4_lay_42 fl_RX4_92 e12 ?_
      refine V.iload_n dX4_lay_45 rfl 2 rfl ?_
      obtain ⟨v7, e13, hf⟩ := bS hf
      refine V.xldI dX4_lay_46 e13 ?_
      obtain ⟨r8, e14, hf⟩ := bS hf
      refine V.callS (As := [.int v7]) (st := [.int v5, .int (l3 + (1 : Int32)), .ref v3]) dX4_lay_47 cl_RX4_54 sw_yJ6_bitCount_0f7a4 (by decide) rfl (Nat.le_of_ble_eq_true rfl) rfl (w_J6_bitCount_0f7a4 _ _ _ e14) ?_
      refine V.mmax dX4_lay_50 ml_RX4_95 ms_max mi_ mc_max (Nat.le_of_ble_eq_true rfl) ?_
      obtain ⟨h9, e15, hf⟩ := bS hf
      refine V.xstI dX4_lay_53 e15 ?_
      refine V.iconst (v := (0 : Int32)) dX4_lay_54 (by decide) ?_
      refine V.istore (lv' := [(4, .int (0 : Int32)), (0, .ref l0), (1, .ref l1), (3, .int l3)]) dX4_lay_55 (by decide) rfl ?_
      refine V.sub [1, 2, 3, 0] rfl ?_
      exact w_X4_lay_57 ih _ _ _ _ _ _ _ hf

set_option maxRecDepth 20000 in
theorem w_X4_lay (h : xH) (l0 : Nat) (l1 : Nat) (l2 : Int32) (r : xH) (hf : f_X4_lay h l0 l1 l2 = some r) : Ev 5 yX4_lay cX4_lay 5 none [] [.ref l0, .ref l1, .int l2] h (oVh r) := by
  refine Ev.of (by decide +kernel) (Nat.le_of_ble_eq_true rfl) ?_
  unfold f_X4_lay at hf
  refine V.aload_n dX4_lay_0 rfl 0 rfl ?_
  obtain ⟨v1, e16, hf⟩ := bS hf
  refine V.xgR dX4_lay_1 fl_RX4_18 e16 ?_
  refine V.iconst (v := (0 : Int32)) dX4_lay_4 (by decide) ?_
  obtain ⟨r2, e17, hf⟩ := bS hf
  refine V.callS (As := [.ref v1, .int (0 : Int32)]) (st := []) dX4_lay_5 cl_RX4_82 sw_yJ7_fill_53178 (by decide) rfl (Nat.le_of_ble_eq_true rfl) rfl (w_J7_fill_53178 _ _ _ _ e17) ?_
  refine V.aload_n dX4_lay_8 rfl 1 rfl ?_
  refine V.iload_n dX4_lay_9 rfl 2 rfl ?_
  refine V.aload_n dX4_lay_10 rfl 0 rfl ?_
  obtain ⟨v3, e18, hf⟩ := bS hf
  refine V.xgR dX4_lay_11 fl_RX4_18 e18 ?_
  refine V.iconst (v := (0 : Int32)) dX4_lay_14 (by decide) ?_
  obtain ⟨q4, e19, hf⟩ := bS hf
  obtain ⟨r5, e20, hf⟩ := bS hf
  refine V.callV (As := [.int l2, .ref v3, .int (0 : Int32)]) (st := []) dX4_lay_15 cl_RX4_88 sw_yX3_shineOf (by decide) rfl (Nat.le_of_ble_eq_true rfl) rfl (gO_some e19) rfl (w_X3_shineOf _ _ _ _ _ _ e20) ?_
  refine V.iconst (v := (0 : Int32)) dX4_lay_18 (by decide) ?_
  refine V.istore_n (lv' := [(3, .int (0 : Int32)), (0, .ref l0), (1, .ref l1), (2, .int l2)]) dX4_lay_19 rfl (by decide) rfl ?_
  refine V.sub [1, 2, 0] rfl ?_
  exact w_X4_lay_20 _ _ _ _ _ _ hf

def f_X0_add_3 : Nat → xH → Nat → Nat → Int32 → Int32 → Int32 → Option (xH)
  | 0, _, _, _, _, _, _ => none
  | n + 1, h, l0, l1, l2, l3, l4 => (gI h l0 0 4).bind fun v1 => (if v1 ≤ l4 then (some (h)) else ((gR h l0 0 2).bind fun v3 => (gR h l0 0 3).bind fun v4 => (ldI h .int v4 l4).bind fun v5 => (ldI h .int v3 v5).bind fun v6 => (gR h l0 0 3).bind fun v7 => (ldI h .int v7 l4).bind fun v8 => (ldI h .int l1 (l2 + v8)).bind fun v9 => (stI h .int v3 v5 (v6 + (l3 * v9))).bind fun h10 => f_X0_add_3 n h10 l0 l1 l2 l3 (l4 + 1)))
def f_X0_add (h : xH) (l0 : Nat) (l1 : Nat) (l2 : Int32) (l3 : Int32) : Option (xH) := f_X0_add_3 xFU h l0 l1 l2 l3 (0 : Int32)
set_option maxRecDepth 20000 in
theorem w_X0_add_3 : ∀ (n : Nat) (h : xH) (l0 : Nat) (l1 : Nat) (l2 : Int32) (l3 : Int32) (l4 : Int32) (r : xH), f_X0_add_3 n h l0 l1 l2 l3 l4 = some r → V 3 yX0_add cX0_add 5 none [] none 3 [(0, .ref l0), (1, .ref l1), (2, .int l2), (3, .int l3), (4, .int l4)] [] h (oVh r) := by
  intro n
  induction n with
  | zero => intro h l0 l1 l2 l3 l4 r hf; cases hf
  | succ n ih =>
    intro h l0 l1 l2 l3 l4 r hf
    rw [f_X0_add_3] at hf
    refine V.iload dX0_add_3 4 rfl ?_
    refine V.aload_n dX0_add_5 rfl 0 rfl ?_
    obtain ⟨v1, e1, hf⟩ := bS hf
    refine V.xgI dX0_add_6 fl_RX0_24 e1 ?_
    refine V.icmp_ge (tgt := 46) dX0_add_9 (by decide) (fun c2 => ?_) (fun c2 => ?_)
    · rw [if_pos c2] at hf
      obtain rfl := Option.some.inj hf
      exact V.vret dX0_add_46
    · rw [if_neg c2] at hf
      refine V.aload_n dX0_add_12 rfl 0 rfl ?_
      obtain ⟨v3, e2, hf⟩ := bS hf
      refine V.xgR dX0_add_13 fl_RX0_18 e2 ?_
      refine V.aload_n dX0_add_16 rfl 0 rfl ?_
      obtain ⟨v4, e3, hf⟩ := bS hf
      refine V.xgR dX0_add_17 fl_RX0_21 e3 ?_
      refine V.iload dX0_add_20 4 rfl ?_
      obtain ⟨v5, e4, hf⟩ := bS hf
      refine V.xldI dX0_add_22 e4 ?_
      refine V.dup2 dX0_add_23 rfl rfl ?_
      obtain ⟨v6, e5, hf⟩ := bS hf
      refine V.xldI dX0_add_24 e5 ?_
      refine V.iload_n dX0_add_25 rfl 3 rfl ?_
      refine V.aload_n dX0_add_26 rfl 1 rfl ?_
      refine V.iload_n dX0_add_27 rfl 2 rfl ?_
      refine V.aload_n dX0_add_28 rfl 0 rfl ?_
      obtain ⟨v7, e6, hf⟩ := bS hf
      refine V.xgR dX0_add_29 fl_RX0_21 e6 ?_
      refine V.iload dX0_add_32 4 rfl ?_
      obtain ⟨v8, e7, hf⟩ := bS hf
      refine V.xldI dX0_add_34 e7 ?_
      refine V.iadd dX0_add_35 ?_
      obtain ⟨v9, e8, hf⟩ := bS hf
      refine V.xldI dX0_add_36 e8 ?_
      refine V.imul dX0_add_37 ?_
      refine V.iadd dX0_add_38 ?_
      obtain ⟨h10, e9, hf⟩ := bS hf
      refine V.xstI dX0_add_39 e9 ?_
      refine V.iinc (v := (l4 + 1)) (lv' := [(4, .int (l4 + 1)), (0, .ref l0), (1, .ref l1), (2, .int l2), (3, .int l3)]) dX0_add_40 4 rfl rfl (Nat.le_of_ble_eq_true rfl) rfl ?_
      refine V.goto (tgt := 3) dX0_add_43 (by decide) ?_
      refine V.sub [1, 2, 3, 4, 0] rfl ?_
      exact ih _ _ _ _ _ _ _ hf

set_option maxRecDepth 20000 in
theorem w_X0_add (h : xH) (l0 : Nat) (l1 : Nat) (l2 : Int32) (l3 : Int32) (r : xH) (hf : f_X0_add h l0 l1 l2 l3 = some r) : Ev 3 yX0_add cX0_add 5 none [] [.ref l0, .ref l1, .int l2, .int l3] h (oVh r) := by
  refine Ev.of (by decide +kernel) (Nat.le_of_ble_eq_true rfl) ?_
  unfold f_X0_add at hf
  refine V.iconst (v := (0 : Int32)) dX0_add_0 (by decide) ?_
  refine V.istore (lv' := [(4, .int (0 : Int32)), (0, .ref l0), (1, .ref l1), (2, .int l2), (3, .int l3)]) dX0_add_1 (by decide) rfl ?_
  refine V.sub [1, 2, 3, 4, 0] rfl ?_
  exact w_X0_add_3 _ _ _ _ _ _ _ _ hf

def f_X0_isBearable_2 (h : xH) : Nat → Nat → Int32 → Option (Int32)
  | 0, _, _ => none
  | n + 1, l0, l1 => (gI h l0 0 4).bind fun v1 => (if v1 ≤ l1 then (some ((1 : Int32))) else ((gR h l0 0 2).bind fun v3 => (gR h l0 0 3).bind fun v4 => (ldI h .int v4 l1).bind fun v5 => (ldI h .int v3 v5).bind fun v6 => (gR h l0 0 1).bind fun v7 => (gR h l0 0 3).bind fun v8 => (ldI h .int v8 l1).bind fun v9 => (ldI h .int v7 v9).bind fun v10 => (if v6 ≤ v10 then (f_X0_isBearable_2 h n l0 (l1 + 1)) else (some ((0 : Int32))))))
def f_X0_isBearable (h : xH) (l0 : Nat) : Option (Int32) := f_X0_isBearable_2 h xFU l0 (0 : Int32)
set_option maxRecDepth 20000 in
theorem w_X0_isBearable_2 (h : xH) : ∀ (n : Nat) (l0 : Nat) (l1 : Int32) (r : Int32), f_X0_isBearable_2 h n l0 l1 = some r → V 3 yX0_isBearable cX0_isBearable 2 (some .boolean) [] none 2 [(0, .ref l0), (1, .int l1)] [] h (oI h r) := by
  intro n
  induction n with
  | zero => intro l0 l1 r hf; cases hf
  | succ n ih =>
    intro l0 l1 r hf
    rw [f_X0_isBearable_2] at hf
    refine V.iload_n dX0_isBearable_2 rfl 1 rfl ?_
    refine V.aload_n dX0_isBearable_3 rfl 0 rfl ?_
    obtain ⟨v1, e1, hf⟩ := bS hf
    refine V.xgI dX0_isBearable_4 fl_RX0_24 e1 ?_
    refine V.icmp_ge (tgt := 43) dX0_isBearable_7 (by decide) (fun c2 => ?_) (fun c2 => ?_)
    · rw [if_pos c2] at hf
      refine V.iconst (v := (1 : Int32)) dX0_isBearable_43 (by decide) ?_
      obtain rfl := Option.some.inj hf
      exact V.zret dX0_isBearable_44 (by first | rfl | assumption)
    · rw [if_neg c2] at hf
      refine V.aload_n dX0_isBearable_10 rfl 0 rfl ?_
      obtain ⟨v3, e2, hf⟩ := bS hf
      refine V.xgR dX0_isBearable_11 fl_RX0_18 e2 ?_
      refine V.aload_n dX0_isBearable_14 rfl 0 rfl ?_
      obtain ⟨v4, e3, hf⟩ := bS hf
      refine V.xgR dX0_isBearable_15 fl_RX0_21 e3 ?_
      refine V.iload_n dX0_isBearable_18 rfl 1 rfl ?_
      obtain ⟨v5, e4, hf⟩ := bS hf
      refine V.xldI dX0_isBearable_19 e4 ?_
      obtain ⟨v6, e5, hf⟩ := bS hf
      refine V.xldI dX0_isBearable_20 e5 ?_
      refine V.aload_n dX0_isBearable_21 rfl 0 rfl ?_
      obtain ⟨v7, e6, hf⟩ := bS hf
      refine V.xgR dX0_isBearable_22 fl_RX0_15 e6 ?_
      refine V.aload_n dX0_isBearable_25 rfl 0 rfl ?_
      obtain ⟨v8, e7, hf⟩ := bS hf
      refine V.xgR dX0_isBearable_26 fl_RX0_21 e7 ?_
      refine V.iload_n dX0_isBearable_29 rfl 1 rfl ?_
      obtain ⟨v9, e8, hf⟩ := bS hf
      refine V.xldI dX0_isBearable_30 e8 ?_
      obtain ⟨v10, e9, hf⟩ := bS hf
      refine V.xldI dX0_isBearable_31 e9 ?_
      refine V.icmp_le (tgt := 37) dX0_isBearable_32 (by decide) (fun c11 => ?_) (fun c11 => ?_)
      · rw [if_pos c11] at hf
        refine V.iinc (v := (l1 + 1)) (lv' := [(1, .int (l1 + 1)), (0, .ref l0)]) dX0_isBearable_37 1 rfl rfl (Nat.le_of_ble_eq_true rfl) rfl ?_
        refine V.goto (tgt := 2) dX0_isBearable_40 (by decide) ?_
        refine V.sub [1, 0] rfl ?_
        exact ih _ _ _ hf
      · rw [if_neg c11] at hf
        refine V.iconst (v := (0 : Int32)) dX0_isBearable_35 (by decide) ?_
        obtain rfl := Option.some.inj hf
        exact V.zret dX0_isBearable_36 (by first | rfl | assumption)

set_option maxRecDepth 20000 in
theorem w_X0_isBearable (h : xH) (l0 : Nat) (r : Int32) (hf : f_X0_isBearable h l0 = some r) : Ev 3 yX0_isBearable cX0_isBearable 2 (some .boolean) [] [.ref l0] h (oI h r) := by
  refine Ev.of (by decide +kernel) (Nat.le_of_ble_eq_true rfl) ?_
  unfold f_X0_isBearable at hf
  refine V.iconst (v := (0 : Int32)) dX0_isBearable_0 (by decide) ?_
  refine V.istore_n (lv' := [(1, .int (0 : Int32)), (0, .ref l0)]) dX0_isBearable_1 rfl (by decide) rfl ?_
  refine V.sub [1, 0] rfl ?_
  exact w_X0_isBearable_2 h _ _ _ _ hf

def f_X4_seek_160 (ks : xH → Nat → Nat → Int32 → Int32 → Int32 → Option (xH)) (h : xH) (l0 : Nat) (l6 : Int32) : Option (xH) := (gR h l0 4 0).bind fun v1 => (gR h l0 4 1).bind fun v2 => (gO h v1 0).bind fun q3 => (f_X0_add h v1 v2 (l6 * (16 : Int32)) (-1 : Int32)).bind fun r4 => some (r4)
def f_X4_seek_108 (ks : xH → Nat → Nat → Int32 → Int32 → Int32 → Option (xH)) (h : xH) (l0 : Nat) (l1 : Nat) (l3 : Int32) (l6 : Int32) (l7 : Int32) : Option (xH) := (if l7 = 0 then (some (h)) else ((gR h l0 4 0).bind fun v2 => (gR h l0 4 1).bind fun v3 => (gO h v2 0).bind fun q4 => (f_X0_add h v2 v3 (l6 * (16 : Int32)) (1 : Int32)).bind fun r5 => (gR r5 l0 4 0).bind fun v6 => (gO r5 v6 0).bind fun q7 => (f_X0_isBearable r5 v6).bind fun r8 => (if r8 = 0 then (f_X4_seek_160 ks r5 l0 l6) else ((gR r5 l0 4 0).bind fun v10 => (gO r5 v10 0).bind fun q11 => (f_X0_lacking r5 v10).bind fun r12 => (ks r5 l0 l1 l6 (l3 ||| ((1 : Int32) <<< (l6 &&& 31))) r12).bind fun r13 => f_X4_seek_160 ks r13 l0 l6))))
def f_X4_seek : Nat → xH → Nat → Nat → Int32 → Int32 → Int32 → Option (xH)
  | 0, _, _, _, _, _, _ => none
  | n + 1, h, l0, l1, l2, l3, l4 => (gI h l0 4 7).bind fun v1 => (f_J6_bitCount_0f7a4 h l3).bind fun r2 => (if 0 ≤ ((v1 - (1 : Int32)) - r2) then ((if l4 = 0 then ((pF h l0 4 6 (.int l3)).bind fun h18 => (f_J6_bitCount_0f7a4 h18 l3).bind fun r19 => (pF h18 l0 4 7 (.int r19)).bind fun h20 => some (h20)) else ((if l2 ≤ 0 then (some (h)) else ((f_J6_bitCount_0f7a4 h l4).bind fun r6 => (gR h l0 4 3).bind fun v7 => (ldI h .int v7 l2).bind fun v8 => (if r6 ≤ (((v1 - (1 : Int32)) - r2) * v8) then ((gR h l1 3 14).bind fun v10 => (ldI h .int v10 (l2 - (1 : Int32))).bind fun v11 => (gR h l0 4 0).bind fun v12 => (gR h l0 4 2).bind fun v13 => (gO h v12 0).bind fun q14 => (f_X0_enoughWith h v12 v13 ((l2 - (1 : Int32)) * (16 : Int32)) (l4 &&& v11)).bind fun r15 => (if r15 = 0 then (f_X4_seek_108 (f_X4_seek n) h l0 l1 l3 (l2 - (1 : Int32)) (l4 &&& v11)) else ((f_X4_seek n h l0 l1 (l2 - (1 : Int32)) l3 l4).bind fun r17 => f_X4_seek_108 (f_X4_seek n) r17 l0 l1 l3 (l2 - (1 : Int32)) (l4 &&& v11)))) else (some (h)))))))) else (some (h)))
set_option maxRecDepth 20000 in
theorem w_X4_seek_160 (h : xH) {d' : Nat} (hd' : 4 ≤ d') {ks : xH → Nat → Nat → Int32 → Int32 → Int32 → Option (xH)} (hks : ∀ (h : xH) (a0 : Nat) (a1 : Nat) (a2 : Int32) (a3 : Int32) (a4 : Int32) (r : xH), ks h a0 a1 a2 a3 a4 = some r → Ev d' yX4_seek cX4_seek 8 none [] [.ref a0, .ref a1, .int a2, .int a3, .int a4] h (oVh r)) (l0 : Nat) (l6 : Int32) (r : xH) (hf : f_X4_seek_160 ks h l0 l6 = some r) : V (d' + 1) yX4_seek cX4_seek 8 none [] none 160 [(0, .ref l0), (6, .int l6)] [] h (oVh r) := by
  unfold f_X4_seek_160 at hf
  refine V.aload_n dX4_seek_160 rfl 0 rfl ?_
  obtain ⟨v1, e1, hf⟩ := bS hf
  refine V.xgR dX4_seek_161 fl_RX4_12 e1 ?_
  refine V.aload_n dX4_seek_164 rfl 0 rfl ?_
  obtain ⟨v2, e2, hf⟩ := bS hf
  refine V.xgR dX4_seek_165 fl_RX4_18 e2 ?_
  refine V.iload dX4_seek_168 1 rfl ?_
  refine V.bipush (v := (16 : Int32)) dX4_seek_170 (by decide) ?_
  refine V.imul dX4_seek_172 ?_
  refine V.iconst (v := (-1 : Int32)) dX4_seek_173 (by decide) ?_
  obtain ⟨q3, e3, hf⟩ := bS hf
  obtain ⟨r4, e4, hf⟩ := bS hf
  refine V.callV (As := [.ref v2, .int (l6 * (16 : Int32)), .int (-1 : Int32)]) (st := []) dX4_seek_174 cl_RX4_101 sw_yX0_add (by omega) rfl (Nat.le_of_ble_eq_true rfl) rfl (gO_some e3) rfl (w_X0_add _ _ _ _ _ _ e4) ?_
  obtain rfl := Option.some.inj hf
  exact V.vret dX4_seek_177

set_option maxRecDepth 20000 in
theorem w_X4_seek_108 (h : xH) {d' : Nat} (hd' : 4 ≤ d') {ks : xH → Nat → Nat → Int32 → Int32 → Int32 → Option (xH)} (hks : ∀ (h : xH) (a0 : Nat) (a1 : Nat) (a2 : Int32) (a3 : Int32) (a4 : Int32) (r : xH), ks h a0 a1 a2 a3 a4 = some r → Ev d' yX4_seek cX4_seek 8 none [] [.ref a0, .ref a1, .int a2, .int a3, .int a4] h (oVh r)) (l0 : Nat) (l1 : Nat) (l3 : Int32) (l6 : Int32) (l7 : Int32) (r : xH) (hf : f_X4_seek_108 ks h l0 l1 l3 l6 l7 = some r) : V (d' + 1) yX4_seek cX4_seek 8 none [] none 108 [(0, .ref l0), (1, .ref l1), (3, .int l3), (6, .int l6), (7, .int l7)] [] h (oVh r) := by
  unfold f_X4_seek_108 at hf
  refine V.iload dX4_seek_108 4 rfl ?_
  refine V.if_eq (tgt := 177) dX4_seek_110 (by decide) (fun c1 => ?_) (fun c1 => ?_)
  · rw [if_pos c1] at hf
    obtain rfl := Option.some.inj hf
    exact V.vret dX4_seek_177
  · rw [if_neg c1] at hf
    refine V.aload_n dX4_seek_113 rfl 0 rfl ?_
    obtain ⟨v2, e5, hf⟩ := bS hf
    refine V.xgR dX4_seek_114 fl_RX4_12 e5 ?_
    refine V.aload_n dX4_seek_117 rfl 0 rfl ?_
    obtain ⟨v3, e6, hf⟩ := bS hf
    refine V.xgR dX4_seek_118 fl_RX4_18 e6 ?_
    refine V.iload dX4_seek_121 3 rfl ?_
    refine V.bipush (v := (16 : Int32)) dX4_seek_123 (by decide) ?_
    refine V.imul dX4_seek_125 ?_
    refine V.iconst (v := (1 : Int32)) dX4_seek_126 (by decide) ?_
    obtain ⟨q4, e7, hf⟩ := bS hf
    obtain ⟨r5, e8, hf⟩ := bS hf
    refine V.callV (As := [.ref v3, .int (l6 * (16 : Int32)), .int (1 : Int32)]) (st := []) dX4_seek_127 cl_RX4_101 sw_yX0_add (by omega) rfl (Nat.le_of_ble_eq_true rfl) rfl (gO_some e7) rfl (w_X0_add _ _ _ _ _ _ e8) ?_
    refine V.aload_n dX4_seek_130 rfl 0 rfl ?_
    obtain ⟨v6, e9, hf⟩ := bS hf
    refine V.xgR dX4_seek_131 fl_RX4_12 e9 ?_
    obtain ⟨q7, e10, hf⟩ := bS hf
    obtain ⟨r8, e11, hf⟩ := bS hf
    refine V.callV (As := []) (st := []) dX4_seek_134 cl_RX4_105 sw_yX0_isBearable (by omega) rfl (Nat.le_of_ble_eq_true rfl) rfl (gO_some e10) rfl (w_X0_isBearable _ _ _ e11) ?_
    refine V.if_eq (tgt := 160) dX4_seek_137 (by decide) (fun c9 => ?_) (fun c9 => ?_)
    · rw [if_pos c9] at hf
      refine V.sub [0, 3] rfl ?_
      exact w_X4_seek_160 _ hd' hks _ _ _ hf
    · rw [if_neg c9] at hf
      refine V.aload_n dX4_seek_140 rfl 0 rfl ?_
      refine V.aload_n dX4_seek_141 rfl 1 rfl ?_
      refine V.iload dX4_seek_142 3 rfl ?_
      refine V.iload_n dX4_seek_144 rfl 2 rfl ?_
      refine V.iconst (v := (1 : Int32)) dX4_seek_145 (by decide) ?_
      refine V.iload dX4_seek_146 3 rfl ?_
      refine V.ishl dX4_seek_148 ?_
      refine V.ior dX4_seek_149 ?_
      refine V.aload_n dX4_seek_150 rfl 0 rfl ?_
      obtain ⟨v10, e12, hf⟩ := bS hf
      refine V.xgR dX4_seek_151 fl_RX4_12 e12 ?_
      obtain ⟨q11, e13, hf⟩ := bS hf
      obtain ⟨r12, e14, hf⟩ := bS hf
      refine V.callV (As := []) (st := [.int (l3 ||| ((1 : Int32) <<< (l6 &&& 31))), .int l6, .ref l1, .ref l0]) dX4_seek_154 cl_RX4_70 sw_yX0_lacking (by omega) rfl (Nat.le_of_ble_eq_true rfl) rfl (gO_some e13) rfl (w_X0_lacking _ _ _ e14) ?_
      obtain ⟨r13, e15, hf⟩ := bS hf
      refine V.callS (As := [.ref l0, .ref l1, .int l6, .int (l3 ||| ((1 : Int32) <<< (l6 &&& 31))), .int r12]) (st := []) dX4_seek_157 cl_RX4_78 sw_yX4_seek (Nat.le_refl _) rfl (Nat.le_of_ble_eq_true rfl) rfl (hks _ _ _ _ _ _ _ e15) ?_
      refine V.sub [0, 3] rfl ?_
      exact w_X4_seek_160 _ hd' hks _ _ _ hf

set_option maxRecDepth 20000 in
theorem w_X4_seek : ∀ (n : Nat) (h : xH) (l0 : Nat) (l1 : Nat) (l2 : Int32) (l3 : Int32) (l4 : Int32) (r : xH), f_X4_seek n h l0 l1 l2 l3 l4 = some r → Ev (n + 4) yX4_seek cX4_seek 8 none [] [.ref l0, .ref l1, .int l2, .int l3, .int l4] h (oVh r) := by
  intro n
  induction n with
  | zero => intro h l0 l1 l2 l3 l4 r hf; cases hf
  | succ n ih =>
    intro h l0 l1 l2 l3 l4 r hf
    rw [f_X4_seek] at hf
    have hd' : 4 ≤ n + 4 := Nat.le_add_left _ _
    have hks := ih
    rw [Nat.succ_add n 4]
    refine Ev.of (by decide +kernel) (Nat.le_of_ble_eq_true rfl) ?_
    refine V.aload_n dX4_seek_0 rfl 0 rfl ?_
    obtain ⟨v1, e16, hf⟩ := bS hf
    refine V.xgI dX4_seek_1 fl_RX4_38 e16 ?_
    refine V.iconst (v := (1 : Int32)) dX4_seek_4 (by decide) ?_
    refine V.isub dX4_seek_5 ?_
    refine V.iload_n dX4_seek_6 rfl 3 rfl ?_
    obtain ⟨r2, e17, hf⟩ := bS hf
    refine V.callS (As := [.int l3]) (st := [.int (v1 - (1 : Int32))]) dX4_seek_7 cl_RX4_54 sw_yJ6_bitCount_0f7a4 (by omega) rfl (Nat.le_of_ble_eq_true rfl) rfl (w_J6_bitCount_0f7a4 _ _ _ e17) ?_
    refine V.isub dX4_seek_10 ?_
    refine V.istore (lv' := [(5, .int ((v1 - (1 : Int32)) - r2)), (0, .ref l0), (1, .ref l1), (2, .int l2), (3, .int l3), (4, .int l4)]) dX4_seek_11 (by decide) rfl ?_
    refine V.iload dX4_seek_13 0 rfl ?_
    refine V.if_ge (tgt := 19) dX4_seek_15 (by decide) (fun c3 => ?_) (fun c3 => ?_)
    · rw [if_pos c3] at hf
      refine V.iload dX4_seek_19 5 rfl ?_
      refine V.if_ne (tgt := 38) dX4_seek_21 (by decide) (fun c4 => ?_) (fun c4 => ?_)
      · rw [if_neg c4] at hf
        refine V.iload_n dX4_seek_38 rfl 3 rfl ?_
        refine V.if_le (tgt := 59) dX4_seek_39 (by decide) (fun c5 => ?_) (fun c5 => ?_)
        · rw [if_pos c5] at hf
          obtain rfl := Option.some.inj hf
          exact V.vret dX4_seek_59
        · rw [if_neg c5] at hf
          refine V.iload dX4_seek_42 5 rfl ?_
          obtain ⟨r6, e18, hf⟩ := bS hf
          refine V.callS (As := [.int l4]) (st := []) dX4_seek_44 cl_RX4_54 sw_yJ6_bitCount_0f7a4 (by omega) rfl (Nat.le_of_ble_eq_true rfl) rfl (w_J6_bitCount_0f7a4 _ _ _ e18) ?_
          refine V.iload dX4_seek_47 0 rfl ?_
          refine V.aload_n dX4_seek_49 rfl 1 rfl ?_
          obtain ⟨v7, e19, hf⟩ := bS hf
          refine V.xgR dX4_seek_50 fl_RX4_25 e19 ?_
          refine V.iload_n dX4_seek_53 rfl 3 rfl ?_
          obtain ⟨v8, e20, hf⟩ := bS hf
          refine V.xldI dX4_seek_54 e20 ?_
          refine V.imul dX4_seek_55 ?_
          refine V.icmp_le (tgt := 60) dX4_seek_56 (by decide) (fun c9 => ?_) (fun c9 => ?_)
          · rw [if_pos c9] at hf
            refine V.iload_n dX4_seek_60 rfl 3 rfl ?_
            refine V.iconst (v := (1 : Int32)) dX4_seek_61 (by decide) ?_
            refine V.isub dX4_seek_62 ?_
            refine V.istore (lv' := [(6, .int (l2 - (1 : Int32))), (5, .int ((v1 - (1 : Int32)) - r2)), (0, .ref l0), (1, .ref l1), (2, .int l2), (3, .int l3), (4, .int l4)]) dX4_seek_63 (by decide) rfl ?_
            refine V.iload dX4_seek_65 6 rfl ?_
            refine V.aload_n dX4_seek_67 rfl 3 rfl ?_
            obtain ⟨v10, e21, hf⟩ := bS hf
            refine V.rgR dX4_seek_68 fl_RX4_92 e21 ?_
            refine V.iload dX4_seek_71 0 rfl ?_
            obtain ⟨v11, e22, hf⟩ := bS hf
            refine V.xldI dX4_seek_73 e22 ?_
            refine V.iand dX4_seek_74 ?_
            refine V.istore (lv' := [(7, .int (l4 &&& v11)), (6, .int (l2 - (1 : Int32))), (5, .int ((v1 - (1 : Int32)) - r2)), (0, .ref l0), (1, .ref l1), (2, .int l2), (3, .int l3), (4, .int l4)]) dX4_seek_75 (by decide) rfl ?_
            refine V.aload_n dX4_seek_77 rfl 3 rfl ?_
            obtain ⟨v12, e23, hf⟩ := bS hf
            refine V.xgR dX4_seek_78 fl_RX4_12 e23 ?_
            refine V.aload_n dX4_seek_81 rfl 3 rfl ?_
            obtain ⟨v13, e24, hf⟩ := bS hf
            refine V.xgR dX4_seek_82 fl_RX4_22 e24 ?_
            refine V.iload dX4_seek_85 1 rfl ?_
            refine V.bipush (v := (16 : Int32)) dX4_seek_87 (by decide) ?_
            refine V.imul dX4_seek_89 ?_
            refine V.iload dX4_seek_90 0 rfl ?_
            obtain ⟨q14, e25, hf⟩ := bS hf
            obtain ⟨r15, e26, hf⟩ := bS hf
            refine V.callV (As := [.ref v13, .int ((l2 - (1 : Int32)) * (16 : Int32)), .int (l4 &&& v11)]) (st := []) dX4_seek_92 cl_RX4_74 sw_yX0_enoughWith (by omega) rfl (Nat.le_of_ble_eq_true rfl) rfl (gO_some e25) rfl (w_X0_enoughWith _ _ _ _ _ _ e26) ?_
            refine V.if_eq (tgt := 108) dX4_seek_95 (by decide) (fun c16 => ?_) (fun c16 => ?_)
            · rw [if_pos c16] at hf
              refine V.sub [3, 4, 6, 1, 0] rfl ?_
              exact w_X4_seek_108 _ hd' hks _ _ _ _ _ _ hf
            · rw [if_neg c16] at hf
              refine V.aload_n dX4_seek_98 rfl 3 rfl ?_
              refine V.aload_n dX4_seek_99 rfl 4 rfl ?_
              refine V.iload dX4_seek_100 1 rfl ?_
              refine V.iload_n dX4_seek_102 rfl 6 rfl ?_
              refine V.iload dX4_seek_103 7 rfl ?_
              obtain ⟨r17, e27, hf⟩ := bS hf
              refine V.callS (As := [.ref l0, .ref l1, .int (l2 - (1 : Int32)), .int l3, .int l4]) (st := []) dX4_seek_105 cl_RX4_78 sw_yX4_seek (Nat.le_refl _) rfl (Nat.le_of_ble_eq_true rfl) rfl (hks _ _ _ _ _ _ _ e27) ?_
              refine V.sub [3, 4, 6, 1, 0] rfl ?_
              exact w_X4_seek_108 _ hd' hks _ _ _ _ _ _ hf
          · rw [if_neg c9] at hf
            obtain rfl := Option.some.inj hf
            exact V.vret dX4_seek_59
      · rw [if_pos c4] at hf
        refine V.aload_n dX4_seek_24 rfl 1 rfl ?_
        refine V.iload_n dX4_seek_25 rfl 4 rfl ?_
        obtain ⟨h18, e28, hf⟩ := bS hf
        refine V.xpF dX4_seek_26 fl_RX4_34 (fun h9 => nomatch h9) (fun _ => rfl) (fun _ => rfl) e28 ?_
        refine V.aload_n dX4_seek_29 rfl 1 rfl ?_
        refine V.iload_n dX4_seek_30 rfl 4 rfl ?_
        obtain ⟨r19, e29, hf⟩ := bS hf
        refine V.callS (As := [.int l3]) (st := [.ref l0]) dX4_seek_31 cl_RX4_54 sw_yJ6_bitCount_0f7a4 (by omega) rfl (Nat.le_of_ble_eq_true rfl) rfl (w_J6_bitCount_0f7a4 _ _ _ e29) ?_
        obtain ⟨h20, e30, hf⟩ := bS hf
        refine V.xpF dX4_seek_34 fl_RX4_38 (fun h9 => nomatch h9) (fun _ => rfl) (fun _ => rfl) e30 ?_
        obtain rfl := Option.some.inj hf
        exact V.vret dX4_seek_37
    · rw [if_neg c3] at hf
      obtain rfl := Option.some.inj hf
      exact V.vret dX4_seek_18

def f_X4_fewest_77 (h : xH) (l0 : Nat) : Option (Int32 × xH) := (gI h l0 4 6).bind fun v1 => some ((v1, h))
def f_X4_fewest (h : xH) (l0 : Nat) (l1 : Nat) (l2 : Int32) (l3 : Int32) : Option (Int32 × xH) := (pF h l0 4 6 (.int (-1 : Int32))).bind fun h1 => (gI h1 l1 3 1).bind fun v2 => (pF h1 l0 4 7 (.int (v2 + (1 : Int32)))).bind fun h3 => (gR h3 l0 4 0).bind fun v4 => (gO h3 v4 0).bind fun q5 => (f_X0_begin h3 v4 l1 l3).bind fun r6 => (if r6.1 = 0 then (f_X4_fewest_77 r6.2 l0) else ((gO r6.2 l0 4).bind fun q8 => (f_X4_lay r6.2 l0 l1 l2).bind fun r9 => (gR r9 l0 4 0).bind fun v10 => (gO r9 v10 0).bind fun q11 => (f_X0_lacking r9 v10).bind fun r12 => (gR r9 l0 4 0).bind fun v13 => (gR r9 l0 4 2).bind fun v14 => (gI r9 l1 3 1).bind fun v15 => (gO r9 v13 0).bind fun q16 => (f_X0_enoughWith r9 v13 v14 (v15 * (16 : Int32)) r12).bind fun r17 => (if r17 = 0 then (f_X4_fewest_77 r9 l0) else ((gI r9 l1 3 1).bind fun v19 => (f_X4_seek  40 r9 l0 l1 v19 (0 : Int32) r12).bind fun r20 => f_X4_fewest_77 r20 l0))))
set_option maxRecDepth 20000 in
theorem w_X4_fewest_77 (h : xH) (l0 : Nat) (r : Int32 × xH) (hf : f_X4_fewest_77 h l0 = some r) : V 46 yX4_fewest cX4_fewest 5 (some .int) [] none 77 [(0, .ref l0)] [] h (oIh r) := by
  unfold f_X4_fewest_77 at hf
  refine V.aload_n dX4_fewest_77 rfl 0 rfl ?_
  obtain ⟨v1, e1, hf⟩ := bS hf
  refine V.xgI dX4_fewest_78 fl_RX4_34 e1 ?_
  obtain rfl := Option.some.inj hf
  exact V.iret dX4_fewest_81

set_option maxRecDepth 20000 in
theorem w_X4_fewest (h : xH) (l0 : Nat) (l1 : Nat) (l2 : Int32) (l3 : Int32) (r : Int32 × xH) (hf : f_X4_fewest h l0 l1 l2 l3 = some r) : Ev 46 yX4_fewest cX4_fewest 5 (some .int) [] [.ref l0, .ref l1, .int l2, .int l3] h (oIh r) := by
  refine Ev.of (by decide +kernel) (Nat.le_of_ble_eq_true rfl) ?_
  unfold f_X4_fewest at hf
  refine V.aload_n dX4_fewest_0 rfl 0 rfl ?_
  refine V.iconst (v := (-1 : Int32)) dX4_fewest_1 (by decide) ?_
  obtain ⟨h1, e2, hf⟩ := bS hf
  refine V.xpF dX4_fewest_2 fl_RX4_34 (fun h9 => nomatch h9) (fun _ => rfl) (fun _ => rfl) e2 ?_
  refine V.aload_n dX4_fewest_5 rfl 0 rfl ?_
  refine V.aload_n dX4_fewest_6 rfl 1 rfl ?_
  obtain ⟨v2, e3, hf⟩ := bS hf
  refine V.xgI dX4_fewest_7 fl_RX4_59 e3 ?_
  refine V.iconst (v := (1 : Int32)) dX4_fewest_10 (by decide) ?_
  refine V.iadd dX4_fewest_11 ?_
  obtain ⟨h3, e4, hf⟩ := bS hf
  refine V.xpF dX4_fewest_12 fl_RX4_38 (fun h9 => nomatch h9) (fun _ => rfl) (fun _ => rfl) e4 ?_
  refine V.aload_n dX4_fewest_15 rfl 0 rfl ?_
  obtain ⟨v4, e5, hf⟩ := bS hf
  refine V.xgR dX4_fewest_16 fl_RX4_12 e5 ?_
  refine V.aload_n dX4_fewest_19 rfl 1 rfl ?_
  refine V.iload_n dX4_fewest_20 rfl 3 rfl ?_
  obtain ⟨q5, e6, hf⟩ := bS hf
  obtain ⟨r6, e7, hf⟩ := bS hf
  refine V.callV (As := [.ref l1, .int l3]) (st := []) dX4_fewest_21 cl_RX4_62 sw_yX0_begin (by decide) rfl (Nat.le_of_ble_eq_true rfl) rfl (gO_some e6) rfl (w_X0_begin _ _ _ _ _ e7) ?_
  refine V.if_eq (tgt := 77) dX4_fewest_24 (by decide) (fun c7 => ?_) (fun c7 => ?_)
  · rw [if_pos c7] at hf
    refine V.sub [0] rfl ?_
    exact w_X4_fewest_77 _ _ _ hf
  · rw [if_neg c7] at hf
    refine V.aload_n dX4_fewest_27 rfl 0 rfl ?_
    refine V.aload_n dX4_fewest_28 rfl 1 rfl ?_
    refine V.iload_n dX4_fewest_29 rfl 2 rfl ?_
    obtain ⟨q8, e8, hf⟩ := bS hf
    obtain ⟨r9, e9, hf⟩ := bS hf
    refine V.callV (As := [.ref l1, .int l2]) (st := []) dX4_fewest_30 cl_RX4_66 sw_yX4_lay (by decide) rfl (Nat.le_of_ble_eq_true rfl) rfl (gO_some e8) rfl (w_X4_lay _ _ _ _ _ e9) ?_
    refine V.aload_n dX4_fewest_33 rfl 0 rfl ?_
    obtain ⟨v10, e10, hf⟩ := bS hf
    refine V.xgR dX4_fewest_34 fl_RX4_12 e10 ?_
    obtain ⟨q11, e11, hf⟩ := bS hf
    obtain ⟨r12, e12, hf⟩ := bS hf
    refine V.callV (As := []) (st := []) dX4_fewest_37 cl_RX4_70 sw_yX0_lacking (by decide) rfl (Nat.le_of_ble_eq_true rfl) rfl (gO_some e11) rfl (w_X0_lacking _ _ _ e12) ?_
    refine V.istore (lv' := [(4, .int r12), (0, .ref l0), (1, .ref l1), (2, .int l2), (3, .int l3)]) dX4_fewest_40 (by decide) rfl ?_
    refine V.aload_n dX4_fewest_42 rfl 1 rfl ?_
    obtain ⟨v13, e13, hf⟩ := bS hf
    refine V.xgR dX4_fewest_43 fl_RX4_12 e13 ?_
    refine V.aload_n dX4_fewest_46 rfl 1 rfl ?_
    obtain ⟨v14, e14, hf⟩ := bS hf
    refine V.xgR dX4_fewest_47 fl_RX4_22 e14 ?_
    refine V.aload_n dX4_fewest_50 rfl 2 rfl ?_
    obtain ⟨v15, e15, hf⟩ := bS hf
    refine V.xgI dX4_fewest_51 fl_RX4_59 e15 ?_
    refine V.bipush (v := (16 : Int32)) dX4_fewest_54 (by decide) ?_
    refine V.imul dX4_fewest_56 ?_
    refine V.iload dX4_fewest_57 0 rfl ?_
    obtain ⟨q16, e16, hf⟩ := bS hf
    obtain ⟨r17, e17, hf⟩ := bS hf
    refine V.callV (As := [.ref v14, .int (v15 * (16 : Int32)), .int r12]) (st := []) dX4_fewest_59 cl_RX4_74 sw_yX0_enoughWith (by decide) rfl (Nat.le_of_ble_eq_true rfl) rfl (gO_some e16) rfl (w_X0_enoughWith _ _ _ _ _ _ e17) ?_
    refine V.if_eq (tgt := 77) dX4_fewest_62 (by decide) (fun c18 => ?_) (fun c18 => ?_)
    · rw [if_pos c18] at hf
      refine V.sub [1] rfl ?_
      exact w_X4_fewest_77 _ _ _ hf
    · rw [if_neg c18] at hf
      refine V.aload_n dX4_fewest_65 rfl 1 rfl ?_
      refine V.aload_n dX4_fewest_66 rfl 2 rfl ?_
      refine V.aload_n dX4_fewest_67 rfl 2 rfl ?_
      obtain ⟨v19, e18, hf⟩ := bS hf
      refine V.xgI dX4_fewest_68 fl_RX4_59 e18 ?_
      refine V.iconst (v := (0 : Int32)) dX4_fewest_71 (by decide) ?_
      refine V.iload dX4_fewest_72 0 rfl ?_
      obtain ⟨r20, e19, hf⟩ := bS hf
      refine V.callS (As := [.ref l0, .ref l1, .int v19, .int (0 : Int32), .int r12]) (st := []) dX4_fewest_74 cl_RX4_78 sw_yX4_seek (by decide) rfl (Nat.le_of_ble_eq_true rfl) rfl ((w_X4_seek 40 _ _ _ _ _ _ _ e19)) ?_
      refine V.sub [1] rfl ?_
      exact w_X4_fewest_77 _ _ _ hf

def f_X4_lampsAsBefore_2 (h : xH) : Nat → Nat → Int32 → Int32 → Option (Int32)
  | 0, _, _, _ => none
  | n + 1, l0, l1, l2 => (if l1 ≤ l2 then (some ((-1 : Int32))) else ((gR h l0 4 4).bind fun v2 => (ldI h .int v2 l2).bind fun v3 => (gR h l0 4 4).bind fun v4 => (ldI h .int v4 l1).bind fun v5 => (if v3 = v5 then ((gR h l0 4 5).bind fun v7 => (ldI h .int v7 l2).bind fun v8 => some (v8)) else (f_X4_lampsAsBefore_2 h n l0 l1 (l2 + 1)))))
def f_X4_lampsAsBefore (h : xH) (l0 : Nat) (l1 : Int32) : Option (Int32) := f_X4_lampsAsBefore_2 h xFU l0 l1 (0 : Int32)
set_option maxRecDepth 20000 in
theorem w_X4_lampsAsBefore_2 (h : xH) : ∀ (n : Nat) (l0 : Nat) (l1 : Int32) (l2 : Int32) (r : Int32), f_X4_lampsAsBefore_2 h n l0 l1 l2 = some r → V 3 yX4_lampsAsBefore cX4_lampsAsBefore 3 (some .int) [] none 2 [(0, .ref l0), (1, .int l1), (2, .int l2)] [] h (oI h r) := by
  intro n
  induction n with
  | zero => intro l0 l1 l2 r hf; cases hf
  | succ n ih =>
    intro l0 l1 l2 r hf
    rw [f_X4_lampsAsBefore_2] at hf
    refine V.iload_n dX4_lampsAsBefore_2 rfl 2 rfl ?_
    refine V.iload_n dX4_lampsAsBefore_3 rfl 1 rfl ?_
    refine V.icmp_ge (tgt := 35) dX4_lampsAsBefore_4 (by decide) (fun c1 => ?_) (fun c1 => ?_)
    · rw [if_pos c1] at hf
      refine V.iconst (v := (-1 : Int32)) dX4_lampsAsBefore_35 (by decide) ?_
      obtain rfl := Option.some.inj hf
      exact V.iret dX4_lampsAsBefore_36
    · rw [if_neg c1] at hf
      refine V.aload_n dX4_lampsAsBefore_7 rfl 0 rfl ?_
      obtain ⟨v2, e1, hf⟩ := bS hf
      refine V.xgR dX4_lampsAsBefore_8 fl_RX4_28 e1 ?_
      refine V.iload_n dX4_lampsAsBefore_11 rfl 2 rfl ?_
      obtain ⟨v3, e2, hf⟩ := bS hf
      refine V.xldI dX4_lampsAsBefore_12 e2 ?_
      refine V.aload_n dX4_lampsAsBefore_13 rfl 0 rfl ?_
      obtain ⟨v4, e3, hf⟩ := bS hf
      refine V.xgR dX4_lampsAsBefore_14 fl_RX4_28 e3 ?_
      refine V.iload_n dX4_lampsAsBefore_17 rfl 1 rfl ?_
      obtain ⟨v5, e4, hf⟩ := bS hf
      refine V.xldI dX4_lampsAsBefore_18 e4 ?_
      refine V.icmp_ne (tgt := 29) dX4_lampsAsBefore_19 (by decide) (fun c6 => ?_) (fun c6 => ?_)
      · rw [if_neg c6] at hf
        refine V.iinc (v := (l2 + 1)) (lv' := [(2, .int (l2 + 1)), (0, .ref l0), (1, .int l1)]) dX4_lampsAsBefore_29 2 rfl rfl (Nat.le_of_ble_eq_true rfl) rfl ?_
        refine V.goto (tgt := 2) dX4_lampsAsBefore_32 (by decide) ?_
        refine V.sub [1, 2, 0] rfl ?_
        exact ih _ _ _ _ hf
      · rw [if_pos c6] at hf
        refine V.aload_n dX4_lampsAsBefore_22 rfl 0 rfl ?_
        obtain ⟨v7, e5, hf⟩ := bS hf
        refine V.xgR dX4_lampsAsBefore_23 fl_RX4_31 e5 ?_
        refine V.iload_n dX4_lampsAsBefore_26 rfl 2 rfl ?_
        obtain ⟨v8, e6, hf⟩ := bS hf
        refine V.xldI dX4_lampsAsBefore_27 e6 ?_
        obtain rfl := Option.some.inj hf
        exact V.iret dX4_lampsAsBefore_28

set_option maxRecDepth 20000 in
theorem w_X4_lampsAsBefore (h : xH) (l0 : Nat) (l1 : Int32) (r : Int32) (hf : f_X4_lampsAsBefore h l0 l1 = some r) : Ev 3 yX4_lampsAsBefore cX4_lampsAsBefore 3 (some .int) [] [.ref l0, .int l1] h (oI h r) := by
  refine Ev.of (by decide +kernel) (Nat.le_of_ble_eq_true rfl) ?_
  unfold f_X4_lampsAsBefore at hf
  refine V.iconst (v := (0 : Int32)) dX4_lampsAsBefore_0 (by decide) ?_
  refine V.istore_n (lv' := [(2, .int (0 : Int32)), (0, .ref l0), (1, .int l1)]) dX4_lampsAsBefore_1 rfl (by decide) rfl ?_
  refine V.sub [1, 2, 0] rfl ?_
  exact w_X4_lampsAsBefore_2 h _ _ _ _ _ hf

def f_X4_lampsOfDay_79 (k5 : xH → Nat → Nat → Int32 → Int32 → Int32 → Option (Int32 × xH)) (h : xH) (l0 : Nat) (l1 : Nat) (l2 : Int32) (l3 : Int32) (l4 : Int32) : Option (Int32 × xH) := (gR h l0 4 5).bind fun v1 => (ldI h .int v1 l4).bind fun v2 => k5 h l0 l1 l2 (l3 + v2) (l4 + 1)
def f_X4_lampsOfDay_5 : Nat → xH → Nat → Nat → Int32 → Int32 → Int32 → Option (Int32 × xH)
  | 0, _, _, _, _, _, _ => none
  | n + 1, h, l0, l1, l2, l3, l4 => (if (24 : Int32) ≤ l4 then (some ((l3, h))) else ((gR h l0 4 4).bind fun v2 => (gO h l1 3).bind fun q3 => (f_X3_wantsAt h l1 l4).bind fun r4 => (stI h .int v2 l4 r4).bind fun h5 => (gR h5 l0 4 5).bind fun v6 => (gO h5 l0 4).bind fun q7 => (f_X4_lampsAsBefore h5 l0 l4).bind fun r8 => (stI h5 .int v6 l4 r8).bind fun h9 => (gR h9 l0 4 5).bind fun v10 => (ldI h9 .int v10 l4).bind fun v11 => (if v11 = (-1 : Int32) then ((gO h9 l0 4).bind fun q13 => (f_X4_fewest h9 l0 l1 l2 l4).bind fun r14 => (if r14.1 = (-1 : Int32) then (some (((-1 : Int32), r14.2))) else ((gR r14.2 l0 4 5).bind fun v16 => (f_J6_bitCount_0f7a4 r14.2 (r14.1)).bind fun r17 => (stI r14.2 .int v16 l4 r17).bind fun h18 => f_X4_lampsOfDay_79 (f_X4_lampsOfDay_5 n) h18 l0 l1 l2 l3 l4))) else (f_X4_lampsOfDay_79 (f_X4_lampsOfDay_5 n) h9 l0 l1 l2 l3 l4))))
def f_X4_lampsOfDay (h : xH) (l0 : Nat) (l1 : Nat) (l2 : Int32) : Option (Int32 × xH) := f_X4_lampsOfDay_5 xFU h l0 l1 l2 (0 : Int32) (0 : Int32)
set_option maxRecDepth 20000 in
theorem w_X4_lampsOfDay_79 (h : xH) {k5 : xH → Nat → Nat → Int32 → Int32 → Int32 → Option (Int32 × xH)} (hk5 : ∀ (h : xH) (l0 : Nat) (l1 : Nat) (l2 : Int32) (l3 : Int32) (l4 : Int32) (r : Int32 × xH), k5 h l0 l1 l2 l3 l4 = some r → V 47 yX4_lampsOfDay cX4_lampsOfDay 6 (some .int) [] none 5 [(0, .ref l0), (1, .ref l1), (2, .int l2), (3, .int l3), (4, .int l4)] [] h (oIh r)) (l0 : Nat) (l1 : Nat) (l2 : Int32) (l3 : Int32) (l4 : Int32) (r : Int32 × xH) (hf : f_X4_lampsOfDay_79 k5 h l0 l1 l2 l3 l4 = some r) : V 47 yX4_lampsOfDay cX4_lampsOfDay 6 (some .int) [] none 79 [(0, .ref l0), (1, .ref l1), (2, .int l2), (3, .int l3), (4, .int l4)] [] h (oIh r) := by
  unfold f_X4_lampsOfDay_79 at hf
  refine V.iload_n dX4_lampsOfDay_79 rfl 3 rfl ?_
  refine V.aload_n dX4_lampsOfDay_80 rfl 0 rfl ?_
  obtain ⟨v1, e1, hf⟩ := bS hf
  refine V.xgR dX4_lampsOfDay_81 fl_RX4_31 e1 ?_
  refine V.iload dX4_lampsOfDay_84 4 rfl ?_
  obtain ⟨v2, e2, hf⟩ := bS hf
  refine V.xldI dX4_lampsOfDay_86 e2 ?_
  refine V.iadd dX4_lampsOfDay_87 ?_
  refine V.istore_n (lv' := [(3, .int (l3 + v2)), (0, .ref l0), (1, .ref l1), (2, .int l2), (4, .int l4)]) dX4_lampsOfDay_88 rfl (by decide) rfl ?_
  refine V.iinc (v := (l4 + 1)) (lv' := [(4, .int (l4 + 1)), (3, .int (l3 + v2)), (0, .ref l0), (1, .ref l1), (2, .int l2)]) dX4_lampsOfDay_89 4 rfl rfl (Nat.le_of_ble_eq_true rfl) rfl ?_
  refine V.goto (tgt := 5) dX4_lampsOfDay_92 (by decide) ?_
  refine V.sub [2, 3, 4, 1, 0] rfl ?_
  exact hk5 _ _ _ _ _ _ _ hf

set_option maxRecDepth 20000 in
theorem w_X4_lampsOfDay_5 : ∀ (n : Nat) (h : xH) (l0 : Nat) (l1 : Nat) (l2 : Int32) (l3 : Int32) (l4 : Int32) (r : Int32 × xH), f_X4_lampsOfDay_5 n h l0 l1 l2 l3 l4 = some r → V 47 yX4_lampsOfDay cX4_lampsOfDay 6 (some .int) [] none 5 [(0, .ref l0), (1, .ref l1), (2, .int l2), (3, .int l3), (4, .int l4)] [] h (oIh r) := by
  intro n
  induction n with
  | zero => intro h l0 l1 l2 l3 l4 r hf; cases hf
  | succ n ih =>
    intro h l0 l1 l2 l3 l4 r hf
    rw [f_X4_lampsOfDay_5] at hf
    refine V.iload dX4_lampsOfDay_5 4 rfl ?_
    refine V.bipush (v := (24 : Int32)) dX4_lampsOfDay_7 (by decide) ?_
    refine V.icmp_ge (tgt := 95) dX4_lampsOfDay_9 (by decide) (fun c1 => ?_) (fun c1 => ?_)
    · rw [if_pos c1] at hf
      refine V.iload_n dX4_lampsOfDay_95 rfl 3 rfl ?_
      obtain rfl := Option.some.inj hf
      exact V.iret dX4_lampsOfDay_96
    · rw [if_neg c1] at hf
      refine V.aload_n dX4_lampsOfDay_12 rfl 0 rfl ?_
      obtain ⟨v2, e3, hf⟩ := bS hf
      refine V.xgR dX4_lampsOfDay_13 fl_RX4_28 e3 ?_
      refine V.iload dX4_lampsOfDay_16 4 rfl ?_
      refine V.aload_n dX4_lampsOfDay_18 rfl 1 rfl ?_
      refine V.iload dX4_lampsOfDay_19 4 rfl ?_
      obtain ⟨q3, e4, hf⟩ := bS hf
      obtain ⟨r4, e5, hf⟩ := bS hf
      refine V.callV (As := [.int l4]) (st := [.int l4, .ref v2]) dX4_lampsOfDay_21 cl_RX4_41 sw_yX3_wantsAt (by decide) rfl (Nat.le_of_ble_eq_true rfl) rfl (gO_some e4) rfl (w_X3_wantsAt _ _ _ _ e5) ?_
      obtain ⟨h5, e6, hf⟩ := bS hf
      refine V.xstI dX4_lampsOfDay_24 e6 ?_
      refine V.aload_n dX4_lampsOfDay_25 rfl 0 rfl ?_
      obtain ⟨v6, e7, hf⟩ := bS hf
      refine V.xgR dX4_lampsOfDay_26 fl_RX4_31 e7 ?_
      refine V.iload dX4_lampsOfDay_29 4 rfl ?_
      refine V.aload_n dX4_lampsOfDay_31 rfl 0 rfl ?_
      refine V.iload dX4_lampsOfDay_32 4 rfl ?_
      obtain ⟨q7, e8, hf⟩ := bS hf
      obtain ⟨r8, e9, hf⟩ := bS hf
      refine V.callV (As := [.int l4]) (st := [.int l4, .ref v6]) dX4_lampsOfDay_34 cl_RX4_47 sw_yX4_lampsAsBefore (by decide) rfl (Nat.le_of_ble_eq_true rfl) rfl (gO_some e8) rfl (w_X4_lampsAsBefore _ _ _ _ e9) ?_
      obtain ⟨h9, e10, hf⟩ := bS hf
      refine V.xstI dX4_lampsOfDay_37 e10 ?_
      refine V.aload_n dX4_lampsOfDay_38 rfl 0 rfl ?_
      obtain ⟨v10, e11, hf⟩ := bS hf
      refine V.xgR dX4_lampsOfDay_39 fl_RX4_31 e11 ?_
      refine V.iload dX4_lampsOfDay_42 4 rfl ?_
      obtain ⟨v11, e12, hf⟩ := bS hf
      refine V.xldI dX4_lampsOfDay_44 e12 ?_
      refine V.iconst (v := (-1 : Int32)) dX4_lampsOfDay_45 (by decide) ?_
      refine V.icmp_ne (tgt := 79) dX4_lampsOfDay_46 (by decide) (fun c12 => ?_) (fun c12 => ?_)
      · rw [if_neg c12] at hf
        exact w_X4_lampsOfDay_79 _ ih _ _ _ _ _ _ hf
      · rw [if_pos c12] at hf
        refine V.aload_n dX4_lampsOfDay_49 rfl 0 rfl ?_
        refine V.aload_n dX4_lampsOfDay_50 rfl 1 rfl ?_
        refine V.iload_n dX4_lampsOfDay_51 rfl 2 rfl ?_
        refine V.iload dX4_lampsOfDay_52 4 rfl ?_
        obtain ⟨q13, e13, hf⟩ := bS hf
        obtain ⟨r14, e14, hf⟩ := bS hf
        refine V.callV (As := [.ref l1, .int l2, .int l4]) (st := []) dX4_lampsOfDay_54 cl_RX4_50 sw_yX4_fewest (by decide) rfl (Nat.le_of_ble_eq_true rfl) rfl (gO_some e13) rfl (w_X4_fewest _ _ _ _ _ _ e14) ?_
        refine V.istore (lv' := [(5, .int r14.1), (0, .ref l0), (1, .ref l1), (2, .int l2), (3, .int l3), (4, .int l4)]) dX4_lampsOfDay_57 (by decide) rfl ?_
        refine V.iload dX4_lampsOfDay_59 0 rfl ?_
        refine V.iconst (v := (-1 : Int32)) dX4_lampsOfDay_61 (by decide) ?_
        refine V.icmp_ne (tgt := 67) dX4_lampsOfDay_62 (by decide) (fun c15 => ?_) (fun c15 => ?_)
        · rw [if_neg c15] at hf
          refine V.aload_n dX4_lampsOfDay_67 rfl 1 rfl ?_
          obtain ⟨v16, e15, hf⟩ := bS hf
          refine V.xgR dX4_lampsOfDay_68 fl_RX4_31 e15 ?_
          refine V.iload dX4_lampsOfDay_71 5 rfl ?_
          refine V.iload dX4_lampsOfDay_73 0 rfl ?_
          obtain ⟨r17, e16, hf⟩ := bS hf
          refine V.callS (As := [.int (r14.1)]) (st := [.int l4, .ref v16]) dX4_lampsOfDay_75 cl_RX4_54 sw_yJ6_bitCount_0f7a4 (by decide) rfl (Nat.le_of_ble_eq_true rfl) rfl (w_J6_bitCount_0f7a4 _ _ _ e16) ?_
          obtain ⟨h18, e17, hf⟩ := bS hf
          refine V.xstI dX4_lampsOfDay_78 e17 ?_
          refine V.sub [1, 2, 3, 4, 5] rfl ?_
          exact w_X4_lampsOfDay_79 _ ih _ _ _ _ _ _ hf
        · rw [if_pos c15] at hf
          refine V.iconst (v := (-1 : Int32)) dX4_lampsOfDay_65 (by decide) ?_
          obtain rfl := Option.some.inj hf
          exact V.iret dX4_lampsOfDay_66

set_option maxRecDepth 20000 in
theorem w_X4_lampsOfDay (h : xH) (l0 : Nat) (l1 : Nat) (l2 : Int32) (r : Int32 × xH) (hf : f_X4_lampsOfDay h l0 l1 l2 = some r) : Ev 47 yX4_lampsOfDay cX4_lampsOfDay 6 (some .int) [] [.ref l0, .ref l1, .int l2] h (oIh r) := by
  refine Ev.of (by decide +kernel) (Nat.le_of_ble_eq_true rfl) ?_
  unfold f_X4_lampsOfDay at hf
  refine V.iconst (v := (0 : Int32)) dX4_lampsOfDay_0 (by decide) ?_
  refine V.istore_n (lv' := [(3, .int (0 : Int32)), (0, .ref l0), (1, .ref l1), (2, .int l2)]) dX4_lampsOfDay_1 rfl (by decide) rfl ?_
  refine V.iconst (v := (0 : Int32)) dX4_lampsOfDay_2 (by decide) ?_
  refine V.istore (lv' := [(4, .int (0 : Int32)), (3, .int (0 : Int32)), (0, .ref l0), (1, .ref l1), (2, .int l2)]) dX4_lampsOfDay_3 (by decide) rfl ?_
  refine V.sub [2, 3, 4, 1, 0] rfl ?_
  exact w_X4_lampsOfDay_5 _ _ _ _ _ _ _ _ hf

