def f_X1_init (h : xH) (l0 : Nat) : Option (xH) := (pF h l0 1 0 (.null)).bind fun h1 => (pF h1 l0 1 1 (.int (0 : Int32))).bind fun h2 => (pF h2 l0 1 2 (.int (0 : Int32))).bind fun h3 => (pF h3 l0 1 3 (.int (0 : Int32))).bind fun h4 => (pF h4 l0 1 4 (.int (0 : Int32))).bind fun h5 => (pF h5 l0 1 5 (.int (0 : Int32))).bind fun h6 => (pF h6 l0 1 6 (.int (1000000 : Int32))).bind fun h7 => (mkI h7 .int (256 : Int32)).bind fun h8 => (pF h8 l0 1 7 (.ref (h7.1.length))).bind fun h9 => (mkI h9 .int (6144 : Int32)).bind fun h10 => (pF h10 l0 1 8 (.ref (h9.1.length))).bind fun h11 => (mkI h11 .int (256 : Int32)).bind fun h12 => (pF h12 l0 1 9 (.ref (h11.1.length))).bind fun h13 => some (h13)
set_option maxRecDepth 20000 in
theorem w_X1_init (h : xH) (l0 : Nat) (r : xH) (hf : f_X1_init h l0 = some r) : Ev 4 yX1_init cX1_init 1 none [] [.ref l0] h (oVh r) := by
  refine Ev.of (by decide +kernel) (Nat.le_of_ble_eq_true rfl) ?_
  unfold f_X1_init at hf
  refine V.aload_n dX1_init_0 rfl 0 rfl ?_
  refine V.objInit dX1_init_1 oi_RX1_3 oi_inst oi_code (Nat.le_of_ble_eq_true rfl) ?_
  refine V.aload_n dX1_init_4 rfl 0 rfl ?_
  refine V.anull dX1_init_5 ?_
  obtain ⟨h1, e1, hf⟩ := bS hf
  refine V.xpF dX1_init_6 fl_RX1_9 (fun h9 => nomatch h9) (fun _ => rfl) (fun _ => rfl) e1 ?_
  refine V.aload_n dX1_init_9 rfl 0 rfl ?_
  refine V.iconst (v := (0 : Int32)) dX1_init_10 (by decide) ?_
  obtain ⟨h2, e2, hf⟩ := bS hf
  refine V.xpF dX1_init_11 fl_RX1_15 (fun h9 => nomatch h9) (fun _ => rfl) (fun _ => rfl) e2 ?_
  refine V.aload_n dX1_init_14 rfl 0 rfl ?_
  refine V.iconst (v := (0 : Int32)) dX1_init_15 (by decide) ?_
  obtain ⟨h3, e3, hf⟩ := bS hf
  refine V.xpF dX1_init_16 fl_RX1_19 (fun h9 => nomatch h9) (fun _ => rfl) (fun _ => rfl) e3 ?_
  refine V.aload_n dX1_init_19 rfl 0 rfl ?_
  refine V.iconst (v := (0 : Int32)) dX1_init_20 (by decide) ?_
  obtain ⟨h4, e4, hf⟩ := bS hf
  refine V.xpF dX1_init_21 fl_RX1_22 (fun h9 => nomatch h9) (fun _ => rfl) (fun _ => rfl) e4 ?_
  refine V.aload_n dX1_init_24 rfl 0 rfl ?_
  refine V.iconst (v := (0 : Int32)) dX1_init_25 (by decide) ?_
  obtain ⟨h5, e5, hf⟩ := bS hf
  refine V.xpF dX1_init_26 fl_RX1_25 (fun h9 => nomatch h9) (fun _ => rfl) (fun _ => rfl) e5 ?_
  refine V.aload_n dX1_init_29 rfl 0 rfl ?_
  refine V.iconst (v := (0 : Int32)) dX1_init_30 (by decide) ?_
  obtain ⟨h6, e6, hf⟩ := bS hf
  refine V.xpF dX1_init_31 fl_RX1_28 (fun h9 => nomatch h9) (fun _ => rfl) (fun _ => rfl) e6 ?_
  refine V.aload_n dX1_init_34 rfl 0 rfl ?_
  refine V.ldc (v := 1000000) dX1_init_35 co_RX1_31 ?_
  obtain ⟨h7, e7, hf⟩ := bS hf
  refine V.xpF dX1_init_37 fl_RX1_32 (fun h9 => nomatch h9) (fun _ => rfl) (fun _ => rfl) e7 ?_
  refine V.aload_n dX1_init_40 rfl 0 rfl ?_
  refine V.sipush (v := (256 : Int32)) dX1_init_41 (by decide) ?_
  obtain ⟨h8, e8, hf⟩ := bS hf
  refine V.xmkI dX1_init_44 rfl rfl aw_int (by decide) e8 ?_
  obtain ⟨h9, e9, hf⟩ := bS hf
  refine V.xpF dX1_init_46 fl_RX1_35 (fun _ => rfl) (fun _ => rfl) (fun _ => rfl) e9 ?_
  refine V.aload_n dX1_init_49 rfl 0 rfl ?_
  refine V.sipush (v := (6144 : Int32)) dX1_init_50 (by decide) ?_
  obtain ⟨h10, e10, hf⟩ := bS hf
  refine V.xmkI dX1_init_53 rfl rfl aw_int (by decide) e10 ?_
  obtain ⟨h11, e11, hf⟩ := bS hf
  refine V.xpF dX1_init_55 fl_RX1_39 (fun _ => rfl) (fun _ => rfl) (fun _ => rfl) e11 ?_
  refine V.aload_n dX1_init_58 rfl 0 rfl ?_
  refine V.sipush (v := (256 : Int32)) dX1_init_59 (by decide) ?_
  obtain ⟨h12, e12, hf⟩ := bS hf
  refine V.xmkI dX1_init_62 rfl rfl aw_int (by decide) e12 ?_
  obtain ⟨h13, e13, hf⟩ := bS hf
  refine V.xpF dX1_init_64 fl_RX1_42 (fun _ => rfl) (fun _ => rfl) (fun _ => rfl) e13 ?_
  obtain rfl := Option.some.inj hf
  exact V.vret dX1_init_67

def f_X1_at (h : xH) (l0 : Int32) (l1 : Int32) (l2 : Int32) : Option (Int32) := some (((((l0 * (16 : Int32)) + l1) * (16 : Int32)) + l2))
set_option maxRecDepth 20000 in
theorem w_X1_at (h : xH) (l0 : Int32) (l1 : Int32) (l2 : Int32) (r : Int32) (hf : f_X1_at h l0 l1 l2 = some r) : Ev 3 yX1_at cX1_at 3 (some .int) [] [.int l0, .int l1, .int l2] h (oI h r) := by
  refine Ev.of (by decide +kernel) (Nat.le_of_ble_eq_true rfl) ?_
  unfold f_X1_at at hf
  refine V.iload_n dX1_at_0 rfl 0 rfl ?_
  refine V.bipush (v := (16 : Int32)) dX1_at_1 (by decide) ?_
  refine V.imul dX1_at_3 ?_
  refine V.iload_n dX1_at_4 rfl 1 rfl ?_
  refine V.iadd dX1_at_5 ?_
  refine V.bipush (v := (16 : Int32)) dX1_at_6 (by decide) ?_
  refine V.imul dX1_at_8 ?_
  refine V.iload_n dX1_at_9 rfl 2 rfl ?_
  refine V.iadd dX1_at_10 ?_
  obtain rfl := Option.some.inj hf
  exact V.iret dX1_at_11

def f_X1_firstPlaces_65 (h : xH) (k3 : Nat → Int32 → Int32 → Int32 → Int32 → Option (Int32)) (k15 : Nat → Int32 → Int32 → Int32 → Int32 → Int32 → Option (Int32)) (l0 : Nat) (l1 : Int32) (l2 : Int32) (l3 : Int32) (l4 : Int32) (l5 : Int32) (l6 : Int32) : Option (Int32) := (gR h l0 1 8).bind fun v1 => (f_X1_at h l1 l4 l5).bind fun r2 => (ldI h .int v1 r2).bind fun v3 => (if (l6 + v3) = l3 then (some (((l4 * (16 : Int32)) + l5))) else (k15 l0 l1 l2 l3 l4 (l5 + 1)))
def f_X1_firstPlaces_15 (h : xH) (k3 : Nat → Int32 → Int32 → Int32 → Int32 → Option (Int32)) : Nat → Nat → Int32 → Int32 → Int32 → Int32 → Int32 → Option (Int32)
  | 0, _, _, _, _, _, _ => none
  | n + 1, l0, l1, l2, l3, l4, l5 => (gI h l0 1 5).bind fun v1 => (if v1 ≤ l5 then (k3 l0 l1 l2 l3 (l4 + 1)) else ((if l2 = (-1 : Int32) then (f_X1_firstPlaces_65 h k3 (f_X1_firstPlaces_15 h k3 n) l0 l1 l2 l3 l4 l5 (0 : Int32)) else ((gR h l0 1 7).bind fun v4 => (dvI l2 (16 : Int32)).bind fun v5 => (ldI h .int v4 ((v5 * (16 : Int32)) + l4)).bind fun v6 => (gR h l0 1 7).bind fun v7 => (rmI l2 (16 : Int32)).bind fun v8 => (ldI h .int v7 ((v8 * (16 : Int32)) + l5)).bind fun v9 => f_X1_firstPlaces_65 h k3 (f_X1_firstPlaces_15 h k3 n) l0 l1 l2 l3 l4 l5 (v6 + v9)))))
def f_X1_firstPlaces_3 (h : xH) : Nat → Nat → Int32 → Int32 → Int32 → Int32 → Option (Int32)
  | 0, _, _, _, _, _ => none
  | n + 1, l0, l1, l2, l3, l4 => (gI h l0 1 4).bind fun v1 => (if v1 ≤ l4 then (some ((-1 : Int32))) else (f_X1_firstPlaces_15 h (f_X1_firstPlaces_3 h n) xFU l0 l1 l2 l3 l4 (0 : Int32)))
def f_X1_firstPlaces (h : xH) (l0 : Nat) (l1 : Int32) (l2 : Int32) (l3 : Int32) : Option (Int32) := f_X1_firstPlaces_3 h xFU l0 l1 l2 l3 (0 : Int32)
set_option maxRecDepth 20000 in
theorem w_X1_firstPlaces_65 (h : xH) {k3 : Nat → Int32 → Int32 → Int32 → Int32 → Option (Int32)} (hk3 : ∀ (l0 : Nat) (l1 : Int32) (l2 : Int32) (l3 : Int32) (l4 : Int32) (r : Int32), k3 l0 l1 l2 l3 l4 = some r → V 4 yX1_firstPlaces cX1_firstPlaces 7 (some .int) [] none 3 [(0, .ref l0), (1, .int l1), (2, .int l2), (3, .int l3), (4, .int l4)] [] h (oI h r)) {k15 : Nat → Int32 → Int32 → Int32 → Int32 → Int32 → Option (Int32)} (hk15 : ∀ (l0 : Nat) (l1 : Int32) (l2 : Int32) (l3 : Int32) (l4 : Int32) (l5 : Int32) (r : Int32), k15 l0 l1 l2 l3 l4 l5 = some r → V 4 yX1_firstPlaces cX1_firstPlaces 7 (some .int) [] none 15 [(0, .ref l0), (1, .int l1), (2, .int l2), (3, .int l3), (4, .int l4), (5, .int l5)] [] h (oI h r)) (l0 : Nat) (l1 : Int32) (l2 : Int32) (l3 : Int32) (l4 : Int32) (l5 : Int32) (l6 : Int32) (r : Int32) (hf : f_X1_firstPlaces_65 h k3 k15 l0 l1 l2 l3 l4 l5 l6 = some r) : V 4 yX1_firstPlaces cX1_firstPlaces 7 (some .int) [] none 65 [(0, .ref l0), (1, .int l1), (2, .int l2), (3, .int l3), (4, .int l4), (5, .int l5), (6, .int l6)] [] h (oI h r) := by
  unfold f_X1_firstPlaces_65 at hf
  refine V.iload dX1_firstPlaces_65 6 rfl ?_
  refine V.aload_n dX1_firstPlaces_67 rfl 0 rfl ?_
  obtain ⟨v1, e1, hf⟩ := bS hf
  refine V.xgR dX1_firstPlaces_68 fl_RX1_39 e1 ?_
  refine V.iload_n dX1_firstPlaces_71 rfl 1 rfl ?_
  refine V.iload dX1_firstPlaces_72 4 rfl ?_
  refine V.iload dX1_firstPlaces_74 5 rfl ?_
  obtain ⟨r2, e2, hf⟩ := bS hf
  refine V.callS (As := [.int l1, .int l4, .int l5]) (st := [.ref v1, .int l6]) dX1_firstPlaces_76 cl_RX1_65 sw_yX1_at (by decide) rfl (Nat.le_of_ble_eq_true rfl) rfl (w_X1_at _ _ _ _ _ e2) ?_
  obtain ⟨v3, e3, hf⟩ := bS hf
  refine V.xldI dX1_firstPlaces_79 e3 ?_
  refine V.iadd dX1_firstPlaces_80 ?_
  refine V.iload_n dX1_firstPlaces_81 rfl 3 rfl ?_
  refine V.icmp_ne (tgt := 94) dX1_firstPlaces_82 (by decide) (fun c4 => ?_) (fun c4 => ?_)
  · rw [if_neg c4] at hf
    refine V.iinc (v := (l5 + 1)) (lv' := [(5, .int (l5 + 1)), (0, .ref l0), (1, .int l1), (2, .int l2), (3, .int l3), (4, .int l4), (6, .int l6)]) dX1_firstPlaces_94 5 rfl rfl (Nat.le_of_ble_eq_true rfl) rfl ?_
    refine V.goto (tgt := 15) dX1_firstPlaces_97 (by decide) ?_
    refine V.sub [1, 2, 3, 4, 5, 0] rfl ?_
    exact hk15 _ _ _ _ _ _ _ hf
  · rw [if_pos c4] at hf
    refine V.iload dX1_firstPlaces_85 4 rfl ?_
    refine V.bipush (v := (16 : Int32)) dX1_firstPlaces_87 (by decide) ?_
    refine V.imul dX1_firstPlaces_89 ?_
    refine V.iload dX1_firstPlaces_90 5 rfl ?_
    refine V.iadd dX1_firstPlaces_92 ?_
    obtain rfl := Option.some.inj hf
    exact V.iret dX1_firstPlaces_93

set_option maxRecDepth 20000 in
theorem w_X1_firstPlaces_15 (h : xH) {k3 : Nat → Int32 → Int32 → Int32 → Int32 → Option (Int32)} (hk3 : ∀ (l0 : Nat) (l1 : Int32) (l2 : Int32) (l3 : Int32) (l4 : Int32) (r : Int32), k3 l0 l1 l2 l3 l4 = some r → V 4 yX1_firstPlaces cX1_firstPlaces 7 (some .int) [] none 3 [(0, .ref l0), (1, .int l1), (2, .int l2), (3, .int l3), (4, .int l4)] [] h (oI h r)) : ∀ (n : Nat) (l0 : Nat) (l1 : Int32) (l2 : Int32) (l3 : Int32) (l4 : Int32) (l5 : Int32) (r : Int32), f_X1_firstPlaces_15 h k3 n l0 l1 l2 l3 l4 l5 = some r → V 4 yX1_firstPlaces cX1_firstPlaces 7 (some .int) [] none 15 [(0, .ref l0), (1, .int l1), (2, .int l2), (3, .int l3), (4, .int l4), (5, .int l5)] [] h (oI h r) := by
  intro n
  induction n with
  | zero => intro l0 l1 l2 l3 l4 l5 r hf; cases hf
  | succ n ih =>
    intro l0 l1 l2 l3 l4 l5 r hf
    rw [f_X1_firstPlaces_15] at hf
    refine V.iload dX1_firstPlaces_15 5 rfl ?_
    refine V.aload_n dX1_firstPlaces_17 rfl 0 rfl ?_
    obtain ⟨v1, e4, hf⟩ := bS hf
    refine V.xgI dX1_firstPlaces_18 fl_RX1_28 e4 ?_
    refine V.icmp_ge (tgt := 100) dX1_firstPlaces_21 (by decide) (fun c2 => ?_) (fun c2 => ?_)
    · rw [if_pos c2] at hf
      refine V.iinc (v := (l4 + 1)) (lv' := [(4, .int (l4 + 1)), (0, .ref l0), (1, .int l1), (2, .int l2), (3, .int l3), (5, .int l5)]) dX1_firstPlaces_100 4 rfl rfl (Nat.le_of_ble_eq_true rfl) rfl ?_
      refine V.goto (tgt := 3) dX1_firstPlaces_103 (by decide) ?_
      refine V.sub [1, 2, 3, 4, 0] rfl ?_
      exact hk3 _ _ _ _ _ _ hf
    · rw [if_neg c2] at hf
      refine V.iconst (v := (0 : Int32)) dX1_firstPlaces_24 (by decide) ?_
      refine V.istore (lv' := [(6, .int (0 : Int32)), (0, .ref l0), (1, .int l1), (2, .int l2), (3, .int l3), (4, .int l4), (5, .int l5)]) dX1_firstPlaces_25 (by decide) rfl ?_
      refine V.iload_n dX1_firstPlaces_27 rfl 3 rfl ?_
      refine V.iconst (v := (-1 : Int32)) dX1_firstPlaces_28 (by decide) ?_
      refine V.icmp_eq (tgt := 65) dX1_firstPlaces_29 (by decide) (fun c3 => ?_) (fun c3 => ?_)
      · rw [if_pos c3] at hf
        refine V.sub [1, 2, 3, 4, 5, 6, 0] rfl ?_
        exact w_X1_firstPlaces_65 _ hk3 ih _ _ _ _ _ _ _ _ hf
      · rw [if_neg c3] at hf
        refine V.aload_n dX1_firstPlaces_32 rfl 1 rfl ?_
        obtain ⟨v4, e5, hf⟩ := bS hf
        refine V.xgR dX1_firstPlaces_33 fl_RX1_35 e5 ?_
        refine V.iload_n dX1_firstPlaces_36 rfl 3 rfl ?_
        refine V.bipush (v := (16 : Int32)) dX1_firstPlaces_37 (by decide) ?_
        obtain ⟨v5, e6, hf⟩ := bS hf
        refine V.xdvI dX1_firstPlaces_39 e6 ?_
        refine V.bipush (v := (16 : Int32)) dX1_firstPlaces_40 (by decide) ?_
        refine V.imul dX1_firstPlaces_42 ?_
        refine V.iload dX1_firstPlaces_43 5 rfl ?_
        refine V.iadd dX1_firstPlaces_45 ?_
        obtain ⟨v6, e7, hf⟩ := bS hf
        refine V.xldI dX1_firstPlaces_46 e7 ?_
        refine V.aload_n dX1_firstPlaces_47 rfl 1 rfl ?_
        obtain ⟨v7, e8, hf⟩ := bS hf
        refine V.xgR dX1_firstPlaces_48 fl_RX1_35 e8 ?_
        refine V.iload_n dX1_firstPlaces_51 rfl 3 rfl ?_
        refine V.bipush (v := (16 : Int32)) dX1_firstPlaces_52 (by decide) ?_
        obtain ⟨v8, e9, hf⟩ := bS hf
        refine V.xrmI dX1_firstPlaces_54 e9 ?_
        refine V.bipush (v := (16 : Int32)) dX1_firstPlaces_55 (by decide) ?_
        refine V.imul dX1_firstPlaces_57 ?_
        refine V.iload dX1_firstPlaces_58 6 rfl ?_
        refine V.iadd dX1_firstPlaces_60 ?_
        obtain ⟨v9, e10, hf⟩ := bS hf
        refine V.xldI dX1_firstPlaces_61 e10 ?_
        refine V.iadd dX1_firstPlaces_62 ?_
        refine V.istore (lv' := [(6, .int (v6 + v9)), (0, .ref l0), (1, .int l1), (2, .int l2), (3, .int l3), (4, .int l4), (5, .int l5)]) dX1_firstPlaces_63 (by decide) rfl ?_
        refine V.sub [1, 2, 3, 4, 5, 6, 0] rfl ?_
        exact w_X1_firstPlaces_65 _ hk3 ih _ _ _ _ _ _ _ _ hf

set_option maxRecDepth 20000 in
theorem w_X1_firstPlaces_3 (h : xH) : ∀ (n : Nat) (l0 : Nat) (l1 : Int32) (l2 : Int32) (l3 : Int32) (l4 : Int32) (r : Int32), f_X1_firstPlaces_3 h n l0 l1 l2 l3 l4 = some r → V 4 yX1_firstPlaces cX1_firstPlaces 7 (some .int) [] none 3 [(0, .ref l0), (1, .int l1), (2, .int l2), (3, .int l3), (4, .int l4)] [] h (oI h r) := by
  intro n
  induction n with
  | zero => intro l0 l1 l2 l3 l4 r hf; cases hf
  | succ n ih =>
    intro l0 l1 l2 l3 l4 r hf
    rw [f_X1_firstPlaces_3] at hf
    refine V.iload dX1_firstPlaces_3 4 rfl ?_
    refine V.aload_n dX1_firstPlaces_5 rfl 0 rfl ?_
    obtain ⟨v1, e11, hf⟩ := bS hf
    refine V.xgI dX1_firstPlaces_6 fl_RX1_25 e11 ?_
    refine V.icmp_ge (tgt := 106) dX1_firstPlaces_9 (by decide) (fun c2 => ?_) (fun c2 => ?_)
    · rw [if_pos c2] at hf
      refine V.iconst (v := (-1 : Int32)) dX1_firstPlaces_106 (by decide) ?_
      obtain rfl := Option.some.inj hf
      exact V.iret dX1_firstPlaces_107
    · rw [if_neg c2] at hf
      refine V.iconst (v := (0 : Int32)) dX1_firstPlaces_12 (by decide) ?_
      refine V.istore (lv' := [(5, .int (0 : Int32)), (0, .ref l0), (1, .int l1), (2, .int l2), (3, .int l3), (4, .int l4)]) dX1_firstPlaces_13 (by decide) rfl ?_
      refine V.sub [1, 2, 3, 4, 5, 0] rfl ?_
      exact w_X1_firstPlaces_15 h ih _ _ _ _ _ _ _ _ hf

set_option maxRecDepth 20000 in
theorem w_X1_firstPlaces (h : xH) (l0 : Nat) (l1 : Int32) (l2 : Int32) (l3 : Int32) (r : Int32) (hf : f_X1_firstPlaces h l0 l1 l2 l3 = some r) : Ev 4 yX1_firstPlaces cX1_firstPlaces 7 (some .int) [] [.ref l0, .int l1, .int l2, .int l3] h (oI h r) := by
  refine Ev.of (by decide +kernel) (Nat.le_of_ble_eq_true rfl) ?_
  unfold f_X1_firstPlaces at hf
  refine V.iconst (v := (0 : Int32)) dX1_firstPlaces_0 (by decide) ?_
  refine V.istore (lv' := [(4, .int (0 : Int32)), (0, .ref l0), (1, .int l1), (2, .int l2), (3, .int l3)]) dX1_firstPlaces_1 (by decide) rfl ?_
  refine V.sub [1, 2, 3, 4, 0] rfl ?_
  exact w_X1_firstPlaces_3 h _ _ _ _ _ _ _ hf

def f_X1_placeOf_63 (h : xH) (l1 : Int32) (l3 : Int32) : Option (Int32) := (if l1 = 0 then ((dvI l3 (16 : Int32)).bind fun v3 => some (v3)) else ((rmI l3 (16 : Int32)).bind fun v2 => some (v2)))
def f_X1_placeOf_22 (h : xH) : Nat → Nat → Int32 → Int32 → Int32 → Int32 → Option (Int32)
  | 0, _, _, _, _, _ => none
  | n + 1, l0, l1, l2, l3, l4 => (if l2 < l4 then (f_X1_placeOf_63 h l1 l3) else ((if l3 = (-1 : Int32) then (f_X1_placeOf_63 h l1 l3) else ((gR h l0 1 8).bind fun v3 => (f_X1_at h (l4 - (1 : Int32)) (0 : Int32) (0 : Int32)).bind fun r4 => (ldI h .int v3 (r4 + l3)).bind fun v5 => (gO h l0 1).bind fun q6 => (f_X1_firstPlaces h l0 l4 l3 v5).bind fun r7 => f_X1_placeOf_22 h n l0 l1 l2 r7 (l4 + 1)))))
def f_X1_placeOf (h : xH) (l0 : Nat) (l1 : Int32) (l2 : Int32) : Option (Int32) := (gI h l0 1 2).bind fun v1 => (gI h l0 1 6).bind fun v2 => (gO h l0 1).bind fun q3 => (f_X1_firstPlaces h l0 v1 (-1 : Int32) v2).bind fun r4 => (gI h l0 1 2).bind fun v5 => f_X1_placeOf_22 h xFU l0 l1 l2 r4 (v5 + (1 : Int32))
set_option maxRecDepth 20000 in
theorem w_X1_placeOf_63 (h : xH) (l1 : Int32) (l3 : Int32) (r : Int32) (hf : f_X1_placeOf_63 h l1 l3 = some r) : V 5 yX1_placeOf cX1_placeOf 5 (some .int) [] none 63 [(1, .int l1), (3, .int l3)] [] h (oI h r) := by
  unfold f_X1_placeOf_63 at hf
  refine V.iload_n dX1_placeOf_63 rfl 0 rfl ?_
  refine V.if_ne (tgt := 74) dX1_placeOf_64 (by decide) (fun c1 => ?_) (fun c1 => ?_)
  · rw [if_neg c1] at hf
    refine V.iload_n dX1_placeOf_74 rfl 1 rfl ?_
    refine V.bipush (v := (16 : Int32)) dX1_placeOf_75 (by decide) ?_
    obtain ⟨v2, e1, hf⟩ := bS hf
    refine V.xrmI dX1_placeOf_77 e1 ?_
    obtain rfl := Option.some.inj hf
    exact V.iret dX1_placeOf_78
  · rw [if_pos c1] at hf
    refine V.iload_n dX1_placeOf_67 rfl 1 rfl ?_
    refine V.bipush (v := (16 : Int32)) dX1_placeOf_68 (by decide) ?_
    obtain ⟨v3, e2, hf⟩ := bS hf
    refine V.xdvI dX1_placeOf_70 e2 ?_
    refine V.goto (tgt := 78) dX1_placeOf_71 (by decide) ?_
    obtain rfl := Option.some.inj hf
    exact V.iret dX1_placeOf_78

set_option maxRecDepth 20000 in
theorem w_X1_placeOf_22 (h : xH) : ∀ (n : Nat) (l0 : Nat) (l1 : Int32) (l2 : Int32) (l3 : Int32) (l4 : Int32) (r : Int32), f_X1_placeOf_22 h n l0 l1 l2 l3 l4 = some r → V 5 yX1_placeOf cX1_placeOf 5 (some .int) [] none 22 [(0, .ref l0), (1, .int l1), (2, .int l2), (3, .int l3), (4, .int l4)] [] h (oI h r) := by
  intro n
  induction n with
  | zero => intro l0 l1 l2 l3 l4 r hf; cases hf
  | succ n ih =>
    intro l0 l1 l2 l3 l4 r hf
    rw [f_X1_placeOf_22] at hf
    refine V.iload dX1_placeOf_22 4 rfl ?_
    refine V.iload_n dX1_placeOf_24 rfl 2 rfl ?_
    refine V.icmp_gt (tgt := 63) dX1_placeOf_25 (by decide) (fun c1 => ?_) (fun c1 => ?_)
    · rw [if_pos c1] at hf
      refine V.sub [1, 3] rfl ?_
      exact w_X1_placeOf_63 _ _ _ _ hf
    · rw [if_neg c1] at hf
      refine V.iload_n dX1_placeOf_28 rfl 3 rfl ?_
      refine V.iconst (v := (-1 : Int32)) dX1_placeOf_29 (by decide) ?_
      refine V.icmp_eq (tgt := 63) dX1_placeOf_30 (by decide) (fun c2 => ?_) (fun c2 => ?_)
      · rw [if_pos c2] at hf
        refine V.sub [1, 3] rfl ?_
        exact w_X1_placeOf_63 _ _ _ _ hf
      · rw [if_neg c2] at hf
        refine V.aload_n dX1_placeOf_33 rfl 0 rfl ?_
        refine V.iload dX1_placeOf_34 4 rfl ?_
        refine V.iload_n dX1_placeOf_36 rfl 3 rfl ?_
        refine V.aload_n dX1_placeOf_37 rfl 0 rfl ?_
        obtain ⟨v3, e3, hf⟩ := bS hf
        refine V.xgR dX1_placeOf_38 fl_RX1_39 e3 ?_
        refine V.iload dX1_placeOf_41 4 rfl ?_
        refine V.iconst (v := (1 : Int32)) dX1_placeOf_43 (by decide) ?_
        refine V.isub dX1_placeOf_44 ?_
        refine V.iconst (v := (0 : Int32)) dX1_placeOf_45 (by decide) ?_
        refine V.iconst (v := (0 : Int32)) dX1_placeOf_46 (by decide) ?_
        obtain ⟨r4, e4, hf⟩ := bS hf
        refine V.callS (As := [.int (l4 - (1 : Int32)), .int (0 : Int32), .int (0 : Int32)]) (st := [.ref v3, .int l3, .int l4, .ref l0]) dX1_placeOf_47 cl_RX1_65 sw_yX1_at (by decide) rfl (Nat.le_of_ble_eq_true rfl) rfl (w_X1_at _ _ _ _ _ e4) ?_
        refine V.iload_n dX1_placeOf_50 rfl 3 rfl ?_
        refine V.iadd dX1_placeOf_51 ?_
        obtain ⟨v5, e5, hf⟩ := bS hf
        refine V.xldI dX1_placeOf_52 e5 ?_
        obtain ⟨q6, e6, hf⟩ := bS hf
        obtain ⟨r7, e7, hf⟩ := bS hf
        refine V.callV (As := [.int l4, .int l3, .int v5]) (st := []) dX1_placeOf_53 cl_RX1_92 sw_yX1_firstPlaces (by decide) rfl (Nat.le_of_ble_eq_true rfl) rfl (gO_some e6) rfl (w_X1_firstPlaces _ _ _ _ _ _ e7) ?_
        refine V.istore_n (lv' := [(3, .int r7), (0, .ref l0), (1, .int l1), (2, .int l2), (4, .int l4)]) dX1_placeOf_56 rfl (by decide) rfl ?_
        refine V.iinc (v := (l4 + 1)) (lv' := [(4, .int (l4 + 1)), (3, .int r7), (0, .ref l0), (1, .int l1), (2, .int l2)]) dX1_placeOf_57 4 rfl rfl (Nat.le_of_ble_eq_true rfl) rfl ?_
        refine V.goto (tgt := 22) dX1_placeOf_60 (by decide) ?_
        refine V.sub [2, 3, 4, 1, 0] rfl ?_
        exact ih _ _ _ _ _ _ hf

set_option maxRecDepth 20000 in
theorem w_X1_placeOf (h : xH) (l0 : Nat) (l1 : Int32) (l2 : Int32) (r : Int32) (hf : f_X1_placeOf h l0 l1 l2 = some r) : Ev 5 yX1_placeOf cX1_placeOf 5 (some .int) [] [.ref l0, .int l1, .int l2] h (oI h r) := by
  refine Ev.of (by decide +kernel) (Nat.le_of_ble_eq_true rfl) ?_
  unfold f_X1_placeOf at hf
  refine V.aload_n dX1_placeOf_0 rfl 0 rfl ?_
  refine V.aload_n dX1_placeOf_1 rfl 0 rfl ?_
  obtain ⟨v1, e8, hf⟩ := bS hf
  refine V.xgI dX1_placeOf_2 fl_RX1_19 e8 ?_
  refine V.iconst (v := (-1 : Int32)) dX1_placeOf_5 (by decide) ?_
  refine V.aload_n dX1_placeOf_6 rfl 0 rfl ?_
  obtain ⟨v2, e9, hf⟩ := bS hf
  refine V.xgI dX1_placeOf_7 fl_RX1_32 e9 ?_
  obtain ⟨q3, e10, hf⟩ := bS hf
  obtain ⟨r4, e11, hf⟩ := bS hf
  refine V.callV (As := [.int v1, .int (-1 : Int32), .int v2]) (st := []) dX1_placeOf_10 cl_RX1_92 sw_yX1_firstPlaces (by decide) rfl (Nat.le_of_ble_eq_true rfl) rfl (gO_some e10) rfl (w_X1_firstPlaces _ _ _ _ _ _ e11) ?_
  refine V.istore_n (lv' := [(3, .int r4), (0, .ref l0), (1, .int l1), (2, .int l2)]) dX1_placeOf_13 rfl (by decide) rfl ?_
  refine V.aload_n dX1_placeOf_14 rfl 1 rfl ?_
  obtain ⟨v5, e12, hf⟩ := bS hf
  refine V.xgI dX1_placeOf_15 fl_RX1_19 e12 ?_
  refine V.iconst (v := (1 : Int32)) dX1_placeOf_18 (by decide) ?_
  refine V.iadd dX1_placeOf_19 ?_
  refine V.istore (lv' := [(4, .int (v5 + (1 : Int32))), (3, .int r4), (0, .ref l0), (1, .int l1), (2, .int l2)]) dX1_placeOf_20 (by decide) rfl ?_
  refine V.sub [2, 3, 4, 1, 0] rfl ?_
  exact w_X1_placeOf_22 h _ _ _ _ _ _ _ hf

def f_X1_fillHalf_27 (k2 : xH → Nat → Int32 → Int32 → Option (xH)) (k12 : xH → Nat → Int32 → Int32 → Int32 → Option (xH)) : Nat → xH → Nat → Int32 → Int32 → Int32 → Int32 → Int32 → Option (xH)
  | 0, _, _, _, _, _, _, _ => none
  | n + 1, h, l0, l1, l2, l3, l4, l5 => (gI h l0 1 4).bind fun v1 => (if v1 ≤ l5 then ((gR h l0 1 9).bind fun v3 => (stI h .int v3 ((l2 * (16 : Int32)) + l3) l4).bind fun h4 => k12 h4 l0 l1 l2 (l3 + 1)) else ((gR h l0 1 7).bind fun v5 => (ldI h .int v5 ((l2 * (16 : Int32)) + l5)).bind fun v6 => (gR h l0 1 8).bind fun v7 => (f_X1_at h l1 l5 l3).bind fun r8 => (ldI h .int v7 r8).bind fun v9 => f_X1_fillHalf_27 k2 k12 n h l0 l1 l2 l3 (if (v6 + v9) < l4 then (v6 + v9) else l4) (l5 + 1)))
def f_X1_fillHalf_12 (k2 : xH → Nat → Int32 → Int32 → Option (xH)) : Nat → xH → Nat → Int32 → Int32 → Int32 → Option (xH)
  | 0, _, _, _, _, _ => none
  | n + 1, h, l0, l1, l2, l3 => (gI h l0 1 5).bind fun v1 => (if v1 ≤ l3 then (k2 h l0 l1 (l2 + 1)) else (f_X1_fillHalf_27 k2 (f_X1_fillHalf_12 k2 n) xFU h l0 l1 l2 l3 (1000000 : Int32) (0 : Int32)))
def f_X1_fillHalf_2 : Nat → xH → Nat → Int32 → Int32 → Option (xH)
  | 0, _, _, _, _ => none
  | n + 1, h, l0, l1, l2 => (gI h l0 1 4).bind fun v1 => (if v1 ≤ l2 then (some (h)) else (f_X1_fillHalf_12 (f_X1_fillHalf_2 n) xFU h l0 l1 l2 (0 : Int32)))
def f_X1_fillHalf (h : xH) (l0 : Nat) (l1 : Int32) : Option (xH) := f_X1_fillHalf_2 xFU h l0 l1 (0 : Int32)
set_option maxRecDepth 20000 in
theorem w_X1_fillHalf_27 {k2 : xH → Nat → Int32 → Int32 → Option (xH)} (hk2 : ∀ (h : xH) (l0 : Nat) (l1 : Int32) (l2 : Int32) (r : xH), k2 h l0 l1 l2 = some r → V 4 yX1_fillHalf cX1_fillHalf 6 none [] none 2 [(0, .ref l0), (1, .int l1), (2, .int l2)] [] h (oVh r)) {k12 : xH → Nat → Int32 → Int32 → Int32 → Option (xH)} (hk12 : ∀ (h : xH) (l0 : Nat) (l1 : Int32) (l2 : Int32) (l3 : Int32) (r : xH), k12 h l0 l1 l2 l3 = some r → V 4 yX1_fillHalf cX1_fillHalf 6 none [] none 12 [(0, .ref l0), (1, .int l1), (2, .int l2), (3, .int l3)] [] h (oVh r)) : ∀ (n : Nat) (h : xH) (l0 : Nat) (l1 : Int32) (l2 : Int32) (l3 : Int32) (l4 : Int32) (l5 : Int32) (r : xH), f_X1_fillHalf_27 k2 k12 n h l0 l1 l2 l3 l4 l5 = some r → V 4 yX1_fillHalf cX1_fillHalf 6 none [] none 27 [(0, .ref l0), (1, .int l1), (2, .int l2), (3, .int l3), (4, .int l4), (5, .int l5)] [] h (oVh r) := by
  intro n
  induction n with
  | zero => intro h l0 l1 l2 l3 l4 l5 r hf; cases hf
  | succ n ih =>
    intro h l0 l1 l2 l3 l4 l5 r hf
    rw [f_X1_fillHalf_27] at hf
    refine V.iload dX1_fillHalf_27 5 rfl ?_
    refine V.aload_n dX1_fillHalf_29 rfl 0 rfl ?_
    obtain ⟨v1, e1, hf⟩ := bS hf
    refine V.xgI dX1_fillHalf_30 fl_RX1_25 e1 ?_
    refine V.icmp_ge (tgt := 74) dX1_fillHalf_33 (by decide) (fun c2 => ?_) (fun c2 => ?_)
    · rw [if_pos c2] at hf
      refine V.aload_n dX1_fillHalf_74 rfl 0 rfl ?_
      obtain ⟨v3, e2, hf⟩ := bS hf
      refine V.xgR dX1_fillHalf_75 fl_RX1_42 e2 ?_
      refine V.iload_n dX1_fillHalf_78 rfl 2 rfl ?_
      refine V.bipush (v := (16 : Int32)) dX1_fillHalf_79 (by decide) ?_
      refine V.imul dX1_fillHalf_81 ?_
      refine V.iload_n dX1_fillHalf_82 rfl 3 rfl ?_
      refine V.iadd dX1_fillHalf_83 ?_
      refine V.iload dX1_fillHalf_84 4 rfl ?_
      obtain ⟨h4, e3, hf⟩ := bS hf
      refine V.xstI dX1_fillHalf_86 e3 ?_
      refine V.iinc (v := (l3 + 1)) (lv' := [(3, .int (l3 + 1)), (0, .ref l0), (1, .int l1), (2, .int l2), (4, .int l4), (5, .int l5)]) dX1_fillHalf_87 3 rfl rfl (Nat.le_of_ble_eq_true rfl) rfl ?_
      refine V.goto (tgt := 12) dX1_fillHalf_90 (by decide) ?_
      refine V.sub [1, 2, 3, 0] rfl ?_
      exact hk12 _ _ _ _ _ _ hf
    · rw [if_neg c2] at hf
      refine V.iload dX1_fillHalf_36 4 rfl ?_
      refine V.aload_n dX1_fillHalf_38 rfl 0 rfl ?_
      obtain ⟨v5, e4, hf⟩ := bS hf
      refine V.xgR dX1_fillHalf_39 fl_RX1_35 e4 ?_
      refine V.iload_n dX1_fillHalf_42 rfl 2 rfl ?_
      refine V.bipush (v := (16 : Int32)) dX1_fillHalf_43 (by decide) ?_
      refine V.imul dX1_fillHalf_45 ?_
      refine V.iload dX1_fillHalf_46 5 rfl ?_
      refine V.iadd dX1_fillHalf_48 ?_
      obtain ⟨v6, e5, hf⟩ := bS hf
      refine V.xldI dX1_fillHalf_49 e5 ?_
      refine V.aload_n dX1_fillHalf_50 rfl 0 rfl ?_
      obtain ⟨v7, e6, hf⟩ := bS hf
      refine V.xgR dX1_fillHalf_51 fl_RX1_39 e6 ?_
      refine V.iload_n dX1_fillHalf_54 rfl 1 rfl ?_
      refine V.iload dX1_fillHalf_55 5 rfl ?_
      refine V.iload_n dX1_fillHalf_57 rfl 3 rfl ?_
      obtain ⟨r8, e7, hf⟩ := bS hf
      refine V.callS (As := [.int l1, .int l5, .int l3]) (st := [.ref v7, .int v6, .int l4]) dX1_fillHalf_58 cl_RX1_65 sw_yX1_at (by decide) rfl (Nat.le_of_ble_eq_true rfl) rfl (w_X1_at _ _ _ _ _ e7) ?_
      obtain ⟨v9, e8, hf⟩ := bS hf
      refine V.xldI dX1_fillHalf_61 e8 ?_
      refine V.iadd dX1_fillHalf_62 ?_
      refine V.mmin dX1_fillHalf_63 ml_RX1_52 ms_min mi_ mc_min (Nat.le_of_ble_eq_true rfl) ?_
      refine V.istore (lv' := [(4, .int (if (v6 + v9) < l4 then (v6 + v9) else l4)), (0, .ref l0), (1, .int l1), (2, .int l2), (3, .int l3), (5, .int l5)]) dX1_fillHalf_66 (by decide) rfl ?_
      refine V.iinc (v := (l5 + 1)) (lv' := [(5, .int (l5 + 1)), (4, .int (if (v6 + v9) < l4 then (v6 + v9) else l4)), (0, .ref l0), (1, .int l1), (2, .int l2), (3, .int l3)]) dX1_fillHalf_68 5 rfl rfl (Nat.le_of_ble_eq_true rfl) rfl ?_
      refine V.goto (tgt := 27) dX1_fillHalf_71 (by decide) ?_
      refine V.sub [2, 3, 4, 5, 1, 0] rfl ?_
      exact ih _ _ _ _ _ _ _ _ hf

set_option maxRecDepth 20000 in
theorem w_X1_fillHalf_12 {k2 : xH → Nat → Int32 → Int32 → Option (xH)} (hk2 : ∀ (h : xH) (l0 : Nat) (l1 : Int32) (l2 : Int32) (r : xH), k2 h l0 l1 l2 = some r → V 4 yX1_fillHalf cX1_fillHalf 6 none [] none 2 [(0, .ref l0), (1, .int l1), (2, .int l2)] [] h (oVh r)) : ∀ (n : Nat) (h : xH) (l0 : Nat) (l1 : Int32) (l2 : Int32) (l3 : Int32) (r : xH), f_X1_fillHalf_12 k2 n h l0 l1 l2 l3 = some r → V 4 yX1_fillHalf cX1_fillHalf 6 none [] none 12 [(0, .ref l0), (1, .int l1), (2, .int l2), (3, .int l3)] [] h (oVh r) := by
  intro n
  induction n with
  | zero => intro h l0 l1 l2 l3 r hf; cases hf
  | succ n ih =>
    intro h l0 l1 l2 l3 r hf
    rw [f_X1_fillHalf_12] at hf
    refine V.iload_n dX1_fillHalf_12 rfl 3 rfl ?_
    refine V.aload_n dX1_fillHalf_13 rfl 0 rfl ?_
    obtain ⟨v1, e9, hf⟩ := bS hf
    refine V.xgI dX1_fillHalf_14 fl_RX1_28 e9 ?_
    refine V.icmp_ge (tgt := 93) dX1_fillHalf_17 (by decide) (fun c2 => ?_) (fun c2 => ?_)
    · rw [if_pos c2] at hf
      refine V.iinc (v := (l2 + 1)) (lv' := [(2, .int (l2 + 1)), (0, .ref l0), (1, .int l1), (3, .int l3)]) dX1_fillHalf_93 2 rfl rfl (Nat.le_of_ble_eq_true rfl) rfl ?_
      refine V.goto (tgt := 2) dX1_fillHalf_96 (by decide) ?_
      refine V.sub [1, 2, 0] rfl ?_
      exact hk2 _ _ _ _ _ hf
    · rw [if_neg c2] at hf
      refine V.ldc (v := 1000000) dX1_fillHalf_20 co_RX1_31 ?_
      refine V.istore (lv' := [(4, .int (1000000 : Int32)), (0, .ref l0), (1, .int l1), (2, .int l2), (3, .int l3)]) dX1_fillHalf_22 (by decide) rfl ?_
      refine V.iconst (v := (0 : Int32)) dX1_fillHalf_24 (by decide) ?_
      refine V.istore (lv' := [(5, .int (0 : Int32)), (4, .int (1000000 : Int32)), (0, .ref l0), (1, .int l1), (2, .int l2), (3, .int l3)]) dX1_fillHalf_25 (by decide) rfl ?_
      refine V.sub [2, 3, 4, 5, 1, 0] rfl ?_
      exact w_X1_fillHalf_27 hk2 ih _ _ _ _ _ _ _ _ _ hf

set_option maxRecDepth 20000 in
theorem w_X1_fillHalf_2 : ∀ (n : Nat) (h : xH) (l0 : Nat) (l1 : Int32) (l2 : Int32) (r : xH), f_X1_fillHalf_2 n h l0 l1 l2 = some r → V 4 yX1_fillHalf cX1_fillHalf 6 none [] none 2 [(0, .ref l0), (1, .int l1), (2, .int l2)] [] h (oVh r) := by
  intro n
  induction n with
  | zero => intro h l0 l1 l2 r hf; cases hf
  | succ n ih =>
    intro h l0 l1 l2 r hf
    rw [f_X1_fillHalf_2] at hf
    refine V.iload_n dX1_fillHalf_2 rfl 2 rfl ?_
    refine V.aload_n dX1_fillHalf_3 rfl 0 rfl ?_
    obtain ⟨v1, e10, hf⟩ := bS hf
    refine V.xgI dX1_fillHalf_4 fl_RX1_25 e10 ?_
    refine V.icmp_ge (tgt := 99) dX1_fillHalf_7 (by decide) (fun c2 => ?_) (fun c2 => ?_)
    · rw [if_pos c2] at hf
      obtain rfl := Option.some.inj hf
      exact V.vret dX1_fillHalf_99
    · rw [if_neg c2] at hf
      refine V.iconst (v := (0 : Int32)) dX1_fillHalf_10 (by decide) ?_
      refine V.istore_n (lv' := [(3, .int (0 : Int32)), (0, .ref l0), (1, .int l1), (2, .int l2)]) dX1_fillHalf_11 rfl (by decide) rfl ?_
      refine V.sub [1, 2, 3, 0] rfl ?_
      exact w_X1_fillHalf_12 ih _ _ _ _ _ _ _ hf

set_option maxRecDepth 20000 in
theorem w_X1_fillHalf (h : xH) (l0 : Nat) (l1 : Int32) (r : xH) (hf : f_X1_fillHalf h l0 l1 = some r) : Ev 4 yX1_fillHalf cX1_fillHalf 6 none [] [.ref l0, .int l1] h (oVh r) := by
  refine Ev.of (by decide +kernel) (Nat.le_of_ble_eq_true rfl) ?_
  unfold f_X1_fillHalf at hf
  refine V.iconst (v := (0 : Int32)) dX1_fillHalf_0 (by decide) ?_
  refine V.istore_n (lv' := [(2, .int (0 : Int32)), (0, .ref l0), (1, .int l1)]) dX1_fillHalf_1 rfl (by decide) rfl ?_
  refine V.sub [1, 2, 0] rfl ?_
  exact w_X1_fillHalf_2 _ _ _ _ _ _ hf

def f_X1_leastBehind_6 (h : xH) : Nat → Nat → Int32 → Int32 → Int32 → Int32 → Option (Int32)
  | 0, _, _, _, _, _ => none
  | n + 1, l0, l1, l2, l3, l4 => (gI h l0 1 5).bind fun v1 => (if v1 ≤ l4 then (some (l3)) else ((gR h l0 1 7).bind fun v3 => (ldI h .int v3 ((l2 * (16 : Int32)) + l4)).bind fun v4 => (gR h l0 1 9).bind fun v5 => (ldI h .int v5 ((l1 * (16 : Int32)) + l4)).bind fun v6 => f_X1_leastBehind_6 h n l0 l1 l2 (if (v4 + v6) < l3 then (v4 + v6) else l3) (l4 + 1)))
def f_X1_leastBehind (h : xH) (l0 : Nat) (l1 : Int32) (l2 : Int32) : Option (Int32) := f_X1_leastBehind_6 h xFU l0 l1 l2 (1000000 : Int32) (0 : Int32)
set_option maxRecDepth 20000 in
theorem w_X1_leastBehind_6 (h : xH) : ∀ (n : Nat) (l0 : Nat) (l1 : Int32) (l2 : Int32) (l3 : Int32) (l4 : Int32) (r : Int32), f_X1_leastBehind_6 h n l0 l1 l2 l3 l4 = some r → V 4 yX1_leastBehind cX1_leastBehind 5 (some .int) [] none 6 [(0, .ref l0), (1, .int l1), (2, .int l2), (3, .int l3), (4, .int l4)] [] h (oI h r) := by
  intro n
  induction n with
  | zero => intro l0 l1 l2 l3 l4 r hf; cases hf
  | succ n ih =>
    intro l0 l1 l2 l3 l4 r hf
    rw [f_X1_leastBehind_6] at hf
    refine V.iload dX1_leastBehind_6 4 rfl ?_
    refine V.aload_n dX1_leastBehind_8 rfl 0 rfl ?_
    obtain ⟨v1, e1, hf⟩ := bS hf
    refine V.xgI dX1_leastBehind_9 fl_RX1_28 e1 ?_
    refine V.icmp_ge (tgt := 51) dX1_leastBehind_12 (by decide) (fun c2 => ?_) (fun c2 => ?_)
    · rw [if_pos c2] at hf
      refine V.iload_n dX1_leastBehind_51 rfl 3 rfl ?_
      obtain rfl := Option.some.inj hf
      exact V.iret dX1_leastBehind_52
    · rw [if_neg c2] at hf
      refine V.iload_n dX1_leastBehind_15 rfl 3 rfl ?_
      refine V.aload_n dX1_leastBehind_16 rfl 0 rfl ?_
      obtain ⟨v3, e2, hf⟩ := bS hf
      refine V.xgR dX1_leastBehind_17 fl_RX1_35 e2 ?_
      refine V.iload_n dX1_leastBehind_20 rfl 2 rfl ?_
      refine V.bipush (v := (16 : Int32)) dX1_leastBehind_21 (by decide) ?_
      refine V.imul dX1_leastBehind_23 ?_
      refine V.iload dX1_leastBehind_24 4 rfl ?_
      refine V.iadd dX1_leastBehind_26 ?_
      obtain ⟨v4, e3, hf⟩ := bS hf
      refine V.xldI dX1_leastBehind_27 e3 ?_
      refine V.aload_n dX1_leastBehind_28 rfl 0 rfl ?_
      obtain ⟨v5, e4, hf⟩ := bS hf
      refine V.xgR dX1_leastBehind_29 fl_RX1_42 e4 ?_
      refine V.iload_n dX1_leastBehind_32 rfl 1 rfl ?_
      refine V.bipush (v := (16 : Int32)) dX1_leastBehind_33 (by decide) ?_
      refine V.imul dX1_leastBehind_35 ?_
      refine V.iload dX1_leastBehind_36 4 rfl ?_
      refine V.iadd dX1_leastBehind_38 ?_
      obtain ⟨v6, e5, hf⟩ := bS hf
      refine V.xldI dX1_leastBehind_39 e5 ?_
      refine V.iadd dX1_leastBehind_40 ?_
      refine V.mmin dX1_leastBehind_41 ml_RX1_52 ms_min mi_ mc_min (Nat.le_of_ble_eq_true rfl) ?_
      refine V.istore_n (lv' := [(3, .int (if (v4 + v6) < l3 then (v4 + v6) else l3)), (0, .ref l0), (1, .int l1), (2, .int l2), (4, .int l4)]) dX1_leastBehind_44 rfl (by decide) rfl ?_
      refine V.iinc (v := (l4 + 1)) (lv' := [(4, .int (l4 + 1)), (3, .int (if (v4 + v6) < l3 then (v4 + v6) else l3)), (0, .ref l0), (1, .int l1), (2, .int l2)]) dX1_leastBehind_45 4 rfl rfl (Nat.le_of_ble_eq_true rfl) rfl ?_
      refine V.goto (tgt := 6) dX1_leastBehind_48 (by decide) ?_
      refine V.sub [2, 3, 4, 1, 0] rfl ?_
      exact ih _ _ _ _ _ _ hf

set_option maxRecDepth 20000 in
theorem w_X1_leastBehind (h : xH) (l0 : Nat) (l1 : Int32) (l2 : Int32) (r : Int32) (hf : f_X1_leastBehind h l0 l1 l2 = some r) : Ev 4 yX1_leastBehind cX1_leastBehind 5 (some .int) [] [.ref l0, .int l1, .int l2] h (oI h r) := by
  refine Ev.of (by decide +kernel) (Nat.le_of_ble_eq_true rfl) ?_
  unfold f_X1_leastBehind at hf
  refine V.ldc (v := 1000000) dX1_leastBehind_0 co_RX1_31 ?_
  refine V.istore_n (lv' := [(3, .int (1000000 : Int32)), (0, .ref l0), (1, .int l1), (2, .int l2)]) dX1_leastBehind_2 rfl (by decide) rfl ?_
  refine V.iconst (v := (0 : Int32)) dX1_leastBehind_3 (by decide) ?_
  refine V.istore (lv' := [(4, .int (0 : Int32)), (3, .int (1000000 : Int32)), (0, .ref l0), (1, .int l1), (2, .int l2)]) dX1_leastBehind_4 (by decide) rfl ?_
  refine V.sub [2, 3, 4, 1, 0] rfl ?_
  exact w_X1_leastBehind_6 h _ _ _ _ _ _ _ hf

def f_X1_fillHour_103 (k18 : xH → Nat → Nat → Int32 → Int32 → Int32 → Option (xH)) (k30 : xH → Nat → Nat → Int32 → Int32 → Int32 → Int32 → Option (xH)) (h : xH) (l0 : Nat) (l1 : Nat) (l2 : Int32) (l3 : Int32) (l4 : Int32) (l5 : Int32) (l7 : Int32) : Option (xH) := (gR h l0 1 8).bind fun v1 => (f_X1_at h l2 l4 l5).bind fun r2 => (stI h .int v1 r2 l7).bind fun h3 => k30 h3 l0 l1 l2 l3 l4 (l5 + 1)
def f_X1_fillHour_101 (k18 : xH → Nat → Nat → Int32 → Int32 → Int32 → Option (xH)) (k30 : xH → Nat → Nat → Int32 → Int32 → Int32 → Int32 → Option (xH)) (h : xH) (l0 : Nat) (l1 : Nat) (l2 : Int32) (l3 : Int32) (l4 : Int32) (l5 : Int32) (s0 : Int32) : Option (xH) := f_X1_fillHour_103 k18 k30 h l0 l1 l2 l3 l4 l5 s0
def f_X1_fillHour_65 (k18 : xH → Nat → Nat → Int32 → Int32 → Int32 → Option (xH)) (k30 : xH → Nat → Nat → Int32 → Int32 → Int32 → Int32 → Option (xH)) (h : xH) (l0 : Nat) (l1 : Nat) (l2 : Int32) (l3 : Int32) (l4 : Int32) (l5 : Int32) (s0 : Int32) (s1 : Int32) : Option (xH) := (if (l3 &&& ((s1 ||| s0) ^^^ (-1 : Int32))) = 0 then ((gI h l0 1 3).bind fun v2 => (if v2 ≤ l2 then (f_X1_fillHour_101 k18 k30 h l0 l1 l2 l3 l4 l5 (0 : Int32)) else ((gO h l0 1).bind fun q4 => (f_X1_leastBehind h l0 l4 l5).bind fun r5 => f_X1_fillHour_101 k18 k30 h l0 l1 l2 l3 l4 l5 r5))) else (f_X1_fillHour_103 k18 k30 h l0 l1 l2 l3 l4 l5 (1000000 : Int32)))
def f_X1_fillHour_30 (k18 : xH → Nat → Nat → Int32 → Int32 → Int32 → Option (xH)) : Nat → xH → Nat → Nat → Int32 → Int32 → Int32 → Int32 → Option (xH)
  | 0, _, _, _, _, _, _, _ => none
  | n + 1, h, l0, l1, l2, l3, l4, l5 => (gI h l0 1 5).bind fun v1 => (if v1 ≤ l5 then (k18 h l0 l1 l2 l3 (l4 + 1)) else ((gR h l1 3 14).bind fun v3 => (ldI h .int v3 l4).bind fun v4 => (gI h l0 1 1).bind fun v5 => (if v5 = (2 : Int32) then ((gR h l1 3 14).bind fun v7 => (ldI h .int v7 l5).bind fun v8 => f_X1_fillHour_65 k18 (f_X1_fillHour_30 k18 n) h l0 l1 l2 l3 l4 l5 v8 v4) else (f_X1_fillHour_65 k18 (f_X1_fillHour_30 k18 n) h l0 l1 l2 l3 l4 l5 (0 : Int32) v4))))
def f_X1_fillHour_18 : Nat → xH → Nat → Nat → Int32 → Int32 → Int32 → Option (xH)
  | 0, _, _, _, _, _, _ => none
  | n + 1, h, l0, l1, l2, l3, l4 => (gI h l0 1 4).bind fun v1 => (if v1 ≤ l4 then (some (h)) else (f_X1_fillHour_30 (f_X1_fillHour_18 n) xFU h l0 l1 l2 l3 l4 (0 : Int32)))
def f_X1_fillHour_15 (h : xH) (l0 : Nat) (l1 : Nat) (l2 : Int32) (l3 : Int32) : Option (xH) := f_X1_fillHour_18 xFU h l0 l1 l2 l3 (0 : Int32)
def f_X1_fillHour (h : xH) (l0 : Nat) (l1 : Nat) (l2 : Int32) (l3 : Int32) : Option (xH) := (gI h l0 1 3).bind fun v1 => (if v1 ≤ l2 then (f_X1_fillHour_15 h l0 l1 l2 l3) else ((gO h l0 1).bind fun q3 => (f_X1_fillHalf h l0 (l2 + (1 : Int32))).bind fun r4 => f_X1_fillHour_15 r4 l0 l1 l2 l3))
set_option maxRecDepth 20000 in
theorem w_X1_fillHour_103 (h : xH) {k18 : xH → Nat → Nat → Int32 → Int32 → Int32 → Option (xH)} (hk18 : ∀ (h : xH) (l0 : Nat) (l1 : Nat) (l2 : Int32) (l3 : Int32) (l4 : Int32) (r : xH), k18 h l0 l1 l2 l3 l4 = some r → V 5 yX1_fillHour cX1_fillHour 8 none [] none 18 [(0, .ref l0), (1, .ref l1), (2, .int l2), (3, .int l3), (4, .int l4)] [] h (oVh r)) {k30 : xH → Nat → Nat → Int32 → Int32 → Int32 → Int32 → Option (xH)} (hk30 : ∀ (h : xH) (l0 : Nat) (l1 : Nat) (l2 : Int32) (l3 : Int32) (l4 : Int32) (l5 : Int32) (r : xH), k30 h l0 l1 l2 l3 l4 l5 = some r → V 5 yX1_fillHour cX1_fillHour 8 none [] none 30 [(0, .ref l0), (1, .ref l1), (2, .int l2), (3, .int l3), (4, .int l4), (5, .int l5)] [] h (oVh r)) (l0 : Nat) (l1 : Nat) (l2 : Int32) (l3 : Int32) (l4 : Int32) (l5 : Int32) (l7 : Int32) (r : xH) (hf : f_X1_fillHour_103 k18 k30 h l0 l1 l2 l3 l4 l5 l7 = some r) : V 5 yX1_fillHour cX1_fillHour 8 none [] none 103 [(0, .ref l0), (1, .ref l1), (2, .int l2), (3, .int l3), (4, .int l4), (5, .int l5), (7, .int l7)] [] h (oVh r) := by
  unfold f_X1_fillHour_103 at hf
  refine V.aload_n dX1_fillHour_103 rfl 0 rfl ?_
  obtain ⟨v1, e1, hf⟩ := bS hf
  refine V.xgR dX1_fillHour_104 fl_RX1_39 e1 ?_
  refine V.iload_n dX1_fillHour_107 rfl 2 rfl ?_
  refine V.iload dX1_fillHour_108 4 rfl ?_
  refine V.iload dX1_fillHour_110 5 rfl ?_
  obtain ⟨r2, e2, hf⟩ := bS hf
  refine V.callS (As := [.int l2, .int l4, .int l5]) (st := [.ref v1]) dX1_fillHour_112 cl_RX1_65 sw_yX1_at (by decide) rfl (Nat.le_of_ble_eq_true rfl) rfl (w_X1_at _ _ _ _ _ e2) ?_
  refine V.iload dX1_fillHour_115 6 rfl ?_
  obtain ⟨h3, e3, hf⟩ := bS hf
  refine V.xstI dX1_fillHour_117 e3 ?_
  refine V.iinc (v := (l5 + 1)) (lv' := [(5, .int (l5 + 1)), (0, .ref l0), (1, .ref l1), (2, .int l2), (3, .int l3), (4, .int l4), (7, .int l7)]) dX1_fillHour_118 5 rfl rfl (Nat.le_of_ble_eq_true rfl) rfl ?_
  refine V.goto (tgt := 30) dX1_fillHour_121 (by decide) ?_
  refine V.sub [1, 2, 3, 4, 5, 0] rfl ?_
  exact hk30 _ _ _ _ _ _ _ _ hf

set_option maxRecDepth 20000 in
theorem w_X1_fillHour_101 (h : xH) {k18 : xH → Nat → Nat → Int32 → Int32 → Int32 → Option (xH)} (hk18 : ∀ (h : xH) (l0 : Nat) (l1 : Nat) (l2 : Int32) (l3 : Int32) (l4 : Int32) (r : xH), k18 h l0 l1 l2 l3 l4 = some r → V 5 yX1_fillHour cX1_fillHour 8 none [] none 18 [(0, .ref l0), (1, .ref l1), (2, .int l2), (3, .int l3), (4, .int l4)] [] h (oVh r)) {k30 : xH → Nat → Nat → Int32 → Int32 → Int32 → Int32 → Option (xH)} (hk30 : ∀ (h : xH) (l0 : Nat) (l1 : Nat) (l2 : Int32) (l3 : Int32) (l4 : Int32) (l5 : Int32) (r : xH), k30 h l0 l1 l2 l3 l4 l5 = some r → V 5 yX1_fillHour cX1_fillHour 8 none [] none 30 [(0, .ref l0), (1, .ref l1), (2, .int l2), (3, .int l3), (4, .int l4), (5, .int l5)] [] h (oVh r)) (l0 : Nat) (l1 : Nat) (l2 : Int32) (l3 : Int32) (l4 : Int32) (l5 : Int32) (s0 : Int32) (r : xH) (hf : f_X1_fillHour_101 k18 k30 h l0 l1 l2 l3 l4 l5 s0 = some r) : V 5 yX1_fillHour cX1_fillHour 8 none [] none 101 [(0, .ref l0), (1, .ref l1), (2, .int l2), (3, .int l3), (4, .int l4), (5, .int l5)] [.int s0] h (oVh r) := by
  unfold f_X1_fillHour_101 at hf
  refine V.istore (lv' := [(7, .int s0), (0, .ref l0), (1, .ref l1), (2, .int l2), (3, .int l3), (4, .int l4), (5, .int l5)]) dX1_fillHour_101 (by decide) rfl ?_
  refine V.sub [1, 2, 3, 4, 5, 6, 0] rfl ?_
  exact w_X1_fillHour_103 _ hk18 hk30 _ _ _ _ _ _ _ _ hf

set_option maxRecDepth 20000 in
theorem w_X1_fillHour_65 (h : xH) {k18 : xH → Nat → Nat → Int32 → Int32 → Int32 → Option (xH)} (hk18 : ∀ (h : xH) (l0 : Nat) (l1 : Nat) (l2 : Int32) (l3 : Int32) (l4 : Int32) (r : xH), k18 h l0 l1 l2 l3 l4 = some r → V 5 yX1_fillHour cX1_fillHour 8 none [] none 18 [(0, .ref l0), (1, .ref l1), (2, .int l2), (3, .int l3), (4, .int l4)] [] h (oVh r)) {k30 : xH → Nat → Nat → Int32 → Int32 → Int32 → Int32 → Option (xH)} (hk30 : ∀ (h : xH) (l0 : Nat) (l1 : Nat) (l2 : Int32) (l3 : Int32) (l4 : Int32) (l5 : Int32) (r : xH), k30 h l0 l1 l2 l3 l4 l5 = some r → V 5 yX1_fillHour cX1_fillHour 8 none [] none 30 [(0, .ref l0), (1, .ref l1), (2, .int l2), (3, .int l3), (4, .int l4), (5, .int l5)] [] h (oVh r)) (l0 : Nat) (l1 : Nat) (l2 : Int32) (l3 : Int32) (l4 : Int32) (l5 : Int32) (s0 : Int32) (s1 : Int32) (r : xH) (hf : f_X1_fillHour_65 k18 k30 h l0 l1 l2 l3 l4 l5 s0 s1 = some r) : V 5 yX1_fillHour cX1_fillHour 8 none [] none 65 [(0, .ref l0), (1, .ref l1), (2, .int l2), (3, .int l3), (4, .int l4), (5, .int l5)] [.int s0, .int s1] h (oVh r) := by
  unfold f_X1_fillHour_65 at hf
  refine V.ior dX1_fillHour_65 ?_
  refine V.istore (lv' := [(6, .int (s1 ||| s0)), (0, .ref l0), (1, .ref l1), (2, .int l2), (3, .int l3), (4, .int l4), (5, .int l5)]) dX1_fillHour_66 (by decide) rfl ?_
  refine V.ldc (v := 1000000) dX1_fillHour_68 co_RX1_31 ?_
  refine V.istore (lv' := [(7, .int (1000000 : Int32)), (6, .int (s1 ||| s0)), (0, .ref l0), (1, .ref l1), (2, .int l2), (3, .int l3), (4, .int l4), (5, .int l5)]) dX1_fillHour_70 (by decide) rfl ?_
  refine V.iload_n dX1_fillHour_72 rfl 5 rfl ?_
  refine V.iload dX1_fillHour_73 1 rfl ?_
  refine V.iconst (v := (-1 : Int32)) dX1_fillHour_75 (by decide) ?_
  refine V.ixor dX1_fillHour_76 ?_
  refine V.iand dX1_fillHour_77 ?_
  refine V.if_ne (tgt := 103) dX1_fillHour_78 (by decide) (fun c1 => ?_) (fun c1 => ?_)
  · rw [if_neg c1] at hf
    refine V.sub [2, 3, 4, 5, 6, 7, 0] rfl ?_
    exact w_X1_fillHour_103 _ hk18 hk30 _ _ _ _ _ _ _ _ hf
  · rw [if_pos c1] at hf
    refine V.iload_n dX1_fillHour_81 rfl 4 rfl ?_
    refine V.aload_n dX1_fillHour_82 rfl 2 rfl ?_
    obtain ⟨v2, e4, hf⟩ := bS hf
    refine V.xgI dX1_fillHour_83 fl_RX1_22 e4 ?_
    refine V.icmp_ge (tgt := 100) dX1_fillHour_86 (by decide) (fun c3 => ?_) (fun c3 => ?_)
    · rw [if_pos c3] at hf
      refine V.iconst (v := (0 : Int32)) dX1_fillHour_100 (by decide) ?_
      refine V.sub [2, 3, 4, 5, 6, 7] rfl ?_
      exact w_X1_fillHour_101 _ hk18 hk30 _ _ _ _ _ _ _ _ hf
    · rw [if_neg c3] at hf
      refine V.aload_n dX1_fillHour_89 rfl 2 rfl ?_
      refine V.iload dX1_fillHour_90 6 rfl ?_
      refine V.iload dX1_fillHour_92 7 rfl ?_
      obtain ⟨q4, e5, hf⟩ := bS hf
      obtain ⟨r5, e6, hf⟩ := bS hf
      refine V.callV (As := [.int l4, .int l5]) (st := []) dX1_fillHour_94 cl_RX1_89 sw_yX1_leastBehind (by decide) rfl (Nat.le_of_ble_eq_true rfl) rfl (gO_some e5) rfl (w_X1_leastBehind _ _ _ _ _ e6) ?_
      refine V.goto (tgt := 101) dX1_fillHour_97 (by decide) ?_
      refine V.sub [2, 3, 4, 5, 6, 7] rfl ?_
      exact w_X1_fillHour_101 _ hk18 hk30 _ _ _ _ _ _ _ _ hf

set_option maxRecDepth 20000 in
theorem w_X1_fillHour_30 {k18 : xH → Nat → Nat → Int32 → Int32 → Int32 → Option (xH)} (hk18 : ∀ (h : xH) (l0 : Nat) (l1 : Nat) (l2 : Int32) (l3 : Int32) (l4 : Int32) (r : xH), k18 h l0 l1 l2 l3 l4 = some r → V 5 yX1_fillHour cX1_fillHour 8 none [] none 18 [(0, .ref l0), (1, .ref l1), (2, .int l2), (3, .int l3), (4, .int l4)] [] h (oVh r)) : ∀ (n : Nat) (h : xH) (l0 : Nat) (l1 : Nat) (l2 : Int32) (l3 : Int32) (l4 : Int32) (l5 : Int32) (r : xH), f_X1_fillHour_30 k18 n h l0 l1 l2 l3 l4 l5 = some r → V 5 yX1_fillHour cX1_fillHour 8 none [] none 30 [(0, .ref l0), (1, .ref l1), (2, .int l2), (3, .int l3), (4, .int l4), (5, .int l5)] [] h (oVh r) := by
  intro n
  induction n with
  | zero => intro h l0 l1 l2 l3 l4 l5 r hf; cases hf
  | succ n ih =>
    intro h l0 l1 l2 l3 l4 l5 r hf
    rw [f_X1_fillHour_30] at hf
    refine V.iload dX1_fillHour_30 5 rfl ?_
    refine V.aload_n dX1_fillHour_32 rfl 0 rfl ?_
    obtain ⟨v1, e7, hf⟩ := bS hf
    refine V.xgI dX1_fillHour_33 fl_RX1_28 e7 ?_
    refine V.icmp_ge (tgt := 124) dX1_fillHour_36 (by decide) (fun c2 => ?_) (fun c2 => ?_)
    · rw [if_pos c2] at hf
      refine V.iinc (v := (l4 + 1)) (lv' := [(4, .int (l4 + 1)), (0, .ref l0), (1, .ref l1), (2, .int l2), (3, .int l3), (5, .int l5)]) dX1_fillHour_124 4 rfl rfl (Nat.le_of_ble_eq_true rfl) rfl ?_
      refine V.goto (tgt := 18) dX1_fillHour_127 (by decide) ?_
      refine V.sub [1, 2, 3, 4, 0] rfl ?_
      exact hk18 _ _ _ _ _ _ _ hf
    · rw [if_neg c2] at hf
      refine V.aload_n dX1_fillHour_39 rfl 1 rfl ?_
      obtain ⟨v3, e8, hf⟩ := bS hf
      refine V.rgR dX1_fillHour_40 fl_RX1_86 e8 ?_
      refine V.iload dX1_fillHour_43 4 rfl ?_
      obtain ⟨v4, e9, hf⟩ := bS hf
      refine V.xldI dX1_fillHour_45 e9 ?_
      refine V.aload_n dX1_fillHour_46 rfl 0 rfl ?_
      obtain ⟨v5, e10, hf⟩ := bS hf
      refine V.xgI dX1_fillHour_47 fl_RX1_15 e10 ?_
      refine V.iconst (v := (2 : Int32)) dX1_fillHour_50 (by decide) ?_
      refine V.icmp_ne (tgt := 64) dX1_fillHour_51 (by decide) (fun c6 => ?_) (fun c6 => ?_)
      · rw [if_neg c6] at hf
        refine V.iconst (v := (0 : Int32)) dX1_fillHour_64 (by decide) ?_
        exact w_X1_fillHour_65 _ hk18 ih _ _ _ _ _ _ _ _ _ hf
      · rw [if_pos c6] at hf
        refine V.aload_n dX1_fillHour_54 rfl 1 rfl ?_
        obtain ⟨v7, e11, hf⟩ := bS hf
        refine V.rgR dX1_fillHour_55 fl_RX1_86 e11 ?_
        refine V.iload dX1_fillHour_58 5 rfl ?_
        obtain ⟨v8, e12, hf⟩ := bS hf
        refine V.xldI dX1_fillHour_60 e12 ?_
        refine V.goto (tgt := 65) dX1_fillHour_61 (by decide) ?_
        exact w_X1_fillHour_65 _ hk18 ih _ _ _ _ _ _ _ _ _ hf

set_option maxRecDepth 20000 in
theorem w_X1_fillHour_18 : ∀ (n : Nat) (h : xH) (l0 : Nat) (l1 : Nat) (l2 : Int32) (l3 : Int32) (l4 : Int32) (r : xH), f_X1_fillHour_18 n h l0 l1 l2 l3 l4 = some r → V 5 yX1_fillHour cX1_fillHour 8 none [] none 18 [(0, .ref l0), (1, .ref l1), (2, .int l2), (3, .int l3), (4, .int l4)] [] h (oVh r) := by
  intro n
  induction n with
  | zero => intro h l0 l1 l2 l3 l4 r hf; cases hf
  | succ n ih =>
    intro h l0 l1 l2 l3 l4 r hf
    rw [f_X1_fillHour_18] at hf
    refine V.iload dX1_fillHour_18 4 rfl ?_
    refine V.aload_n dX1_fillHour_20 rfl 0 rfl ?_
    obtain ⟨v1, e13, hf⟩ := bS hf
    refine V.xgI dX1_fillHour_21 fl_RX1_25 e13 ?_
    refine V.icmp_ge (tgt := 130) dX1_fillHour_24 (by decide) (fun c2 => ?_) (fun c2 => ?_)
    · rw [if_pos c2] at hf
      obtain rfl := Option.some.inj hf
      exact V.vret dX1_fillHour_130
    · rw [if_neg c2] at hf
      refine V.iconst (v := (0 : Int32)) dX1_fillHour_27 (by decide) ?_
      refine V.istore (lv' := [(5, .int (0 : Int32)), (0, .ref l0), (1, .ref l1), (2, .int l2), (3, .int l3), (4, .int l4)]) dX1_fillHour_28 (by decide) rfl ?_
      refine V.sub [1, 2, 3, 4, 5, 0] rfl ?_
      exact w_X1_fillHour_30 ih _ _ _ _ _ _ _ _ _ hf

set_option maxRecDepth 20000 in
theorem w_X1_fillHour_15 (h : xH) (l0 : Nat) (l1 : Nat) (l2 : Int32) (l3 : Int32) (r : xH) (hf : f_X1_fillHour_15 h l0 l1 l2 l3 = some r) : V 5 yX1_fillHour cX1_fillHour 8 none [] none 15 [(0, .ref l0), (1, .ref l1), (2, .int l2), (3, .int l3)] [] h (oVh r) := by
  unfold f_X1_fillHour_15 at hf
  refine V.iconst (v := (0 : Int32)) dX1_fillHour_15 (by decide) ?_
  refine V.istore (lv' := [(4, .int (0 : Int32)), (0, .ref l0), (1, .ref l1), (2, .int l2), (3, .int l3)]) dX1_fillHour_16 (by decide) rfl ?_
  refine V.sub [1, 2, 3, 4, 0] rfl ?_
  exact w_X1_fillHour_18 _ _ _ _ _ _ _ _ hf

set_option maxRecDepth 20000 in
theorem w_X1_fillHour (h : xH) (l0 : Nat) (l1 : Nat) (l2 : Int32) (l3 : Int32) (r : xH) (hf : f_X1_fillHour h l0 l1 l2 l3 = some r) : Ev 5 yX1_fillHour cX1_fillHour 8 none [] [.ref l0, .ref l1, .int l2, .int l3] h (oVh r) := by
  refine Ev.of (by decide +kernel) (Nat.le_of_ble_eq_true rfl) ?_
  unfold f_X1_fillHour at hf
  refine V.iload_n dX1_fillHour_0 rfl 2 rfl ?_
  refine V.aload_n dX1_fillHour_1 rfl 0 rfl ?_
  obtain ⟨v1, e14, hf⟩ := bS hf
  refine V.xgI dX1_fillHour_2 fl_RX1_22 e14 ?_
  refine V.icmp_ge (tgt := 15) dX1_fillHour_5 (by decide) (fun c2 => ?_) (fun c2 => ?_)
  · rw [if_pos c2] at hf
    exact w_X1_fillHour_15 _ _ _ _ _ _ hf
  · rw [if_neg c2] at hf
    refine V.aload_n dX1_fillHour_8 rfl 0 rfl ?_
    refine V.iload_n dX1_fillHour_9 rfl 2 rfl ?_
    refine V.iconst (v := (1 : Int32)) dX1_fillHour_10 (by decide) ?_
    refine V.iadd dX1_fillHour_11 ?_
    obtain ⟨q3, e15, hf⟩ := bS hf
    obtain ⟨r4, e16, hf⟩ := bS hf
    refine V.callV (As := [.int (l2 + (1 : Int32))]) (st := []) dX1_fillHour_12 cl_RX1_82 sw_yX1_fillHalf (by decide) rfl (Nat.le_of_ble_eq_true rfl) rfl (gO_some e15) rfl (w_X1_fillHalf _ _ _ _ e16) ?_
    exact w_X1_fillHour_15 _ _ _ _ _ _ hf

def f_X1_least_16 (h : xH) (k5 : Nat → Int32 → Int32 → Int32 → Option (Int32)) : Nat → Nat → Int32 → Int32 → Int32 → Int32 → Option (Int32)
  | 0, _, _, _, _, _ => none
  | n + 1, l0, l1, l2, l3, l4 => (gI h l0 1 5).bind fun v1 => (if v1 ≤ l4 then (k5 l0 l1 l2 (l3 + 1)) else ((gR h l0 1 8).bind fun v3 => (f_X1_at h l1 l3 l4).bind fun r4 => (ldI h .int v3 r4).bind fun v5 => f_X1_least_16 h k5 n l0 l1 (if v5 < l2 then v5 else l2) l3 (l4 + 1)))
def f_X1_least_5 (h : xH) : Nat → Nat → Int32 → Int32 → Int32 → Option (Int32)
  | 0, _, _, _, _ => none
  | n + 1, l0, l1, l2, l3 => (gI h l0 1 4).bind fun v1 => (if v1 ≤ l3 then (some (l2)) else (f_X1_least_16 h (f_X1_least_5 h n) xFU l0 l1 l2 l3 (0 : Int32)))
def f_X1_least (h : xH) (l0 : Nat) (l1 : Int32) : Option (Int32) := f_X1_least_5 h xFU l0 l1 (1000000 : Int32) (0 : Int32)
set_option maxRecDepth 20000 in
theorem w_X1_least_16 (h : xH) {k5 : Nat → Int32 → Int32 → Int32 → Option (Int32)} (hk5 : ∀ (l0 : Nat) (l1 : Int32) (l2 : Int32) (l3 : Int32) (r : Int32), k5 l0 l1 l2 l3 = some r → V 4 yX1_least cX1_least 5 (some .int) [] none 5 [(0, .ref l0), (1, .int l1), (2, .int l2), (3, .int l3)] [] h (oI h r)) : ∀ (n : Nat) (l0 : Nat) (l1 : Int32) (l2 : Int32) (l3 : Int32) (l4 : Int32) (r : Int32), f_X1_least_16 h k5 n l0 l1 l2 l3 l4 = some r → V 4 yX1_least cX1_least 5 (some .int) [] none 16 [(0, .ref l0), (1, .int l1), (2, .int l2), (3, .int l3), (4, .int l4)] [] h (oI h r) := by
  intro n
  induction n with
  | zero => intro l0 l1 l2 l3 l4 r hf; cases hf
  | succ n ih =>
    intro l0 l1 l2 l3 l4 r hf
    rw [f_X1_least_16] at hf
    refine V.iload dX1_least_16 4 rfl ?_
    refine V.aload_n dX1_least_18 rfl 0 rfl ?_
    obtain ⟨v1, e1, hf⟩ := bS hf
    refine V.xgI dX1_least_19 fl_RX1_28 e1 ?_
    refine V.icmp_ge (tgt := 48) dX1_least_22 (by decide) (fun c2 => ?_) (fun c2 => ?_)
    · rw [if_pos c2] at hf
      refine V.iinc (v := (l3 + 1)) (lv' := [(3, .int (l3 + 1)), (0, .ref l0), (1, .int l1), (2, .int l2), (4, .int l4)]) dX1_least_48 3 rfl rfl (Nat.le_of_ble_eq_true rfl) rfl ?_
      refine V.goto (tgt := 5) dX1_least_51 (by decide) ?_
      refine V.sub [1, 2, 3, 0] rfl ?_
      exact hk5 _ _ _ _ _ hf
    · rw [if_neg c2] at hf
      refine V.iload_n dX1_least_25 rfl 2 rfl ?_
      refine V.aload_n dX1_least_26 rfl 0 rfl ?_
      obtain ⟨v3, e2, hf⟩ := bS hf
      refine V.xgR dX1_least_27 fl_RX1_39 e2 ?_
      refine V.iload_n dX1_least_30 rfl 1 rfl ?_
      refine V.iload_n dX1_least_31 rfl 3 rfl ?_
      refine V.iload dX1_least_32 4 rfl ?_
      obtain ⟨r4, e3, hf⟩ := bS hf
      refine V.callS (As := [.int l1, .int l3, .int l4]) (st := [.ref v3, .int l2]) dX1_least_34 cl_RX1_65 sw_yX1_at (by decide) rfl (Nat.le_of_ble_eq_true rfl) rfl (w_X1_at _ _ _ _ _ e3) ?_
      obtain ⟨v5, e4, hf⟩ := bS hf
      refine V.xldI dX1_least_37 e4 ?_
      refine V.mmin dX1_least_38 ml_RX1_52 ms_min mi_ mc_min (Nat.le_of_ble_eq_true rfl) ?_
      refine V.istore_n (lv' := [(2, .int (if v5 < l2 then v5 else l2)), (0, .ref l0), (1, .int l1), (3, .int l3), (4, .int l4)]) dX1_least_41 rfl (by decide) rfl ?_
      refine V.iinc (v := (l4 + 1)) (lv' := [(4, .int (l4 + 1)), (2, .int (if v5 < l2 then v5 else l2)), (0, .ref l0), (1, .int l1), (3, .int l3)]) dX1_least_42 4 rfl rfl (Nat.le_of_ble_eq_true rfl) rfl ?_
      refine V.goto (tgt := 16) dX1_least_45 (by decide) ?_
      refine V.sub [2, 3, 1, 4, 0] rfl ?_
      exact ih _ _ _ _ _ _ hf

set_option maxRecDepth 20000 in
theorem w_X1_least_5 (h : xH) : ∀ (n : Nat) (l0 : Nat) (l1 : Int32) (l2 : Int32) (l3 : Int32) (r : Int32), f_X1_least_5 h n l0 l1 l2 l3 = some r → V 4 yX1_least cX1_least 5 (some .int) [] none 5 [(0, .ref l0), (1, .int l1), (2, .int l2), (3, .int l3)] [] h (oI h r) := by
  intro n
  induction n with
  | zero => intro l0 l1 l2 l3 r hf; cases hf
  | succ n ih =>
    intro l0 l1 l2 l3 r hf
    rw [f_X1_least_5] at hf
    refine V.iload_n dX1_least_5 rfl 3 rfl ?_
    refine V.aload_n dX1_least_6 rfl 0 rfl ?_
    obtain ⟨v1, e5, hf⟩ := bS hf
    refine V.xgI dX1_least_7 fl_RX1_25 e5 ?_
    refine V.icmp_ge (tgt := 54) dX1_least_10 (by decide) (fun c2 => ?_) (fun c2 => ?_)
    · rw [if_pos c2] at hf
      refine V.iload_n dX1_least_54 rfl 2 rfl ?_
      obtain rfl := Option.some.inj hf
      exact V.iret dX1_least_55
    · rw [if_neg c2] at hf
      refine V.iconst (v := (0 : Int32)) dX1_least_13 (by decide) ?_
      refine V.istore (lv' := [(4, .int (0 : Int32)), (0, .ref l0), (1, .int l1), (2, .int l2), (3, .int l3)]) dX1_least_14 (by decide) rfl ?_
      refine V.sub [1, 2, 3, 4, 0] rfl ?_
      exact w_X1_least_16 h ih _ _ _ _ _ _ _ hf

set_option maxRecDepth 20000 in
theorem w_X1_least (h : xH) (l0 : Nat) (l1 : Int32) (r : Int32) (hf : f_X1_least h l0 l1 = some r) : Ev 4 yX1_least cX1_least 5 (some .int) [] [.ref l0, .int l1] h (oI h r) := by
  refine Ev.of (by decide +kernel) (Nat.le_of_ble_eq_true rfl) ?_
  unfold f_X1_least at hf
  refine V.ldc (v := 1000000) dX1_least_0 co_RX1_31 ?_
  refine V.istore_n (lv' := [(2, .int (1000000 : Int32)), (0, .ref l0), (1, .int l1)]) dX1_least_2 rfl (by decide) rfl ?_
  refine V.iconst (v := (0 : Int32)) dX1_least_3 (by decide) ?_
  refine V.istore_n (lv' := [(3, .int (0 : Int32)), (2, .int (1000000 : Int32)), (0, .ref l0), (1, .int l1)]) dX1_least_4 rfl (by decide) rfl ?_
  refine V.sub [2, 3, 1, 0] rfl ?_
  exact w_X1_least_5 h _ _ _ _ _ _ hf

def f_X1_fillHours_72 (k37 : xH → Nat → Nat → Int32 → Option (xH)) (h : xH) (l0 : Nat) (l1 : Nat) (l2 : Int32) (s0 : Int32) (s1 : Int32) (s2 : Nat) : Option (xH) := (stI h .int s2 s1 s0).bind fun h1 => k37 h1 l0 l1 (l2 + 1)
def f_X1_fillHours_146 (k86 : xH → Nat → Nat → Int32 → Int32 → Option (xH)) (h : xH) (l0 : Nat) (l1 : Nat) (l3 : Int32) (l4 : Int32) : Option (xH) := (gO h l0 1).bind fun q1 => (f_X1_fillHour h l0 l1 l3 l4).bind fun r2 => k86 r2 l0 l1 l4 (l3 + (-1))
def f_X1_fillHours_86 : Nat → xH → Nat → Nat → Int32 → Int32 → Option (xH)
  | 0, _, _, _, _, _ => none
  | n + 1, h, l0, l1, l2, l3 => (gI h l0 1 2).bind fun v1 => (if l3 < v1 then ((gI h l0 1 2).bind fun v3 => (gO h l0 1).bind fun q4 => (f_X1_least h l0 v3).bind fun r5 => (pF h l0 1 6 (.int r5)).bind fun h6 => some (h6)) else ((gO h l1 3).bind fun q7 => (f_X3_needy h l1 l3).bind fun r8 => (gI h l0 1 3).bind fun v9 => (if v9 ≤ l3 then (f_X1_fillHours_146 (f_X1_fillHours_86 n) h l0 l1 l3 r8) else ((if r8 = l2 then ((gR h l0 1 8).bind fun v12 => (f_X1_at h (l3 + (1 : Int32)) (0 : Int32) (0 : Int32)).bind fun r13 => (gR h l0 1 8).bind fun v14 => (f_X1_at h l3 (0 : Int32) (0 : Int32)).bind fun r15 => (cpI h v12 r13 v14 r15 (256 : Int32)).bind fun h16 => f_X1_fillHours_86 n h16 l0 l1 r8 (l3 + (-1))) else (f_X1_fillHours_146 (f_X1_fillHours_86 n) h l0 l1 l3 r8))))))
def f_X1_fillHours_37 : Nat → xH → Nat → Nat → Int32 → Option (xH)
  | 0, _, _, _, _ => none
  | n + 1, h, l0, l1, l2 => (gR h l0 1 7).bind fun v1 => (aln h v1).bind fun v2 => (if v2 ≤ l2 then ((gI h l0 1 3).bind fun v4 => f_X1_fillHours_86 xFU h l0 l1 (0 : Int32) v4) else ((gR h l0 1 7).bind fun v5 => (gR h l1 3 15).bind fun v6 => (ldI h .int v6 l2).bind fun v7 => (if v7 = (-1 : Int32) then (f_X1_fillHours_72 (f_X1_fillHours_37 n) h l0 l1 l2 (1000000 : Int32) l2 v5) else ((gR h l1 3 15).bind fun v9 => (ldI h .int v9 l2).bind fun v10 => f_X1_fillHours_72 (f_X1_fillHours_37 n) h l0 l1 l2 v10 l2 v5))))
def f_X1_fillHours_32 (h : xH) (l0 : Nat) (l1 : Nat) (s0 : Int32) (s1 : Nat) : Option (xH) := (pF h s1 1 5 (.int s0)).bind fun h1 => f_X1_fillHours_37 xFU h1 l0 l1 (0 : Int32)
def f_X1_fillHours (h : xH) (l0 : Nat) (l1 : Nat) : Option (xH) := (gI h l1 3 1).bind fun v1 => (pF h l0 1 4 (.int v1)).bind fun h2 => (gI h2 l0 1 1).bind fun v3 => (if v3 = (2 : Int32) then ((gI h2 l0 1 4).bind fun v6 => f_X1_fillHours_32 h2 l0 l1 v6 l0) else ((gI h2 l0 1 4).bind fun v5 => f_X1_fillHours_32 h2 l0 l1 (if (1 : Int32) < v5 then (1 : Int32) else v5) l0))
set_option maxRecDepth 20000 in
theorem w_X1_fillHours_72 (h : xH) {k37 : xH → Nat → Nat → Int32 → Option (xH)} (hk37 : ∀ (h : xH) (l0 : Nat) (l1 : Nat) (l2 : Int32) (r : xH), k37 h l0 l1 l2 = some r → V 6 yX1_fillHours cX1_fillHours 5 none [] none 37 [(0, .ref l0), (1, .ref l1), (2, .int l2)] [] h (oVh r)) (l0 : Nat) (l1 : Nat) (l2 : Int32) (s0 : Int32) (s1 : Int32) (s2 : Nat) (r : xH) (hf : f_X1_fillHours_72 k37 h l0 l1 l2 s0 s1 s2 = some r) : V 6 yX1_fillHours cX1_fillHours 5 none [] none 72 [(0, .ref l0), (1, .ref l1), (2, .int l2)] [.int s0, .int s1, .ref s2] h (oVh r) := by
  unfold f_X1_fillHours_72 at hf
  obtain ⟨h1, e1, hf⟩ := bS hf
  refine V.xstI dX1_fillHours_72 e1 ?_
  refine V.iinc (v := (l2 + 1)) (lv' := [(2, .int (l2 + 1)), (0, .ref l0), (1, .ref l1)]) dX1_fillHours_73 2 rfl rfl (Nat.le_of_ble_eq_true rfl) rfl ?_
  refine V.goto (tgt := 37) dX1_fillHours_76 (by decide) ?_
  refine V.sub [1, 2, 0] rfl ?_
  exact hk37 _ _ _ _ _ hf

set_option maxRecDepth 20000 in
theorem w_X1_fillHours_146 (h : xH) {k86 : xH → Nat → Nat → Int32 → Int32 → Option (xH)} (hk86 : ∀ (h : xH) (l0 : Nat) (l1 : Nat) (l2 : Int32) (l3 : Int32) (r : xH), k86 h l0 l1 l2 l3 = some r → V 6 yX1_fillHours cX1_fillHours 5 none [] none 86 [(0, .ref l0), (1, .ref l1), (2, .int l2), (3, .int l3)] [] h (oVh r)) (l0 : Nat) (l1 : Nat) (l3 : Int32) (l4 : Int32) (r : xH) (hf : f_X1_fillHours_146 k86 h l0 l1 l3 l4 = some r) : V 6 yX1_fillHours cX1_fillHours 5 none [] none 146 [(0, .ref l0), (1, .ref l1), (3, .int l3), (4, .int l4)] [] h (oVh r) := by
  unfold f_X1_fillHours_146 at hf
  refine V.aload_n dX1_fillHours_146 rfl 0 rfl ?_
  refine V.aload_n dX1_fillHours_147 rfl 1 rfl ?_
  refine V.iload_n dX1_fillHours_148 rfl 2 rfl ?_
  refine V.iload dX1_fillHours_149 3 rfl ?_
  obtain ⟨q1, e2, hf⟩ := bS hf
  obtain ⟨r2, e3, hf⟩ := bS hf
  refine V.callV (As := [.ref l1, .int l3, .int l4]) (st := []) dX1_fillHours_151 cl_RX1_75 sw_yX1_fillHour (by decide) rfl (Nat.le_of_ble_eq_true rfl) rfl (gO_some e2) rfl (w_X1_fillHour _ _ _ _ _ _ e3) ?_
  refine V.iload dX1_fillHours_154 3 rfl ?_
  refine V.istore_n (lv' := [(2, .int l4), (0, .ref l0), (1, .ref l1), (3, .int l3), (4, .int l4)]) dX1_fillHours_156 rfl (by decide) rfl ?_
  refine V.iinc (v := (l3 + (-1))) (lv' := [(3, .int (l3 + (-1))), (2, .int l4), (0, .ref l0), (1, .ref l1), (4, .int l4)]) dX1_fillHours_157 3 rfl rfl (Nat.le_of_ble_eq_true rfl) rfl ?_
  refine V.goto (tgt := 86) dX1_fillHours_160 (by decide) ?_
  refine V.sub [2, 3, 1, 0] rfl ?_
  exact hk86 _ _ _ _ _ _ hf

set_option maxRecDepth 20000 in
theorem w_X1_fillHours_86 : ∀ (n : Nat) (h : xH) (l0 : Nat) (l1 : Nat) (l2 : Int32) (l3 : Int32) (r : xH), f_X1_fillHours_86 n h l0 l1 l2 l3 = some r → V 6 yX1_fillHours cX1_fillHours 5 none [] none 86 [(0, .ref l0), (1, .ref l1), (2, .int l2), (3, .int l3)] [] h (oVh r) := by
  intro n
  induction n with
  | zero => intro h l0 l1 l2 l3 r hf; cases hf
  | succ n ih =>
    intro h l0 l1 l2 l3 r hf
    rw [f_X1_fillHours_86] at hf
    refine V.iload_n dX1_fillHours_86 rfl 3 rfl ?_
    refine V.aload_n dX1_fillHours_87 rfl 0 rfl ?_
    obtain ⟨v1, e4, hf⟩ := bS hf
    refine V.xgI dX1_fillHours_88 fl_RX1_19 e4 ?_
    refine V.icmp_lt (tgt := 163) dX1_fillHours_91 (by decide) (fun c2 => ?_) (fun c2 => ?_)
    · rw [if_pos c2] at hf
      refine V.aload_n dX1_fillHours_163 rfl 0 rfl ?_
      refine V.aload_n dX1_fillHours_164 rfl 0 rfl ?_
      refine V.aload_n dX1_fillHours_165 rfl 0 rfl ?_
      obtain ⟨v3, e5, hf⟩ := bS hf
      refine V.xgI dX1_fillHours_166 fl_RX1_19 e5 ?_
      obtain ⟨q4, e6, hf⟩ := bS hf
      obtain ⟨r5, e7, hf⟩ := bS hf
      refine V.callV (As := [.int v3]) (st := [.ref l0]) dX1_fillHours_169 cl_RX1_79 sw_yX1_least (by decide) rfl (Nat.le_of_ble_eq_true rfl) rfl (gO_some e6) rfl (w_X1_least _ _ _ _ e7) ?_
      obtain ⟨h6, e8, hf⟩ := bS hf
      refine V.xpF dX1_fillHours_172 fl_RX1_32 (fun h9 => nomatch h9) (fun _ => rfl) (fun _ => rfl) e8 ?_
      obtain rfl := Option.some.inj hf
      exact V.vret dX1_fillHours_175
    · rw [if_neg c2] at hf
      refine V.aload_n dX1_fillHours_94 rfl 1 rfl ?_
      refine V.iload_n dX1_fillHours_95 rfl 3 rfl ?_
      obtain ⟨q7, e9, hf⟩ := bS hf
      obtain ⟨r8, e10, hf⟩ := bS hf
      refine V.callV (As := [.int l3]) (st := []) dX1_fillHours_96 cl_RX1_61 sw_yX3_needy (by decide) rfl (Nat.le_of_ble_eq_true rfl) rfl (gO_some e9) rfl (w_X3_needy _ _ _ _ e10) ?_
      refine V.istore (lv' := [(4, .int r8), (0, .ref l0), (1, .ref l1), (2, .int l2), (3, .int l3)]) dX1_fillHours_99 (by decide) rfl ?_
      refine V.iload_n dX1_fillHours_101 rfl 4 rfl ?_
      refine V.aload_n dX1_fillHours_102 rfl 1 rfl ?_
      obtain ⟨v9, e11, hf⟩ := bS hf
      refine V.xgI dX1_fillHours_103 fl_RX1_22 e11 ?_
      refine V.icmp_ge (tgt := 146) dX1_fillHours_106 (by decide) (fun c10 => ?_) (fun c10 => ?_)
      · rw [if_pos c10] at hf
        refine V.sub [1, 2, 4, 0] rfl ?_
        exact w_X1_fillHours_146 _ ih _ _ _ _ _ hf
      · rw [if_neg c10] at hf
        refine V.iload dX1_fillHours_109 0 rfl ?_
        refine V.iload_n dX1_fillHours_111 rfl 3 rfl ?_
        refine V.icmp_ne (tgt := 146) dX1_fillHours_112 (by decide) (fun c11 => ?_) (fun c11 => ?_)
        · rw [if_neg c11] at hf
          refine V.sub [1, 2, 4, 0] rfl ?_
          exact w_X1_fillHours_146 _ ih _ _ _ _ _ hf
        · rw [if_pos c11] at hf
          refine V.aload_n dX1_fillHours_115 rfl 1 rfl ?_
          obtain ⟨v12, e12, hf⟩ := bS hf
          refine V.xgR dX1_fillHours_116 fl_RX1_39 e12 ?_
          refine V.iload_n dX1_fillHours_119 rfl 4 rfl ?_
          refine V.iconst (v := (1 : Int32)) dX1_fillHours_120 (by decide) ?_
          refine V.iadd dX1_fillHours_121 ?_
          refine V.iconst (v := (0 : Int32)) dX1_fillHours_122 (by decide) ?_
          refine V.iconst (v := (0 : Int32)) dX1_fillHours_123 (by decide) ?_
          obtain ⟨r13, e13, hf⟩ := bS hf
          refine V.callS (As := [.int (l3 + (1 : Int32)), .int (0 : Int32), .int (0 : Int32)]) (st := [.ref v12]) dX1_fillHours_124 cl_RX1_65 sw_yX1_at (by decide) rfl (Nat.le_of_ble_eq_true rfl) rfl (w_X1_at _ _ _ _ _ e13) ?_
          refine V.aload_n dX1_fillHours_127 rfl 1 rfl ?_
          obtain ⟨v14, e14, hf⟩ := bS hf
          refine V.xgR dX1_fillHours_128 fl_RX1_39 e14 ?_
          refine V.iload_n dX1_fillHours_131 rfl 4 rfl ?_
          refine V.iconst (v := (0 : Int32)) dX1_fillHours_132 (by decide) ?_
          refine V.iconst (v := (0 : Int32)) dX1_fillHours_133 (by decide) ?_
          obtain ⟨r15, e15, hf⟩ := bS hf
          refine V.callS (As := [.int l3, .int (0 : Int32), .int (0 : Int32)]) (st := [.ref v14, .int r13, .ref v12]) dX1_fillHours_134 cl_RX1_65 sw_yX1_at (by decide) rfl (Nat.le_of_ble_eq_true rfl) rfl (w_X1_at _ _ _ _ _ e15) ?_
          refine V.sipush (v := (256 : Int32)) dX1_fillHours_137 (by decide) ?_
          obtain ⟨h16, e16, hf⟩ := bS hf
          refine V.xcpI dX1_fillHours_140 ac_RX1_69 ac_nat ac_st ac_in (Nat.le_of_ble_eq_true rfl) e16 ?_
          refine V.goto (tgt := 154) dX1_fillHours_143 (by decide) ?_
          refine V.iload dX1_fillHours_154 0 rfl ?_
          refine V.istore_n (lv' := [(2, .int r8), (4, .int r8), (0, .ref l0), (1, .ref l1), (3, .int l3)]) dX1_fillHours_156 rfl (by decide) rfl ?_
          refine V.iinc (v := (l3 + (-1))) (lv' := [(3, .int (l3 + (-1))), (2, .int r8), (4, .int r8), (0, .ref l0), (1, .ref l1)]) dX1_fillHours_157 4 rfl rfl (Nat.le_of_ble_eq_true rfl) rfl ?_
          refine V.goto (tgt := 86) dX1_fillHours_160 (by decide) ?_
          refine V.sub [3, 4, 1, 0] rfl ?_
          exact ih _ _ _ _ _ _ hf

set_option maxRecDepth 20000 in
theorem w_X1_fillHours_37 : ∀ (n : Nat) (h : xH) (l0 : Nat) (l1 : Nat) (l2 : Int32) (r : xH), f_X1_fillHours_37 n h l0 l1 l2 = some r → V 6 yX1_fillHours cX1_fillHours 5 none [] none 37 [(0, .ref l0), (1, .ref l1), (2, .int l2)] [] h (oVh r) := by
  intro n
  induction n with
  | zero => intro h l0 l1 l2 r hf; cases hf
  | succ n ih =>
    intro h l0 l1 l2 r hf
    rw [f_X1_fillHours_37] at hf
    refine V.iload_n dX1_fillHours_37 rfl 2 rfl ?_
    refine V.aload_n dX1_fillHours_38 rfl 0 rfl ?_
    obtain ⟨v1, e17, hf⟩ := bS hf
    refine V.xgR dX1_fillHours_39 fl_RX1_35 e17 ?_
    obtain ⟨v2, e18, hf⟩ := bS hf
    refine V.xaln dX1_fillHours_42 e18 ?_
    refine V.icmp_ge (tgt := 79) dX1_fillHours_43 (by decide) (fun c3 => ?_) (fun c3 => ?_)
    · rw [if_pos c3] at hf
      refine V.iconst (v := (0 : Int32)) dX1_fillHours_79 (by decide) ?_
      refine V.istore_n (lv' := [(2, .int (0 : Int32)), (0, .ref l0), (1, .ref l1)]) dX1_fillHours_80 rfl (by decide) rfl ?_
      refine V.aload_n dX1_fillHours_81 rfl 1 rfl ?_
      obtain ⟨v4, e19, hf⟩ := bS hf
      refine V.xgI dX1_fillHours_82 fl_RX1_22 e19 ?_
      refine V.istore_n (lv' := [(3, .int v4), (2, .int (0 : Int32)), (0, .ref l0), (1, .ref l1)]) dX1_fillHours_85 rfl (by decide) rfl ?_
      refine V.sub [2, 3, 1, 0] rfl ?_
      exact w_X1_fillHours_86 _ _ _ _ _ _ _ hf
    · rw [if_neg c3] at hf
      refine V.aload_n dX1_fillHours_46 rfl 0 rfl ?_
      obtain ⟨v5, e20, hf⟩ := bS hf
      refine V.xgR dX1_fillHours_47 fl_RX1_35 e20 ?_
      refine V.iload_n dX1_fillHours_50 rfl 2 rfl ?_
      refine V.aload_n dX1_fillHours_51 rfl 1 rfl ?_
      obtain ⟨v6, e21, hf⟩ := bS hf
      refine V.rgR dX1_fillHours_52 fl_RX1_58 e21 ?_
      refine V.iload_n dX1_fillHours_55 rfl 2 rfl ?_
      obtain ⟨v7, e22, hf⟩ := bS hf
      refine V.xldI dX1_fillHours_56 e22 ?_
      refine V.iconst (v := (-1 : Int32)) dX1_fillHours_57 (by decide) ?_
      refine V.icmp_ne (tgt := 66) dX1_fillHours_58 (by decide) (fun c8 => ?_) (fun c8 => ?_)
      · rw [if_neg c8] at hf
        refine V.aload_n dX1_fillHours_66 rfl 1 rfl ?_
        obtain ⟨v9, e23, hf⟩ := bS hf
        refine V.rgR dX1_fillHours_67 fl_RX1_58 e23 ?_
        refine V.iload_n dX1_fillHours_70 rfl 2 rfl ?_
        obtain ⟨v10, e24, hf⟩ := bS hf
        refine V.xldI dX1_fillHours_71 e24 ?_
        exact w_X1_fillHours_72 _ ih _ _ _ _ _ _ _ hf
      · rw [if_pos c8] at hf
        refine V.ldc (v := 1000000) dX1_fillHours_61 co_RX1_31 ?_
        refine V.goto (tgt := 72) dX1_fillHours_63 (by decide) ?_
        exact w_X1_fillHours_72 _ ih _ _ _ _ _ _ _ hf

set_option maxRecDepth 20000 in
theorem w_X1_fillHours_32 (h : xH) (l0 : Nat) (l1 : Nat) (s0 : Int32) (s1 : Nat) (r : xH) (hf : f_X1_fillHours_32 h l0 l1 s0 s1 = some r) : V 6 yX1_fillHours cX1_fillHours 5 none [] none 32 [(0, .ref l0), (1, .ref l1)] [.int s0, .ref s1] h (oVh r) := by
  unfold f_X1_fillHours_32 at hf
  obtain ⟨h1, e25, hf⟩ := bS hf
  refine V.xpF dX1_fillHours_32 fl_RX1_28 (fun h9 => nomatch h9) (fun _ => rfl) (fun _ => rfl) e25 ?_
  refine V.iconst (v := (0 : Int32)) dX1_fillHours_35 (by decide) ?_
  refine V.istore_n (lv' := [(2, .int (0 : Int32)), (0, .ref l0), (1, .ref l1)]) dX1_fillHours_36 rfl (by decide) rfl ?_
  refine V.sub [1, 2, 0] rfl ?_
  exact w_X1_fillHours_37 _ _ _ _ _ _ hf

set_option maxRecDepth 20000 in
theorem w_X1_fillHours (h : xH) (l0 : Nat) (l1 : Nat) (r : xH) (hf : f_X1_fillHours h l0 l1 = some r) : Ev 6 yX1_fillHours cX1_fillHours 5 none [] [.ref l0, .ref l1] h (oVh r) := by
  refine Ev.of (by decide +kernel) (Nat.le_of_ble_eq_true rfl) ?_
  unfold f_X1_fillHours at hf
  refine V.aload_n dX1_fillHours_0 rfl 0 rfl ?_
  refine V.aload_n dX1_fillHours_1 rfl 1 rfl ?_
  obtain ⟨v1, e26, hf⟩ := bS hf
  refine V.xgI dX1_fillHours_2 fl_RX1_49 e26 ?_
  obtain ⟨h2, e27, hf⟩ := bS hf
  refine V.xpF dX1_fillHours_5 fl_RX1_25 (fun h9 => nomatch h9) (fun _ => rfl) (fun _ => rfl) e27 ?_
  refine V.aload_n dX1_fillHours_8 rfl 0 rfl ?_
  refine V.aload_n dX1_fillHours_9 rfl 0 rfl ?_
  obtain ⟨v3, e28, hf⟩ := bS hf
  refine V.xgI dX1_fillHours_10 fl_RX1_15 e28 ?_
  refine V.iconst (v := (2 : Int32)) dX1_fillHours_13 (by decide) ?_
  refine V.icmp_ne (tgt := 24) dX1_fillHours_14 (by decide) (fun c4 => ?_) (fun c4 => ?_)
  · rw [if_neg c4] at hf
    refine V.aload_n dX1_fillHours_24 rfl 0 rfl ?_
    obtain ⟨v5, e29, hf⟩ := bS hf
    refine V.xgI dX1_fillHours_25 fl_RX1_25 e29 ?_
    refine V.iconst (v := (1 : Int32)) dX1_fillHours_28 (by decide) ?_
    refine V.mmin dX1_fillHours_29 ml_RX1_52 ms_min mi_ mc_min (Nat.le_of_ble_eq_true rfl) ?_
    exact w_X1_fillHours_32 _ _ _ _ _ _ hf
  · rw [if_pos c4] at hf
    refine V.aload_n dX1_fillHours_17 rfl 0 rfl ?_
    obtain ⟨v6, e30, hf⟩ := bS hf
    refine V.xgI dX1_fillHours_18 fl_RX1_25 e30 ?_
    refine V.goto (tgt := 32) dX1_fillHours_21 (by decide) ?_
    exact w_X1_fillHours_32 _ _ _ _ _ _ hf

def f_X1_plan_59 (h : xH) (l0 : Nat) : Option (Int32 × xH) := (gI h l0 1 6).bind fun v1 => (if (1000000 : Int32) ≤ v1 then (some (((-1 : Int32), h))) else ((gI h l0 1 6).bind fun v3 => some ((v3, h))))
def f_X1_plan_33 (h : xH) (l0 : Nat) (l1 : Nat) (l2 : Int32) (l3 : Int32) (l4 : Int32) : Option (Int32 × xH) := (pF h l0 1 0 (.ref l1)).bind fun h1 => (pF h1 l0 1 1 (.int l2)).bind fun h2 => (pF h2 l0 1 2 (.int l3)).bind fun h3 => (pF h3 l0 1 3 (.int l4)).bind fun h4 => (gO h4 l0 1).bind fun q5 => (f_X1_fillHours h4 l0 l1).bind fun r6 => f_X1_plan_59 r6 l0
def f_X1_plan (h : xH) (l0 : Nat) (l1 : Nat) (l2 : Int32) (l3 : Int32) (l4 : Int32) : Option (Int32 × xH) := (gN h l0 1 0).bind fun v1 => (match v1 with | none => (f_X1_plan_33 h l0 l1 l2 l3 l4) | some v2 => ((lt2 h v2 l1).bind fun v4 => (if v2 = l1 then ((gI h l0 1 1).bind fun v5 => (if v5 = l2 then ((gI h l0 1 2).bind fun v7 => (if v7 = l3 then ((gI h l0 1 3).bind fun v9 => (if v9 = l4 then (f_X1_plan_59 h l0) else (f_X1_plan_33 h l0 l1 l2 l3 l4))) else (f_X1_plan_33 h l0 l1 l2 l3 l4))) else (f_X1_plan_33 h l0 l1 l2 l3 l4))) else (f_X1_plan_33 h l0 l1 l2 l3 l4))))
set_option maxRecDepth 20000 in
theorem w_X1_plan_59 (h : xH) (l0 : Nat) (r : Int32 × xH) (hf : f_X1_plan_59 h l0 = some r) : V 7 yX1_plan cX1_plan 5 (some .int) [] none 59 [(0, .ref l0)] [] h (oIh r) := by
  unfold f_X1_plan_59 at hf
  refine V.aload_n dX1_plan_59 rfl 0 rfl ?_
  obtain ⟨v1, e1, hf⟩ := bS hf
  refine V.xgI dX1_plan_60 fl_RX1_32 e1 ?_
  refine V.ldc (v := 1000000) dX1_plan_63 co_RX1_31 ?_
  refine V.icmp_ge (tgt := 75) dX1_plan_65 (by decide) (fun c2 => ?_) (fun c2 => ?_)
  · rw [if_pos c2] at hf
    refine V.iconst (v := (-1 : Int32)) dX1_plan_75 (by decide) ?_
    obtain rfl := Option.some.inj hf
    exact V.iret dX1_plan_76
  · rw [if_neg c2] at hf
    refine V.aload_n dX1_plan_68 rfl 0 rfl ?_
    obtain ⟨v3, e2, hf⟩ := bS hf
    refine V.xgI dX1_plan_69 fl_RX1_32 e2 ?_
    refine V.goto (tgt := 76) dX1_plan_72 (by decide) ?_
    obtain rfl := Option.some.inj hf
    exact V.iret dX1_plan_76

set_option maxRecDepth 20000 in
theorem w_X1_plan_33 (h : xH) (l0 : Nat) (l1 : Nat) (l2 : Int32) (l3 : Int32) (l4 : Int32) (r : Int32 × xH) (hf : f_X1_plan_33 h l0 l1 l2 l3 l4 = some r) : V 7 yX1_plan cX1_plan 5 (some .int) [] none 33 [(0, .ref l0), (1, .ref l1), (2, .int l2), (3, .int l3), (4, .int l4)] [] h (oIh r) := by
  unfold f_X1_plan_33 at hf
  refine V.aload_n dX1_plan_33 rfl 0 rfl ?_
  refine V.aload_n dX1_plan_34 rfl 1 rfl ?_
  obtain ⟨h1, e3, hf⟩ := bS hf
  refine V.xpF dX1_plan_35 fl_RX1_9 (fun h9 => nomatch h9) (fun _ => rfl) (fun _ => rfl) e3 ?_
  refine V.aload_n dX1_plan_38 rfl 0 rfl ?_
  refine V.iload_n dX1_plan_39 rfl 2 rfl ?_
  obtain ⟨h2, e4, hf⟩ := bS hf
  refine V.xpF dX1_plan_40 fl_RX1_15 (fun h9 => nomatch h9) (fun _ => rfl) (fun _ => rfl) e4 ?_
  refine V.aload_n dX1_plan_43 rfl 0 rfl ?_
  refine V.iload_n dX1_plan_44 rfl 3 rfl ?_
  obtain ⟨h3, e5, hf⟩ := bS hf
  refine V.xpF dX1_plan_45 fl_RX1_19 (fun h9 => nomatch h9) (fun _ => rfl) (fun _ => rfl) e5 ?_
  refine V.aload_n dX1_plan_48 rfl 0 rfl ?_
  refine V.iload dX1_plan_49 4 rfl ?_
  obtain ⟨h4, e6, hf⟩ := bS hf
  refine V.xpF dX1_plan_51 fl_RX1_22 (fun h9 => nomatch h9) (fun _ => rfl) (fun _ => rfl) e6 ?_
  refine V.aload_n dX1_plan_54 rfl 0 rfl ?_
  refine V.aload_n dX1_plan_55 rfl 1 rfl ?_
  obtain ⟨q5, e7, hf⟩ := bS hf
  obtain ⟨r6, e8, hf⟩ := bS hf
  refine V.callV (As := [.ref l1]) (st := []) dX1_plan_56 cl_RX1_45 sw_yX1_fillHours (by decide) rfl (Nat.le_of_ble_eq_true rfl) rfl (gO_some e7) rfl (w_X1_fillHours _ _ _ _ e8) ?_
  refine V.sub [0] rfl ?_
  exact w_X1_plan_59 _ _ _ hf

set_option maxRecDepth 20000 in
theorem w_X1_plan (h : xH) (l0 : Nat) (l1 : Nat) (l2 : Int32) (l3 : Int32) (l4 : Int32) (r : Int32 × xH) (hf : f_X1_plan h l0 l1 l2 l3 l4 = some r) : Ev 7 yX1_plan cX1_plan 5 (some .int) [] [.ref l0, .ref l1, .int l2, .int l3, .int l4] h (oIh r) := by
  refine Ev.of (by decide +kernel) (Nat.le_of_ble_eq_true rfl) ?_
  unfold f_X1_plan at hf
  refine V.aload_n dX1_plan_0 rfl 0 rfl ?_
  obtain ⟨v1, e9, hf⟩ := bS hf
  rcases v1 with _ | v2
  · refine V.xgN0 dX1_plan_1 fl_RX1_9 e9 ?_
    refine V.aload_n dX1_plan_4 rfl 1 rfl ?_
    refine V.acmp_neN (tgt := 33) dX1_plan_5 (by decide) ?_
    exact w_X1_plan_33 _ _ _ _ _ _ _ hf
  · refine V.xgN dX1_plan_1 fl_RX1_9 e9 ?_
    refine V.aload_n dX1_plan_4 rfl 1 rfl ?_
    obtain ⟨v4, e10, hf⟩ := bS hf
    refine V.acmp_ne (tgt := 33) dX1_plan_5 (by decide) (lt2_l e10) (lt2_r e10) (fun c3 => ?_) (fun c3 => ?_)
    · rw [if_neg c3] at hf
      exact w_X1_plan_33 _ _ _ _ _ _ _ hf
    · rw [if_pos c3] at hf
      refine V.aload_n dX1_plan_8 rfl 0 rfl ?_
      obtain ⟨v5, e11, hf⟩ := bS hf
      refine V.xgI dX1_plan_9 fl_RX1_15 e11 ?_
      refine V.iload_n dX1_plan_12 rfl 2 rfl ?_
      refine V.icmp_ne (tgt := 33) dX1_plan_13 (by decide) (fun c6 => ?_) (fun c6 => ?_)
      · rw [if_neg c6] at hf
        exact w_X1_plan_33 _ _ _ _ _ _ _ hf
      · rw [if_pos c6] at hf
        refine V.aload_n dX1_plan_16 rfl 0 rfl ?_
        obtain ⟨v7, e12, hf⟩ := bS hf
        refine V.xgI dX1_plan_17 fl_RX1_19 e12 ?_
        refine V.iload_n dX1_plan_20 rfl 3 rfl ?_
        refine V.icmp_ne (tgt := 33) dX1_plan_21 (by decide) (fun c8 => ?_) (fun c8 => ?_)
        · rw [if_neg c8] at hf
          exact w_X1_plan_33 _ _ _ _ _ _ _ hf
        · rw [if_pos c8] at hf
          refine V.aload_n dX1_plan_24 rfl 0 rfl ?_
          obtain ⟨v9, e13, hf⟩ := bS hf
          refine V.xgI dX1_plan_25 fl_RX1_22 e13 ?_
          refine V.iload dX1_plan_28 4 rfl ?_
          refine V.icmp_eq (tgt := 59) dX1_plan_30 (by decide) (fun c10 => ?_) (fun c10 => ?_)
          · rw [if_pos c10] at hf
            refine V.sub [0] rfl ?_
            exact w_X1_plan_59 _ _ _ hf
          · rw [if_neg c10] at hf
            exact w_X1_plan_33 _ _ _ _ _ _ _ hf

