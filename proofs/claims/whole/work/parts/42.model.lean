def f_X12_areBeside (h : xH) (l0 : Int32) (l1 : Int32) (l2 : Int32) : Option (Int32) := (rmI l0 l2).bind fun v1 => (rmI l1 l2).bind fun v2 => (dvI l0 l2).bind fun v3 => (dvI l1 l2).bind fun v4 => (if ((if 0 ≤ (v1 - v2) then (v1 - v2) else 0 - (v1 - v2)) + (if 0 ≤ (v3 - v4) then (v3 - v4) else 0 - (v3 - v4))) = (1 : Int32) then (some ((1 : Int32))) else (some ((0 : Int32))))
set_option maxRecDepth 20000 in
theorem w_X12_areBeside (h : xH) (l0 : Int32) (l1 : Int32) (l2 : Int32) (r : Int32) (hf : f_X12_areBeside h l0 l1 l2 = some r) : Ev 4 yX12_areBeside cX12_areBeside 5 (some .boolean) [] [.int l0, .int l1, .int l2] h (oI h r) := by
  refine Ev.of (by decide +kernel) (Nat.le_of_ble_eq_true rfl) ?_
  unfold f_X12_areBeside at hf
  refine V.iload_n dX12_areBeside_0 rfl 0 rfl ?_
  refine V.iload_n dX12_areBeside_1 rfl 2 rfl ?_
  obtain ⟨v1, e1, hf⟩ := bS hf
  refine V.xrmI dX12_areBeside_2 e1 ?_
  refine V.iload_n dX12_areBeside_3 rfl 1 rfl ?_
  refine V.iload_n dX12_areBeside_4 rfl 2 rfl ?_
  obtain ⟨v2, e2, hf⟩ := bS hf
  refine V.xrmI dX12_areBeside_5 e2 ?_
  refine V.isub dX12_areBeside_6 ?_
  refine V.mabs dX12_areBeside_7 ml_RX12_327 ms_abs mi_ mc_abs (Nat.le_of_ble_eq_true rfl) ?_
  refine V.istore_n (lv' := [(3, .int (if 0 ≤ (v1 - v2) then (v1 - v2) else 0 - (v1 - v2))), (0, .int l0), (1, .int l1), (2, .int l2)]) dX12_areBeside_10 rfl (by decide) rfl ?_
  refine V.iload_n dX12_areBeside_11 rfl 1 rfl ?_
  refine V.iload_n dX12_areBeside_12 rfl 3 rfl ?_
  obtain ⟨v3, e3, hf⟩ := bS hf
  refine V.xdvI dX12_areBeside_13 e3 ?_
  refine V.iload_n dX12_areBeside_14 rfl 2 rfl ?_
  refine V.iload_n dX12_areBeside_15 rfl 3 rfl ?_
  obtain ⟨v4, e4, hf⟩ := bS hf
  refine V.xdvI dX12_areBeside_16 e4 ?_
  refine V.isub dX12_areBeside_17 ?_
  refine V.mabs dX12_areBeside_18 ml_RX12_327 ms_abs mi_ mc_abs (Nat.le_of_ble_eq_true rfl) ?_
  refine V.istore (lv' := [(4, .int (if 0 ≤ (v3 - v4) then (v3 - v4) else 0 - (v3 - v4))), (3, .int (if 0 ≤ (v1 - v2) then (v1 - v2) else 0 - (v1 - v2))), (0, .int l0), (1, .int l1), (2, .int l2)]) dX12_areBeside_21 (by decide) rfl ?_
  refine V.iload_n dX12_areBeside_23 rfl 1 rfl ?_
  refine V.iload dX12_areBeside_24 0 rfl ?_
  refine V.iadd dX12_areBeside_26 ?_
  refine V.iconst (v := (1 : Int32)) dX12_areBeside_27 (by decide) ?_
  refine V.icmp_ne (tgt := 35) dX12_areBeside_28 (by decide) (fun c5 => ?_) (fun c5 => ?_)
  · rw [if_neg c5] at hf
    refine V.iconst (v := (0 : Int32)) dX12_areBeside_35 (by decide) ?_
    obtain rfl := Option.some.inj hf
    exact V.zret dX12_areBeside_36 (by first | rfl | assumption)
  · rw [if_pos c5] at hf
    refine V.iconst (v := (1 : Int32)) dX12_areBeside_31 (by decide) ?_
    refine V.goto (tgt := 36) dX12_areBeside_32 (by decide) ?_
    obtain rfl := Option.some.inj hf
    exact V.zret dX12_areBeside_36 (by first | rfl | assumption)

def f_X12_grid_107 (k57 : xH → Nat → Int32 → Int32 → Int32 → Option (Int32 × xH)) (k74 : xH → Nat → Int32 → Int32 → Int32 → Int32 → Option (Int32 × xH)) (h : xH) (l0 : Nat) (l1 : Int32) (l3 : Int32) (l4 : Int32) (l5 : Int32) (s0 : Int32) (s1 : Int32) (s2 : Int32) (s3 : Nat) : Option (Int32 × xH) := (stI h .int s3 s2 (s1 ||| s0)).bind fun h1 => k74 h1 l0 l1 l3 l4 (l5 + 1)
def f_X12_grid_74 (k57 : xH → Nat → Int32 → Int32 → Int32 → Option (Int32 × xH)) : Nat → xH → Nat → Int32 → Int32 → Int32 → Int32 → Option (Int32 × xH)
  | 0, _, _, _, _, _, _ => none
  | n + 1, h, l0, l1, l3, l4, l5 => (if l3 ≤ l5 then (k57 h l0 l1 l3 (l4 + 1)) else ((gR h l0 12 20).bind fun v2 => (ldI h .int v2 l4).bind fun v3 => (f_X12_areBeside h l4 l5 l1).bind fun r4 => (if r4 = 0 then (f_X12_grid_107 k57 (f_X12_grid_74 k57 n) h l0 l1 l3 l4 l5 (0 : Int32) v3 l4 v2) else (f_X12_grid_107 k57 (f_X12_grid_74 k57 n) h l0 l1 l3 l4 l5 ((1 : Int32) <<< (l5 &&& 31)) v3 l4 v2))))
def f_X12_grid_200 (k127 : xH → Nat → Int32 → Int32 → Int32 → Option (Int32 × xH)) (h : xH) (l0 : Nat) (l3 : Int32) (l4 : Int32) (l5 : Int32) (l6 : Int32) : Option (Int32 × xH) := (if l6 = 0 then (k127 h l0 l3 l4 (l5 + 1)) else (k127 h l0 l3 l5 (l5 + 1)))
def f_X12_grid_163 (k127 : xH → Nat → Int32 → Int32 → Int32 → Option (Int32 × xH)) : Nat → xH → Nat → Int32 → Int32 → Int32 → Int32 → Int32 → Option (Int32 × xH)
  | 0, _, _, _, _, _, _, _ => none
  | n + 1, h, l0, l3, l4, l5, l6, l7 => (if l3 ≤ l7 then (f_X12_grid_200 k127 h l0 l3 l4 l5 l6) else ((if l6 = 0 then (f_X12_grid_200 k127 h l0 l3 l4 l5 l6) else ((gR h l0 12 20).bind fun v3 => (ldI h .int v3 l7).bind fun v4 => (if (v4 &&& l5) = 0 then (f_X12_grid_163 k127 n h l0 l3 l4 l5 (0 : Int32) (l7 + 1)) else (f_X12_grid_163 k127 n h l0 l3 l4 l5 (1 : Int32) (l7 + 1)))))))
def f_X12_grid_157 (k127 : xH → Nat → Int32 → Int32 → Int32 → Option (Int32 × xH)) (h : xH) (l0 : Nat) (l3 : Int32) (l4 : Int32) (l5 : Int32) : Option (Int32 × xH) := f_X12_grid_163 k127 xFU h l0 l3 l4 l5 (1 : Int32) (0 : Int32)
def f_X12_grid_127 : Nat → xH → Nat → Int32 → Int32 → Int32 → Option (Int32 × xH)
  | 0, _, _, _, _, _ => none
  | n + 1, h, l0, l3, l4, l5 => (if ((1 : Int32) <<< (l3 &&& 31)) ≤ l5 then (some ((l4, h))) else ((if l4 = (-1 : Int32) then (f_X12_grid_157 (f_X12_grid_127 n) h l0 l3 l4 l5) else ((f_X12_ones h l5).bind fun r3 => (f_X12_ones h l4).bind fun r4 => (if r3 < r4 then (f_X12_grid_157 (f_X12_grid_127 n) h l0 l3 l4 l5) else (f_X12_grid_127 n h l0 l3 l4 (l5 + 1)))))))
def f_X12_grid_57 : Nat → xH → Nat → Int32 → Int32 → Int32 → Option (Int32 × xH)
  | 0, _, _, _, _, _ => none
  | n + 1, h, l0, l1, l3, l4 => (if l3 ≤ l4 then (f_X12_grid_127 xFU h l0 l3 (-1 : Int32) (0 : Int32)) else ((gR h l0 12 20).bind fun v2 => (stI h .int v2 l4 (0 : Int32)).bind fun h3 => f_X12_grid_74 (f_X12_grid_57 n) xFU h3 l0 l1 l3 l4 (0 : Int32)))
def f_X12_grid_38 (h : xH) (l0 : Nat) (l1 : Int32) (l2 : Int32) (s0 : Int32) (s1 : Nat) : Option (Int32 × xH) := (pF h s1 12 4 (.int s0)).bind fun h1 => (gI h1 l0 12 4).bind fun v2 => (if v2 ≤ 0 then (f_X12_grid_57 xFU h1 l0 l1 (l1 * l2) (0 : Int32)) else (some (((0 : Int32), h1))))
def f_X12_grid_37 (h : xH) (l0 : Nat) (l1 : Int32) (l2 : Int32) (s0 : Nat) : Option (Int32 × xH) := f_X12_grid_38 h l0 l1 l2 (1 : Int32) s0
def f_X12_grid (h : xH) (l0 : Nat) (l1 : Int32) (l2 : Int32) : Option (Int32 × xH) := (f_X12_within h (Int32.toInt64 l1) (1 : Int64) (16 : Int64)).bind fun r1 => (if r1 = 0 then (f_X12_grid_37 h l0 l1 l2 l0) else ((f_X12_within h (Int32.toInt64 l2) (1 : Int64) (16 : Int64)).bind fun r3 => (if r3 = 0 then (f_X12_grid_37 h l0 l1 l2 l0) else ((if (16 : Int32) < (l1 * l2) then (f_X12_grid_37 h l0 l1 l2 l0) else (f_X12_grid_38 h l0 l1 l2 (0 : Int32) l0))))))
set_option maxRecDepth 20000 in
theorem w_X12_grid_107 (h : xH) {k57 : xH → Nat → Int32 → Int32 → Int32 → Option (Int32 × xH)} (hk57 : ∀ (h : xH) (l0 : Nat) (l1 : Int32) (l3 : Int32) (l4 : Int32) (r : Int32 × xH), k57 h l0 l1 l3 l4 = some r → V 5 yX12_grid cX12_grid 8 (some .int) [] none 57 [(0, .ref l0), (1, .int l1), (3, .int l3), (4, .int l4)] [] h (oIh r)) {k74 : xH → Nat → Int32 → Int32 → Int32 → Int32 → Option (Int32 × xH)} (hk74 : ∀ (h : xH) (l0 : Nat) (l1 : Int32) (l3 : Int32) (l4 : Int32) (l5 : Int32) (r : Int32 × xH), k74 h l0 l1 l3 l4 l5 = some r → V 5 yX12_grid cX12_grid 8 (some .int) [] none 74 [(0, .ref l0), (1, .int l1), (3, .int l3), (4, .int l4), (5, .int l5)] [] h (oIh r)) (l0 : Nat) (l1 : Int32) (l3 : Int32) (l4 : Int32) (l5 : Int32) (s0 : Int32) (s1 : Int32) (s2 : Int32) (s3 : Nat) (r : Int32 × xH) (hf : f_X12_grid_107 k57 k74 h l0 l1 l3 l4 l5 s0 s1 s2 s3 = some r) : V 5 yX12_grid cX12_grid 8 (some .int) [] none 107 [(0, .ref l0), (1, .int l1), (3, .int l3), (4, .int l4), (5, .int l5)] [.int s0, .int s1, .int s2, .ref s3] h (oIh r) := by
  unfold f_X12_grid_107 at hf
  refine V.ior dX12_grid_107 ?_
  obtain ⟨h1, e1, hf⟩ := bS hf
  refine V.xstI dX12_grid_108 e1 ?_
  refine V.iinc (v := (l5 + 1)) (lv' := [(5, .int (l5 + 1)), (0, .ref l0), (1, .int l1), (3, .int l3), (4, .int l4)]) dX12_grid_109 4 rfl rfl (Nat.le_of_ble_eq_true rfl) rfl ?_
  refine V.goto (tgt := 74) dX12_grid_112 (by decide) ?_
  refine V.sub [1, 2, 3, 4, 0] rfl ?_
  exact hk74 _ _ _ _ _ _ _ hf

set_option maxRecDepth 20000 in
theorem w_X12_grid_74 {k57 : xH → Nat → Int32 → Int32 → Int32 → Option (Int32 × xH)} (hk57 : ∀ (h : xH) (l0 : Nat) (l1 : Int32) (l3 : Int32) (l4 : Int32) (r : Int32 × xH), k57 h l0 l1 l3 l4 = some r → V 5 yX12_grid cX12_grid 8 (some .int) [] none 57 [(0, .ref l0), (1, .int l1), (3, .int l3), (4, .int l4)] [] h (oIh r)) : ∀ (n : Nat) (h : xH) (l0 : Nat) (l1 : Int32) (l3 : Int32) (l4 : Int32) (l5 : Int32) (r : Int32 × xH), f_X12_grid_74 k57 n h l0 l1 l3 l4 l5 = some r → V 5 yX12_grid cX12_grid 8 (some .int) [] none 74 [(0, .ref l0), (1, .int l1), (3, .int l3), (4, .int l4), (5, .int l5)] [] h (oIh r) := by
  intro n
  induction n with
  | zero => intro h l0 l1 l3 l4 l5 r hf; cases hf
  | succ n ih =>
    intro h l0 l1 l3 l4 l5 r hf
    rw [f_X12_grid_74] at hf
    refine V.iload dX12_grid_74 4 rfl ?_
    refine V.iload_n dX12_grid_76 rfl 2 rfl ?_
    refine V.icmp_ge (tgt := 115) dX12_grid_77 (by decide) (fun c1 => ?_) (fun c1 => ?_)
    · rw [if_pos c1] at hf
      refine V.iinc (v := (l4 + 1)) (lv' := [(4, .int (l4 + 1)), (0, .ref l0), (1, .int l1), (3, .int l3), (5, .int l5)]) dX12_grid_115 3 rfl rfl (Nat.le_of_ble_eq_true rfl) rfl ?_
      refine V.goto (tgt := 57) dX12_grid_118 (by decide) ?_
      refine V.sub [1, 2, 3, 0] rfl ?_
      exact hk57 _ _ _ _ _ _ hf
    · rw [if_neg c1] at hf
      refine V.aload_n dX12_grid_80 rfl 0 rfl ?_
      obtain ⟨v2, e2, hf⟩ := bS hf
      refine V.xgR dX12_grid_81 fl_RX12_42 e2 ?_
      refine V.iload dX12_grid_84 3 rfl ?_
      refine V.dup2 dX12_grid_86 rfl rfl ?_
      obtain ⟨v3, e3, hf⟩ := bS hf
      refine V.xldI dX12_grid_87 e3 ?_
      refine V.iload dX12_grid_88 3 rfl ?_
      refine V.iload dX12_grid_90 4 rfl ?_
      refine V.iload_n dX12_grid_92 rfl 1 rfl ?_
      obtain ⟨r4, e4, hf⟩ := bS hf
      refine V.callS (As := [.int l4, .int l5, .int l1]) (st := [.int v3, .int l4, .ref v2]) dX12_grid_93 cl_RX12_334 sw_yX12_areBeside (by decide) rfl (Nat.le_of_ble_eq_true rfl) rfl (w_X12_areBeside _ _ _ _ _ e4) ?_
      refine V.if_eq (tgt := 106) dX12_grid_96 (by decide) (fun c5 => ?_) (fun c5 => ?_)
      · rw [if_pos c5] at hf
        refine V.iconst (v := (0 : Int32)) dX12_grid_106 (by decide) ?_
        exact w_X12_grid_107 _ hk57 ih _ _ _ _ _ _ _ _ _ _ hf
      · rw [if_neg c5] at hf
        refine V.iconst (v := (1 : Int32)) dX12_grid_99 (by decide) ?_
        refine V.iload dX12_grid_100 4 rfl ?_
        refine V.ishl dX12_grid_102 ?_
        refine V.goto (tgt := 107) dX12_grid_103 (by decide) ?_
        exact w_X12_grid_107 _ hk57 ih _ _ _ _ _ _ _ _ _ _ hf

set_option maxRecDepth 20000 in
theorem w_X12_grid_200 (h : xH) {k127 : xH → Nat → Int32 → Int32 → Int32 → Option (Int32 × xH)} (hk127 : ∀ (h : xH) (l0 : Nat) (l3 : Int32) (l4 : Int32) (l5 : Int32) (r : Int32 × xH), k127 h l0 l3 l4 l5 = some r → V 5 yX12_grid cX12_grid 8 (some .int) [] none 127 [(0, .ref l0), (3, .int l3), (4, .int l4), (5, .int l5)] [] h (oIh r)) (l0 : Nat) (l3 : Int32) (l4 : Int32) (l5 : Int32) (l6 : Int32) (r : Int32 × xH) (hf : f_X12_grid_200 k127 h l0 l3 l4 l5 l6 = some r) : V 5 yX12_grid cX12_grid 8 (some .int) [] none 200 [(0, .ref l0), (3, .int l3), (4, .int l4), (5, .int l5), (6, .int l6)] [] h (oIh r) := by
  unfold f_X12_grid_200 at hf
  refine V.iload dX12_grid_200 4 rfl ?_
  refine V.if_eq (tgt := 210) dX12_grid_202 (by decide) (fun c1 => ?_) (fun c1 => ?_)
  · rw [if_pos c1] at hf
    refine V.iload dX12_grid_210 2 rfl ?_
    refine V.istore (lv' := [(4, .int l4), (0, .ref l0), (3, .int l3), (5, .int l5), (6, .int l6)]) dX12_grid_212 (by decide) rfl ?_
    refine V.iinc (v := (l5 + 1)) (lv' := [(5, .int (l5 + 1)), (4, .int l4), (0, .ref l0), (3, .int l3), (6, .int l6)]) dX12_grid_214 3 rfl rfl (Nat.le_of_ble_eq_true rfl) rfl ?_
    refine V.goto (tgt := 127) dX12_grid_217 (by decide) ?_
    refine V.sub [2, 3, 1, 0] rfl ?_
    exact hk127 _ _ _ _ _ _ hf
  · rw [if_neg c1] at hf
    refine V.iload dX12_grid_205 3 rfl ?_
    refine V.goto (tgt := 212) dX12_grid_207 (by decide) ?_
    refine V.istore (lv' := [(4, .int l5), (0, .ref l0), (3, .int l3), (5, .int l5), (6, .int l6)]) dX12_grid_212 (by decide) rfl ?_
    refine V.iinc (v := (l5 + 1)) (lv' := [(5, .int (l5 + 1)), (4, .int l5), (0, .ref l0), (3, .int l3), (6, .int l6)]) dX12_grid_214 3 rfl rfl (Nat.le_of_ble_eq_true rfl) rfl ?_
    refine V.goto (tgt := 127) dX12_grid_217 (by decide) ?_
    refine V.sub [2, 3, 1, 0] rfl ?_
    exact hk127 _ _ _ _ _ _ hf

set_option maxRecDepth 20000 in
theorem w_X12_grid_163 {k127 : xH → Nat → Int32 → Int32 → Int32 → Option (Int32 × xH)} (hk127 : ∀ (h : xH) (l0 : Nat) (l3 : Int32) (l4 : Int32) (l5 : Int32) (r : Int32 × xH), k127 h l0 l3 l4 l5 = some r → V 5 yX12_grid cX12_grid 8 (some .int) [] none 127 [(0, .ref l0), (3, .int l3), (4, .int l4), (5, .int l5)] [] h (oIh r)) : ∀ (n : Nat) (h : xH) (l0 : Nat) (l3 : Int32) (l4 : Int32) (l5 : Int32) (l6 : Int32) (l7 : Int32) (r : Int32 × xH), f_X12_grid_163 k127 n h l0 l3 l4 l5 l6 l7 = some r → V 5 yX12_grid cX12_grid 8 (some .int) [] none 163 [(0, .ref l0), (3, .int l3), (4, .int l4), (5, .int l5), (6, .int l6), (7, .int l7)] [] h (oIh r) := by
  intro n
  induction n with
  | zero => intro h l0 l3 l4 l5 l6 l7 r hf; cases hf
  | succ n ih =>
    intro h l0 l3 l4 l5 l6 l7 r hf
    rw [f_X12_grid_163] at hf
    refine V.iload dX12_grid_163 5 rfl ?_
    refine V.iload_n dX12_grid_165 rfl 1 rfl ?_
    refine V.icmp_ge (tgt := 200) dX12_grid_166 (by decide) (fun c1 => ?_) (fun c1 => ?_)
    · rw [if_pos c1] at hf
      refine V.sub [0, 1, 2, 3, 4] rfl ?_
      exact w_X12_grid_200 _ hk127 _ _ _ _ _ _ hf
    · rw [if_neg c1] at hf
      refine V.iload dX12_grid_169 4 rfl ?_
      refine V.if_eq (tgt := 200) dX12_grid_171 (by decide) (fun c2 => ?_) (fun c2 => ?_)
      · rw [if_pos c2] at hf
        refine V.sub [0, 1, 2, 3, 4] rfl ?_
        exact w_X12_grid_200 _ hk127 _ _ _ _ _ _ hf
      · rw [if_neg c2] at hf
        refine V.aload_n dX12_grid_174 rfl 0 rfl ?_
        obtain ⟨v3, e5, hf⟩ := bS hf
        refine V.xgR dX12_grid_175 fl_RX12_42 e5 ?_
        refine V.iload dX12_grid_178 5 rfl ?_
        obtain ⟨v4, e6, hf⟩ := bS hf
        refine V.xldI dX12_grid_180 e6 ?_
        refine V.iload dX12_grid_181 3 rfl ?_
        refine V.iand dX12_grid_183 ?_
        refine V.if_eq (tgt := 191) dX12_grid_184 (by decide) (fun c5 => ?_) (fun c5 => ?_)
        · rw [if_pos c5] at hf
          refine V.iconst (v := (0 : Int32)) dX12_grid_191 (by decide) ?_
          refine V.istore (lv' := [(6, .int (0 : Int32)), (0, .ref l0), (3, .int l3), (4, .int l4), (5, .int l5), (7, .int l7)]) dX12_grid_192 (by decide) rfl ?_
          refine V.iinc (v := (l7 + 1)) (lv' := [(7, .int (l7 + 1)), (6, .int (0 : Int32)), (0, .ref l0), (3, .int l3), (4, .int l4), (5, .int l5)]) dX12_grid_194 5 rfl rfl (Nat.le_of_ble_eq_true rfl) rfl ?_
          refine V.goto (tgt := 163) dX12_grid_197 (by decide) ?_
          refine V.sub [2, 3, 4, 5, 1, 0] rfl ?_
          exact ih _ _ _ _ _ _ _ _ hf
        · rw [if_neg c5] at hf
          refine V.iconst (v := (1 : Int32)) dX12_grid_187 (by decide) ?_
          refine V.goto (tgt := 192) dX12_grid_188 (by decide) ?_
          refine V.istore (lv' := [(6, .int (1 : Int32)), (0, .ref l0), (3, .int l3), (4, .int l4), (5, .int l5), (7, .int l7)]) dX12_grid_192 (by decide) rfl ?_
          refine V.iinc (v := (l7 + 1)) (lv' := [(7, .int (l7 + 1)), (6, .int (1 : Int32)), (0, .ref l0), (3, .int l3), (4, .int l4), (5, .int l5)]) dX12_grid_194 5 rfl rfl (Nat.le_of_ble_eq_true rfl) rfl ?_
          refine V.goto (tgt := 163) dX12_grid_197 (by decide) ?_
          refine V.sub [2, 3, 4, 5, 1, 0] rfl ?_
          exact ih _ _ _ _ _ _ _ _ hf

set_option maxRecDepth 20000 in
theorem w_X12_grid_157 (h : xH) {k127 : xH → Nat → Int32 → Int32 → Int32 → Option (Int32 × xH)} (hk127 : ∀ (h : xH) (l0 : Nat) (l3 : Int32) (l4 : Int32) (l5 : Int32) (r : Int32 × xH), k127 h l0 l3 l4 l5 = some r → V 5 yX12_grid cX12_grid 8 (some .int) [] none 127 [(0, .ref l0), (3, .int l3), (4, .int l4), (5, .int l5)] [] h (oIh r)) (l0 : Nat) (l3 : Int32) (l4 : Int32) (l5 : Int32) (r : Int32 × xH) (hf : f_X12_grid_157 k127 h l0 l3 l4 l5 = some r) : V 5 yX12_grid cX12_grid 8 (some .int) [] none 157 [(0, .ref l0), (3, .int l3), (4, .int l4), (5, .int l5)] [] h (oIh r) := by
  unfold f_X12_grid_157 at hf
  refine V.iconst (v := (1 : Int32)) dX12_grid_157 (by decide) ?_
  refine V.istore (lv' := [(6, .int (1 : Int32)), (0, .ref l0), (3, .int l3), (4, .int l4), (5, .int l5)]) dX12_grid_158 (by decide) rfl ?_
  refine V.iconst (v := (0 : Int32)) dX12_grid_160 (by decide) ?_
  refine V.istore (lv' := [(7, .int (0 : Int32)), (6, .int (1 : Int32)), (0, .ref l0), (3, .int l3), (4, .int l4), (5, .int l5)]) dX12_grid_161 (by decide) rfl ?_
  refine V.sub [2, 3, 4, 5, 1, 0] rfl ?_
  exact w_X12_grid_163 hk127 _ _ _ _ _ _ _ _ _ hf

set_option maxRecDepth 20000 in
theorem w_X12_grid_127 : ∀ (n : Nat) (h : xH) (l0 : Nat) (l3 : Int32) (l4 : Int32) (l5 : Int32) (r : Int32 × xH), f_X12_grid_127 n h l0 l3 l4 l5 = some r → V 5 yX12_grid cX12_grid 8 (some .int) [] none 127 [(0, .ref l0), (3, .int l3), (4, .int l4), (5, .int l5)] [] h (oIh r) := by
  intro n
  induction n with
  | zero => intro h l0 l3 l4 l5 r hf; cases hf
  | succ n ih =>
    intro h l0 l3 l4 l5 r hf
    rw [f_X12_grid_127] at hf
    refine V.iload dX12_grid_127 3 rfl ?_
    refine V.iconst (v := (1 : Int32)) dX12_grid_129 (by decide) ?_
    refine V.iload_n dX12_grid_130 rfl 1 rfl ?_
    refine V.ishl dX12_grid_131 ?_
    refine V.icmp_ge (tgt := 220) dX12_grid_132 (by decide) (fun c1 => ?_) (fun c1 => ?_)
    · rw [if_pos c1] at hf
      refine V.iload dX12_grid_220 2 rfl ?_
      obtain rfl := Option.some.inj hf
      exact V.iret dX12_grid_222
    · rw [if_neg c1] at hf
      refine V.iload dX12_grid_135 2 rfl ?_
      refine V.iconst (v := (-1 : Int32)) dX12_grid_137 (by decide) ?_
      refine V.icmp_eq (tgt := 157) dX12_grid_138 (by decide) (fun c2 => ?_) (fun c2 => ?_)
      · rw [if_pos c2] at hf
        exact w_X12_grid_157 _ ih _ _ _ _ _ hf
      · rw [if_neg c2] at hf
        refine V.iload dX12_grid_141 3 rfl ?_
        obtain ⟨r3, e7, hf⟩ := bS hf
        refine V.callS (As := [.int l5]) (st := []) dX12_grid_143 cl_RX12_285 sw_yX12_ones (by decide) rfl (Nat.le_of_ble_eq_true rfl) rfl (w_X12_ones _ _ _ e7) ?_
        refine V.iload dX12_grid_146 2 rfl ?_
        obtain ⟨r4, e8, hf⟩ := bS hf
        refine V.callS (As := [.int l4]) (st := [.int r3]) dX12_grid_148 cl_RX12_285 sw_yX12_ones (by decide) rfl (Nat.le_of_ble_eq_true rfl) rfl (w_X12_ones _ _ _ e8) ?_
        refine V.icmp_lt (tgt := 157) dX12_grid_151 (by decide) (fun c5 => ?_) (fun c5 => ?_)
        · rw [if_pos c5] at hf
          exact w_X12_grid_157 _ ih _ _ _ _ _ hf
        · rw [if_neg c5] at hf
          refine V.goto (tgt := 214) dX12_grid_154 (by decide) ?_
          refine V.iinc (v := (l5 + 1)) (lv' := [(5, .int (l5 + 1)), (0, .ref l0), (3, .int l3), (4, .int l4)]) dX12_grid_214 3 rfl rfl (Nat.le_of_ble_eq_true rfl) rfl ?_
          refine V.goto (tgt := 127) dX12_grid_217 (by decide) ?_
          refine V.sub [1, 2, 3, 0] rfl ?_
          exact ih _ _ _ _ _ _ hf

set_option maxRecDepth 20000 in
theorem w_X12_grid_57 : ∀ (n : Nat) (h : xH) (l0 : Nat) (l1 : Int32) (l3 : Int32) (l4 : Int32) (r : Int32 × xH), f_X12_grid_57 n h l0 l1 l3 l4 = some r → V 5 yX12_grid cX12_grid 8 (some .int) [] none 57 [(0, .ref l0), (1, .int l1), (3, .int l3), (4, .int l4)] [] h (oIh r) := by
  intro n
  induction n with
  | zero => intro h l0 l1 l3 l4 r hf; cases hf
  | succ n ih =>
    intro h l0 l1 l3 l4 r hf
    rw [f_X12_grid_57] at hf
    refine V.iload dX12_grid_57 3 rfl ?_
    refine V.iload_n dX12_grid_59 rfl 2 rfl ?_
    refine V.icmp_ge (tgt := 121) dX12_grid_60 (by decide) (fun c1 => ?_) (fun c1 => ?_)
    · rw [if_pos c1] at hf
      refine V.iconst (v := (-1 : Int32)) dX12_grid_121 (by decide) ?_
      refine V.istore (lv' := [(4, .int (-1 : Int32)), (0, .ref l0), (1, .int l1), (3, .int l3)]) dX12_grid_122 (by decide) rfl ?_
      refine V.iconst (v := (0 : Int32)) dX12_grid_124 (by decide) ?_
      refine V.istore (lv' := [(5, .int (0 : Int32)), (4, .int (-1 : Int32)), (0, .ref l0), (1, .int l1), (3, .int l3)]) dX12_grid_125 (by decide) rfl ?_
      refine V.sub [2, 4, 1, 0] rfl ?_
      exact w_X12_grid_127 _ _ _ _ _ _ _ hf
    · rw [if_neg c1] at hf
      refine V.aload_n dX12_grid_63 rfl 0 rfl ?_
      obtain ⟨v2, e9, hf⟩ := bS hf
      refine V.xgR dX12_grid_64 fl_RX12_42 e9 ?_
      refine V.iload dX12_grid_67 3 rfl ?_
      refine V.iconst (v := (0 : Int32)) dX12_grid_69 (by decide) ?_
      obtain ⟨h3, e10, hf⟩ := bS hf
      refine V.xstI dX12_grid_70 e10 ?_
      refine V.iconst (v := (0 : Int32)) dX12_grid_71 (by decide) ?_
      refine V.istore (lv' := [(5, .int (0 : Int32)), (0, .ref l0), (1, .int l1), (3, .int l3), (4, .int l4)]) dX12_grid_72 (by decide) rfl ?_
      refine V.sub [1, 2, 3, 4, 0] rfl ?_
      exact w_X12_grid_74 ih _ _ _ _ _ _ _ _ hf

set_option maxRecDepth 20000 in
theorem w_X12_grid_38 (h : xH) (l0 : Nat) (l1 : Int32) (l2 : Int32) (s0 : Int32) (s1 : Nat) (r : Int32 × xH) (hf : f_X12_grid_38 h l0 l1 l2 s0 s1 = some r) : V 5 yX12_grid cX12_grid 8 (some .int) [] none 38 [(0, .ref l0), (1, .int l1), (2, .int l2)] [.int s0, .ref s1] h (oIh r) := by
  unfold f_X12_grid_38 at hf
  obtain ⟨h1, e11, hf⟩ := bS hf
  refine V.xpF dX12_grid_38 fl_RX12_75 (fun h9 => nomatch h9) (fun _ => rfl) (fun _ => rfl) e11 ?_
  refine V.aload_n dX12_grid_41 rfl 0 rfl ?_
  obtain ⟨v2, e12, hf⟩ := bS hf
  refine V.xgI dX12_grid_42 fl_RX12_75 e12 ?_
  refine V.if_le (tgt := 50) dX12_grid_45 (by decide) (fun c3 => ?_) (fun c3 => ?_)
  · rw [if_pos c3] at hf
    refine V.iload_n dX12_grid_50 rfl 1 rfl ?_
    refine V.iload_n dX12_grid_51 rfl 2 rfl ?_
    refine V.imul dX12_grid_52 ?_
    refine V.istore_n (lv' := [(3, .int (l1 * l2)), (0, .ref l0), (1, .int l1), (2, .int l2)]) dX12_grid_53 rfl (by decide) rfl ?_
    refine V.iconst (v := (0 : Int32)) dX12_grid_54 (by decide) ?_
    refine V.istore (lv' := [(4, .int (0 : Int32)), (3, .int (l1 * l2)), (0, .ref l0), (1, .int l1), (2, .int l2)]) dX12_grid_55 (by decide) rfl ?_
    refine V.sub [2, 3, 1, 0] rfl ?_
    exact w_X12_grid_57 _ _ _ _ _ _ _ hf
  · rw [if_neg c3] at hf
    refine V.iconst (v := (0 : Int32)) dX12_grid_48 (by decide) ?_
    obtain rfl := Option.some.inj hf
    exact V.iret dX12_grid_49

set_option maxRecDepth 20000 in
theorem w_X12_grid_37 (h : xH) (l0 : Nat) (l1 : Int32) (l2 : Int32) (s0 : Nat) (r : Int32 × xH) (hf : f_X12_grid_37 h l0 l1 l2 s0 = some r) : V 5 yX12_grid cX12_grid 8 (some .int) [] none 37 [(0, .ref l0), (1, .int l1), (2, .int l2)] [.ref s0] h (oIh r) := by
  unfold f_X12_grid_37 at hf
  refine V.iconst (v := (1 : Int32)) dX12_grid_37 (by decide) ?_
  exact w_X12_grid_38 _ _ _ _ _ _ _ hf

set_option maxRecDepth 20000 in
theorem w_X12_grid (h : xH) (l0 : Nat) (l1 : Int32) (l2 : Int32) (r : Int32 × xH) (hf : f_X12_grid h l0 l1 l2 = some r) : Ev 5 yX12_grid cX12_grid 8 (some .int) [] [.ref l0, .int l1, .int l2] h (oIh r) := by
  refine Ev.of (by decide +kernel) (Nat.le_of_ble_eq_true rfl) ?_
  unfold f_X12_grid at hf
  refine V.aload_n dX12_grid_0 rfl 0 rfl ?_
  refine V.iload_n dX12_grid_1 rfl 1 rfl ?_
  refine V.i2l dX12_grid_2 ?_
  refine V.lconst (v := 1) dX12_grid_3 (by decide) ?_
  refine V.ldc2 (v := (16 : Int64)) dX12_grid_4 cj_RX12_332 ?_
  obtain ⟨r1, e13, hf⟩ := bS hf
  refine V.callS (As := [.long (Int32.toInt64 l1), .long (1 : Int64), .long (16 : Int64)]) (st := [.ref l0]) dX12_grid_7 cl_RX12_134 sw_yX12_within (by decide) rfl (Nat.le_of_ble_eq_true rfl) rfl (w_X12_within _ _ _ _ _ e13) ?_
  refine V.if_eq (tgt := 37) dX12_grid_10 (by decide) (fun c2 => ?_) (fun c2 => ?_)
  · rw [if_pos c2] at hf
    exact w_X12_grid_37 _ _ _ _ _ _ hf
  · rw [if_neg c2] at hf
    refine V.iload_n dX12_grid_13 rfl 2 rfl ?_
    refine V.i2l dX12_grid_14 ?_
    refine V.lconst (v := 1) dX12_grid_15 (by decide) ?_
    refine V.ldc2 (v := (16 : Int64)) dX12_grid_16 cj_RX12_332 ?_
    obtain ⟨r3, e14, hf⟩ := bS hf
    refine V.callS (As := [.long (Int32.toInt64 l2), .long (1 : Int64), .long (16 : Int64)]) (st := [.ref l0]) dX12_grid_19 cl_RX12_134 sw_yX12_within (by decide) rfl (Nat.le_of_ble_eq_true rfl) rfl (w_X12_within _ _ _ _ _ e14) ?_
    refine V.if_eq (tgt := 37) dX12_grid_22 (by decide) (fun c4 => ?_) (fun c4 => ?_)
    · rw [if_pos c4] at hf
      exact w_X12_grid_37 _ _ _ _ _ _ hf
    · rw [if_neg c4] at hf
      refine V.iload_n dX12_grid_25 rfl 1 rfl ?_
      refine V.iload_n dX12_grid_26 rfl 2 rfl ?_
      refine V.imul dX12_grid_27 ?_
      refine V.bipush (v := (16 : Int32)) dX12_grid_28 (by decide) ?_
      refine V.icmp_gt (tgt := 37) dX12_grid_30 (by decide) (fun c5 => ?_) (fun c5 => ?_)
      · rw [if_pos c5] at hf
        exact w_X12_grid_37 _ _ _ _ _ _ hf
      · rw [if_neg c5] at hf
        refine V.iconst (v := (0 : Int32)) dX12_grid_33 (by decide) ?_
        refine V.goto (tgt := 38) dX12_grid_34 (by decide) ?_
        exact w_X12_grid_38 _ _ _ _ _ _ _ hf

def f_X12_hangs_36 (h : xH) (s0 : Int32) (s1 : Int32) (s2 : Nat) : Option (xH) := (stI h .int s2 s1 s0).bind fun h1 => some (h1)
def f_X12_hangs (h : xH) (l0 : Nat) (l1 : Int32) (l2 : Int32) (l3 : Int32) : Option (xH) := (gR h l0 12 0).bind fun v1 => (stI h .int v1 ((448 : Int32) + ((2 : Int32) * l1)) l2).bind fun h2 => (gR h2 l0 12 0).bind fun v3 => (if l2 = (-1 : Int32) then (f_X12_hangs_36 h2 (0 : Int32) (((448 : Int32) + ((2 : Int32) * l1)) + (1 : Int32)) v3) else (f_X12_hangs_36 h2 l3 (((448 : Int32) + ((2 : Int32) * l1)) + (1 : Int32)) v3))
set_option maxRecDepth 20000 in
theorem w_X12_hangs_36 (h : xH) (s0 : Int32) (s1 : Int32) (s2 : Nat) (r : xH) (hf : f_X12_hangs_36 h s0 s1 s2 = some r) : V 3 yX12_hangs cX12_hangs 4 none [] none 36 [] [.int s0, .int s1, .ref s2] h (oVh r) := by
  unfold f_X12_hangs_36 at hf
  obtain ⟨h1, e1, hf⟩ := bS hf
  refine V.xstI dX12_hangs_36 e1 ?_
  obtain rfl := Option.some.inj hf
  exact V.vret dX12_hangs_37

set_option maxRecDepth 20000 in
theorem w_X12_hangs (h : xH) (l0 : Nat) (l1 : Int32) (l2 : Int32) (l3 : Int32) (r : xH) (hf : f_X12_hangs h l0 l1 l2 l3 = some r) : Ev 3 yX12_hangs cX12_hangs 4 none [] [.ref l0, .int l1, .int l2, .int l3] h (oVh r) := by
  refine Ev.of (by decide +kernel) (Nat.le_of_ble_eq_true rfl) ?_
  unfold f_X12_hangs at hf
  refine V.aload_n dX12_hangs_0 rfl 0 rfl ?_
  obtain ⟨v1, e2, hf⟩ := bS hf
  refine V.xgR dX12_hangs_1 fl_RX12_9 e2 ?_
  refine V.sipush (v := (448 : Int32)) dX12_hangs_4 (by decide) ?_
  refine V.iconst (v := (2 : Int32)) dX12_hangs_7 (by decide) ?_
  refine V.iload_n dX12_hangs_8 rfl 1 rfl ?_
  refine V.imul dX12_hangs_9 ?_
  refine V.iadd dX12_hangs_10 ?_
  refine V.iload_n dX12_hangs_11 rfl 2 rfl ?_
  obtain ⟨h2, e3, hf⟩ := bS hf
  refine V.xstI dX12_hangs_12 e3 ?_
  refine V.aload_n dX12_hangs_13 rfl 0 rfl ?_
  obtain ⟨v3, e4, hf⟩ := bS hf
  refine V.xgR dX12_hangs_14 fl_RX12_9 e4 ?_
  refine V.sipush (v := (448 : Int32)) dX12_hangs_17 (by decide) ?_
  refine V.iconst (v := (2 : Int32)) dX12_hangs_20 (by decide) ?_
  refine V.iload_n dX12_hangs_21 rfl 1 rfl ?_
  refine V.imul dX12_hangs_22 ?_
  refine V.iadd dX12_hangs_23 ?_
  refine V.iconst (v := (1 : Int32)) dX12_hangs_24 (by decide) ?_
  refine V.iadd dX12_hangs_25 ?_
  refine V.iload_n dX12_hangs_26 rfl 2 rfl ?_
  refine V.iconst (v := (-1 : Int32)) dX12_hangs_27 (by decide) ?_
  refine V.icmp_ne (tgt := 35) dX12_hangs_28 (by decide) (fun c4 => ?_) (fun c4 => ?_)
  · rw [if_neg c4] at hf
    refine V.iload_n dX12_hangs_35 rfl 3 rfl ?_
    refine V.sub [] rfl ?_
    exact w_X12_hangs_36 _ _ _ _ _ hf
  · rw [if_pos c4] at hf
    refine V.iconst (v := (0 : Int32)) dX12_hangs_31 (by decide) ?_
    refine V.goto (tgt := 36) dX12_hangs_32 (by decide) ?_
    refine V.sub [] rfl ?_
    exact w_X12_hangs_36 _ _ _ _ _ hf

def f_X12_hang_26 (h : xH) (l0 : Nat) : Option (Int32 × xH) := (gO h l0 12).bind fun q1 => (f_X12_fails h l0 (1 : Int32)).bind fun r2 => some ((r2.1, r2.2))
def f_X12_hang_32 (h : xH) (l0 : Nat) (l1 : Int32) (l2 : Int32) (l3 : Int32) : Option (Int32 × xH) := (f_X12_within h (Int32.toInt64 l3) (0 : Int64) (16777215 : Int64)).bind fun r1 => (if r1 = 0 then ((gO h l0 12).bind fun q7 => (f_X12_fails h l0 (2 : Int32)).bind fun r8 => some ((r8.1, r8.2))) else ((gR h l0 12 0).bind fun v3 => (ldI h .int v3 ((448 : Int32) + ((2 : Int32) * l1))).bind fun v4 => (gO h l0 12).bind fun q5 => (f_X12_hangs h l0 l1 l2 l3).bind fun r6 => some ((v4, r6))))
def f_X12_hang (h : xH) (l0 : Nat) (l1 : Int32) (l2 : Int32) (l3 : Int32) : Option (Int32 × xH) := (pF h l0 12 4 (.int (0 : Int32))).bind fun h1 => (gO h1 l0 12).bind fun q2 => (f_X12_isRoom h1 l0 l1).bind fun r3 => (if r3 = 0 then (f_X12_hang_26 h1 l0) else ((if l2 = (-1 : Int32) then (f_X12_hang_32 h1 l0 l1 l2 l3) else ((gO h1 l0 12).bind fun q6 => (f_X12_isKind h1 l0 l2).bind fun r7 => (if r7 = 0 then (f_X12_hang_26 h1 l0) else (f_X12_hang_32 h1 l0 l1 l2 l3))))))
set_option maxRecDepth 20000 in
theorem w_X12_hang_26 (h : xH) (l0 : Nat) (r : Int32 × xH) (hf : f_X12_hang_26 h l0 = some r) : V 5 yX12_hang cX12_hang 5 (some .int) [] none 26 [(0, .ref l0)] [] h (oIh r) := by
  unfold f_X12_hang_26 at hf
  refine V.aload_n dX12_hang_26 rfl 0 rfl ?_
  refine V.iconst (v := (1 : Int32)) dX12_hang_27 (by decide) ?_
  obtain ⟨q1, e1, hf⟩ := bS hf
  obtain ⟨r2, e2, hf⟩ := bS hf
  refine V.callV (As := [.int (1 : Int32)]) (st := []) dX12_hang_28 cl_RX12_219 sw_yX12_fails (by decide) rfl (Nat.le_of_ble_eq_true rfl) rfl (gO_some e1) rfl (w_X12_fails _ _ _ _ e2) ?_
  obtain rfl := Option.some.inj hf
  exact V.iret dX12_hang_31

set_option maxRecDepth 20000 in
theorem w_X12_hang_32 (h : xH) (l0 : Nat) (l1 : Int32) (l2 : Int32) (l3 : Int32) (r : Int32 × xH) (hf : f_X12_hang_32 h l0 l1 l2 l3 = some r) : V 5 yX12_hang cX12_hang 5 (some .int) [] none 32 [(0, .ref l0), (1, .int l1), (2, .int l2), (3, .int l3)] [] h (oIh r) := by
  unfold f_X12_hang_32 at hf
  refine V.iload_n dX12_hang_32 rfl 3 rfl ?_
  refine V.i2l dX12_hang_33 ?_
  refine V.lconst (v := 0) dX12_hang_34 (by decide) ?_
  refine V.ldc2 (v := (16777215 : Int64)) dX12_hang_35 cj_RX12_262 ?_
  obtain ⟨r1, e3, hf⟩ := bS hf
  refine V.callS (As := [.long (Int32.toInt64 l3), .long (0 : Int64), .long (16777215 : Int64)]) (st := []) dX12_hang_38 cl_RX12_134 sw_yX12_within (by decide) rfl (Nat.le_of_ble_eq_true rfl) rfl (w_X12_within _ _ _ _ _ e3) ?_
  refine V.if_ne (tgt := 50) dX12_hang_41 (by decide) (fun c2 => ?_) (fun c2 => ?_)
  · rw [if_neg c2] at hf
    refine V.aload_n dX12_hang_50 rfl 0 rfl ?_
    obtain ⟨v3, e4, hf⟩ := bS hf
    refine V.xgR dX12_hang_51 fl_RX12_9 e4 ?_
    refine V.sipush (v := (448 : Int32)) dX12_hang_54 (by decide) ?_
    refine V.iconst (v := (2 : Int32)) dX12_hang_57 (by decide) ?_
    refine V.iload_n dX12_hang_58 rfl 1 rfl ?_
    refine V.imul dX12_hang_59 ?_
    refine V.iadd dX12_hang_60 ?_
    obtain ⟨v4, e5, hf⟩ := bS hf
    refine V.xldI dX12_hang_61 e5 ?_
    refine V.istore (lv' := [(4, .int v4), (0, .ref l0), (1, .int l1), (2, .int l2), (3, .int l3)]) dX12_hang_62 (by decide) rfl ?_
    refine V.aload_n dX12_hang_64 rfl 1 rfl ?_
    refine V.iload_n dX12_hang_65 rfl 2 rfl ?_
    refine V.iload_n dX12_hang_66 rfl 3 rfl ?_
    refine V.iload_n dX12_hang_67 rfl 4 rfl ?_
    obtain ⟨q5, e6, hf⟩ := bS hf
    obtain ⟨r6, e7, hf⟩ := bS hf
    refine V.callV (As := [.int l1, .int l2, .int l3]) (st := []) dX12_hang_68 cl_RX12_264 sw_yX12_hangs (by decide) rfl (Nat.le_of_ble_eq_true rfl) rfl (gO_some e6) rfl (w_X12_hangs _ _ _ _ _ _ e7) ?_
    refine V.iload dX12_hang_71 0 rfl ?_
    obtain rfl := Option.some.inj hf
    exact V.iret dX12_hang_73
  · rw [if_pos c2] at hf
    refine V.aload_n dX12_hang_44 rfl 0 rfl ?_
    refine V.iconst (v := (2 : Int32)) dX12_hang_45 (by decide) ?_
    obtain ⟨q7, e8, hf⟩ := bS hf
    obtain ⟨r8, e9, hf⟩ := bS hf
    refine V.callV (As := [.int (2 : Int32)]) (st := []) dX12_hang_46 cl_RX12_219 sw_yX12_fails (by decide) rfl (Nat.le_of_ble_eq_true rfl) rfl (gO_some e8) rfl (w_X12_fails _ _ _ _ e9) ?_
    obtain rfl := Option.some.inj hf
    exact V.iret dX12_hang_49

set_option maxRecDepth 20000 in
theorem w_X12_hang (h : xH) (l0 : Nat) (l1 : Int32) (l2 : Int32) (l3 : Int32) (r : Int32 × xH) (hf : f_X12_hang h l0 l1 l2 l3 = some r) : Ev 5 yX12_hang cX12_hang 5 (some .int) [] [.ref l0, .int l1, .int l2, .int l3] h (oIh r) := by
  refine Ev.of (by decide +kernel) (Nat.le_of_ble_eq_true rfl) ?_
  unfold f_X12_hang at hf
  refine V.aload_n dX12_hang_0 rfl 0 rfl ?_
  refine V.iconst (v := (0 : Int32)) dX12_hang_1 (by decide) ?_
  obtain ⟨h1, e10, hf⟩ := bS hf
  refine V.xpF dX12_hang_2 fl_RX12_75 (fun h9 => nomatch h9) (fun _ => rfl) (fun _ => rfl) e10 ?_
  refine V.aload_n dX12_hang_5 rfl 0 rfl ?_
  refine V.iload_n dX12_hang_6 rfl 1 rfl ?_
  obtain ⟨q2, e11, hf⟩ := bS hf
  obtain ⟨r3, e12, hf⟩ := bS hf
  refine V.callV (As := [.int l1]) (st := []) dX12_hang_7 cl_RX12_240 sw_yX12_isRoom (by decide) rfl (Nat.le_of_ble_eq_true rfl) rfl (gO_some e11) rfl (w_X12_isRoom _ _ _ _ e12) ?_
  refine V.if_eq (tgt := 26) dX12_hang_10 (by decide) (fun c4 => ?_) (fun c4 => ?_)
  · rw [if_pos c4] at hf
    refine V.sub [0] rfl ?_
    exact w_X12_hang_26 _ _ _ hf
  · rw [if_neg c4] at hf
    refine V.iload_n dX12_hang_13 rfl 2 rfl ?_
    refine V.iconst (v := (-1 : Int32)) dX12_hang_14 (by decide) ?_
    refine V.icmp_eq (tgt := 32) dX12_hang_15 (by decide) (fun c5 => ?_) (fun c5 => ?_)
    · rw [if_pos c5] at hf
      exact w_X12_hang_32 _ _ _ _ _ _ hf
    · rw [if_neg c5] at hf
      refine V.aload_n dX12_hang_18 rfl 0 rfl ?_
      refine V.iload_n dX12_hang_19 rfl 2 rfl ?_
      obtain ⟨q6, e13, hf⟩ := bS hf
      obtain ⟨r7, e14, hf⟩ := bS hf
      refine V.callV (As := [.int l2]) (st := []) dX12_hang_20 cl_RX12_237 sw_yX12_isKind (by decide) rfl (Nat.le_of_ble_eq_true rfl) rfl (gO_some e13) rfl (w_X12_isKind _ _ _ _ e14) ?_
      refine V.if_ne (tgt := 32) dX12_hang_23 (by decide) (fun c8 => ?_) (fun c8 => ?_)
      · rw [if_neg c8] at hf
        exact w_X12_hang_32 _ _ _ _ _ _ hf
      · rw [if_pos c8] at hf
        refine V.sub [0] rfl ?_
        exact w_X12_hang_26 _ _ _ hf

def f_X12_hated (h : xH) (l0 : Nat) (l1 : Int32) : Option (Int32 × xH) := (pF h l0 12 4 (.int (0 : Int32))).bind fun h1 => (gO h1 l0 12).bind fun q2 => (f_X12_isRoom h1 l0 l1).bind fun r3 => (if r3 = 0 then ((gO h1 l0 12).bind fun q5 => (f_X12_fails h1 l0 (1 : Int32)).bind fun r6 => some ((r6.1, r6.2))) else ((gR h1 l0 12 0).bind fun v7 => (ldI h1 .int v7 ((432 : Int32) + l1)).bind fun v8 => some ((v8, h1))))
set_option maxRecDepth 20000 in
theorem w_X12_hated (h : xH) (l0 : Nat) (l1 : Int32) (r : Int32 × xH) (hf : f_X12_hated h l0 l1 = some r) : Ev 5 yX12_hated cX12_hated 2 (some .int) [] [.ref l0, .int l1] h (oIh r) := by
  refine Ev.of (by decide +kernel) (Nat.le_of_ble_eq_true rfl) ?_
  unfold f_X12_hated at hf
  refine V.aload_n dX12_hated_0 rfl 0 rfl ?_
  refine V.iconst (v := (0 : Int32)) dX12_hated_1 (by decide) ?_
  obtain ⟨h1, e1, hf⟩ := bS hf
  refine V.xpF dX12_hated_2 fl_RX12_75 (fun h9 => nomatch h9) (fun _ => rfl) (fun _ => rfl) e1 ?_
  refine V.aload_n dX12_hated_5 rfl 0 rfl ?_
  refine V.iload_n dX12_hated_6 rfl 1 rfl ?_
  obtain ⟨q2, e2, hf⟩ := bS hf
  obtain ⟨r3, e3, hf⟩ := bS hf
  refine V.callV (As := [.int l1]) (st := []) dX12_hated_7 cl_RX12_240 sw_yX12_isRoom (by decide) rfl (Nat.le_of_ble_eq_true rfl) rfl (gO_some e2) rfl (w_X12_isRoom _ _ _ _ e3) ?_
  refine V.if_eq (tgt := 26) dX12_hated_10 (by decide) (fun c4 => ?_) (fun c4 => ?_)
  · rw [if_pos c4] at hf
    refine V.aload_n dX12_hated_26 rfl 0 rfl ?_
    refine V.iconst (v := (1 : Int32)) dX12_hated_27 (by decide) ?_
    obtain ⟨q5, e4, hf⟩ := bS hf
    obtain ⟨r6, e5, hf⟩ := bS hf
    refine V.callV (As := [.int (1 : Int32)]) (st := []) dX12_hated_28 cl_RX12_219 sw_yX12_fails (by decide) rfl (Nat.le_of_ble_eq_true rfl) rfl (gO_some e4) rfl (w_X12_fails _ _ _ _ e5) ?_
    obtain rfl := Option.some.inj hf
    exact V.iret dX12_hated_31
  · rw [if_neg c4] at hf
    refine V.aload_n dX12_hated_13 rfl 0 rfl ?_
    obtain ⟨v7, e6, hf⟩ := bS hf
    refine V.xgR dX12_hated_14 fl_RX12_9 e6 ?_
    refine V.sipush (v := (432 : Int32)) dX12_hated_17 (by decide) ?_
    refine V.iload_n dX12_hated_20 rfl 1 rfl ?_
    refine V.iadd dX12_hated_21 ?_
    obtain ⟨v8, e7, hf⟩ := bS hf
    refine V.xldI dX12_hated_22 e7 ?_
    refine V.goto (tgt := 31) dX12_hated_23 (by decide) ?_
    obtain rfl := Option.some.inj hf
    exact V.iret dX12_hated_31

def f_X12_savesOf_78 (h : xH) (l0 : Nat) (l2 : Int32) : Option (Int32 × xH) := (gO h l0 12).bind fun q1 => (f_X12_bestOf h l0 (0 : Int32)).bind fun r2 => (if r2 = (-1 : Int32) then (some (((0 : Int32), h))) else ((if l2 = (-1 : Int32) then (some (((100 : Int32), h))) else ((f_X12_ones h l2).bind fun r5 => (f_X12_ones h r2).bind fun r6 => some (((r5 - r6), h))))))
def f_X12_savesOf (h : xH) (l0 : Nat) (l1 : Int32) : Option (Int32 × xH) := (gO h l0 12).bind fun q1 => (f_X12_layNexts h l0).bind fun r2 => (gO r2 l0 12).bind fun q3 => (f_X12_bestOf r2 l0 (0 : Int32)).bind fun r4 => (gR r2 l0 12 16).bind fun v5 => (gR r2 l0 12 0).bind fun v6 => (ldI r2 .int v6 (((376 : Int32) + ((5 : Int32) * l1)) + (1 : Int32))).bind fun v7 => (ldI r2 .int v5 v7).bind fun v8 => (gR r2 l0 12 0).bind fun v9 => (ldI r2 .int v9 ((376 : Int32) + ((5 : Int32) * l1))).bind fun v10 => (stI r2 .int v5 v7 (v8 ||| ((1 : Int32) <<< (v10 &&& 31)))).bind fun h11 => (gR h11 l0 12 0).bind fun v12 => (ldI h11 .int v12 (((376 : Int32) + ((5 : Int32) * l1)) + (4 : Int32))).bind fun v13 => (if v13 = (1 : Int32) then ((gR h11 l0 12 16).bind fun v15 => (gR h11 l0 12 0).bind fun v16 => (ldI h11 .int v16 ((376 : Int32) + ((5 : Int32) * l1))).bind fun v17 => (ldI h11 .int v15 v17).bind fun v18 => (gR h11 l0 12 0).bind fun v19 => (ldI h11 .int v19 (((376 : Int32) + ((5 : Int32) * l1)) + (1 : Int32))).bind fun v20 => (stI h11 .int v15 v17 (v18 ||| ((1 : Int32) <<< (v20 &&& 31)))).bind fun h21 => f_X12_savesOf_78 h21 l0 r4) else (f_X12_savesOf_78 h11 l0 r4))
set_option maxRecDepth 20000 in
theorem w_X12_savesOf_78 (h : xH) (l0 : Nat) (l2 : Int32) (r : Int32 × xH) (hf : f_X12_savesOf_78 h l0 l2 = some r) : V 8 yX12_savesOf cX12_savesOf 5 (some .int) [] none 78 [(0, .ref l0), (2, .int l2)] [] h (oIh r) := by
  unfold f_X12_savesOf_78 at hf
  refine V.aload_n dX12_savesOf_78 rfl 0 rfl ?_
  refine V.iconst (v := (0 : Int32)) dX12_savesOf_79 (by decide) ?_
  obtain ⟨q1, e1, hf⟩ := bS hf
  obtain ⟨r2, e2, hf⟩ := bS hf
  refine V.callV (As := [.int (0 : Int32)]) (st := []) dX12_savesOf_80 cl_RX12_309 sw_yX12_bestOf (by decide) rfl (Nat.le_of_ble_eq_true rfl) rfl (gO_some e1) rfl (w_X12_bestOf _ _ _ _ e2) ?_
  refine V.istore (lv' := [(4, .int r2), (0, .ref l0), (2, .int l2)]) dX12_savesOf_83 (by decide) rfl ?_
  refine V.iload dX12_savesOf_85 0 rfl ?_
  refine V.iconst (v := (-1 : Int32)) dX12_savesOf_87 (by decide) ?_
  refine V.icmp_ne (tgt := 95) dX12_savesOf_88 (by decide) (fun c3 => ?_) (fun c3 => ?_)
  · rw [if_neg c3] at hf
    refine V.iload_n dX12_savesOf_95 rfl 2 rfl ?_
    refine V.iconst (v := (-1 : Int32)) dX12_savesOf_96 (by decide) ?_
    refine V.icmp_ne (tgt := 105) dX12_savesOf_97 (by decide) (fun c4 => ?_) (fun c4 => ?_)
    · rw [if_neg c4] at hf
      refine V.iload_n dX12_savesOf_105 rfl 2 rfl ?_
      obtain ⟨r5, e3, hf⟩ := bS hf
      refine V.callS (As := [.int l2]) (st := []) dX12_savesOf_106 cl_RX12_285 sw_yX12_ones (by decide) rfl (Nat.le_of_ble_eq_true rfl) rfl (w_X12_ones _ _ _ e3) ?_
      refine V.iload dX12_savesOf_109 0 rfl ?_
      obtain ⟨r6, e4, hf⟩ := bS hf
      refine V.callS (As := [.int r2]) (st := [.int r5]) dX12_savesOf_111 cl_RX12_285 sw_yX12_ones (by decide) rfl (Nat.le_of_ble_eq_true rfl) rfl (w_X12_ones _ _ _ e4) ?_
      refine V.isub dX12_savesOf_114 ?_
      obtain rfl := Option.some.inj hf
      exact V.iret dX12_savesOf_115
    · rw [if_pos c4] at hf
      refine V.bipush (v := (100 : Int32)) dX12_savesOf_100 (by decide) ?_
      refine V.goto (tgt := 115) dX12_savesOf_102 (by decide) ?_
      obtain rfl := Option.some.inj hf
      exact V.iret dX12_savesOf_115
  · rw [if_pos c3] at hf
    refine V.iconst (v := (0 : Int32)) dX12_savesOf_91 (by decide) ?_
    refine V.goto (tgt := 115) dX12_savesOf_92 (by decide) ?_
    obtain rfl := Option.some.inj hf
    exact V.iret dX12_savesOf_115

set_option maxRecDepth 20000 in
theorem w_X12_savesOf (h : xH) (l0 : Nat) (l1 : Int32) (r : Int32 × xH) (hf : f_X12_savesOf h l0 l1 = some r) : Ev 8 yX12_savesOf cX12_savesOf 5 (some .int) [] [.ref l0, .int l1] h (oIh r) := by
  refine Ev.of (by decide +kernel) (Nat.le_of_ble_eq_true rfl) ?_
  unfold f_X12_savesOf at hf
  refine V.aload_n dX12_savesOf_0 rfl 0 rfl ?_
  obtain ⟨q1, e5, hf⟩ := bS hf
  obtain ⟨r2, e6, hf⟩ := bS hf
  refine V.callV (As := []) (st := []) dX12_savesOf_1 cl_RX12_291 sw_yX12_layNexts (by decide) rfl (Nat.le_of_ble_eq_true rfl) rfl (gO_some e5) rfl (w_X12_layNexts _ _ _ e6) ?_
  refine V.aload_n dX12_savesOf_4 rfl 0 rfl ?_
  refine V.iconst (v := (0 : Int32)) dX12_savesOf_5 (by decide) ?_
  obtain ⟨q3, e7, hf⟩ := bS hf
  obtain ⟨r4, e8, hf⟩ := bS hf
  refine V.callV (As := [.int (0 : Int32)]) (st := []) dX12_savesOf_6 cl_RX12_309 sw_yX12_bestOf (by decide) rfl (Nat.le_of_ble_eq_true rfl) rfl (gO_some e7) rfl (w_X12_bestOf _ _ _ _ e8) ?_
  refine V.istore_n (lv' := [(2, .int r4), (0, .ref l0), (1, .int l1)]) dX12_savesOf_9 rfl (by decide) rfl ?_
  refine V.sipush (v := (376 : Int32)) dX12_savesOf_10 (by decide) ?_
  refine V.iconst (v := (5 : Int32)) dX12_savesOf_13 (by decide) ?_
  refine V.iload_n dX12_savesOf_14 rfl 2 rfl ?_
  refine V.imul dX12_savesOf_15 ?_
  refine V.iadd dX12_savesOf_16 ?_
  refine V.istore_n (lv' := [(3, .int ((376 : Int32) + ((5 : Int32) * l1))), (2, .int r4), (0, .ref l0), (1, .int l1)]) dX12_savesOf_17 rfl (by decide) rfl ?_
  refine V.aload_n dX12_savesOf_18 rfl 2 rfl ?_
  obtain ⟨v5, e9, hf⟩ := bS hf
  refine V.xgR dX12_savesOf_19 fl_RX12_30 e9 ?_
  refine V.aload_n dX12_savesOf_22 rfl 2 rfl ?_
  obtain ⟨v6, e10, hf⟩ := bS hf
  refine V.xgR dX12_savesOf_23 fl_RX12_9 e10 ?_
  refine V.iload_n dX12_savesOf_26 rfl 0 rfl ?_
  refine V.iconst (v := (1 : Int32)) dX12_savesOf_27 (by decide) ?_
  refine V.iadd dX12_savesOf_28 ?_
  obtain ⟨v7, e11, hf⟩ := bS hf
  refine V.xldI dX12_savesOf_29 e11 ?_
  refine V.dup2 dX12_savesOf_30 rfl rfl ?_
  obtain ⟨v8, e12, hf⟩ := bS hf
  refine V.xldI dX12_savesOf_31 e12 ?_
  refine V.iconst (v := (1 : Int32)) dX12_savesOf_32 (by decide) ?_
  refine V.aload_n dX12_savesOf_33 rfl 2 rfl ?_
  obtain ⟨v9, e13, hf⟩ := bS hf
  refine V.xgR dX12_savesOf_34 fl_RX12_9 e13 ?_
  refine V.iload_n dX12_savesOf_37 rfl 0 rfl ?_
  obtain ⟨v10, e14, hf⟩ := bS hf
  refine V.xldI dX12_savesOf_38 e14 ?_
  refine V.ishl dX12_savesOf_39 ?_
  refine V.ior dX12_savesOf_40 ?_
  obtain ⟨h11, e15, hf⟩ := bS hf
  refine V.xstI dX12_savesOf_41 e15 ?_
  refine V.aload_n dX12_savesOf_42 rfl 2 rfl ?_
  obtain ⟨v12, e16, hf⟩ := bS hf
  refine V.xgR dX12_savesOf_43 fl_RX12_9 e16 ?_
  refine V.iload_n dX12_savesOf_46 rfl 0 rfl ?_
  refine V.iconst (v := (4 : Int32)) dX12_savesOf_47 (by decide) ?_
  refine V.iadd dX12_savesOf_48 ?_
  obtain ⟨v13, e17, hf⟩ := bS hf
  refine V.xldI dX12_savesOf_49 e17 ?_
  refine V.iconst (v := (1 : Int32)) dX12_savesOf_50 (by decide) ?_
  refine V.icmp_ne (tgt := 78) dX12_savesOf_51 (by decide) (fun c14 => ?_) (fun c14 => ?_)
  · rw [if_neg c14] at hf
    refine V.sub [2, 1] rfl ?_
    exact w_X12_savesOf_78 _ _ _ _ hf
  · rw [if_pos c14] at hf
    refine V.aload_n dX12_savesOf_54 rfl 2 rfl ?_
    obtain ⟨v15, e18, hf⟩ := bS hf
    refine V.xgR dX12_savesOf_55 fl_RX12_30 e18 ?_
    refine V.aload_n dX12_savesOf_58 rfl 2 rfl ?_
    obtain ⟨v16, e19, hf⟩ := bS hf
    refine V.xgR dX12_savesOf_59 fl_RX12_9 e19 ?_
    refine V.iload_n dX12_savesOf_62 rfl 0 rfl ?_
    obtain ⟨v17, e20, hf⟩ := bS hf
    refine V.xldI dX12_savesOf_63 e20 ?_
    refine V.dup2 dX12_savesOf_64 rfl rfl ?_
    obtain ⟨v18, e21, hf⟩ := bS hf
    refine V.xldI dX12_savesOf_65 e21 ?_
    refine V.iconst (v := (1 : Int32)) dX12_savesOf_66 (by decide) ?_
    refine V.aload_n dX12_savesOf_67 rfl 2 rfl ?_
    obtain ⟨v19, e22, hf⟩ := bS hf
    refine V.xgR dX12_savesOf_68 fl_RX12_9 e22 ?_
    refine V.iload_n dX12_savesOf_71 rfl 0 rfl ?_
    refine V.iconst (v := (1 : Int32)) dX12_savesOf_72 (by decide) ?_
    refine V.iadd dX12_savesOf_73 ?_
    obtain ⟨v20, e23, hf⟩ := bS hf
    refine V.xldI dX12_savesOf_74 e23 ?_
    refine V.ishl dX12_savesOf_75 ?_
    refine V.ior dX12_savesOf_76 ?_
    obtain ⟨h21, e24, hf⟩ := bS hf
    refine V.xstI dX12_savesOf_77 e24 ?_
    refine V.sub [2, 1] rfl ?_
    exact w_X12_savesOf_78 _ _ _ _ hf

def f_X12_hole (h : xH) (l0 : Nat) (l1 : Int32) (l2 : Int32) : Option (Int32 × xH) := (pF h l0 12 4 (.int (0 : Int32))).bind fun h1 => (gR h1 l0 12 0).bind fun v2 => (ldI h1 .int v2 (5 : Int32)).bind fun v3 => (f_X12_within h1 (Int32.toInt64 l1) (0 : Int64) (Int32.toInt64 (v3 - (1 : Int32)))).bind fun r4 => (if r4 = 0 then ((gO h1 l0 12).bind fun q15 => (f_X12_fails h1 l0 (1 : Int32)).bind fun r16 => some ((r16.1, r16.2))) else ((f_X12_within h1 (Int32.toInt64 l2) (0 : Int64) (4 : Int64)).bind fun r6 => (if r6 = 0 then ((gO h1 l0 12).bind fun q13 => (f_X12_fails h1 l0 (2 : Int32)).bind fun r14 => some ((r14.1, r14.2))) else ((if l2 = (4 : Int32) then ((gO h1 l0 12).bind fun q11 => (f_X12_savesOf h1 l0 l1).bind fun r12 => some ((r12.1, r12.2))) else ((gR h1 l0 12 0).bind fun v9 => (ldI h1 .int v9 (((376 : Int32) + ((5 : Int32) * l1)) + l2)).bind fun v10 => some ((v10, h1))))))))
set_option maxRecDepth 20000 in
theorem w_X12_hole (h : xH) (l0 : Nat) (l1 : Int32) (l2 : Int32) (r : Int32 × xH) (hf : f_X12_hole h l0 l1 l2 = some r) : Ev 9 yX12_hole cX12_hole 3 (some .int) [] [.ref l0, .int l1, .int l2] h (oIh r) := by
  refine Ev.of (by decide +kernel) (Nat.le_of_ble_eq_true rfl) ?_
  unfold f_X12_hole at hf
  refine V.aload_n dX12_hole_0 rfl 0 rfl ?_
  refine V.iconst (v := (0 : Int32)) dX12_hole_1 (by decide) ?_
  obtain ⟨h1, e1, hf⟩ := bS hf
  refine V.xpF dX12_hole_2 fl_RX12_75 (fun h9 => nomatch h9) (fun _ => rfl) (fun _ => rfl) e1 ?_
  refine V.iload_n dX12_hole_5 rfl 1 rfl ?_
  refine V.i2l dX12_hole_6 ?_
  refine V.lconst (v := 0) dX12_hole_7 (by decide) ?_
  refine V.aload_n dX12_hole_8 rfl 0 rfl ?_
  obtain ⟨v2, e2, hf⟩ := bS hf
  refine V.xgR dX12_hole_9 fl_RX12_9 e2 ?_
  refine V.iconst (v := (5 : Int32)) dX12_hole_12 (by decide) ?_
  obtain ⟨v3, e3, hf⟩ := bS hf
  refine V.xldI dX12_hole_13 e3 ?_
  refine V.iconst (v := (1 : Int32)) dX12_hole_14 (by decide) ?_
  refine V.isub dX12_hole_15 ?_
  refine V.i2l dX12_hole_16 ?_
  obtain ⟨r4, e4, hf⟩ := bS hf
  refine V.callS (As := [.long (Int32.toInt64 l1), .long (0 : Int64), .long (Int32.toInt64 (v3 - (1 : Int32)))]) (st := []) dX12_hole_17 cl_RX12_134 sw_yX12_within (by decide) rfl (Nat.le_of_ble_eq_true rfl) rfl (w_X12_within _ _ _ _ _ e4) ?_
  refine V.if_ne (tgt := 29) dX12_hole_20 (by decide) (fun c5 => ?_) (fun c5 => ?_)
  · rw [if_neg c5] at hf
    refine V.iload_n dX12_hole_29 rfl 2 rfl ?_
    refine V.i2l dX12_hole_30 ?_
    refine V.lconst (v := 0) dX12_hole_31 (by decide) ?_
    refine V.ldc2 (v := (4 : Int64)) dX12_hole_32 cj_RX12_338 ?_
    obtain ⟨r6, e5, hf⟩ := bS hf
    refine V.callS (As := [.long (Int32.toInt64 l2), .long (0 : Int64), .long (4 : Int64)]) (st := []) dX12_hole_35 cl_RX12_134 sw_yX12_within (by decide) rfl (Nat.le_of_ble_eq_true rfl) rfl (w_X12_within _ _ _ _ _ e5) ?_
    refine V.if_ne (tgt := 47) dX12_hole_38 (by decide) (fun c7 => ?_) (fun c7 => ?_)
    · rw [if_neg c7] at hf
      refine V.iload_n dX12_hole_47 rfl 2 rfl ?_
      refine V.iconst (v := (4 : Int32)) dX12_hole_48 (by decide) ?_
      refine V.icmp_ne (tgt := 60) dX12_hole_49 (by decide) (fun c8 => ?_) (fun c8 => ?_)
      · rw [if_neg c8] at hf
        refine V.aload_n dX12_hole_60 rfl 0 rfl ?_
        obtain ⟨v9, e6, hf⟩ := bS hf
        refine V.xgR dX12_hole_61 fl_RX12_9 e6 ?_
        refine V.sipush (v := (376 : Int32)) dX12_hole_64 (by decide) ?_
        refine V.iconst (v := (5 : Int32)) dX12_hole_67 (by decide) ?_
        refine V.iload_n dX12_hole_68 rfl 1 rfl ?_
        refine V.imul dX12_hole_69 ?_
        refine V.iadd dX12_hole_70 ?_
        refine V.iload_n dX12_hole_71 rfl 2 rfl ?_
        refine V.iadd dX12_hole_72 ?_
        obtain ⟨v10, e7, hf⟩ := bS hf
        refine V.xldI dX12_hole_73 e7 ?_
        obtain rfl := Option.some.inj hf
        exact V.iret dX12_hole_74
      · rw [if_pos c8] at hf
        refine V.aload_n dX12_hole_52 rfl 0 rfl ?_
        refine V.iload_n dX12_hole_53 rfl 1 rfl ?_
        obtain ⟨q11, e8, hf⟩ := bS hf
        obtain ⟨r12, e9, hf⟩ := bS hf
        refine V.callV (As := [.int l1]) (st := []) dX12_hole_54 cl_RX12_340 sw_yX12_savesOf (by decide) rfl (Nat.le_of_ble_eq_true rfl) rfl (gO_some e8) rfl (w_X12_savesOf _ _ _ _ e9) ?_
        refine V.goto (tgt := 74) dX12_hole_57 (by decide) ?_
        obtain rfl := Option.some.inj hf
        exact V.iret dX12_hole_74
    · rw [if_pos c7] at hf
      refine V.aload_n dX12_hole_41 rfl 0 rfl ?_
      refine V.iconst (v := (2 : Int32)) dX12_hole_42 (by decide) ?_
      obtain ⟨q13, e10, hf⟩ := bS hf
      obtain ⟨r14, e11, hf⟩ := bS hf
      refine V.callV (As := [.int (2 : Int32)]) (st := []) dX12_hole_43 cl_RX12_219 sw_yX12_fails (by decide) rfl (Nat.le_of_ble_eq_true rfl) rfl (gO_some e10) rfl (w_X12_fails _ _ _ _ e11) ?_
      obtain rfl := Option.some.inj hf
      exact V.iret dX12_hole_46
  · rw [if_pos c5] at hf
    refine V.aload_n dX12_hole_23 rfl 0 rfl ?_
    refine V.iconst (v := (1 : Int32)) dX12_hole_24 (by decide) ?_
    obtain ⟨q15, e12, hf⟩ := bS hf
    obtain ⟨r16, e13, hf⟩ := bS hf
    refine V.callV (As := [.int (1 : Int32)]) (st := []) dX12_hole_25 cl_RX12_219 sw_yX12_fails (by decide) rfl (Nat.le_of_ble_eq_true rfl) rfl (gO_some e12) rfl (w_X12_fails _ _ _ _ e13) ?_
    obtain rfl := Option.some.inj hf
    exact V.iret dX12_hole_28

def f_X12_blames_22 (h : xH) (l0 : Nat) (s0 : Int32) (s1 : Nat) : Option (xH) := (pF h s1 12 12 (.int s0)).bind fun h1 => (gI h1 l0 12 9).bind fun v2 => (pF h1 l0 12 13 (.int v2)).bind fun h3 => some (h3)
def f_X12_blames (h : xH) (l0 : Nat) (l1 : Int32) : Option (xH) := (gI h l0 12 12).bind fun v1 => (if v1 = 0 then ((gI h l0 12 10).bind fun v3 => (if v3 = (4 : Int32) then (f_X12_blames_22 h l0 (1 : Int32) l0) else (f_X12_blames_22 h l0 l1 l0))) else (some (h)))
set_option maxRecDepth 20000 in
theorem w_X12_blames_22 (h : xH) (l0 : Nat) (s0 : Int32) (s1 : Nat) (r : xH) (hf : f_X12_blames_22 h l0 s0 s1 = some r) : V 3 yX12_blames cX12_blames 2 none [] none 22 [(0, .ref l0)] [.int s0, .ref s1] h (oVh r) := by
  unfold f_X12_blames_22 at hf
  obtain ⟨h1, e1, hf⟩ := bS hf
  refine V.xpF dX12_blames_22 fl_RX12_107 (fun h9 => nomatch h9) (fun _ => rfl) (fun _ => rfl) e1 ?_
  refine V.aload_n dX12_blames_25 rfl 0 rfl ?_
  refine V.aload_n dX12_blames_26 rfl 0 rfl ?_
  obtain ⟨v2, e2, hf⟩ := bS hf
  refine V.xgI dX12_blames_27 fl_RX12_87 e2 ?_
  obtain ⟨h3, e3, hf⟩ := bS hf
  refine V.xpF dX12_blames_30 fl_RX12_110 (fun h9 => nomatch h9) (fun _ => rfl) (fun _ => rfl) e3 ?_
  obtain rfl := Option.some.inj hf
  exact V.vret dX12_blames_33

set_option maxRecDepth 20000 in
theorem w_X12_blames (h : xH) (l0 : Nat) (l1 : Int32) (r : xH) (hf : f_X12_blames h l0 l1 = some r) : Ev 3 yX12_blames cX12_blames 2 none [] [.ref l0, .int l1] h (oVh r) := by
  refine Ev.of (by decide +kernel) (Nat.le_of_ble_eq_true rfl) ?_
  unfold f_X12_blames at hf
  refine V.aload_n dX12_blames_0 rfl 0 rfl ?_
  obtain ⟨v1, e4, hf⟩ := bS hf
  refine V.xgI dX12_blames_1 fl_RX12_107 e4 ?_
  refine V.if_eq (tgt := 8) dX12_blames_4 (by decide) (fun c2 => ?_) (fun c2 => ?_)
  · rw [if_pos c2] at hf
    refine V.aload_n dX12_blames_8 rfl 0 rfl ?_
    refine V.aload_n dX12_blames_9 rfl 0 rfl ?_
    obtain ⟨v3, e5, hf⟩ := bS hf
    refine V.xgI dX12_blames_10 fl_RX12_90 e5 ?_
    refine V.iconst (v := (4 : Int32)) dX12_blames_13 (by decide) ?_
    refine V.icmp_ne (tgt := 21) dX12_blames_14 (by decide) (fun c4 => ?_) (fun c4 => ?_)
    · rw [if_neg c4] at hf
      refine V.iload_n dX12_blames_21 rfl 1 rfl ?_
      refine V.sub [0] rfl ?_
      exact w_X12_blames_22 _ _ _ _ _ hf
    · rw [if_pos c4] at hf
      refine V.iconst (v := (1 : Int32)) dX12_blames_17 (by decide) ?_
      refine V.goto (tgt := 22) dX12_blames_18 (by decide) ?_
      refine V.sub [0] rfl ?_
      exact w_X12_blames_22 _ _ _ _ _ hf
  · rw [if_neg c2] at hf
    obtain rfl := Option.some.inj hf
    exact V.vret dX12_blames_7

def f_X12_isWord_39 (h : xH) : Nat → Nat → Nat → Int32 → Int32 → Option (Int32)
  | 0, _, _, _, _ => none
  | n + 1, l0, l1, l2, l3 => (if l2 = 0 then ((if narrow .boolean (.int l2) = .int l2 then some l2 else none)) else ((sLen l1).bind fun v3 => (if v3 ≤ l3 then ((if narrow .boolean (.int l2) = .int l2 then some l2 else none)) else ((gR h l0 12 5).bind fun v6 => (gI h l0 12 9).bind fun v7 => (ldI h .int v6 (v7 + l3)).bind fun v8 => (sChr l1 l3).bind fun v9 => (if v8 = v9 then (f_X12_isWord_39 h n l0 l1 (1 : Int32) (l3 + 1)) else (f_X12_isWord_39 h n l0 l1 (0 : Int32) (l3 + 1)))))))
def f_X12_isWord_36 (h : xH) (l0 : Nat) (l1 : Nat) (s0 : Int32) : Option (Int32) := f_X12_isWord_39 h xFU l0 l1 s0 (0 : Int32)
def f_X12_isWord_35 (h : xH) (l0 : Nat) (l1 : Nat) : Option (Int32) := f_X12_isWord_36 h l0 l1 (0 : Int32)
def f_X12_isWord (h : xH) (l0 : Nat) (l1 : Nat) : Option (Int32) := (gI h l0 12 12).bind fun v1 => (if v1 = 0 then ((gI h l0 12 10).bind fun v3 => (if v3 = (1 : Int32) then ((gI h l0 12 8).bind fun v5 => (gI h l0 12 9).bind fun v6 => (sLen l1).bind fun v7 => (if (v5 - v6) = v7 then (f_X12_isWord_36 h l0 l1 (1 : Int32)) else (f_X12_isWord_35 h l0 l1))) else (f_X12_isWord_35 h l0 l1))) else (f_X12_isWord_35 h l0 l1))
set_option maxRecDepth 20000 in
theorem w_X12_isWord_39 (h : xH) : ∀ (n : Nat) (l0 : Nat) (l1 : Nat) (l2 : Int32) (l3 : Int32) (r : Int32), f_X12_isWord_39 h n l0 l1 l2 l3 = some r → V 7 yX12_isWord cX12_isWord 4 (some .boolean) [] none 39 [(0, .ref l0), (1, .ref l1), (2, .int l2), (3, .int l3)] [] h (oI h r) := by
  intro n
  induction n with
  | zero => intro l0 l1 l2 l3 r hf; cases hf
  | succ n ih =>
    intro l0 l1 l2 l3 r hf
    rw [f_X12_isWord_39] at hf
    refine V.iload_n dX12_isWord_39 rfl 2 rfl ?_
    refine V.if_eq (tgt := 82) dX12_isWord_40 (by decide) (fun c1 => ?_) (fun c1 => ?_)
    · rw [if_pos c1] at hf
      refine V.iload_n dX12_isWord_82 rfl 2 rfl ?_
      by_cases c2 : narrow .boolean (.int l2) = .int l2
      · rw [if_pos c2] at hf
        obtain rfl := Option.some.inj hf
        exact V.zret dX12_isWord_83 c2
      · rw [if_neg c2] at hf
        cases hf
    · rw [if_neg c1] at hf
      refine V.iload_n dX12_isWord_43 rfl 3 rfl ?_
      refine V.aload_n dX12_isWord_44 rfl 1 rfl ?_
      obtain ⟨v3, e1, hf⟩ := bS hf
      refine V.xsLen dX12_isWord_45 cl_RX12_113 (Nat.le_of_ble_eq_true rfl) (Nat.le_of_ble_eq_true rfl) e1 ?_
      refine V.icmp_ge (tgt := 82) dX12_isWord_48 (by decide) (fun c4 => ?_) (fun c4 => ?_)
      · rw [if_pos c4] at hf
        refine V.iload_n dX12_isWord_82 rfl 2 rfl ?_
        by_cases c5 : narrow .boolean (.int l2) = .int l2
        · rw [if_pos c5] at hf
          obtain rfl := Option.some.inj hf
          exact V.zret dX12_isWord_83 c5
        · rw [if_neg c5] at hf
          cases hf
      · rw [if_neg c4] at hf
        refine V.aload_n dX12_isWord_51 rfl 0 rfl ?_
        obtain ⟨v6, e2, hf⟩ := bS hf
        refine V.xgR dX12_isWord_52 fl_RX12_23 e2 ?_
        refine V.aload_n dX12_isWord_55 rfl 0 rfl ?_
        obtain ⟨v7, e3, hf⟩ := bS hf
        refine V.xgI dX12_isWord_56 fl_RX12_87 e3 ?_
        refine V.iload_n dX12_isWord_59 rfl 3 rfl ?_
        refine V.iadd dX12_isWord_60 ?_
        obtain ⟨v8, e4, hf⟩ := bS hf
        refine V.xldI dX12_isWord_61 e4 ?_
        refine V.aload_n dX12_isWord_62 rfl 1 rfl ?_
        refine V.iload_n dX12_isWord_63 rfl 3 rfl ?_
        obtain ⟨v9, e5, hf⟩ := bS hf
        refine V.xsChr dX12_isWord_64 cl_RX12_119 (Nat.le_of_ble_eq_true rfl) (Nat.le_of_ble_eq_true rfl) e5 ?_
        refine V.icmp_ne (tgt := 74) dX12_isWord_67 (by decide) (fun c10 => ?_) (fun c10 => ?_)
        · rw [if_neg c10] at hf
          refine V.iconst (v := (0 : Int32)) dX12_isWord_74 (by decide) ?_
          refine V.istore_n (lv' := [(2, .int (0 : Int32)), (0, .ref l0), (1, .ref l1), (3, .int l3)]) dX12_isWord_75 rfl (by decide) rfl ?_
          refine V.iinc (v := (l3 + 1)) (lv' := [(3, .int (l3 + 1)), (2, .int (0 : Int32)), (0, .ref l0), (1, .ref l1)]) dX12_isWord_76 3 rfl rfl (Nat.le_of_ble_eq_true rfl) rfl ?_
          refine V.goto (tgt := 39) dX12_isWord_79 (by decide) ?_
          refine V.sub [2, 3, 1, 0] rfl ?_
          exact ih _ _ _ _ _ hf
        · rw [if_pos c10] at hf
          refine V.iconst (v := (1 : Int32)) dX12_isWord_70 (by decide) ?_
          refine V.goto (tgt := 75) dX12_isWord_71 (by decide) ?_
          refine V.istore_n (lv' := [(2, .int (1 : Int32)), (0, .ref l0), (1, .ref l1), (3, .int l3)]) dX12_isWord_75 rfl (by decide) rfl ?_
          refine V.iinc (v := (l3 + 1)) (lv' := [(3, .int (l3 + 1)), (2, .int (1 : Int32)), (0, .ref l0), (1, .ref l1)]) dX12_isWord_76 3 rfl rfl (Nat.le_of_ble_eq_true rfl) rfl ?_
          refine V.goto (tgt := 39) dX12_isWord_79 (by decide) ?_
          refine V.sub [2, 3, 1, 0] rfl ?_
          exact ih _ _ _ _ _ hf

set_option maxRecDepth 20000 in
theorem w_X12_isWord_36 (h : xH) (l0 : Nat) (l1 : Nat) (s0 : Int32) (r : Int32) (hf : f_X12_isWord_36 h l0 l1 s0 = some r) : V 7 yX12_isWord cX12_isWord 4 (some .boolean) [] none 36 [(0, .ref l0), (1, .ref l1)] [.int s0] h (oI h r) := by
  unfold f_X12_isWord_36 at hf
  refine V.istore_n (lv' := [(2, .int s0), (0, .ref l0), (1, .ref l1)]) dX12_isWord_36 rfl (by decide) rfl ?_
  refine V.iconst (v := (0 : Int32)) dX12_isWord_37 (by decide) ?_
  refine V.istore_n (lv' := [(3, .int (0 : Int32)), (2, .int s0), (0, .ref l0), (1, .ref l1)]) dX12_isWord_38 rfl (by decide) rfl ?_
  refine V.sub [2, 3, 1, 0] rfl ?_
  exact w_X12_isWord_39 h _ _ _ _ _ _ hf

set_option maxRecDepth 20000 in
theorem w_X12_isWord_35 (h : xH) (l0 : Nat) (l1 : Nat) (r : Int32) (hf : f_X12_isWord_35 h l0 l1 = some r) : V 7 yX12_isWord cX12_isWord 4 (some .boolean) [] none 35 [(0, .ref l0), (1, .ref l1)] [] h (oI h r) := by
  unfold f_X12_isWord_35 at hf
  refine V.iconst (v := (0 : Int32)) dX12_isWord_35 (by decide) ?_
  exact w_X12_isWord_36 _ _ _ _ _ hf

set_option maxRecDepth 20000 in
theorem w_X12_isWord (h : xH) (l0 : Nat) (l1 : Nat) (r : Int32) (hf : f_X12_isWord h l0 l1 = some r) : Ev 7 yX12_isWord cX12_isWord 4 (some .boolean) [] [.ref l0, .ref l1] h (oI h r) := by
  refine Ev.of (by decide +kernel) (Nat.le_of_ble_eq_true rfl) ?_
  unfold f_X12_isWord at hf
  refine V.aload_n dX12_isWord_0 rfl 0 rfl ?_
  obtain ⟨v1, e6, hf⟩ := bS hf
  refine V.xgI dX12_isWord_1 fl_RX12_107 e6 ?_
  refine V.if_ne (tgt := 35) dX12_isWord_4 (by decide) (fun c2 => ?_) (fun c2 => ?_)
  · rw [if_neg c2] at hf
    exact w_X12_isWord_35 _ _ _ _ hf
  · rw [if_pos c2] at hf
    refine V.aload_n dX12_isWord_7 rfl 0 rfl ?_
    obtain ⟨v3, e7, hf⟩ := bS hf
    refine V.xgI dX12_isWord_8 fl_RX12_90 e7 ?_
    refine V.iconst (v := (1 : Int32)) dX12_isWord_11 (by decide) ?_
    refine V.icmp_ne (tgt := 35) dX12_isWord_12 (by decide) (fun c4 => ?_) (fun c4 => ?_)
    · rw [if_neg c4] at hf
      exact w_X12_isWord_35 _ _ _ _ hf
    · rw [if_pos c4] at hf
      refine V.aload_n dX12_isWord_15 rfl 0 rfl ?_
      obtain ⟨v5, e8, hf⟩ := bS hf
      refine V.xgI dX12_isWord_16 fl_RX12_84 e8 ?_
      refine V.aload_n dX12_isWord_19 rfl 0 rfl ?_
      obtain ⟨v6, e9, hf⟩ := bS hf
      refine V.xgI dX12_isWord_20 fl_RX12_87 e9 ?_
      refine V.isub dX12_isWord_23 ?_
      refine V.aload_n dX12_isWord_24 rfl 1 rfl ?_
      obtain ⟨v7, e10, hf⟩ := bS hf
      refine V.xsLen dX12_isWord_25 cl_RX12_113 (Nat.le_of_ble_eq_true rfl) (Nat.le_of_ble_eq_true rfl) e10 ?_
      refine V.icmp_ne (tgt := 35) dX12_isWord_28 (by decide) (fun c8 => ?_) (fun c8 => ?_)
      · rw [if_neg c8] at hf
        exact w_X12_isWord_35 _ _ _ _ hf
      · rw [if_pos c8] at hf
        refine V.iconst (v := (1 : Int32)) dX12_isWord_31 (by decide) ?_
        refine V.goto (tgt := 36) dX12_isWord_32 (by decide) ?_
        exact w_X12_isWord_36 _ _ _ _ _ hf

def f_X12_isDigit (h : xH) (l0 : Int32) : Option (Int32) := (if l0 < (48 : Int32) then (some ((0 : Int32))) else ((if (57 : Int32) < l0 then (some ((0 : Int32))) else (some ((1 : Int32))))))
set_option maxRecDepth 20000 in
theorem w_X12_isDigit (h : xH) (l0 : Int32) (r : Int32) (hf : f_X12_isDigit h l0 = some r) : Ev 3 yX12_isDigit cX12_isDigit 1 (some .boolean) [] [.int l0] h (oI h r) := by
  refine Ev.of (by decide +kernel) (Nat.le_of_ble_eq_true rfl) ?_
  unfold f_X12_isDigit at hf
  refine V.iload_n dX12_isDigit_0 rfl 0 rfl ?_
  refine V.bipush (v := (48 : Int32)) dX12_isDigit_1 (by decide) ?_
  refine V.icmp_lt (tgt := 16) dX12_isDigit_3 (by decide) (fun c1 => ?_) (fun c1 => ?_)
  · rw [if_pos c1] at hf
    refine V.iconst (v := (0 : Int32)) dX12_isDigit_16 (by decide) ?_
    obtain rfl := Option.some.inj hf
    exact V.zret dX12_isDigit_17 (by first | rfl | assumption)
  · rw [if_neg c1] at hf
    refine V.iload_n dX12_isDigit_6 rfl 0 rfl ?_
    refine V.bipush (v := (57 : Int32)) dX12_isDigit_7 (by decide) ?_
    refine V.icmp_gt (tgt := 16) dX12_isDigit_9 (by decide) (fun c2 => ?_) (fun c2 => ?_)
    · rw [if_pos c2] at hf
      refine V.iconst (v := (0 : Int32)) dX12_isDigit_16 (by decide) ?_
      obtain rfl := Option.some.inj hf
      exact V.zret dX12_isDigit_17 (by first | rfl | assumption)
    · rw [if_neg c2] at hf
      refine V.iconst (v := (1 : Int32)) dX12_isDigit_12 (by decide) ?_
      refine V.goto (tgt := 17) dX12_isDigit_13 (by decide) ?_
      obtain rfl := Option.some.inj hf
      exact V.zret dX12_isDigit_17 (by first | rfl | assumption)

def f_X12_isLetter (h : xH) (l0 : Int32) : Option (Int32) := (if l0 < (97 : Int32) then (some ((0 : Int32))) else ((if (122 : Int32) < l0 then (some ((0 : Int32))) else (some ((1 : Int32))))))
set_option maxRecDepth 20000 in
theorem w_X12_isLetter (h : xH) (l0 : Int32) (r : Int32) (hf : f_X12_isLetter h l0 = some r) : Ev 3 yX12_isLetter cX12_isLetter 1 (some .boolean) [] [.int l0] h (oI h r) := by
  refine Ev.of (by decide +kernel) (Nat.le_of_ble_eq_true rfl) ?_
  unfold f_X12_isLetter at hf
  refine V.iload_n dX12_isLetter_0 rfl 0 rfl ?_
  refine V.bipush (v := (97 : Int32)) dX12_isLetter_1 (by decide) ?_
  refine V.icmp_lt (tgt := 16) dX12_isLetter_3 (by decide) (fun c1 => ?_) (fun c1 => ?_)
  · rw [if_pos c1] at hf
    refine V.iconst (v := (0 : Int32)) dX12_isLetter_16 (by decide) ?_
    obtain rfl := Option.some.inj hf
    exact V.zret dX12_isLetter_17 (by first | rfl | assumption)
  · rw [if_neg c1] at hf
    refine V.iload_n dX12_isLetter_6 rfl 0 rfl ?_
    refine V.bipush (v := (122 : Int32)) dX12_isLetter_7 (by decide) ?_
    refine V.icmp_gt (tgt := 16) dX12_isLetter_9 (by decide) (fun c2 => ?_) (fun c2 => ?_)
    · rw [if_pos c2] at hf
      refine V.iconst (v := (0 : Int32)) dX12_isLetter_16 (by decide) ?_
      obtain rfl := Option.some.inj hf
      exact V.zret dX12_isLetter_17 (by first | rfl | assumption)
    · rw [if_neg c2] at hf
      refine V.iconst (v := (1 : Int32)) dX12_isLetter_12 (by decide) ?_
      refine V.goto (tgt := 17) dX12_isLetter_13 (by decide) ?_
      obtain rfl := Option.some.inj hf
      exact V.zret dX12_isLetter_17 (by first | rfl | assumption)

def f_X12_see (h : xH) (l0 : Nat) (l1 : Int32) : Option (Int32) := (gI h l0 12 7).bind fun v1 => (if v1 ≤ l1 then (some ((0 : Int32))) else ((gR h l0 12 5).bind fun v3 => (ldI h .int v3 l1).bind fun v4 => some (v4)))
set_option maxRecDepth 20000 in
theorem w_X12_see (h : xH) (l0 : Nat) (l1 : Int32) (r : Int32) (hf : f_X12_see h l0 l1 = some r) : Ev 3 yX12_see cX12_see 2 (some .int) [] [.ref l0, .int l1] h (oI h r) := by
  refine Ev.of (by decide +kernel) (Nat.le_of_ble_eq_true rfl) ?_
  unfold f_X12_see at hf
  refine V.iload_n dX12_see_0 rfl 1 rfl ?_
  refine V.aload_n dX12_see_1 rfl 0 rfl ?_
  obtain ⟨v1, e1, hf⟩ := bS hf
  refine V.xgI dX12_see_2 fl_RX12_81 e1 ?_
  refine V.icmp_ge (tgt := 17) dX12_see_5 (by decide) (fun c2 => ?_) (fun c2 => ?_)
  · rw [if_pos c2] at hf
    refine V.iconst (v := (0 : Int32)) dX12_see_17 (by decide) ?_
    obtain rfl := Option.some.inj hf
    exact V.iret dX12_see_18
  · rw [if_neg c2] at hf
    refine V.aload_n dX12_see_8 rfl 0 rfl ?_
    obtain ⟨v3, e2, hf⟩ := bS hf
    refine V.xgR dX12_see_9 fl_RX12_23 e2 ?_
    refine V.iload_n dX12_see_12 rfl 1 rfl ?_
    obtain ⟨v4, e3, hf⟩ := bS hf
    refine V.xldI dX12_see_13 e3 ?_
    refine V.goto (tgt := 18) dX12_see_14 (by decide) ?_
    obtain rfl := Option.some.inj hf
    exact V.iret dX12_see_18

def f_X12_reads_39 (k0 : xH → Nat → Option (xH)) (h : xH) (l0 : Nat) : Option (xH) := (gI h l0 12 8).bind fun v1 => (pF h l0 12 8 (.int (v1 + (1 : Int32)))).bind fun h2 => k0 h2 l0
def f_X12_reads_94 : Nat → xH → Nat → Option (xH)
  | 0, _, _ => none
  | n + 1, h, l0 => (gI h l0 12 8).bind fun v1 => (gO h l0 12).bind fun q2 => (f_X12_see h l0 v1).bind fun r3 => (f_X12_isLetter h r3).bind fun r4 => (if r4 = 0 then ((pF h l0 12 10 (.int (1 : Int32))).bind fun h6 => some (h6)) else ((gI h l0 12 8).bind fun v7 => (pF h l0 12 8 (.int (v7 + (1 : Int32)))).bind fun h8 => f_X12_reads_94 n h8 l0))
def f_X12_reads_196 (k141 : xH → Nat → Option (xH)) (h : xH) (l0 : Nat) (s0 : Int32) (s1 : Nat) : Option (xH) := (pF h s1 12 11 (.int s0)).bind fun h1 => (gI h1 l0 12 8).bind fun v2 => (pF h1 l0 12 8 (.int (v2 + (1 : Int32)))).bind fun h3 => k141 h3 l0
def f_X12_reads_231 (h : xH) (s0 : Int32) (s1 : Nat) : Option (xH) := (pF h s1 12 10 (.int s0)).bind fun h1 => some (h1)
def f_X12_reads_141 : Nat → xH → Nat → Option (xH)
  | 0, _, _ => none
  | n + 1, h, l0 => (gI h l0 12 8).bind fun v1 => (gO h l0 12).bind fun q2 => (f_X12_see h l0 v1).bind fun r3 => (f_X12_isDigit h r3).bind fun r4 => (if r4 = 0 then ((gI h l0 12 8).bind fun v6 => (gI h l0 12 9).bind fun v7 => (if (v6 - v7) ≤ (5 : Int32) then (f_X12_reads_231 h (2 : Int32) l0) else (f_X12_reads_231 h (4 : Int32) l0))) else ((gI h l0 12 8).bind fun v9 => (gI h l0 12 9).bind fun v10 => (if (5 : Int32) ≤ (v9 - v10) then ((gI h l0 12 11).bind fun v12 => f_X12_reads_196 (f_X12_reads_141 n) h l0 v12 l0) else ((gI h l0 12 11).bind fun v13 => (gR h l0 12 5).bind fun v14 => (gI h l0 12 8).bind fun v15 => (ldI h .int v14 v15).bind fun v16 => f_X12_reads_196 (f_X12_reads_141 n) h l0 ((((10 : Int32) * v13) + v16) - (48 : Int32)) l0))))
def f_X12_reads_249 (h : xH) (l0 : Nat) (s0 : Int32) (s1 : Nat) : Option (xH) := (pF h s1 12 10 (.int s0)).bind fun h1 => (gI h1 l0 12 8).bind fun v2 => (pF h1 l0 12 8 (.int (v2 + (1 : Int32)))).bind fun h3 => some (h3)
def f_X12_reads_52 (h : xH) (l0 : Nat) : Option (xH) := (gI h l0 12 8).bind fun v1 => (pF h l0 12 9 (.int v1)).bind fun h2 => (gI h2 l0 12 8).bind fun v3 => (gI h2 l0 12 7).bind fun v4 => (if v3 < v4 then ((gR h2 l0 12 5).bind fun v6 => (gI h2 l0 12 8).bind fun v7 => (ldI h2 .int v6 v7).bind fun v8 => (f_X12_isLetter h2 v8).bind fun r9 => (if r9 = 0 then ((f_X12_isDigit h2 v8).bind fun r11 => (if r11 = 0 then ((if v8 = (59 : Int32) then (f_X12_reads_249 h2 l0 (3 : Int32) l0) else (f_X12_reads_249 h2 l0 (4 : Int32) l0))) else ((pF h2 l0 12 11 (.int (0 : Int32))).bind fun h14 => f_X12_reads_141 xFU h14 l0))) else (f_X12_reads_94 xFU h2 l0))) else ((pF h2 l0 12 10 (.int (0 : Int32))).bind fun h15 => some (h15)))
def f_X12_reads_0 : Nat → xH → Nat → Option (xH)
  | 0, _, _ => none
  | n + 1, h, l0 => (gI h l0 12 8).bind fun v1 => (gI h l0 12 7).bind fun v2 => (if v2 ≤ v1 then (f_X12_reads_52 h l0) else ((gR h l0 12 5).bind fun v4 => (gI h l0 12 8).bind fun v5 => (ldI h .int v4 v5).bind fun v6 => (if v6 = (32 : Int32) then (f_X12_reads_39 (f_X12_reads_0 n) h l0) else ((gR h l0 12 5).bind fun v8 => (gI h l0 12 8).bind fun v9 => (ldI h .int v8 v9).bind fun v10 => (if v10 = (10 : Int32) then (f_X12_reads_39 (f_X12_reads_0 n) h l0) else (f_X12_reads_52 h l0))))))
def f_X12_reads (h : xH) (l0 : Nat) : Option (xH) := f_X12_reads_0 xFU h l0
set_option maxRecDepth 20000 in
theorem w_X12_reads_39 (h : xH) {k0 : xH → Nat → Option (xH)} (hk0 : ∀ (h : xH) (l0 : Nat) (r : xH), k0 h l0 = some r → V 4 yX12_reads cX12_reads 2 none [] none 0 [(0, .ref l0)] [] h (oVh r)) (l0 : Nat) (r : xH) (hf : f_X12_reads_39 k0 h l0 = some r) : V 4 yX12_reads cX12_reads 2 none [] none 39 [(0, .ref l0)] [] h (oVh r) := by
  unfold f_X12_reads_39 at hf
  refine V.aload_n dX12_reads_39 rfl 0 rfl ?_
  refine V.dup dX12_reads_40 rfl ?_
  obtain ⟨v1, e1, hf⟩ := bS hf
  refine V.xgI dX12_reads_41 fl_RX12_84 e1 ?_
  refine V.iconst (v := (1 : Int32)) dX12_reads_44 (by decide) ?_
  refine V.iadd dX12_reads_45 ?_
  obtain ⟨h2, e2, hf⟩ := bS hf
  refine V.xpF dX12_reads_46 fl_RX12_84 (fun h9 => nomatch h9) (fun _ => rfl) (fun _ => rfl) e2 ?_
  refine V.goto (tgt := 0) dX12_reads_49 (by decide) ?_
  exact hk0 _ _ _ hf

set_option maxRecDepth 20000 in
theorem w_X12_reads_94 : ∀ (n : Nat) (h : xH) (l0 : Nat) (r : xH), f_X12_reads_94 n h l0 = some r → V 4 yX12_reads cX12_reads 2 none [] none 94 [(0, .ref l0)] [] h (oVh r) := by
  intro n
  induction n with
  | zero => intro h l0 r hf; cases hf
  | succ n ih =>
    intro h l0 r hf
    rw [f_X12_reads_94] at hf
    refine V.aload_n dX12_reads_94 rfl 0 rfl ?_
    refine V.aload_n dX12_reads_95 rfl 0 rfl ?_
    obtain ⟨v1, e3, hf⟩ := bS hf
    refine V.xgI dX12_reads_96 fl_RX12_84 e3 ?_
    obtain ⟨q2, e4, hf⟩ := bS hf
    obtain ⟨r3, e5, hf⟩ := bS hf
    refine V.callV (As := [.int v1]) (st := []) dX12_reads_99 cl_RX12_97 sw_yX12_see (by decide) rfl (Nat.le_of_ble_eq_true rfl) rfl (gO_some e4) rfl (w_X12_see _ _ _ _ e5) ?_
    obtain ⟨r4, e6, hf⟩ := bS hf
    refine V.callS (As := [.int r3]) (st := []) dX12_reads_102 cl_RX12_93 sw_yX12_isLetter (by decide) rfl (Nat.le_of_ble_eq_true rfl) rfl (w_X12_isLetter _ _ _ e6) ?_
    refine V.if_eq (tgt := 121) dX12_reads_105 (by decide) (fun c5 => ?_) (fun c5 => ?_)
    · rw [if_pos c5] at hf
      refine V.aload_n dX12_reads_121 rfl 0 rfl ?_
      refine V.iconst (v := (1 : Int32)) dX12_reads_122 (by decide) ?_
      obtain ⟨h6, e7, hf⟩ := bS hf
      refine V.xpF dX12_reads_123 fl_RX12_90 (fun h9 => nomatch h9) (fun _ => rfl) (fun _ => rfl) e7 ?_
      refine V.goto (tgt := 262) dX12_reads_126 (by decide) ?_
      obtain rfl := Option.some.inj hf
      exact V.vret dX12_reads_262
    · rw [if_neg c5] at hf
      refine V.aload_n dX12_reads_108 rfl 0 rfl ?_
      refine V.dup dX12_reads_109 rfl ?_
      obtain ⟨v7, e8, hf⟩ := bS hf
      refine V.xgI dX12_reads_110 fl_RX12_84 e8 ?_
      refine V.iconst (v := (1 : Int32)) dX12_reads_113 (by decide) ?_
      refine V.iadd dX12_reads_114 ?_
      obtain ⟨h8, e9, hf⟩ := bS hf
      refine V.xpF dX12_reads_115 fl_RX12_84 (fun h9 => nomatch h9) (fun _ => rfl) (fun _ => rfl) e9 ?_
      refine V.goto (tgt := 94) dX12_reads_118 (by decide) ?_
      exact ih _ _ _ hf

set_option maxRecDepth 20000 in
theorem w_X12_reads_196 (h : xH) {k141 : xH → Nat → Option (xH)} (hk141 : ∀ (h : xH) (l0 : Nat) (r : xH), k141 h l0 = some r → V 4 yX12_reads cX12_reads 2 none [] none 141 [(0, .ref l0)] [] h (oVh r)) (l0 : Nat) (s0 : Int32) (s1 : Nat) (r : xH) (hf : f_X12_reads_196 k141 h l0 s0 s1 = some r) : V 4 yX12_reads cX12_reads 2 none [] none 196 [(0, .ref l0)] [.int s0, .ref s1] h (oVh r) := by
  unfold f_X12_reads_196 at hf
  obtain ⟨h1, e10, hf⟩ := bS hf
  refine V.xpF dX12_reads_196 fl_RX12_104 (fun h9 => nomatch h9) (fun _ => rfl) (fun _ => rfl) e10 ?_
  refine V.aload_n dX12_reads_199 rfl 0 rfl ?_
  refine V.dup dX12_reads_200 rfl ?_
  obtain ⟨v2, e11, hf⟩ := bS hf
  refine V.xgI dX12_reads_201 fl_RX12_84 e11 ?_
  refine V.iconst (v := (1 : Int32)) dX12_reads_204 (by decide) ?_
  refine V.iadd dX12_reads_205 ?_
  obtain ⟨h3, e12, hf⟩ := bS hf
  refine V.xpF dX12_reads_206 fl_RX12_84 (fun h9 => nomatch h9) (fun _ => rfl) (fun _ => rfl) e12 ?_
  refine V.goto (tgt := 141) dX12_reads_209 (by decide) ?_
  exact hk141 _ _ _ hf

set_option maxRecDepth 20000 in
theorem w_X12_reads_231 (h : xH) (s0 : Int32) (s1 : Nat) (r : xH) (hf : f_X12_reads_231 h s0 s1 = some r) : V 4 yX12_reads cX12_reads 2 none [] none 231 [] [.int s0, .ref s1] h (oVh r) := by
  unfold f_X12_reads_231 at hf
  obtain ⟨h1, e13, hf⟩ := bS hf
  refine V.xpF dX12_reads_231 fl_RX12_90 (fun h9 => nomatch h9) (fun _ => rfl) (fun _ => rfl) e13 ?_
  refine V.goto (tgt := 262) dX12_reads_234 (by decide) ?_
  obtain rfl := Option.some.inj hf
  exact V.vret dX12_reads_262

set_option maxRecDepth 20000 in
theorem w_X12_reads_141 : ∀ (n : Nat) (h : xH) (l0 : Nat) (r : xH), f_X12_reads_141 n h l0 = some r → V 4 yX12_reads cX12_reads 2 none [] none 141 [(0, .ref l0)] [] h (oVh r) := by
  intro n
  induction n with
  | zero => intro h l0 r hf; cases hf
  | succ n ih =>
    intro h l0 r hf
    rw [f_X12_reads_141] at hf
    refine V.aload_n dX12_reads_141 rfl 0 rfl ?_
    refine V.aload_n dX12_reads_142 rfl 0 rfl ?_
    obtain ⟨v1, e14, hf⟩ := bS hf
    refine V.xgI dX12_reads_143 fl_RX12_84 e14 ?_
    obtain ⟨q2, e15, hf⟩ := bS hf
    obtain ⟨r3, e16, hf⟩ := bS hf
    refine V.callV (As := [.int v1]) (st := []) dX12_reads_146 cl_RX12_97 sw_yX12_see (by decide) rfl (Nat.le_of_ble_eq_true rfl) rfl (gO_some e15) rfl (w_X12_see _ _ _ _ e16) ?_
    obtain ⟨r4, e17, hf⟩ := bS hf
    refine V.callS (As := [.int r3]) (st := []) dX12_reads_149 cl_RX12_101 sw_yX12_isDigit (by decide) rfl (Nat.le_of_ble_eq_true rfl) rfl (w_X12_isDigit _ _ _ e17) ?_
    refine V.if_eq (tgt := 212) dX12_reads_152 (by decide) (fun c5 => ?_) (fun c5 => ?_)
    · rw [if_pos c5] at hf
      refine V.aload_n dX12_reads_212 rfl 0 rfl ?_
      refine V.aload_n dX12_reads_213 rfl 0 rfl ?_
      obtain ⟨v6, e18, hf⟩ := bS hf
      refine V.xgI dX12_reads_214 fl_RX12_84 e18 ?_
      refine V.aload_n dX12_reads_217 rfl 0 rfl ?_
      obtain ⟨v7, e19, hf⟩ := bS hf
      refine V.xgI dX12_reads_218 fl_RX12_87 e19 ?_
      refine V.isub dX12_reads_221 ?_
      refine V.iconst (v := (5 : Int32)) dX12_reads_222 (by decide) ?_
      refine V.icmp_le (tgt := 230) dX12_reads_223 (by decide) (fun c8 => ?_) (fun c8 => ?_)
      · rw [if_pos c8] at hf
        refine V.iconst (v := (2 : Int32)) dX12_reads_230 (by decide) ?_
        refine V.sub [] rfl ?_
        exact w_X12_reads_231 _ _ _ _ hf
      · rw [if_neg c8] at hf
        refine V.iconst (v := (4 : Int32)) dX12_reads_226 (by decide) ?_
        refine V.goto (tgt := 231) dX12_reads_227 (by decide) ?_
        refine V.sub [] rfl ?_
        exact w_X12_reads_231 _ _ _ _ hf
    · rw [if_neg c5] at hf
      refine V.aload_n dX12_reads_155 rfl 0 rfl ?_
      refine V.aload_n dX12_reads_156 rfl 0 rfl ?_
      obtain ⟨v9, e20, hf⟩ := bS hf
      refine V.xgI dX12_reads_157 fl_RX12_84 e20 ?_
      refine V.aload_n dX12_reads_160 rfl 0 rfl ?_
      obtain ⟨v10, e21, hf⟩ := bS hf
      refine V.xgI dX12_reads_161 fl_RX12_87 e21 ?_
      refine V.isub dX12_reads_164 ?_
      refine V.iconst (v := (5 : Int32)) dX12_reads_165 (by decide) ?_
      refine V.icmp_ge (tgt := 192) dX12_reads_166 (by decide) (fun c11 => ?_) (fun c11 => ?_)
      · rw [if_pos c11] at hf
        refine V.aload_n dX12_reads_192 rfl 0 rfl ?_
        obtain ⟨v12, e22, hf⟩ := bS hf
        refine V.xgI dX12_reads_193 fl_RX12_104 e22 ?_
        exact w_X12_reads_196 _ ih _ _ _ _ hf
      · rw [if_neg c11] at hf
        refine V.bipush (v := (10 : Int32)) dX12_reads_169 (by decide) ?_
        refine V.aload_n dX12_reads_171 rfl 0 rfl ?_
        obtain ⟨v13, e23, hf⟩ := bS hf
        refine V.xgI dX12_reads_172 fl_RX12_104 e23 ?_
        refine V.imul dX12_reads_175 ?_
        refine V.aload_n dX12_reads_176 rfl 0 rfl ?_
        obtain ⟨v14, e24, hf⟩ := bS hf
        refine V.xgR dX12_reads_177 fl_RX12_23 e24 ?_
        refine V.aload_n dX12_reads_180 rfl 0 rfl ?_
        obtain ⟨v15, e25, hf⟩ := bS hf
        refine V.xgI dX12_reads_181 fl_RX12_84 e25 ?_
        obtain ⟨v16, e26, hf⟩ := bS hf
        refine V.xldI dX12_reads_184 e26 ?_
        refine V.iadd dX12_reads_185 ?_
        refine V.bipush (v := (48 : Int32)) dX12_reads_186 (by decide) ?_
        refine V.isub dX12_reads_188 ?_
        refine V.goto (tgt := 196) dX12_reads_189 (by decide) ?_
        exact w_X12_reads_196 _ ih _ _ _ _ hf

set_option maxRecDepth 20000 in
theorem w_X12_reads_249 (h : xH) (l0 : Nat) (s0 : Int32) (s1 : Nat) (r : xH) (hf : f_X12_reads_249 h l0 s0 s1 = some r) : V 4 yX12_reads cX12_reads 2 none [] none 249 [(0, .ref l0)] [.int s0, .ref s1] h (oVh r) := by
  unfold f_X12_reads_249 at hf
  obtain ⟨h1, e27, hf⟩ := bS hf
  refine V.xpF dX12_reads_249 fl_RX12_90 (fun h9 => nomatch h9) (fun _ => rfl) (fun _ => rfl) e27 ?_
  refine V.aload_n dX12_reads_252 rfl 0 rfl ?_
  refine V.dup dX12_reads_253 rfl ?_
  obtain ⟨v2, e28, hf⟩ := bS hf
  refine V.xgI dX12_reads_254 fl_RX12_84 e28 ?_
  refine V.iconst (v := (1 : Int32)) dX12_reads_257 (by decide) ?_
  refine V.iadd dX12_reads_258 ?_
  obtain ⟨h3, e29, hf⟩ := bS hf
  refine V.xpF dX12_reads_259 fl_RX12_84 (fun h9 => nomatch h9) (fun _ => rfl) (fun _ => rfl) e29 ?_
  obtain rfl := Option.some.inj hf
  exact V.vret dX12_reads_262

set_option maxRecDepth 20000 in
theorem w_X12_reads_52 (h : xH) (l0 : Nat) (r : xH) (hf : f_X12_reads_52 h l0 = some r) : V 4 yX12_reads cX12_reads 2 none [] none 52 [(0, .ref l0)] [] h (oVh r) := by
  unfold f_X12_reads_52 at hf
  refine V.aload_n dX12_reads_52 rfl 0 rfl ?_
  refine V.aload_n dX12_reads_53 rfl 0 rfl ?_
  obtain ⟨v1, e30, hf⟩ := bS hf
  refine V.xgI dX12_reads_54 fl_RX12_84 e30 ?_
  obtain ⟨h2, e31, hf⟩ := bS hf
  refine V.xpF dX12_reads_57 fl_RX12_87 (fun h9 => nomatch h9) (fun _ => rfl) (fun _ => rfl) e31 ?_
  refine V.aload_n dX12_reads_60 rfl 0 rfl ?_
  obtain ⟨v3, e32, hf⟩ := bS hf
  refine V.xgI dX12_reads_61 fl_RX12_84 e32 ?_
  refine V.aload_n dX12_reads_64 rfl 0 rfl ?_
  obtain ⟨v4, e33, hf⟩ := bS hf
  refine V.xgI dX12_reads_65 fl_RX12_81 e33 ?_
  refine V.icmp_lt (tgt := 77) dX12_reads_68 (by decide) (fun c5 => ?_) (fun c5 => ?_)
  · rw [if_pos c5] at hf
    refine V.aload_n dX12_reads_77 rfl 0 rfl ?_
    obtain ⟨v6, e34, hf⟩ := bS hf
    refine V.xgR dX12_reads_78 fl_RX12_23 e34 ?_
    refine V.aload_n dX12_reads_81 rfl 0 rfl ?_
    obtain ⟨v7, e35, hf⟩ := bS hf
    refine V.xgI dX12_reads_82 fl_RX12_84 e35 ?_
    obtain ⟨v8, e36, hf⟩ := bS hf
    refine V.xldI dX12_reads_85 e36 ?_
    refine V.istore_n (lv' := [(1, .int v8), (0, .ref l0)]) dX12_reads_86 rfl (by decide) rfl ?_
    refine V.iload_n dX12_reads_87 rfl 0 rfl ?_
    obtain ⟨r9, e37, hf⟩ := bS hf
    refine V.callS (As := [.int v8]) (st := []) dX12_reads_88 cl_RX12_93 sw_yX12_isLetter (by decide) rfl (Nat.le_of_ble_eq_true rfl) rfl (w_X12_isLetter _ _ _ e37) ?_
    refine V.if_eq (tgt := 129) dX12_reads_91 (by decide) (fun c10 => ?_) (fun c10 => ?_)
    · rw [if_pos c10] at hf
      refine V.iload_n dX12_reads_129 rfl 0 rfl ?_
      obtain ⟨r11, e38, hf⟩ := bS hf
      refine V.callS (As := [.int v8]) (st := []) dX12_reads_130 cl_RX12_101 sw_yX12_isDigit (by decide) rfl (Nat.le_of_ble_eq_true rfl) rfl (w_X12_isDigit _ _ _ e38) ?_
      refine V.if_eq (tgt := 237) dX12_reads_133 (by decide) (fun c12 => ?_) (fun c12 => ?_)
      · rw [if_pos c12] at hf
        refine V.aload_n dX12_reads_237 rfl 1 rfl ?_
        refine V.iload_n dX12_reads_238 rfl 0 rfl ?_
        refine V.bipush (v := (59 : Int32)) dX12_reads_239 (by decide) ?_
        refine V.icmp_ne (tgt := 248) dX12_reads_241 (by decide) (fun c13 => ?_) (fun c13 => ?_)
        · rw [if_neg c13] at hf
          refine V.iconst (v := (4 : Int32)) dX12_reads_248 (by decide) ?_
          refine V.sub [1] rfl ?_
          exact w_X12_reads_249 _ _ _ _ _ hf
        · rw [if_pos c13] at hf
          refine V.iconst (v := (3 : Int32)) dX12_reads_244 (by decide) ?_
          refine V.goto (tgt := 249) dX12_reads_245 (by decide) ?_
          refine V.sub [1] rfl ?_
          exact w_X12_reads_249 _ _ _ _ _ hf
      · rw [if_neg c12] at hf
        refine V.aload_n dX12_reads_136 rfl 1 rfl ?_
        refine V.iconst (v := (0 : Int32)) dX12_reads_137 (by decide) ?_
        obtain ⟨h14, e39, hf⟩ := bS hf
        refine V.xpF dX12_reads_138 fl_RX12_104 (fun h9 => nomatch h9) (fun _ => rfl) (fun _ => rfl) e39 ?_
        refine V.sub [1] rfl ?_
        exact w_X12_reads_141 _ _ _ _ hf
    · rw [if_neg c10] at hf
      refine V.sub [1] rfl ?_
      exact w_X12_reads_94 _ _ _ _ hf
  · rw [if_neg c5] at hf
    refine V.aload_n dX12_reads_71 rfl 0 rfl ?_
    refine V.iconst (v := (0 : Int32)) dX12_reads_72 (by decide) ?_
    obtain ⟨h15, e40, hf⟩ := bS hf
    refine V.xpF dX12_reads_73 fl_RX12_90 (fun h9 => nomatch h9) (fun _ => rfl) (fun _ => rfl) e40 ?_
    obtain rfl := Option.some.inj hf
    exact V.vret dX12_reads_76

set_option maxRecDepth 20000 in
theorem w_X12_reads_0 : ∀ (n : Nat) (h : xH) (l0 : Nat) (r : xH), f_X12_reads_0 n h l0 = some r → V 4 yX12_reads cX12_reads 2 none [] none 0 [(0, .ref l0)] [] h (oVh r) := by
  intro n
  induction n with
  | zero => intro h l0 r hf; cases hf
  | succ n ih =>
    intro h l0 r hf
    rw [f_X12_reads_0] at hf
    refine V.aload_n dX12_reads_0 rfl 0 rfl ?_
    obtain ⟨v1, e41, hf⟩ := bS hf
    refine V.xgI dX12_reads_1 fl_RX12_84 e41 ?_
    refine V.aload_n dX12_reads_4 rfl 0 rfl ?_
    obtain ⟨v2, e42, hf⟩ := bS hf
    refine V.xgI dX12_reads_5 fl_RX12_81 e42 ?_
    refine V.icmp_ge (tgt := 52) dX12_reads_8 (by decide) (fun c3 => ?_) (fun c3 => ?_)
    · rw [if_pos c3] at hf
      exact w_X12_reads_52 _ _ _ hf
    · rw [if_neg c3] at hf
      refine V.aload_n dX12_reads_11 rfl 0 rfl ?_
      obtain ⟨v4, e43, hf⟩ := bS hf
      refine V.xgR dX12_reads_12 fl_RX12_23 e43 ?_
      refine V.aload_n dX12_reads_15 rfl 0 rfl ?_
      obtain ⟨v5, e44, hf⟩ := bS hf
      refine V.xgI dX12_reads_16 fl_RX12_84 e44 ?_
      obtain ⟨v6, e45, hf⟩ := bS hf
      refine V.xldI dX12_reads_19 e45 ?_
      refine V.bipush (v := (32 : Int32)) dX12_reads_20 (by decide) ?_
      refine V.icmp_eq (tgt := 39) dX12_reads_22 (by decide) (fun c7 => ?_) (fun c7 => ?_)
      · rw [if_pos c7] at hf
        exact w_X12_reads_39 _ ih _ _ hf
      · rw [if_neg c7] at hf
        refine V.aload_n dX12_reads_25 rfl 0 rfl ?_
        obtain ⟨v8, e46, hf⟩ := bS hf
        refine V.xgR dX12_reads_26 fl_RX12_23 e46 ?_
        refine V.aload_n dX12_reads_29 rfl 0 rfl ?_
        obtain ⟨v9, e47, hf⟩ := bS hf
        refine V.xgI dX12_reads_30 fl_RX12_84 e47 ?_
        obtain ⟨v10, e48, hf⟩ := bS hf
        refine V.xldI dX12_reads_33 e48 ?_
        refine V.bipush (v := (10 : Int32)) dX12_reads_34 (by decide) ?_
        refine V.icmp_ne (tgt := 52) dX12_reads_36 (by decide) (fun c11 => ?_) (fun c11 => ?_)
        · rw [if_neg c11] at hf
          exact w_X12_reads_52 _ _ _ hf
        · rw [if_pos c11] at hf
          exact w_X12_reads_39 _ ih _ _ hf

theorem w_X12_reads (h : xH) (l0 : Nat) (r : xH) (hf : f_X12_reads h l0 = some r) : Ev 4 yX12_reads cX12_reads 2 none [] [.ref l0] h (oVh r) := by
  refine Ev.of (by decide +kernel) (Nat.le_of_ble_eq_true rfl) ?_
  unfold f_X12_reads at hf
  exact w_X12_reads_0 _ _ _ _ hf

def f_X12_numberBut_61 (h : xH) (l0 : Nat) (l1 : Int32) (l4 : Int32) : Option (Int32 × xH) := (gI h l0 12 12).bind fun v1 => (if v1 = 0 then (some ((l4, h))) else (some ((l1, h))))
def f_X12_numberBut_44 (h : xH) (l0 : Nat) (l1 : Int32) : Option (Int32 × xH) := (gI h l0 12 11).bind fun v1 => (gI h l0 12 12).bind fun v2 => (if v2 = 0 then ((gO h l0 12).bind fun q4 => (f_X12_reads h l0).bind fun r5 => f_X12_numberBut_61 r5 l0 l1 v1) else (f_X12_numberBut_61 h l0 l1 v1))
def f_X12_numberBut_39 (h : xH) (l0 : Nat) (l1 : Int32) : Option (Int32 × xH) := (gO h l0 12).bind fun q1 => (f_X12_blames h l0 (3 : Int32)).bind fun r2 => f_X12_numberBut_44 r2 l0 l1
def f_X12_numberBut (h : xH) (l0 : Nat) (l1 : Int32) (l2 : Int32) (l3 : Int32) : Option (Int32 × xH) := (gI h l0 12 10).bind fun v1 => (if v1 = (2 : Int32) then ((gI h l0 12 11).bind fun v3 => (f_X12_within h (Int32.toInt64 v3) (Int32.toInt64 l1) (Int32.toInt64 l2)).bind fun r4 => (if r4 = 0 then (f_X12_numberBut_39 h l0 l1) else ((gI h l0 12 11).bind fun v6 => (if v6 = l3 then (f_X12_numberBut_39 h l0 l1) else (f_X12_numberBut_44 h l0 l1))))) else ((gO h l0 12).bind fun q8 => (f_X12_blames h l0 (2 : Int32)).bind fun r9 => f_X12_numberBut_44 r9 l0 l1))
set_option maxRecDepth 20000 in
theorem w_X12_numberBut_61 (h : xH) (l0 : Nat) (l1 : Int32) (l4 : Int32) (r : Int32 × xH) (hf : f_X12_numberBut_61 h l0 l1 l4 = some r) : V 5 yX12_numberBut cX12_numberBut 5 (some .int) [] none 61 [(0, .ref l0), (1, .int l1), (4, .int l4)] [] h (oIh r) := by
  unfold f_X12_numberBut_61 at hf
  refine V.aload_n dX12_numberBut_61 rfl 0 rfl ?_
  obtain ⟨v1, e1, hf⟩ := bS hf
  refine V.xgI dX12_numberBut_62 fl_RX12_107 e1 ?_
  refine V.if_ne (tgt := 73) dX12_numberBut_65 (by decide) (fun c2 => ?_) (fun c2 => ?_)
  · rw [if_neg c2] at hf
    refine V.iload_n dX12_numberBut_73 rfl 1 rfl ?_
    obtain rfl := Option.some.inj hf
    exact V.iret dX12_numberBut_74
  · rw [if_pos c2] at hf
    refine V.iload dX12_numberBut_68 2 rfl ?_
    refine V.goto (tgt := 74) dX12_numberBut_70 (by decide) ?_
    obtain rfl := Option.some.inj hf
    exact V.iret dX12_numberBut_74

set_option maxRecDepth 20000 in
theorem w_X12_numberBut_44 (h : xH) (l0 : Nat) (l1 : Int32) (r : Int32 × xH) (hf : f_X12_numberBut_44 h l0 l1 = some r) : V 5 yX12_numberBut cX12_numberBut 5 (some .int) [] none 44 [(0, .ref l0), (1, .int l1)] [] h (oIh r) := by
  unfold f_X12_numberBut_44 at hf
  refine V.aload_n dX12_numberBut_44 rfl 0 rfl ?_
  obtain ⟨v1, e2, hf⟩ := bS hf
  refine V.xgI dX12_numberBut_45 fl_RX12_104 e2 ?_
  refine V.istore (lv' := [(4, .int v1), (0, .ref l0), (1, .int l1)]) dX12_numberBut_48 (by decide) rfl ?_
  refine V.aload_n dX12_numberBut_50 rfl 1 rfl ?_
  obtain ⟨v2, e3, hf⟩ := bS hf
  refine V.xgI dX12_numberBut_51 fl_RX12_107 e3 ?_
  refine V.if_ne (tgt := 61) dX12_numberBut_54 (by decide) (fun c3 => ?_) (fun c3 => ?_)
  · rw [if_neg c3] at hf
    refine V.sub [1, 2, 0] rfl ?_
    exact w_X12_numberBut_61 _ _ _ _ _ hf
  · rw [if_pos c3] at hf
    refine V.aload_n dX12_numberBut_57 rfl 1 rfl ?_
    obtain ⟨q4, e4, hf⟩ := bS hf
    obtain ⟨r5, e5, hf⟩ := bS hf
    refine V.callV (As := []) (st := []) dX12_numberBut_58 cl_RX12_127 sw_yX12_reads (by decide) rfl (Nat.le_of_ble_eq_true rfl) rfl (gO_some e4) rfl (w_X12_reads _ _ _ e5) ?_
    refine V.sub [1, 2, 0] rfl ?_
    exact w_X12_numberBut_61 _ _ _ _ _ hf

set_option maxRecDepth 20000 in
theorem w_X12_numberBut_39 (h : xH) (l0 : Nat) (l1 : Int32) (r : Int32 × xH) (hf : f_X12_numberBut_39 h l0 l1 = some r) : V 5 yX12_numberBut cX12_numberBut 5 (some .int) [] none 39 [(0, .ref l0), (1, .int l1)] [] h (oIh r) := by
  unfold f_X12_numberBut_39 at hf
  refine V.aload_n dX12_numberBut_39 rfl 0 rfl ?_
  refine V.iconst (v := (3 : Int32)) dX12_numberBut_40 (by decide) ?_
  obtain ⟨q1, e6, hf⟩ := bS hf
  obtain ⟨r2, e7, hf⟩ := bS hf
  refine V.callV (As := [.int (3 : Int32)]) (st := []) dX12_numberBut_41 cl_RX12_130 sw_yX12_blames (by decide) rfl (Nat.le_of_ble_eq_true rfl) rfl (gO_some e6) rfl (w_X12_blames _ _ _ _ e7) ?_
  exact w_X12_numberBut_44 _ _ _ _ hf

set_option maxRecDepth 20000 in
theorem w_X12_numberBut (h : xH) (l0 : Nat) (l1 : Int32) (l2 : Int32) (l3 : Int32) (r : Int32 × xH) (hf : f_X12_numberBut h l0 l1 l2 l3 = some r) : Ev 5 yX12_numberBut cX12_numberBut 5 (some .int) [] [.ref l0, .int l1, .int l2, .int l3] h (oIh r) := by
  refine Ev.of (by decide +kernel) (Nat.le_of_ble_eq_true rfl) ?_
  unfold f_X12_numberBut at hf
  refine V.aload_n dX12_numberBut_0 rfl 0 rfl ?_
  obtain ⟨v1, e8, hf⟩ := bS hf
  refine V.xgI dX12_numberBut_1 fl_RX12_90 e8 ?_
  refine V.iconst (v := (2 : Int32)) dX12_numberBut_4 (by decide) ?_
  refine V.icmp_eq (tgt := 16) dX12_numberBut_5 (by decide) (fun c2 => ?_) (fun c2 => ?_)
  · rw [if_pos c2] at hf
    refine V.aload_n dX12_numberBut_16 rfl 0 rfl ?_
    obtain ⟨v3, e9, hf⟩ := bS hf
    refine V.xgI dX12_numberBut_17 fl_RX12_104 e9 ?_
    refine V.i2l dX12_numberBut_20 ?_
    refine V.iload_n dX12_numberBut_21 rfl 1 rfl ?_
    refine V.i2l dX12_numberBut_22 ?_
    refine V.iload_n dX12_numberBut_23 rfl 2 rfl ?_
    refine V.i2l dX12_numberBut_24 ?_
    obtain ⟨r4, e10, hf⟩ := bS hf
    refine V.callS (As := [.long (Int32.toInt64 v3), .long (Int32.toInt64 l1), .long (Int32.toInt64 l2)]) (st := []) dX12_numberBut_25 cl_RX12_134 sw_yX12_within (by decide) rfl (Nat.le_of_ble_eq_true rfl) rfl (w_X12_within _ _ _ _ _ e10) ?_
    refine V.if_eq (tgt := 39) dX12_numberBut_28 (by decide) (fun c5 => ?_) (fun c5 => ?_)
    · rw [if_pos c5] at hf
      refine V.sub [0, 1] rfl ?_
      exact w_X12_numberBut_39 _ _ _ _ hf
    · rw [if_neg c5] at hf
      refine V.aload_n dX12_numberBut_31 rfl 0 rfl ?_
      obtain ⟨v6, e11, hf⟩ := bS hf
      refine V.xgI dX12_numberBut_32 fl_RX12_104 e11 ?_
      refine V.iload_n dX12_numberBut_35 rfl 3 rfl ?_
      refine V.icmp_ne (tgt := 44) dX12_numberBut_36 (by decide) (fun c7 => ?_) (fun c7 => ?_)
      · rw [if_neg c7] at hf
        refine V.sub [0, 1] rfl ?_
        exact w_X12_numberBut_44 _ _ _ _ hf
      · rw [if_pos c7] at hf
        refine V.sub [0, 1] rfl ?_
        exact w_X12_numberBut_39 _ _ _ _ hf
  · rw [if_neg c2] at hf
    refine V.aload_n dX12_numberBut_8 rfl 0 rfl ?_
    refine V.iconst (v := (2 : Int32)) dX12_numberBut_9 (by decide) ?_
    obtain ⟨q8, e12, hf⟩ := bS hf
    obtain ⟨r9, e13, hf⟩ := bS hf
    refine V.callV (As := [.int (2 : Int32)]) (st := []) dX12_numberBut_10 cl_RX12_130 sw_yX12_blames (by decide) rfl (Nat.le_of_ble_eq_true rfl) rfl (gO_some e12) rfl (w_X12_blames _ _ _ _ e13) ?_
    refine V.goto (tgt := 44) dX12_numberBut_13 (by decide) ?_
    refine V.sub [0, 1] rfl ?_
    exact w_X12_numberBut_44 _ _ _ _ hf

def f_X12_number (h : xH) (l0 : Nat) (l1 : Int32) (l2 : Int32) : Option (Int32 × xH) := (gO h l0 12).bind fun q1 => (f_X12_numberBut h l0 l1 l2 (-1 : Int32)).bind fun r2 => some ((r2.1, r2.2))
set_option maxRecDepth 20000 in
theorem w_X12_number (h : xH) (l0 : Nat) (l1 : Int32) (l2 : Int32) (r : Int32 × xH) (hf : f_X12_number h l0 l1 l2 = some r) : Ev 6 yX12_number cX12_number 3 (some .int) [] [.ref l0, .int l1, .int l2] h (oIh r) := by
  refine Ev.of (by decide +kernel) (Nat.le_of_ble_eq_true rfl) ?_
  unfold f_X12_number at hf
  refine V.aload_n dX12_number_0 rfl 0 rfl ?_
  refine V.iload_n dX12_number_1 rfl 1 rfl ?_
  refine V.iload_n dX12_number_2 rfl 2 rfl ?_
  refine V.iconst (v := (-1 : Int32)) dX12_number_3 (by decide) ?_
  obtain ⟨q1, e1, hf⟩ := bS hf
  obtain ⟨r2, e2, hf⟩ := bS hf
  refine V.callV (As := [.int l1, .int l2, .int (-1 : Int32)]) (st := []) dX12_number_4 cl_RX12_138 sw_yX12_numberBut (by decide) rfl (Nat.le_of_ble_eq_true rfl) rfl (gO_some e1) rfl (w_X12_numberBut _ _ _ _ _ _ e2) ?_
  obtain rfl := Option.some.inj hf
  exact V.iret dX12_number_7

def f_X12_room (h : xH) (l0 : Nat) : Option (Int32 × xH) := (gR h l0 12 2).bind fun v1 => (ldI h .int v1 (1 : Int32)).bind fun v2 => (gO h l0 12).bind fun q3 => (f_X12_number h l0 (0 : Int32) (v2 - (1 : Int32))).bind fun r4 => some ((r4.1, r4.2))
set_option maxRecDepth 20000 in
theorem w_X12_room (h : xH) (l0 : Nat) (r : Int32 × xH) (hf : f_X12_room h l0 = some r) : Ev 7 yX12_room cX12_room 1 (some .int) [] [.ref l0] h (oIh r) := by
  refine Ev.of (by decide +kernel) (Nat.le_of_ble_eq_true rfl) ?_
  unfold f_X12_room at hf
  refine V.aload_n dX12_room_0 rfl 0 rfl ?_
  refine V.iconst (v := (0 : Int32)) dX12_room_1 (by decide) ?_
  refine V.aload_n dX12_room_2 rfl 0 rfl ?_
  obtain ⟨v1, e1, hf⟩ := bS hf
  refine V.xgR dX12_room_3 fl_RX12_16 e1 ?_
  refine V.iconst (v := (1 : Int32)) dX12_room_6 (by decide) ?_
  obtain ⟨v2, e2, hf⟩ := bS hf
  refine V.xldI dX12_room_7 e2 ?_
  refine V.iconst (v := (1 : Int32)) dX12_room_8 (by decide) ?_
  refine V.isub dX12_room_9 ?_
  obtain ⟨q3, e3, hf⟩ := bS hf
  obtain ⟨r4, e4, hf⟩ := bS hf
  refine V.callV (As := [.int (0 : Int32), .int (v2 - (1 : Int32))]) (st := []) dX12_room_10 cl_RX12_145 sw_yX12_number (by decide) rfl (Nat.le_of_ble_eq_true rfl) rfl (gO_some e3) rfl (w_X12_number _ _ _ _ _ e4) ?_
  obtain rfl := Option.some.inj hf
  exact V.iret dX12_room_13

def f_X12_took (h : xH) (l0 : Nat) (l1 : Nat) : Option (Int32 × xH) := (gO h l0 12).bind fun q1 => (f_X12_isWord h l0 l1).bind fun r2 => (if r2 = 0 then ((if narrow .boolean (.int r2) = .int r2 then some (r2, h) else none)) else ((gO h l0 12).bind fun q5 => (f_X12_reads h l0).bind fun r6 => (if narrow .boolean (.int r2) = .int r2 then some (r2, r6) else none)))
set_option maxRecDepth 20000 in
theorem w_X12_took (h : xH) (l0 : Nat) (l1 : Nat) (r : Int32 × xH) (hf : f_X12_took h l0 l1 = some r) : Ev 8 yX12_took cX12_took 3 (some .boolean) [] [.ref l0, .ref l1] h (oIh r) := by
  refine Ev.of (by decide +kernel) (Nat.le_of_ble_eq_true rfl) ?_
  unfold f_X12_took at hf
  refine V.aload_n dX12_took_0 rfl 0 rfl ?_
  refine V.aload_n dX12_took_1 rfl 1 rfl ?_
  obtain ⟨q1, e1, hf⟩ := bS hf
  obtain ⟨r2, e2, hf⟩ := bS hf
  refine V.callV (As := [.ref l1]) (st := []) dX12_took_2 cl_RX12_123 sw_yX12_isWord (by decide) rfl (Nat.le_of_ble_eq_true rfl) rfl (gO_some e1) rfl (w_X12_isWord _ _ _ _ e2) ?_
  refine V.istore_n (lv' := [(2, .int r2), (0, .ref l0), (1, .ref l1)]) dX12_took_5 rfl (by decide) rfl ?_
  refine V.iload_n dX12_took_6 rfl 0 rfl ?_
  refine V.if_eq (tgt := 14) dX12_took_7 (by decide) (fun c3 => ?_) (fun c3 => ?_)
  · rw [if_pos c3] at hf
    refine V.iload_n dX12_took_14 rfl 0 rfl ?_
    by_cases c4 : narrow .boolean (.int r2) = .int r2
    · rw [if_pos c4] at hf
      obtain rfl := Option.some.inj hf
      exact V.zret dX12_took_15 c4
    · rw [if_neg c4] at hf
      cases hf
  · rw [if_neg c3] at hf
    refine V.aload_n dX12_took_10 rfl 1 rfl ?_
    obtain ⟨q5, e3, hf⟩ := bS hf
    obtain ⟨r6, e4, hf⟩ := bS hf
    refine V.callV (As := []) (st := []) dX12_took_11 cl_RX12_127 sw_yX12_reads (by decide) rfl (Nat.le_of_ble_eq_true rfl) rfl (gO_some e3) rfl (w_X12_reads _ _ _ e4) ?_
    refine V.iload_n dX12_took_14 rfl 0 rfl ?_
    by_cases c7 : narrow .boolean (.int r2) = .int r2
    · rw [if_pos c7] at hf
      obtain rfl := Option.some.inj hf
      exact V.zret dX12_took_15 c7
    · rw [if_neg c7] at hf
      cases hf

def f_X12_readBurns_26 (h : xH) (l0 : Nat) (l1 : Int32) : Option (xH) := (gO h l0 12).bind fun q1 => (f_X12_room h l0).bind fun r2 => (gI r2.2 l0 12 12).bind fun v3 => (if v3 = 0 then ((gR r2.2 l0 12 2).bind fun v5 => (stI r2.2 .int v5 ((416 : Int32) + (r2.1)) l1).bind fun h6 => some (h6)) else (some (r2.2)))
def f_X12_readBurns (h : xH) (l0 : Nat) : Option (xH) := (gO h l0 12).bind fun q1 => (f_X12_reads h l0).bind fun r2 => (gO r2 l0 12).bind fun q3 => (f_X12_number r2 l0 (0 : Int32) (99 : Int32)).bind fun r4 => (gO r4.2 l0 12).bind fun q5 => (f_X12_took r4.2 l0 (xS0 + 2 * 15)).bind fun r6 => (if r6.1 = 0 then ((gO r6.2 l0 12).bind fun q8 => (f_X12_blames r6.2 l0 (2 : Int32)).bind fun r9 => f_X12_readBurns_26 r9 l0 (r4.1)) else (f_X12_readBurns_26 r6.2 l0 (r4.1)))
set_option maxRecDepth 20000 in
theorem w_X12_readBurns_26 (h : xH) (l0 : Nat) (l1 : Int32) (r : xH) (hf : f_X12_readBurns_26 h l0 l1 = some r) : V 9 yX12_readBurns cX12_readBurns 3 none [] none 26 [(0, .ref l0), (1, .int l1)] [] h (oVh r) := by
  unfold f_X12_readBurns_26 at hf
  refine V.aload_n dX12_readBurns_26 rfl 0 rfl ?_
  obtain ⟨q1, e1, hf⟩ := bS hf
  obtain ⟨r2, e2, hf⟩ := bS hf
  refine V.callV (As := []) (st := []) dX12_readBurns_27 cl_RX12_149 sw_yX12_room (by decide) rfl (Nat.le_of_ble_eq_true rfl) rfl (gO_some e1) rfl (w_X12_room _ _ _ e2) ?_
  refine V.istore_n (lv' := [(2, .int r2.1), (0, .ref l0), (1, .int l1)]) dX12_readBurns_30 rfl (by decide) rfl ?_
  refine V.aload_n dX12_readBurns_31 rfl 1 rfl ?_
  obtain ⟨v3, e3, hf⟩ := bS hf
  refine V.xgI dX12_readBurns_32 fl_RX12_107 e3 ?_
  refine V.if_ne (tgt := 49) dX12_readBurns_35 (by decide) (fun c4 => ?_) (fun c4 => ?_)
  · rw [if_neg c4] at hf
    obtain rfl := Option.some.inj hf
    exact V.vret dX12_readBurns_49
  · rw [if_pos c4] at hf
    refine V.aload_n dX12_readBurns_38 rfl 1 rfl ?_
    obtain ⟨v5, e4, hf⟩ := bS hf
    refine V.xgR dX12_readBurns_39 fl_RX12_16 e4 ?_
    refine V.sipush (v := (416 : Int32)) dX12_readBurns_42 (by decide) ?_
    refine V.iload_n dX12_readBurns_45 rfl 0 rfl ?_
    refine V.iadd dX12_readBurns_46 ?_
    refine V.iload_n dX12_readBurns_47 rfl 2 rfl ?_
    obtain ⟨h6, e5, hf⟩ := bS hf
    refine V.xstI dX12_readBurns_48 e5 ?_
    obtain rfl := Option.some.inj hf
    exact V.vret dX12_readBurns_49

set_option maxRecDepth 20000 in
theorem w_X12_readBurns (h : xH) (l0 : Nat) (r : xH) (hf : f_X12_readBurns h l0 = some r) : Ev 9 yX12_readBurns cX12_readBurns 3 none [] [.ref l0] h (oVh r) := by
  refine Ev.of (by decide +kernel) (Nat.le_of_ble_eq_true rfl) ?_
  unfold f_X12_readBurns at hf
  refine V.aload_n dX12_readBurns_0 rfl 0 rfl ?_
  obtain ⟨q1, e6, hf⟩ := bS hf
  obtain ⟨r2, e7, hf⟩ := bS hf
  refine V.callV (As := []) (st := []) dX12_readBurns_1 cl_RX12_127 sw_yX12_reads (by decide) rfl (Nat.le_of_ble_eq_true rfl) rfl (gO_some e6) rfl (w_X12_reads _ _ _ e7) ?_
  refine V.aload_n dX12_readBurns_4 rfl 0 rfl ?_
  refine V.iconst (v := (0 : Int32)) dX12_readBurns_5 (by decide) ?_
  refine V.bipush (v := (99 : Int32)) dX12_readBurns_6 (by decide) ?_
  obtain ⟨q3, e8, hf⟩ := bS hf
  obtain ⟨r4, e9, hf⟩ := bS hf
  refine V.callV (As := [.int (0 : Int32), .int (99 : Int32)]) (st := []) dX12_readBurns_8 cl_RX12_145 sw_yX12_number (by decide) rfl (Nat.le_of_ble_eq_true rfl) rfl (gO_some e8) rfl (w_X12_number _ _ _ _ _ e9) ?_
  refine V.istore_n (lv' := [(1, .int r4.1), (0, .ref l0)]) dX12_readBurns_11 rfl (by decide) rfl ?_
  refine V.aload_n dX12_readBurns_12 rfl 1 rfl ?_
  refine V.ldcS (i := 15) dX12_readBurns_13 (by decide) ?_
  obtain ⟨q5, e10, hf⟩ := bS hf
  obtain ⟨r6, e11, hf⟩ := bS hf
  refine V.callV (As := [.ref (xS0 + 2 * 15)]) (st := []) dX12_readBurns_15 cl_RX12_142 sw_yX12_took (by decide) rfl (Nat.le_of_ble_eq_true rfl) rfl (gO_some e10) rfl (w_X12_took _ _ _ _ e11) ?_
  refine V.if_ne (tgt := 26) dX12_readBurns_18 (by decide) (fun c7 => ?_) (fun c7 => ?_)
  · rw [if_neg c7] at hf
    refine V.sub [1, 0] rfl ?_
    exact w_X12_readBurns_26 _ _ _ _ hf
  · rw [if_pos c7] at hf
    refine V.aload_n dX12_readBurns_21 rfl 1 rfl ?_
    refine V.iconst (v := (2 : Int32)) dX12_readBurns_22 (by decide) ?_
    obtain ⟨q8, e12, hf⟩ := bS hf
    obtain ⟨r9, e13, hf⟩ := bS hf
    refine V.callV (As := [.int (2 : Int32)]) (st := []) dX12_readBurns_23 cl_RX12_130 sw_yX12_blames (by decide) rfl (Nat.le_of_ble_eq_true rfl) rfl (gO_some e12) rfl (w_X12_blames _ _ _ _ e13) ?_
    refine V.sub [1, 0] rfl ?_
    exact w_X12_readBurns_26 _ _ _ _ hf

def f_X12_readHates (h : xH) (l0 : Nat) : Option (xH) := (gO h l0 12).bind fun q1 => (f_X12_reads h l0).bind fun r2 => (gO r2 l0 12).bind fun q3 => (f_X12_room r2 l0).bind fun r4 => (gR r4.2 l0 12 2).bind fun v5 => (ldI r4.2 .int v5 (1 : Int32)).bind fun v6 => (gO r4.2 l0 12).bind fun q7 => (f_X12_numberBut r4.2 l0 (0 : Int32) (v6 - (1 : Int32)) (r4.1)).bind fun r8 => (gI r8.2 l0 12 12).bind fun v9 => (if v9 = 0 then ((gR r8.2 l0 12 2).bind fun v11 => (ldI r8.2 .int v11 ((432 : Int32) + (r4.1))).bind fun v12 => (stI r8.2 .int v11 ((432 : Int32) + (r4.1)) (v12 ||| ((1 : Int32) <<< ((r8.1) &&& 31)))).bind fun h13 => some (h13)) else (some (r8.2)))
set_option maxRecDepth 20000 in
theorem w_X12_readHates (h : xH) (l0 : Nat) (r : xH) (hf : f_X12_readHates h l0 = some r) : Ev 8 yX12_readHates cX12_readHates 3 none [] [.ref l0] h (oVh r) := by
  refine Ev.of (by decide +kernel) (Nat.le_of_ble_eq_true rfl) ?_
  unfold f_X12_readHates at hf
  refine V.aload_n dX12_readHates_0 rfl 0 rfl ?_
  obtain ⟨q1, e1, hf⟩ := bS hf
  obtain ⟨r2, e2, hf⟩ := bS hf
  refine V.callV (As := []) (st := []) dX12_readHates_1 cl_RX12_127 sw_yX12_reads (by decide) rfl (Nat.le_of_ble_eq_true rfl) rfl (gO_some e1) rfl (w_X12_reads _ _ _ e2) ?_
  refine V.aload_n dX12_readHates_4 rfl 0 rfl ?_
  obtain ⟨q3, e3, hf⟩ := bS hf
  obtain ⟨r4, e4, hf⟩ := bS hf
  refine V.callV (As := []) (st := []) dX12_readHates_5 cl_RX12_149 sw_yX12_room (by decide) rfl (Nat.le_of_ble_eq_true rfl) rfl (gO_some e3) rfl (w_X12_room _ _ _ e4) ?_
  refine V.istore_n (lv' := [(1, .int r4.1), (0, .ref l0)]) dX12_readHates_8 rfl (by decide) rfl ?_
  refine V.aload_n dX12_readHates_9 rfl 1 rfl ?_
  refine V.iconst (v := (0 : Int32)) dX12_readHates_10 (by decide) ?_
  refine V.aload_n dX12_readHates_11 rfl 1 rfl ?_
  obtain ⟨v5, e5, hf⟩ := bS hf
  refine V.xgR dX12_readHates_12 fl_RX12_16 e5 ?_
  refine V.iconst (v := (1 : Int32)) dX12_readHates_15 (by decide) ?_
  obtain ⟨v6, e6, hf⟩ := bS hf
  refine V.xldI dX12_readHates_16 e6 ?_
  refine V.iconst (v := (1 : Int32)) dX12_readHates_17 (by decide) ?_
  refine V.isub dX12_readHates_18 ?_
  refine V.iload_n dX12_readHates_19 rfl 0 rfl ?_
  obtain ⟨q7, e7, hf⟩ := bS hf
  obtain ⟨r8, e8, hf⟩ := bS hf
  refine V.callV (As := [.int (0 : Int32), .int (v6 - (1 : Int32)), .int (r4.1)]) (st := []) dX12_readHates_20 cl_RX12_138 sw_yX12_numberBut (by decide) rfl (Nat.le_of_ble_eq_true rfl) rfl (gO_some e7) rfl (w_X12_numberBut _ _ _ _ _ _ e8) ?_
  refine V.istore_n (lv' := [(2, .int r8.1), (1, .int r4.1), (0, .ref l0)]) dX12_readHates_23 rfl (by decide) rfl ?_
  refine V.aload_n dX12_readHates_24 rfl 2 rfl ?_
  obtain ⟨v9, e9, hf⟩ := bS hf
  refine V.xgI dX12_readHates_25 fl_RX12_107 e9 ?_
  refine V.if_ne (tgt := 47) dX12_readHates_28 (by decide) (fun c10 => ?_) (fun c10 => ?_)
  · rw [if_neg c10] at hf
    obtain rfl := Option.some.inj hf
    exact V.vret dX12_readHates_47
  · rw [if_pos c10] at hf
    refine V.aload_n dX12_readHates_31 rfl 2 rfl ?_
    obtain ⟨v11, e10, hf⟩ := bS hf
    refine V.xgR dX12_readHates_32 fl_RX12_16 e10 ?_
    refine V.sipush (v := (432 : Int32)) dX12_readHates_35 (by decide) ?_
    refine V.iload_n dX12_readHates_38 rfl 1 rfl ?_
    refine V.iadd dX12_readHates_39 ?_
    refine V.dup2 dX12_readHates_40 rfl rfl ?_
    obtain ⟨v12, e11, hf⟩ := bS hf
    refine V.xldI dX12_readHates_41 e11 ?_
    refine V.iconst (v := (1 : Int32)) dX12_readHates_42 (by decide) ?_
    refine V.iload_n dX12_readHates_43 rfl 0 rfl ?_
    refine V.ishl dX12_readHates_44 ?_
    refine V.ior dX12_readHates_45 ?_
    obtain ⟨h13, e12, hf⟩ := bS hf
    refine V.xstI dX12_readHates_46 e12 ?_
    obtain rfl := Option.some.inj hf
    exact V.vret dX12_readHates_47

def f_X12_begins__15 (h : xH) (l0 : Nat) : Option (xH) := (gI h l0 12 12).bind fun v1 => (if v1 = 0 then ((gO h l0 12).bind fun q3 => (f_X12_reads h l0).bind fun r4 => some (r4)) else (some (h)))
def f_X12_begins_ (h : xH) (l0 : Nat) (l1 : Int32) (l2 : Int32) : Option (xH) := (gR h l0 12 2).bind fun v1 => (ldI h .int v1 l1).bind fun v2 => (if v2 = l2 then ((gO h l0 12).bind fun q4 => (f_X12_blames h l0 (4 : Int32)).bind fun r5 => f_X12_begins__15 r5 l0) else (f_X12_begins__15 h l0))
set_option maxRecDepth 20000 in
theorem w_X12_begins__15 (h : xH) (l0 : Nat) (r : xH) (hf : f_X12_begins__15 h l0 = some r) : V 5 yX12_begins_ cX12_begins_ 3 none [] none 15 [(0, .ref l0)] [] h (oVh r) := by
  unfold f_X12_begins__15 at hf
  refine V.aload_n dX12_begins__15 rfl 0 rfl ?_
  obtain ⟨v1, e1, hf⟩ := bS hf
  refine V.xgI dX12_begins__16 fl_RX12_107 e1 ?_
  refine V.if_ne (tgt := 26) dX12_begins__19 (by decide) (fun c2 => ?_) (fun c2 => ?_)
  · rw [if_neg c2] at hf
    obtain rfl := Option.some.inj hf
    exact V.vret dX12_begins__26
  · rw [if_pos c2] at hf
    refine V.aload_n dX12_begins__22 rfl 0 rfl ?_
    obtain ⟨q3, e2, hf⟩ := bS hf
    obtain ⟨r4, e3, hf⟩ := bS hf
    refine V.callV (As := []) (st := []) dX12_begins__23 cl_RX12_127 sw_yX12_reads (by decide) rfl (Nat.le_of_ble_eq_true rfl) rfl (gO_some e2) rfl (w_X12_reads _ _ _ e3) ?_
    obtain rfl := Option.some.inj hf
    exact V.vret dX12_begins__26

set_option maxRecDepth 20000 in
theorem w_X12_begins_ (h : xH) (l0 : Nat) (l1 : Int32) (l2 : Int32) (r : xH) (hf : f_X12_begins_ h l0 l1 l2 = some r) : Ev 5 yX12_begins_ cX12_begins_ 3 none [] [.ref l0, .int l1, .int l2] h (oVh r) := by
  refine Ev.of (by decide +kernel) (Nat.le_of_ble_eq_true rfl) ?_
  unfold f_X12_begins_ at hf
  refine V.aload_n dX12_begins__0 rfl 0 rfl ?_
  obtain ⟨v1, e4, hf⟩ := bS hf
  refine V.xgR dX12_begins__1 fl_RX12_16 e4 ?_
  refine V.iload_n dX12_begins__4 rfl 1 rfl ?_
  obtain ⟨v2, e5, hf⟩ := bS hf
  refine V.xldI dX12_begins__5 e5 ?_
  refine V.iload_n dX12_begins__6 rfl 2 rfl ?_
  refine V.icmp_ne (tgt := 15) dX12_begins__7 (by decide) (fun c3 => ?_) (fun c3 => ?_)
  · rw [if_neg c3] at hf
    refine V.sub [0] rfl ?_
    exact w_X12_begins__15 _ _ _ hf
  · rw [if_pos c3] at hf
    refine V.aload_n dX12_begins__10 rfl 0 rfl ?_
    refine V.iconst (v := (4 : Int32)) dX12_begins__11 (by decide) ?_
    obtain ⟨q4, e6, hf⟩ := bS hf
    obtain ⟨r5, e7, hf⟩ := bS hf
    refine V.callV (As := [.int (4 : Int32)]) (st := []) dX12_begins__12 cl_RX12_130 sw_yX12_blames (by decide) rfl (Nat.le_of_ble_eq_true rfl) rfl (gO_some e6) rfl (w_X12_blames _ _ _ _ e7) ?_
    refine V.sub [0] rfl ?_
    exact w_X12_begins__15 _ _ _ hf

def f_X12_told_13 (h : xH) (l0 : Nat) (l2 : Int32) (l3 : Int32) : Option (Int32 × xH) := (gO h l0 12).bind fun q1 => (f_X12_number h l0 l2 l3).bind fun r2 => some ((r2.1, r2.2))
def f_X12_told (h : xH) (l0 : Nat) (l1 : Nat) (l2 : Int32) (l3 : Int32) : Option (Int32 × xH) := (gO h l0 12).bind fun q1 => (f_X12_took h l0 l1).bind fun r2 => (if r2.1 = 0 then ((gO r2.2 l0 12).bind fun q4 => (f_X12_blames r2.2 l0 (2 : Int32)).bind fun r5 => f_X12_told_13 r5 l0 l2 l3) else (f_X12_told_13 r2.2 l0 l2 l3))
set_option maxRecDepth 20000 in
theorem w_X12_told_13 (h : xH) (l0 : Nat) (l2 : Int32) (l3 : Int32) (r : Int32 × xH) (hf : f_X12_told_13 h l0 l2 l3 = some r) : V 9 yX12_told cX12_told 4 (some .int) [] none 13 [(0, .ref l0), (2, .int l2), (3, .int l3)] [] h (oIh r) := by
  unfold f_X12_told_13 at hf
  refine V.aload_n dX12_told_13 rfl 0 rfl ?_
  refine V.iload_n dX12_told_14 rfl 1 rfl ?_
  refine V.iload_n dX12_told_15 rfl 2 rfl ?_
  obtain ⟨q1, e1, hf⟩ := bS hf
  obtain ⟨r2, e2, hf⟩ := bS hf
  refine V.callV (As := [.int l2, .int l3]) (st := []) dX12_told_16 cl_RX12_145 sw_yX12_number (by decide) rfl (Nat.le_of_ble_eq_true rfl) rfl (gO_some e1) rfl (w_X12_number _ _ _ _ _ e2) ?_
  obtain rfl := Option.some.inj hf
  exact V.iret dX12_told_19

set_option maxRecDepth 20000 in
theorem w_X12_told (h : xH) (l0 : Nat) (l1 : Nat) (l2 : Int32) (l3 : Int32) (r : Int32 × xH) (hf : f_X12_told h l0 l1 l2 l3 = some r) : Ev 9 yX12_told cX12_told 4 (some .int) [] [.ref l0, .ref l1, .int l2, .int l3] h (oIh r) := by
  refine Ev.of (by decide +kernel) (Nat.le_of_ble_eq_true rfl) ?_
  unfold f_X12_told at hf
  refine V.aload_n dX12_told_0 rfl 0 rfl ?_
  refine V.aload_n dX12_told_1 rfl 1 rfl ?_
  obtain ⟨q1, e3, hf⟩ := bS hf
  obtain ⟨r2, e4, hf⟩ := bS hf
  refine V.callV (As := [.ref l1]) (st := []) dX12_told_2 cl_RX12_142 sw_yX12_took (by decide) rfl (Nat.le_of_ble_eq_true rfl) rfl (gO_some e3) rfl (w_X12_took _ _ _ _ e4) ?_
  refine V.if_ne (tgt := 13) dX12_told_5 (by decide) (fun c3 => ?_) (fun c3 => ?_)
  · rw [if_neg c3] at hf
    refine V.sub [0, 2, 3] rfl ?_
    exact w_X12_told_13 _ _ _ _ _ hf
  · rw [if_pos c3] at hf
    refine V.aload_n dX12_told_8 rfl 0 rfl ?_
    refine V.iconst (v := (2 : Int32)) dX12_told_9 (by decide) ?_
    obtain ⟨q4, e5, hf⟩ := bS hf
    obtain ⟨r5, e6, hf⟩ := bS hf
    refine V.callV (As := [.int (2 : Int32)]) (st := []) dX12_told_10 cl_RX12_130 sw_yX12_blames (by decide) rfl (Nat.le_of_ble_eq_true rfl) rfl (gO_some e5) rfl (w_X12_blames _ _ _ _ e6) ?_
    refine V.sub [0, 2, 3] rfl ?_
    exact w_X12_told_13 _ _ _ _ _ hf

def f_X12_readSides_19 (h : xH) (l0 : Nat) (l1 : Int32) (l2 : Int32) : Option (xH) := (gR h l0 12 2).bind fun v1 => (ldI h .int v1 (1 : Int32)).bind fun v2 => (gO h l0 12).bind fun q3 => (f_X12_numberBut h l0 (0 : Int32) (v2 - (1 : Int32)) l2).bind fun r4 => (gO r4.2 l0 12).bind fun q5 => (f_X12_told r4.2 l0 (xS0 + 2 * 3) (1 : Int32) (100 : Int32)).bind fun r6 => (gI r6.2 l0 12 12).bind fun v7 => (if v7 = 0 then ((gR r6.2 l0 12 2).bind fun v9 => (stI r6.2 .int v9 l1 l2).bind fun h10 => (gR h10 l0 12 2).bind fun v11 => (stI h10 .int v11 (l1 + (1 : Int32)) (r4.1)).bind fun h12 => (gR h12 l0 12 2).bind fun v13 => (stI h12 .int v13 (l1 + (2 : Int32)) (r6.1)).bind fun h14 => some (h14)) else (some (r6.2)))
def f_X12_readSides (h : xH) (l0 : Nat) (l1 : Int32) : Option (xH) := (gO h l0 12).bind fun q1 => (f_X12_room h l0).bind fun r2 => (gO r2.2 l0 12).bind fun q3 => (f_X12_took r2.2 l0 (xS0 + 2 * 2)).bind fun r4 => (if r4.1 = 0 then ((gO r4.2 l0 12).bind fun q6 => (f_X12_blames r4.2 l0 (2 : Int32)).bind fun r7 => f_X12_readSides_19 r7 l0 l1 (r2.1)) else (f_X12_readSides_19 r4.2 l0 l1 (r2.1)))
set_option maxRecDepth 20000 in
theorem w_X12_readSides_19 (h : xH) (l0 : Nat) (l1 : Int32) (l2 : Int32) (r : xH) (hf : f_X12_readSides_19 h l0 l1 l2 = some r) : V 10 yX12_readSides cX12_readSides 5 none [] none 19 [(0, .ref l0), (1, .int l1), (2, .int l2)] [] h (oVh r) := by
  unfold f_X12_readSides_19 at hf
  refine V.aload_n dX12_readSides_19 rfl 0 rfl ?_
  refine V.iconst (v := (0 : Int32)) dX12_readSides_20 (by decide) ?_
  refine V.aload_n dX12_readSides_21 rfl 0 rfl ?_
  obtain ⟨v1, e1, hf⟩ := bS hf
  refine V.xgR dX12_readSides_22 fl_RX12_16 e1 ?_
  refine V.iconst (v := (1 : Int32)) dX12_readSides_25 (by decide) ?_
  obtain ⟨v2, e2, hf⟩ := bS hf
  refine V.xldI dX12_readSides_26 e2 ?_
  refine V.iconst (v := (1 : Int32)) dX12_readSides_27 (by decide) ?_
  refine V.isub dX12_readSides_28 ?_
  refine V.iload_n dX12_readSides_29 rfl 2 rfl ?_
  obtain ⟨q3, e3, hf⟩ := bS hf
  obtain ⟨r4, e4, hf⟩ := bS hf
  refine V.callV (As := [.int (0 : Int32), .int (v2 - (1 : Int32)), .int l2]) (st := []) dX12_readSides_30 cl_RX12_138 sw_yX12_numberBut (by decide) rfl (Nat.le_of_ble_eq_true rfl) rfl (gO_some e3) rfl (w_X12_numberBut _ _ _ _ _ _ e4) ?_
  refine V.istore_n (lv' := [(3, .int r4.1), (0, .ref l0), (1, .int l1), (2, .int l2)]) dX12_readSides_33 rfl (by decide) rfl ?_
  refine V.aload_n dX12_readSides_34 rfl 1 rfl ?_
  refine V.ldcS (i := 3) dX12_readSides_35 (by decide) ?_
  refine V.iconst (v := (1 : Int32)) dX12_readSides_37 (by decide) ?_
  refine V.bipush (v := (100 : Int32)) dX12_readSides_38 (by decide) ?_
  obtain ⟨q5, e5, hf⟩ := bS hf
  obtain ⟨r6, e6, hf⟩ := bS hf
  refine V.callV (As := [.ref (xS0 + 2 * 3), .int (1 : Int32), .int (100 : Int32)]) (st := []) dX12_readSides_40 cl_RX12_156 sw_yX12_told (by decide) rfl (Nat.le_of_ble_eq_true rfl) rfl (gO_some e5) rfl (w_X12_told _ _ _ _ _ _ e6) ?_
  refine V.istore (lv' := [(4, .int r6.1), (3, .int r4.1), (0, .ref l0), (1, .int l1), (2, .int l2)]) dX12_readSides_43 (by decide) rfl ?_
  refine V.aload_n dX12_readSides_45 rfl 2 rfl ?_
  obtain ⟨v7, e7, hf⟩ := bS hf
  refine V.xgI dX12_readSides_46 fl_RX12_107 e7 ?_
  refine V.if_eq (tgt := 53) dX12_readSides_49 (by decide) (fun c8 => ?_) (fun c8 => ?_)
  · rw [if_pos c8] at hf
    refine V.aload_n dX12_readSides_53 rfl 2 rfl ?_
    obtain ⟨v9, e8, hf⟩ := bS hf
    refine V.xgR dX12_readSides_54 fl_RX12_16 e8 ?_
    refine V.iload_n dX12_readSides_57 rfl 3 rfl ?_
    refine V.iload_n dX12_readSides_58 rfl 4 rfl ?_
    obtain ⟨h10, e9, hf⟩ := bS hf
    refine V.xstI dX12_readSides_59 e9 ?_
    refine V.aload_n dX12_readSides_60 rfl 2 rfl ?_
    obtain ⟨v11, e10, hf⟩ := bS hf
    refine V.xgR dX12_readSides_61 fl_RX12_16 e10 ?_
    refine V.iload_n dX12_readSides_64 rfl 3 rfl ?_
    refine V.iconst (v := (1 : Int32)) dX12_readSides_65 (by decide) ?_
    refine V.iadd dX12_readSides_66 ?_
    refine V.iload_n dX12_readSides_67 rfl 1 rfl ?_
    obtain ⟨h12, e11, hf⟩ := bS hf
    refine V.xstI dX12_readSides_68 e11 ?_
    refine V.aload_n dX12_readSides_69 rfl 2 rfl ?_
    obtain ⟨v13, e12, hf⟩ := bS hf
    refine V.xgR dX12_readSides_70 fl_RX12_16 e12 ?_
    refine V.iload_n dX12_readSides_73 rfl 3 rfl ?_
    refine V.iconst (v := (2 : Int32)) dX12_readSides_74 (by decide) ?_
    refine V.iadd dX12_readSides_75 ?_
    refine V.iload dX12_readSides_76 0 rfl ?_
    obtain ⟨h14, e13, hf⟩ := bS hf
    refine V.xstI dX12_readSides_78 e13 ?_
    obtain rfl := Option.some.inj hf
    exact V.vret dX12_readSides_79
  · rw [if_neg c8] at hf
    obtain rfl := Option.some.inj hf
    exact V.vret dX12_readSides_52

set_option maxRecDepth 20000 in
theorem w_X12_readSides (h : xH) (l0 : Nat) (l1 : Int32) (r : xH) (hf : f_X12_readSides h l0 l1 = some r) : Ev 10 yX12_readSides cX12_readSides 5 none [] [.ref l0, .int l1] h (oVh r) := by
  refine Ev.of (by decide +kernel) (Nat.le_of_ble_eq_true rfl) ?_
  unfold f_X12_readSides at hf
  refine V.aload_n dX12_readSides_0 rfl 0 rfl ?_
  obtain ⟨q1, e14, hf⟩ := bS hf
  obtain ⟨r2, e15, hf⟩ := bS hf
  refine V.callV (As := []) (st := []) dX12_readSides_1 cl_RX12_149 sw_yX12_room (by decide) rfl (Nat.le_of_ble_eq_true rfl) rfl (gO_some e14) rfl (w_X12_room _ _ _ e15) ?_
  refine V.istore_n (lv' := [(2, .int r2.1), (0, .ref l0), (1, .int l1)]) dX12_readSides_4 rfl (by decide) rfl ?_
  refine V.aload_n dX12_readSides_5 rfl 1 rfl ?_
  refine V.ldcS (i := 2) dX12_readSides_6 (by decide) ?_
  obtain ⟨q3, e16, hf⟩ := bS hf
  obtain ⟨r4, e17, hf⟩ := bS hf
  refine V.callV (As := [.ref (xS0 + 2 * 2)]) (st := []) dX12_readSides_8 cl_RX12_142 sw_yX12_took (by decide) rfl (Nat.le_of_ble_eq_true rfl) rfl (gO_some e16) rfl (w_X12_took _ _ _ _ e17) ?_
  refine V.if_ne (tgt := 19) dX12_readSides_11 (by decide) (fun c5 => ?_) (fun c5 => ?_)
  · rw [if_neg c5] at hf
    refine V.sub [1, 2, 0] rfl ?_
    exact w_X12_readSides_19 _ _ _ _ _ hf
  · rw [if_pos c5] at hf
    refine V.aload_n dX12_readSides_14 rfl 1 rfl ?_
    refine V.iconst (v := (2 : Int32)) dX12_readSides_15 (by decide) ?_
    obtain ⟨q6, e18, hf⟩ := bS hf
    obtain ⟨r7, e19, hf⟩ := bS hf
    refine V.callV (As := [.int (2 : Int32)]) (st := []) dX12_readSides_16 cl_RX12_130 sw_yX12_blames (by decide) rfl (Nat.le_of_ble_eq_true rfl) rfl (gO_some e18) rfl (w_X12_blames _ _ _ _ e19) ?_
    refine V.sub [1, 2, 0] rfl ?_
    exact w_X12_readSides_19 _ _ _ _ _ hf

def f_X12_readHole_81 (h : xH) (l0 : Nat) (s0 : Int32) (s1 : Int32) (s2 : Nat) : Option (xH) := (stI h .int s2 s1 s0).bind fun h1 => (gI h1 l0 12 12).bind fun v2 => (if v2 = 0 then ((gR h1 l0 12 2).bind fun v4 => (ldI h1 .int v4 (5 : Int32)).bind fun v5 => (stI h1 .int v4 (5 : Int32) (v5 + (1 : Int32))).bind fun h6 => some (h6)) else (some (h1)))
def f_X12_readHole (h : xH) (l0 : Nat) : Option (xH) := (gO h l0 12).bind fun q1 => (f_X12_begins_ h l0 (5 : Int32) (8 : Int32)).bind fun r2 => (gI r2 l0 12 12).bind fun v3 => (if v3 = 0 then ((gR r2 l0 12 2).bind fun v5 => (ldI r2 .int v5 (5 : Int32)).bind fun v6 => (gO r2 l0 12).bind fun q7 => (f_X12_readSides r2 l0 ((376 : Int32) + ((5 : Int32) * v6))).bind fun r8 => (gO r8 l0 12).bind fun q9 => (f_X12_told r8 l0 (xS0 + 2 * 13) (0 : Int32) (99 : Int32)).bind fun r10 => (gI r10.2 l0 12 12).bind fun v11 => (if v11 = 0 then ((gR r10.2 l0 12 2).bind fun v13 => (stI r10.2 .int v13 (((376 : Int32) + ((5 : Int32) * v6)) + (3 : Int32)) (r10.1)).bind fun h14 => (gR h14 l0 12 2).bind fun v15 => (gO h14 l0 12).bind fun q16 => (f_X12_took h14 l0 (xS0 + 2 * 4)).bind fun r17 => (if r17.1 = 0 then (f_X12_readHole_81 r17.2 l0 (0 : Int32) (((376 : Int32) + ((5 : Int32) * v6)) + (4 : Int32)) v15) else (f_X12_readHole_81 r17.2 l0 (1 : Int32) (((376 : Int32) + ((5 : Int32) * v6)) + (4 : Int32)) v15))) else (some (r10.2)))) else (some (r2)))
set_option maxRecDepth 20000 in
theorem w_X12_readHole_81 (h : xH) (l0 : Nat) (s0 : Int32) (s1 : Int32) (s2 : Nat) (r : xH) (hf : f_X12_readHole_81 h l0 s0 s1 s2 = some r) : V 11 yX12_readHole cX12_readHole 3 none [] none 81 [(0, .ref l0)] [.int s0, .int s1, .ref s2] h (oVh r) := by
  unfold f_X12_readHole_81 at hf
  obtain ⟨h1, e1, hf⟩ := bS hf
  refine V.xstI dX12_readHole_81 e1 ?_
  refine V.aload_n dX12_readHole_82 rfl 0 rfl ?_
  obtain ⟨v2, e2, hf⟩ := bS hf
  refine V.xgI dX12_readHole_83 fl_RX12_107 e2 ?_
  refine V.if_ne (tgt := 99) dX12_readHole_86 (by decide) (fun c3 => ?_) (fun c3 => ?_)
  · rw [if_neg c3] at hf
    obtain rfl := Option.some.inj hf
    exact V.vret dX12_readHole_99
  · rw [if_pos c3] at hf
    refine V.aload_n dX12_readHole_89 rfl 0 rfl ?_
    obtain ⟨v4, e3, hf⟩ := bS hf
    refine V.xgR dX12_readHole_90 fl_RX12_16 e3 ?_
    refine V.iconst (v := (5 : Int32)) dX12_readHole_93 (by decide) ?_
    refine V.dup2 dX12_readHole_94 rfl rfl ?_
    obtain ⟨v5, e4, hf⟩ := bS hf
    refine V.xldI dX12_readHole_95 e4 ?_
    refine V.iconst (v := (1 : Int32)) dX12_readHole_96 (by decide) ?_
    refine V.iadd dX12_readHole_97 ?_
    obtain ⟨h6, e5, hf⟩ := bS hf
    refine V.xstI dX12_readHole_98 e5 ?_
    obtain rfl := Option.some.inj hf
    exact V.vret dX12_readHole_99

set_option maxRecDepth 20000 in
theorem w_X12_readHole (h : xH) (l0 : Nat) (r : xH) (hf : f_X12_readHole h l0 = some r) : Ev 11 yX12_readHole cX12_readHole 3 none [] [.ref l0] h (oVh r) := by
  refine Ev.of (by decide +kernel) (Nat.le_of_ble_eq_true rfl) ?_
  unfold f_X12_readHole at hf
  refine V.aload_n dX12_readHole_0 rfl 0 rfl ?_
  refine V.iconst (v := (5 : Int32)) dX12_readHole_1 (by decide) ?_
  refine V.bipush (v := (8 : Int32)) dX12_readHole_2 (by decide) ?_
  obtain ⟨q1, e6, hf⟩ := bS hf
  obtain ⟨r2, e7, hf⟩ := bS hf
  refine V.callV (As := [.int (5 : Int32), .int (8 : Int32)]) (st := []) dX12_readHole_4 cl_RX12_159 sw_yX12_begins_ (by decide) rfl (Nat.le_of_ble_eq_true rfl) rfl (gO_some e6) rfl (w_X12_begins_ _ _ _ _ _ e7) ?_
  refine V.aload_n dX12_readHole_7 rfl 0 rfl ?_
  obtain ⟨v3, e8, hf⟩ := bS hf
  refine V.xgI dX12_readHole_8 fl_RX12_107 e8 ?_
  refine V.if_eq (tgt := 15) dX12_readHole_11 (by decide) (fun c4 => ?_) (fun c4 => ?_)
  · rw [if_pos c4] at hf
    refine V.sipush (v := (376 : Int32)) dX12_readHole_15 (by decide) ?_
    refine V.iconst (v := (5 : Int32)) dX12_readHole_18 (by decide) ?_
    refine V.aload_n dX12_readHole_19 rfl 0 rfl ?_
    obtain ⟨v5, e9, hf⟩ := bS hf
    refine V.xgR dX12_readHole_20 fl_RX12_16 e9 ?_
    refine V.iconst (v := (5 : Int32)) dX12_readHole_23 (by decide) ?_
    obtain ⟨v6, e10, hf⟩ := bS hf
    refine V.xldI dX12_readHole_24 e10 ?_
    refine V.imul dX12_readHole_25 ?_
    refine V.iadd dX12_readHole_26 ?_
    refine V.istore_n (lv' := [(1, .int ((376 : Int32) + ((5 : Int32) * v6))), (0, .ref l0)]) dX12_readHole_27 rfl (by decide) rfl ?_
    refine V.aload_n dX12_readHole_28 rfl 1 rfl ?_
    refine V.iload_n dX12_readHole_29 rfl 0 rfl ?_
    obtain ⟨q7, e11, hf⟩ := bS hf
    obtain ⟨r8, e12, hf⟩ := bS hf
    refine V.callV (As := [.int ((376 : Int32) + ((5 : Int32) * v6))]) (st := []) dX12_readHole_30 cl_RX12_162 sw_yX12_readSides (by decide) rfl (Nat.le_of_ble_eq_true rfl) rfl (gO_some e11) rfl (w_X12_readSides _ _ _ _ e12) ?_
    refine V.aload_n dX12_readHole_33 rfl 1 rfl ?_
    refine V.ldcS (i := 13) dX12_readHole_34 (by decide) ?_
    refine V.iconst (v := (0 : Int32)) dX12_readHole_36 (by decide) ?_
    refine V.bipush (v := (99 : Int32)) dX12_readHole_37 (by decide) ?_
    obtain ⟨q9, e13, hf⟩ := bS hf
    obtain ⟨r10, e14, hf⟩ := bS hf
    refine V.callV (As := [.ref (xS0 + 2 * 13), .int (0 : Int32), .int (99 : Int32)]) (st := []) dX12_readHole_39 cl_RX12_156 sw_yX12_told (by decide) rfl (Nat.le_of_ble_eq_true rfl) rfl (gO_some e13) rfl (w_X12_told _ _ _ _ _ _ e14) ?_
    refine V.istore_n (lv' := [(2, .int r10.1), (1, .int ((376 : Int32) + ((5 : Int32) * v6))), (0, .ref l0)]) dX12_readHole_42 rfl (by decide) rfl ?_
    refine V.aload_n dX12_readHole_43 rfl 2 rfl ?_
    obtain ⟨v11, e15, hf⟩ := bS hf
    refine V.xgI dX12_readHole_44 fl_RX12_107 e15 ?_
    refine V.if_eq (tgt := 51) dX12_readHole_47 (by decide) (fun c12 => ?_) (fun c12 => ?_)
    · rw [if_pos c12] at hf
      refine V.aload_n dX12_readHole_51 rfl 2 rfl ?_
      obtain ⟨v13, e16, hf⟩ := bS hf
      refine V.xgR dX12_readHole_52 fl_RX12_16 e16 ?_
      refine V.iload_n dX12_readHole_55 rfl 1 rfl ?_
      refine V.iconst (v := (3 : Int32)) dX12_readHole_56 (by decide) ?_
      refine V.iadd dX12_readHole_57 ?_
      refine V.iload_n dX12_readHole_58 rfl 0 rfl ?_
      obtain ⟨h14, e17, hf⟩ := bS hf
      refine V.xstI dX12_readHole_59 e17 ?_
      refine V.aload_n dX12_readHole_60 rfl 2 rfl ?_
      obtain ⟨v15, e18, hf⟩ := bS hf
      refine V.xgR dX12_readHole_61 fl_RX12_16 e18 ?_
      refine V.iload_n dX12_readHole_64 rfl 1 rfl ?_
      refine V.iconst (v := (4 : Int32)) dX12_readHole_65 (by decide) ?_
      refine V.iadd dX12_readHole_66 ?_
      refine V.aload_n dX12_readHole_67 rfl 2 rfl ?_
      refine V.ldcS (i := 4) dX12_readHole_68 (by decide) ?_
      obtain ⟨q16, e19, hf⟩ := bS hf
      obtain ⟨r17, e20, hf⟩ := bS hf
      refine V.callV (As := [.ref (xS0 + 2 * 4)]) (st := [.int (((376 : Int32) + ((5 : Int32) * v6)) + (4 : Int32)), .ref v15]) dX12_readHole_70 cl_RX12_142 sw_yX12_took (by decide) rfl (Nat.le_of_ble_eq_true rfl) rfl (gO_some e19) rfl (w_X12_took _ _ _ _ e20) ?_
      refine V.if_eq (tgt := 80) dX12_readHole_73 (by decide) (fun c18 => ?_) (fun c18 => ?_)
      · rw [if_pos c18] at hf
        refine V.iconst (v := (0 : Int32)) dX12_readHole_80 (by decide) ?_
        refine V.sub [2] rfl ?_
        exact w_X12_readHole_81 _ _ _ _ _ _ hf
      · rw [if_neg c18] at hf
        refine V.iconst (v := (1 : Int32)) dX12_readHole_76 (by decide) ?_
        refine V.goto (tgt := 81) dX12_readHole_77 (by decide) ?_
        refine V.sub [2] rfl ?_
        exact w_X12_readHole_81 _ _ _ _ _ _ hf
    · rw [if_neg c12] at hf
      obtain rfl := Option.some.inj hf
      exact V.vret dX12_readHole_50
  · rw [if_neg c4] at hf
    obtain rfl := Option.some.inj hf
    exact V.vret dX12_readHole_14

def f_X12_readLamp (h : xH) (l0 : Nat) : Option (xH) := (gO h l0 12).bind fun q1 => (f_X12_begins_ h l0 (3 : Int32) (4 : Int32)).bind fun r2 => (gI r2 l0 12 12).bind fun v3 => (if v3 = 0 then ((gO r2 l0 12).bind fun q5 => (f_X12_told r2 l0 (xS0 + 2 * 6) (1 : Int32) (999 : Int32)).bind fun r6 => (gO r6.2 l0 12).bind fun q7 => (f_X12_told r6.2 l0 (xS0 + 2 * 7) (0 : Int32) (99 : Int32)).bind fun r8 => (gI r8.2 l0 12 12).bind fun v9 => (if v9 = 0 then ((gR r8.2 l0 12 2).bind fun v11 => (gR r8.2 l0 12 2).bind fun v12 => (ldI r8.2 .int v12 (3 : Int32)).bind fun v13 => (stI r8.2 .int v11 ((248 : Int32) + ((2 : Int32) * v13)) (r6.1)).bind fun h14 => (gR h14 l0 12 2).bind fun v15 => (gR h14 l0 12 2).bind fun v16 => (ldI h14 .int v16 (3 : Int32)).bind fun v17 => (stI h14 .int v15 (((248 : Int32) + ((2 : Int32) * v17)) + (1 : Int32)) (r8.1)).bind fun h18 => (gR h18 l0 12 2).bind fun v19 => (ldI h18 .int v19 (3 : Int32)).bind fun v20 => (stI h18 .int v19 (3 : Int32) (v20 + (1 : Int32))).bind fun h21 => some (h21)) else (some (r8.2)))) else (some (r2)))
set_option maxRecDepth 20000 in
theorem w_X12_readLamp (h : xH) (l0 : Nat) (r : xH) (hf : f_X12_readLamp h l0 = some r) : Ev 10 yX12_readLamp cX12_readLamp 3 none [] [.ref l0] h (oVh r) := by
  refine Ev.of (by decide +kernel) (Nat.le_of_ble_eq_true rfl) ?_
  unfold f_X12_readLamp at hf
  refine V.aload_n dX12_readLamp_0 rfl 0 rfl ?_
  refine V.iconst (v := (3 : Int32)) dX12_readLamp_1 (by decide) ?_
  refine V.iconst (v := (4 : Int32)) dX12_readLamp_2 (by decide) ?_
  obtain ⟨q1, e1, hf⟩ := bS hf
  obtain ⟨r2, e2, hf⟩ := bS hf
  refine V.callV (As := [.int (3 : Int32), .int (4 : Int32)]) (st := []) dX12_readLamp_3 cl_RX12_159 sw_yX12_begins_ (by decide) rfl (Nat.le_of_ble_eq_true rfl) rfl (gO_some e1) rfl (w_X12_begins_ _ _ _ _ _ e2) ?_
  refine V.aload_n dX12_readLamp_6 rfl 0 rfl ?_
  obtain ⟨v3, e3, hf⟩ := bS hf
  refine V.xgI dX12_readLamp_7 fl_RX12_107 e3 ?_
  refine V.if_eq (tgt := 14) dX12_readLamp_10 (by decide) (fun c4 => ?_) (fun c4 => ?_)
  · rw [if_pos c4] at hf
    refine V.aload_n dX12_readLamp_14 rfl 0 rfl ?_
    refine V.ldcS (i := 6) dX12_readLamp_15 (by decide) ?_
    refine V.iconst (v := (1 : Int32)) dX12_readLamp_17 (by decide) ?_
    refine V.sipush (v := (999 : Int32)) dX12_readLamp_18 (by decide) ?_
    obtain ⟨q5, e4, hf⟩ := bS hf
    obtain ⟨r6, e5, hf⟩ := bS hf
    refine V.callV (As := [.ref (xS0 + 2 * 6), .int (1 : Int32), .int (999 : Int32)]) (st := []) dX12_readLamp_21 cl_RX12_156 sw_yX12_told (by decide) rfl (Nat.le_of_ble_eq_true rfl) rfl (gO_some e4) rfl (w_X12_told _ _ _ _ _ _ e5) ?_
    refine V.istore_n (lv' := [(1, .int r6.1), (0, .ref l0)]) dX12_readLamp_24 rfl (by decide) rfl ?_
    refine V.aload_n dX12_readLamp_25 rfl 1 rfl ?_
    refine V.ldcS (i := 7) dX12_readLamp_26 (by decide) ?_
    refine V.iconst (v := (0 : Int32)) dX12_readLamp_28 (by decide) ?_
    refine V.bipush (v := (99 : Int32)) dX12_readLamp_29 (by decide) ?_
    obtain ⟨q7, e6, hf⟩ := bS hf
    obtain ⟨r8, e7, hf⟩ := bS hf
    refine V.callV (As := [.ref (xS0 + 2 * 7), .int (0 : Int32), .int (99 : Int32)]) (st := []) dX12_readLamp_31 cl_RX12_156 sw_yX12_told (by decide) rfl (Nat.le_of_ble_eq_true rfl) rfl (gO_some e6) rfl (w_X12_told _ _ _ _ _ _ e7) ?_
    refine V.istore_n (lv' := [(2, .int r8.1), (1, .int r6.1), (0, .ref l0)]) dX12_readLamp_34 rfl (by decide) rfl ?_
    refine V.aload_n dX12_readLamp_35 rfl 2 rfl ?_
    obtain ⟨v9, e8, hf⟩ := bS hf
    refine V.xgI dX12_readLamp_36 fl_RX12_107 e8 ?_
    refine V.if_eq (tgt := 43) dX12_readLamp_39 (by decide) (fun c10 => ?_) (fun c10 => ?_)
    · rw [if_pos c10] at hf
      refine V.aload_n dX12_readLamp_43 rfl 2 rfl ?_
      obtain ⟨v11, e9, hf⟩ := bS hf
      refine V.xgR dX12_readLamp_44 fl_RX12_16 e9 ?_
      refine V.sipush (v := (248 : Int32)) dX12_readLamp_47 (by decide) ?_
      refine V.iconst (v := (2 : Int32)) dX12_readLamp_50 (by decide) ?_
      refine V.aload_n dX12_readLamp_51 rfl 2 rfl ?_
      obtain ⟨v12, e10, hf⟩ := bS hf
      refine V.xgR dX12_readLamp_52 fl_RX12_16 e10 ?_
      refine V.iconst (v := (3 : Int32)) dX12_readLamp_55 (by decide) ?_
      obtain ⟨v13, e11, hf⟩ := bS hf
      refine V.xldI dX12_readLamp_56 e11 ?_
      refine V.imul dX12_readLamp_57 ?_
      refine V.iadd dX12_readLamp_58 ?_
      refine V.iload_n dX12_readLamp_59 rfl 1 rfl ?_
      obtain ⟨h14, e12, hf⟩ := bS hf
      refine V.xstI dX12_readLamp_60 e12 ?_
      refine V.aload_n dX12_readLamp_61 rfl 2 rfl ?_
      obtain ⟨v15, e13, hf⟩ := bS hf
      refine V.xgR dX12_readLamp_62 fl_RX12_16 e13 ?_
      refine V.sipush (v := (248 : Int32)) dX12_readLamp_65 (by decide) ?_
      refine V.iconst (v := (2 : Int32)) dX12_readLamp_68 (by decide) ?_
      refine V.aload_n dX12_readLamp_69 rfl 2 rfl ?_
      obtain ⟨v16, e14, hf⟩ := bS hf
      refine V.xgR dX12_readLamp_70 fl_RX12_16 e14 ?_
      refine V.iconst (v := (3 : Int32)) dX12_readLamp_73 (by decide) ?_
      obtain ⟨v17, e15, hf⟩ := bS hf
      refine V.xldI dX12_readLamp_74 e15 ?_
      refine V.imul dX12_readLamp_75 ?_
      refine V.iadd dX12_readLamp_76 ?_
      refine V.iconst (v := (1 : Int32)) dX12_readLamp_77 (by decide) ?_
      refine V.iadd dX12_readLamp_78 ?_
      refine V.iload_n dX12_readLamp_79 rfl 0 rfl ?_
      obtain ⟨h18, e16, hf⟩ := bS hf
      refine V.xstI dX12_readLamp_80 e16 ?_
      refine V.aload_n dX12_readLamp_81 rfl 2 rfl ?_
      obtain ⟨v19, e17, hf⟩ := bS hf
      refine V.xgR dX12_readLamp_82 fl_RX12_16 e17 ?_
      refine V.iconst (v := (3 : Int32)) dX12_readLamp_85 (by decide) ?_
      refine V.dup2 dX12_readLamp_86 rfl rfl ?_
      obtain ⟨v20, e18, hf⟩ := bS hf
      refine V.xldI dX12_readLamp_87 e18 ?_
      refine V.iconst (v := (1 : Int32)) dX12_readLamp_88 (by decide) ?_
      refine V.iadd dX12_readLamp_89 ?_
      obtain ⟨h21, e19, hf⟩ := bS hf
      refine V.xstI dX12_readLamp_90 e19 ?_
      obtain rfl := Option.some.inj hf
      exact V.vret dX12_readLamp_91
    · rw [if_neg c10] at hf
      obtain rfl := Option.some.inj hf
      exact V.vret dX12_readLamp_42
  · rw [if_neg c4] at hf
    obtain rfl := Option.some.inj hf
    exact V.vret dX12_readLamp_13

def f_X12_readPane_53 (h : xH) (l0 : Nat) (s0 : Int32) (s1 : Int32) (s2 : Nat) : Option (xH) := (stI h .int s2 s1 s0).bind fun h1 => (gI h1 l0 12 12).bind fun v2 => (if v2 = 0 then ((gR h1 l0 12 2).bind fun v4 => (ldI h1 .int v4 (2 : Int32)).bind fun v5 => (stI h1 .int v4 (2 : Int32) (v5 + (1 : Int32))).bind fun h6 => some (h6)) else (some (h1)))
def f_X12_readPane (h : xH) (l0 : Nat) : Option (xH) := (gO h l0 12).bind fun q1 => (f_X12_begins_ h l0 (2 : Int32) (60 : Int32)).bind fun r2 => (gI r2 l0 12 12).bind fun v3 => (if v3 = 0 then ((gR r2 l0 12 2).bind fun v5 => (ldI r2 .int v5 (2 : Int32)).bind fun v6 => (gO r2 l0 12).bind fun q7 => (f_X12_readSides r2 l0 ((8 : Int32) + ((4 : Int32) * v6))).bind fun r8 => (gR r8 l0 12 2).bind fun v9 => (gO r8 l0 12).bind fun q10 => (f_X12_took r8 l0 (xS0 + 2 * 4)).bind fun r11 => (if r11.1 = 0 then (f_X12_readPane_53 r11.2 l0 (0 : Int32) (((8 : Int32) + ((4 : Int32) * v6)) + (3 : Int32)) v9) else (f_X12_readPane_53 r11.2 l0 (1 : Int32) (((8 : Int32) + ((4 : Int32) * v6)) + (3 : Int32)) v9))) else (some (r2)))
set_option maxRecDepth 20000 in
theorem w_X12_readPane_53 (h : xH) (l0 : Nat) (s0 : Int32) (s1 : Int32) (s2 : Nat) (r : xH) (hf : f_X12_readPane_53 h l0 s0 s1 s2 = some r) : V 11 yX12_readPane cX12_readPane 2 none [] none 53 [(0, .ref l0)] [.int s0, .int s1, .ref s2] h (oVh r) := by
  unfold f_X12_readPane_53 at hf
  obtain ⟨h1, e1, hf⟩ := bS hf
  refine V.xstI dX12_readPane_53 e1 ?_
  refine V.aload_n dX12_readPane_54 rfl 0 rfl ?_
  obtain ⟨v2, e2, hf⟩ := bS hf
  refine V.xgI dX12_readPane_55 fl_RX12_107 e2 ?_
  refine V.if_ne (tgt := 71) dX12_readPane_58 (by decide) (fun c3 => ?_) (fun c3 => ?_)
  · rw [if_neg c3] at hf
    obtain rfl := Option.some.inj hf
    exact V.vret dX12_readPane_71
  · rw [if_pos c3] at hf
    refine V.aload_n dX12_readPane_61 rfl 0 rfl ?_
    obtain ⟨v4, e3, hf⟩ := bS hf
    refine V.xgR dX12_readPane_62 fl_RX12_16 e3 ?_
    refine V.iconst (v := (2 : Int32)) dX12_readPane_65 (by decide) ?_
    refine V.dup2 dX12_readPane_66 rfl rfl ?_
    obtain ⟨v5, e4, hf⟩ := bS hf
    refine V.xldI dX12_readPane_67 e4 ?_
    refine V.iconst (v := (1 : Int32)) dX12_readPane_68 (by decide) ?_
    refine V.iadd dX12_readPane_69 ?_
    obtain ⟨h6, e5, hf⟩ := bS hf
    refine V.xstI dX12_readPane_70 e5 ?_
    obtain rfl := Option.some.inj hf
    exact V.vret dX12_readPane_71

set_option maxRecDepth 20000 in
theorem w_X12_readPane (h : xH) (l0 : Nat) (r : xH) (hf : f_X12_readPane h l0 = some r) : Ev 11 yX12_readPane cX12_readPane 2 none [] [.ref l0] h (oVh r) := by
  refine Ev.of (by decide +kernel) (Nat.le_of_ble_eq_true rfl) ?_
  unfold f_X12_readPane at hf
  refine V.aload_n dX12_readPane_0 rfl 0 rfl ?_
  refine V.iconst (v := (2 : Int32)) dX12_readPane_1 (by decide) ?_
  refine V.bipush (v := (60 : Int32)) dX12_readPane_2 (by decide) ?_
  obtain ⟨q1, e6, hf⟩ := bS hf
  obtain ⟨r2, e7, hf⟩ := bS hf
  refine V.callV (As := [.int (2 : Int32), .int (60 : Int32)]) (st := []) dX12_readPane_4 cl_RX12_159 sw_yX12_begins_ (by decide) rfl (Nat.le_of_ble_eq_true rfl) rfl (gO_some e6) rfl (w_X12_begins_ _ _ _ _ _ e7) ?_
  refine V.aload_n dX12_readPane_7 rfl 0 rfl ?_
  obtain ⟨v3, e8, hf⟩ := bS hf
  refine V.xgI dX12_readPane_8 fl_RX12_107 e8 ?_
  refine V.if_eq (tgt := 15) dX12_readPane_11 (by decide) (fun c4 => ?_) (fun c4 => ?_)
  · rw [if_pos c4] at hf
    refine V.bipush (v := (8 : Int32)) dX12_readPane_15 (by decide) ?_
    refine V.iconst (v := (4 : Int32)) dX12_readPane_17 (by decide) ?_
    refine V.aload_n dX12_readPane_18 rfl 0 rfl ?_
    obtain ⟨v5, e9, hf⟩ := bS hf
    refine V.xgR dX12_readPane_19 fl_RX12_16 e9 ?_
    refine V.iconst (v := (2 : Int32)) dX12_readPane_22 (by decide) ?_
    obtain ⟨v6, e10, hf⟩ := bS hf
    refine V.xldI dX12_readPane_23 e10 ?_
    refine V.imul dX12_readPane_24 ?_
    refine V.iadd dX12_readPane_25 ?_
    refine V.istore_n (lv' := [(1, .int ((8 : Int32) + ((4 : Int32) * v6))), (0, .ref l0)]) dX12_readPane_26 rfl (by decide) rfl ?_
    refine V.aload_n dX12_readPane_27 rfl 1 rfl ?_
    refine V.iload_n dX12_readPane_28 rfl 0 rfl ?_
    obtain ⟨q7, e11, hf⟩ := bS hf
    obtain ⟨r8, e12, hf⟩ := bS hf
    refine V.callV (As := [.int ((8 : Int32) + ((4 : Int32) * v6))]) (st := []) dX12_readPane_29 cl_RX12_162 sw_yX12_readSides (by decide) rfl (Nat.le_of_ble_eq_true rfl) rfl (gO_some e11) rfl (w_X12_readSides _ _ _ _ e12) ?_
    refine V.aload_n dX12_readPane_32 rfl 1 rfl ?_
    obtain ⟨v9, e13, hf⟩ := bS hf
    refine V.xgR dX12_readPane_33 fl_RX12_16 e13 ?_
    refine V.iload_n dX12_readPane_36 rfl 0 rfl ?_
    refine V.iconst (v := (3 : Int32)) dX12_readPane_37 (by decide) ?_
    refine V.iadd dX12_readPane_38 ?_
    refine V.aload_n dX12_readPane_39 rfl 1 rfl ?_
    refine V.ldcS (i := 4) dX12_readPane_40 (by decide) ?_
    obtain ⟨q10, e14, hf⟩ := bS hf
    obtain ⟨r11, e15, hf⟩ := bS hf
    refine V.callV (As := [.ref (xS0 + 2 * 4)]) (st := [.int (((8 : Int32) + ((4 : Int32) * v6)) + (3 : Int32)), .ref v9]) dX12_readPane_42 cl_RX12_142 sw_yX12_took (by decide) rfl (Nat.le_of_ble_eq_true rfl) rfl (gO_some e14) rfl (w_X12_took _ _ _ _ e15) ?_
    refine V.if_eq (tgt := 52) dX12_readPane_45 (by decide) (fun c12 => ?_) (fun c12 => ?_)
    · rw [if_pos c12] at hf
      refine V.iconst (v := (0 : Int32)) dX12_readPane_52 (by decide) ?_
      refine V.sub [1] rfl ?_
      exact w_X12_readPane_53 _ _ _ _ _ _ hf
    · rw [if_neg c12] at hf
      refine V.iconst (v := (1 : Int32)) dX12_readPane_48 (by decide) ?_
      refine V.goto (tgt := 53) dX12_readPane_49 (by decide) ?_
      refine V.sub [1] rfl ?_
      exact w_X12_readPane_53 _ _ _ _ _ _ hf
  · rw [if_neg c4] at hf
    obtain rfl := Option.some.inj hf
    exact V.vret dX12_readPane_14

def f_X12_readRooms_25 (h : xH) (l0 : Nat) : Option (xH) := (gO h l0 12).bind fun q1 => (f_X12_number h l0 (1 : Int32) (16 : Int32)).bind fun r2 => (gI r2.2 l0 12 12).bind fun v3 => (if v3 = 0 then ((gR r2.2 l0 12 2).bind fun v5 => (stI r2.2 .int v5 (1 : Int32) (r2.1)).bind fun h6 => some (h6)) else (some (r2.2)))
def f_X12_readRooms_14 (h : xH) (l0 : Nat) : Option (xH) := (gI h l0 12 12).bind fun v1 => (if v1 = 0 then ((gO h l0 12).bind fun q3 => (f_X12_reads h l0).bind fun r4 => f_X12_readRooms_25 r4 l0) else (f_X12_readRooms_25 h l0))
def f_X12_readRooms (h : xH) (l0 : Nat) : Option (xH) := (gR h l0 12 2).bind fun v1 => (ldI h .int v1 (1 : Int32)).bind fun v2 => (if v2 ≤ 0 then (f_X12_readRooms_14 h l0) else ((gO h l0 12).bind fun q4 => (f_X12_blames h l0 (4 : Int32)).bind fun r5 => f_X12_readRooms_14 r5 l0))
set_option maxRecDepth 20000 in
theorem w_X12_readRooms_25 (h : xH) (l0 : Nat) (r : xH) (hf : f_X12_readRooms_25 h l0 = some r) : V 7 yX12_readRooms cX12_readRooms 2 none [] none 25 [(0, .ref l0)] [] h (oVh r) := by
  unfold f_X12_readRooms_25 at hf
  refine V.aload_n dX12_readRooms_25 rfl 0 rfl ?_
  refine V.iconst (v := (1 : Int32)) dX12_readRooms_26 (by decide) ?_
  refine V.bipush (v := (16 : Int32)) dX12_readRooms_27 (by decide) ?_
  obtain ⟨q1, e1, hf⟩ := bS hf
  obtain ⟨r2, e2, hf⟩ := bS hf
  refine V.callV (As := [.int (1 : Int32), .int (16 : Int32)]) (st := []) dX12_readRooms_29 cl_RX12_145 sw_yX12_number (by decide) rfl (Nat.le_of_ble_eq_true rfl) rfl (gO_some e1) rfl (w_X12_number _ _ _ _ _ e2) ?_
  refine V.istore_n (lv' := [(1, .int r2.1), (0, .ref l0)]) dX12_readRooms_32 rfl (by decide) rfl ?_
  refine V.aload_n dX12_readRooms_33 rfl 1 rfl ?_
  obtain ⟨v3, e3, hf⟩ := bS hf
  refine V.xgI dX12_readRooms_34 fl_RX12_107 e3 ?_
  refine V.if_ne (tgt := 47) dX12_readRooms_37 (by decide) (fun c4 => ?_) (fun c4 => ?_)
  · rw [if_neg c4] at hf
    obtain rfl := Option.some.inj hf
    exact V.vret dX12_readRooms_47
  · rw [if_pos c4] at hf
    refine V.aload_n dX12_readRooms_40 rfl 1 rfl ?_
    obtain ⟨v5, e4, hf⟩ := bS hf
    refine V.xgR dX12_readRooms_41 fl_RX12_16 e4 ?_
    refine V.iconst (v := (1 : Int32)) dX12_readRooms_44 (by decide) ?_
    refine V.iload_n dX12_readRooms_45 rfl 0 rfl ?_
    obtain ⟨h6, e5, hf⟩ := bS hf
    refine V.xstI dX12_readRooms_46 e5 ?_
    obtain rfl := Option.some.inj hf
    exact V.vret dX12_readRooms_47

set_option maxRecDepth 20000 in
theorem w_X12_readRooms_14 (h : xH) (l0 : Nat) (r : xH) (hf : f_X12_readRooms_14 h l0 = some r) : V 7 yX12_readRooms cX12_readRooms 2 none [] none 14 [(0, .ref l0)] [] h (oVh r) := by
  unfold f_X12_readRooms_14 at hf
  refine V.aload_n dX12_readRooms_14 rfl 0 rfl ?_
  obtain ⟨v1, e6, hf⟩ := bS hf
  refine V.xgI dX12_readRooms_15 fl_RX12_107 e6 ?_
  refine V.if_ne (tgt := 25) dX12_readRooms_18 (by decide) (fun c2 => ?_) (fun c2 => ?_)
  · rw [if_neg c2] at hf
    exact w_X12_readRooms_25 _ _ _ hf
  · rw [if_pos c2] at hf
    refine V.aload_n dX12_readRooms_21 rfl 0 rfl ?_
    obtain ⟨q3, e7, hf⟩ := bS hf
    obtain ⟨r4, e8, hf⟩ := bS hf
    refine V.callV (As := []) (st := []) dX12_readRooms_22 cl_RX12_127 sw_yX12_reads (by decide) rfl (Nat.le_of_ble_eq_true rfl) rfl (gO_some e7) rfl (w_X12_reads _ _ _ e8) ?_
    exact w_X12_readRooms_25 _ _ _ hf

set_option maxRecDepth 20000 in
theorem w_X12_readRooms (h : xH) (l0 : Nat) (r : xH) (hf : f_X12_readRooms h l0 = some r) : Ev 7 yX12_readRooms cX12_readRooms 2 none [] [.ref l0] h (oVh r) := by
  refine Ev.of (by decide +kernel) (Nat.le_of_ble_eq_true rfl) ?_
  unfold f_X12_readRooms at hf
  refine V.aload_n dX12_readRooms_0 rfl 0 rfl ?_
  obtain ⟨v1, e9, hf⟩ := bS hf
  refine V.xgR dX12_readRooms_1 fl_RX12_16 e9 ?_
  refine V.iconst (v := (1 : Int32)) dX12_readRooms_4 (by decide) ?_
  obtain ⟨v2, e10, hf⟩ := bS hf
  refine V.xldI dX12_readRooms_5 e10 ?_
  refine V.if_le (tgt := 14) dX12_readRooms_6 (by decide) (fun c3 => ?_) (fun c3 => ?_)
  · rw [if_pos c3] at hf
    exact w_X12_readRooms_14 _ _ _ hf
  · rw [if_neg c3] at hf
    refine V.aload_n dX12_readRooms_9 rfl 0 rfl ?_
    refine V.iconst (v := (4 : Int32)) dX12_readRooms_10 (by decide) ?_
    obtain ⟨q4, e11, hf⟩ := bS hf
    obtain ⟨r5, e12, hf⟩ := bS hf
    refine V.callV (As := [.int (4 : Int32)]) (st := []) dX12_readRooms_11 cl_RX12_130 sw_yX12_blames (by decide) rfl (Nat.le_of_ble_eq_true rfl) rfl (gO_some e11) rfl (w_X12_blames _ _ _ _ e12) ?_
    exact w_X12_readRooms_14 _ _ _ hf

