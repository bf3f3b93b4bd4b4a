def f_X7_init (h : xH) (l0 : Nat) (l1 : Nat) (l2 : Int32) : Option (xH) := (pF h l0 7 0 (.int (0 : Int32))).bind fun h1 => (pF h1 l0 7 1 (.int (-1 : Int32))).bind fun h2 => (pF h2 l0 7 4 (.int (0 : Int32))).bind fun h3 => (pF h3 l0 7 5 (.int (0 : Int32))).bind fun h4 => (pF h4 l0 7 6 (.int (0 : Int32))).bind fun h5 => (pF h5 l0 7 7 (.int (0 : Int32))).bind fun h6 => (mkO h6 3 16 [.int 0, .int 0, .int 0, .int 0, .int 0, .int 0, .int 0, .null, .null, .null, .null, .null, .null, .null, .null, .null]).bind fun h7 => (f_X3_init h7 (h6.1.length)).bind fun r8 => (pF r8 l0 7 8 (.ref (h6.1.length))).bind fun h9 => (mkI h9 .int (5 : Int32)).bind fun h10 => (pF h10 l0 7 9 (.ref (h9.1.length))).bind fun h11 => (pF h11 l0 7 10 (.int (0 : Int32))).bind fun h12 => (pF h12 l0 7 2 (.ref l1)).bind fun h13 => (aln h13 l1).bind fun v14 => (pF h13 l0 7 3 (.int (if v14 < l2 then v14 else l2))).bind fun h15 => some (h15)
set_option maxRecDepth 20000 in
theorem w_X7_init (h : xH) (l0 : Nat) (l1 : Nat) (l2 : Int32) (r : xH) (hf : f_X7_init h l0 l1 l2 = some r) : Ev 5 yX7_init cX7_init 3 none [] [.ref l0, .ref l1, .int l2] h (oVh r) := by
  refine Ev.of (by decide +kernel) (Nat.le_of_ble_eq_true rfl) ?_
  unfold f_X7_init at hf
  refine V.aload_n dX7_init_0 rfl 0 rfl ?_
  refine V.objInit dX7_init_1 oi_RX7_3 oi_inst oi_code (Nat.le_of_ble_eq_true rfl) ?_
  refine V.aload_n dX7_init_4 rfl 0 rfl ?_
  refine V.iconst (v := (0 : Int32)) dX7_init_5 (by decide) ?_
  obtain ⟨h1, e1, hf⟩ := bS hf
  refine V.xpF dX7_init_6 fl_RX7_9 (fun h9 => nomatch h9) (fun _ => rfl) (fun _ => rfl) e1 ?_
  refine V.aload_n dX7_init_9 rfl 0 rfl ?_
  refine V.iconst (v := (-1 : Int32)) dX7_init_10 (by decide) ?_
  obtain ⟨h2, e2, hf⟩ := bS hf
  refine V.xpF dX7_init_11 fl_RX7_15 (fun h9 => nomatch h9) (fun _ => rfl) (fun _ => rfl) e2 ?_
  refine V.aload_n dX7_init_14 rfl 0 rfl ?_
  refine V.iconst (v := (0 : Int32)) dX7_init_15 (by decide) ?_
  obtain ⟨h3, e3, hf⟩ := bS hf
  refine V.xpF dX7_init_16 fl_RX7_18 (fun h9 => nomatch h9) (fun _ => rfl) (fun _ => rfl) e3 ?_
  refine V.aload_n dX7_init_19 rfl 0 rfl ?_
  refine V.iconst (v := (0 : Int32)) dX7_init_20 (by decide) ?_
  obtain ⟨h4, e4, hf⟩ := bS hf
  refine V.xpF dX7_init_21 fl_RX7_21 (fun h9 => nomatch h9) (fun _ => rfl) (fun _ => rfl) e4 ?_
  refine V.aload_n dX7_init_24 rfl 0 rfl ?_
  refine V.iconst (v := (0 : Int32)) dX7_init_25 (by decide) ?_
  obtain ⟨h5, e5, hf⟩ := bS hf
  refine V.xpF dX7_init_26 fl_RX7_24 (fun h9 => nomatch h9) (fun _ => rfl) (fun _ => rfl) e5 ?_
  refine V.aload_n dX7_init_29 rfl 0 rfl ?_
  refine V.iconst (v := (0 : Int32)) dX7_init_30 (by decide) ?_
  obtain ⟨h6, e6, hf⟩ := bS hf
  refine V.xpF dX7_init_31 fl_RX7_27 (fun h9 => nomatch h9) (fun _ => rfl) (fun _ => rfl) e6 ?_
  refine V.aload_n dX7_init_34 rfl 0 rfl ?_
  obtain ⟨h7, e7, hf⟩ := bS hf
  refine V.xmkO dX7_init_35 nc_RX7_30 e7 ?_
  refine V.dup dX7_init_38 rfl ?_
  obtain ⟨r8, e8, hf⟩ := bS hf
  refine V.callI (As := []) (st := [.ref (h6.1.length), .ref l0]) dX7_init_39 cl_RX7_32 sw_yX3_init rfl (by decide) rfl (Nat.le_of_ble_eq_true rfl) rfl (w_X3_init _ _ _ e8) ?_
  obtain ⟨h9, e9, hf⟩ := bS hf
  refine V.xpF dX7_init_42 fl_RX7_33 (fun _ => rfl) (fun _ => rfl) (fun _ => rfl) e9 ?_
  refine V.aload_n dX7_init_45 rfl 0 rfl ?_
  refine V.iconst (v := (5 : Int32)) dX7_init_46 (by decide) ?_
  obtain ⟨h10, e10, hf⟩ := bS hf
  refine V.xmkI dX7_init_47 rfl rfl aw_int (by decide) e10 ?_
  obtain ⟨h11, e11, hf⟩ := bS hf
  refine V.xpF dX7_init_49 fl_RX7_37 (fun _ => rfl) (fun _ => rfl) (fun _ => rfl) e11 ?_
  refine V.aload_n dX7_init_52 rfl 0 rfl ?_
  refine V.iconst (v := (0 : Int32)) dX7_init_53 (by decide) ?_
  obtain ⟨h12, e12, hf⟩ := bS hf
  refine V.xpF dX7_init_54 fl_RX7_41 (fun h9 => nomatch h9) (fun _ => rfl) (fun _ => rfl) e12 ?_
  refine V.aload_n dX7_init_57 rfl 0 rfl ?_
  refine V.aload_n dX7_init_58 rfl 1 rfl ?_
  obtain ⟨h13, e13, hf⟩ := bS hf
  refine V.xpF dX7_init_59 fl_RX7_44 (fun _ => rfl) (fun _ => rfl) (fun _ => rfl) e13 ?_
  refine V.aload_n dX7_init_62 rfl 0 rfl ?_
  refine V.iload_n dX7_init_63 rfl 2 rfl ?_
  refine V.aload_n dX7_init_64 rfl 1 rfl ?_
  obtain ⟨v14, e14, hf⟩ := bS hf
  refine V.xaln dX7_init_65 e14 ?_
  refine V.mmin dX7_init_66 ml_RX7_48 ms_min mi_ mc_min (Nat.le_of_ble_eq_true rfl) ?_
  obtain ⟨h15, e15, hf⟩ := bS hf
  refine V.xpF dX7_init_69 fl_RX7_54 (fun _ => rfl) (fun _ => rfl) (fun _ => rfl) e15 ?_
  obtain rfl := Option.some.inj hf
  exact V.vret dX7_init_72

def f_X7_advance_39 (k0 : xH → Nat → Option (xH)) (h : xH) (l0 : Nat) : Option (xH) := (gI h l0 7 6).bind fun v1 => (pF h l0 7 6 (.int (v1 + (1 : Int32)))).bind fun h2 => k0 h2 l0
def f_X7_advance_233 (k134 : xH → Nat → Option (xH)) (h : xH) (l0 : Nat) (s0 : Int32) (s1 : Nat) : Option (xH) := (pF h s1 7 7 (.int s0)).bind fun h1 => (gI h1 l0 7 6).bind fun v2 => (pF h1 l0 7 6 (.int (v2 + (1 : Int32)))).bind fun h3 => k134 h3 l0
def f_X7_advance_192 (k134 : xH → Nat → Option (xH)) (h : xH) (l0 : Nat) (s0 : Int32) (s1 : Nat) : Option (xH) := (pF h s1 7 4 (.int s0)).bind fun h1 => (gI h1 l0 7 6).bind fun v2 => (gI h1 l0 7 5).bind fun v3 => (if (5 : Int32) ≤ (v2 - v3) then (f_X7_advance_233 k134 h1 l0 (0 : Int32) l0) else ((gI h1 l0 7 7).bind fun v5 => (gR h1 l0 7 2).bind fun v6 => (gI h1 l0 7 6).bind fun v7 => (ldI h1 .byte v6 v7).bind fun v8 => f_X7_advance_233 k134 h1 l0 ((v5 * (10 : Int32)) + (v8 - (48 : Int32))) l0))
def f_X7_advance_297 (h : xH) (l0 : Nat) (s0 : Int32) (s1 : Nat) : Option (xH) := (pF h s1 7 4 (.int s0)).bind fun h1 => (gI h1 l0 7 6).bind fun v2 => (pF h1 l0 7 6 (.int (v2 + (1 : Int32)))).bind fun h3 => some (h3)
def f_X7_advance_249 (h : xH) (l0 : Nat) : Option (xH) := (gI h l0 7 6).bind fun v1 => (gI h l0 7 5).bind fun v2 => (if v1 ≤ v2 then ((pF h l0 7 4 (.int (0 : Int32))).bind fun h4 => (gI h4 l0 7 6).bind fun v5 => (gI h4 l0 7 3).bind fun v6 => (if v6 ≤ v5 then (some (h4)) else ((gR h4 l0 7 2).bind fun v8 => (gI h4 l0 7 6).bind fun v9 => (ldI h4 .byte v8 v9).bind fun v10 => (if v10 = (59 : Int32) then (f_X7_advance_297 h4 l0 (3 : Int32) l0) else (f_X7_advance_297 h4 l0 (4 : Int32) l0))))) else (some (h)))
def f_X7_advance_134 : Nat → xH → Nat → Option (xH)
  | 0, _, _ => none
  | n + 1, h, l0 => (gI h l0 7 6).bind fun v1 => (gI h l0 7 3).bind fun v2 => (if v2 ≤ v1 then (f_X7_advance_249 h l0) else ((gR h l0 7 2).bind fun v4 => (gI h l0 7 6).bind fun v5 => (ldI h .byte v4 v5).bind fun v6 => (if v6 < (48 : Int32) then (f_X7_advance_249 h l0) else ((gR h l0 7 2).bind fun v8 => (gI h l0 7 6).bind fun v9 => (ldI h .byte v8 v9).bind fun v10 => (if (57 : Int32) < v10 then (f_X7_advance_249 h l0) else ((gI h l0 7 6).bind fun v12 => (gI h l0 7 5).bind fun v13 => (if (5 : Int32) ≤ (v12 - v13) then (f_X7_advance_192 (f_X7_advance_134 n) h l0 (4 : Int32) l0) else (f_X7_advance_192 (f_X7_advance_134 n) h l0 (2 : Int32) l0))))))))
def f_X7_advance_122 (h : xH) (l0 : Nat) : Option (xH) := (gI h l0 7 6).bind fun v1 => (gI h l0 7 5).bind fun v2 => (if v1 ≤ v2 then (f_X7_advance_134 xFU h l0) else (some (h)))
def f_X7_advance_65 : Nat → xH → Nat → Option (xH)
  | 0, _, _ => none
  | n + 1, h, l0 => (gI h l0 7 6).bind fun v1 => (gI h l0 7 3).bind fun v2 => (if v2 ≤ v1 then (f_X7_advance_122 h l0) else ((gR h l0 7 2).bind fun v4 => (gI h l0 7 6).bind fun v5 => (ldI h .byte v4 v5).bind fun v6 => (if v6 < (97 : Int32) then (f_X7_advance_122 h l0) else ((gR h l0 7 2).bind fun v8 => (gI h l0 7 6).bind fun v9 => (ldI h .byte v8 v9).bind fun v10 => (if (122 : Int32) < v10 then (f_X7_advance_122 h l0) else ((pF h l0 7 4 (.int (1 : Int32))).bind fun h12 => (gI h12 l0 7 6).bind fun v13 => (pF h12 l0 7 6 (.int (v13 + (1 : Int32)))).bind fun h14 => f_X7_advance_65 n h14 l0))))))
def f_X7_advance_52 (h : xH) (l0 : Nat) : Option (xH) := (gI h l0 7 6).bind fun v1 => (pF h l0 7 5 (.int v1)).bind fun h2 => (pF h2 l0 7 7 (.int (0 : Int32))).bind fun h3 => f_X7_advance_65 xFU h3 l0
def f_X7_advance_0 : Nat → xH → Nat → Option (xH)
  | 0, _, _ => none
  | n + 1, h, l0 => (gI h l0 7 6).bind fun v1 => (gI h l0 7 3).bind fun v2 => (if v2 ≤ v1 then (f_X7_advance_52 h l0) else ((gR h l0 7 2).bind fun v4 => (gI h l0 7 6).bind fun v5 => (ldI h .byte v4 v5).bind fun v6 => (if v6 = (10 : Int32) then (f_X7_advance_39 (f_X7_advance_0 n) h l0) else ((gR h l0 7 2).bind fun v8 => (gI h l0 7 6).bind fun v9 => (ldI h .byte v8 v9).bind fun v10 => (if v10 = (32 : Int32) then (f_X7_advance_39 (f_X7_advance_0 n) h l0) else (f_X7_advance_52 h l0))))))
def f_X7_advance (h : xH) (l0 : Nat) : Option (xH) := f_X7_advance_0 xFU h l0
set_option maxRecDepth 20000 in
theorem w_X7_advance_39 (h : xH) {k0 : xH → Nat → Option (xH)} (hk0 : ∀ (h : xH) (l0 : Nat) (r : xH), k0 h l0 = some r → V 3 yX7_advance cX7_advance 1 none [] none 0 [(0, .ref l0)] [] h (oVh r)) (l0 : Nat) (r : xH) (hf : f_X7_advance_39 k0 h l0 = some r) : V 3 yX7_advance cX7_advance 1 none [] none 39 [(0, .ref l0)] [] h (oVh r) := by
  unfold f_X7_advance_39 at hf
  refine V.aload_n dX7_advance_39 rfl 0 rfl ?_
  refine V.dup dX7_advance_40 rfl ?_
  obtain ⟨v1, e1, hf⟩ := bS hf
  refine V.xgI dX7_advance_41 fl_RX7_24 e1 ?_
  refine V.iconst (v := (1 : Int32)) dX7_advance_44 (by decide) ?_
  refine V.iadd dX7_advance_45 ?_
  obtain ⟨h2, e2, hf⟩ := bS hf
  refine V.xpF dX7_advance_46 fl_RX7_24 (fun h9 => nomatch h9) (fun _ => rfl) (fun _ => rfl) e2 ?_
  refine V.goto (tgt := 0) dX7_advance_49 (by decide) ?_
  exact hk0 _ _ _ hf

set_option maxRecDepth 20000 in
theorem w_X7_advance_233 (h : xH) {k134 : xH → Nat → Option (xH)} (hk134 : ∀ (h : xH) (l0 : Nat) (r : xH), k134 h l0 = some r → V 3 yX7_advance cX7_advance 1 none [] none 134 [(0, .ref l0)] [] h (oVh r)) (l0 : Nat) (s0 : Int32) (s1 : Nat) (r : xH) (hf : f_X7_advance_233 k134 h l0 s0 s1 = some r) : V 3 yX7_advance cX7_advance 1 none [] none 233 [(0, .ref l0)] [.int s0, .ref s1] h (oVh r) := by
  unfold f_X7_advance_233 at hf
  obtain ⟨h1, e3, hf⟩ := bS hf
  refine V.xpF dX7_advance_233 fl_RX7_27 (fun h9 => nomatch h9) (fun _ => rfl) (fun _ => rfl) e3 ?_
  refine V.aload_n dX7_advance_236 rfl 0 rfl ?_
  refine V.dup dX7_advance_237 rfl ?_
  obtain ⟨v2, e4, hf⟩ := bS hf
  refine V.xgI dX7_advance_238 fl_RX7_24 e4 ?_
  refine V.iconst (v := (1 : Int32)) dX7_advance_241 (by decide) ?_
  refine V.iadd dX7_advance_242 ?_
  obtain ⟨h3, e5, hf⟩ := bS hf
  refine V.xpF dX7_advance_243 fl_RX7_24 (fun h9 => nomatch h9) (fun _ => rfl) (fun _ => rfl) e5 ?_
  refine V.goto (tgt := 134) dX7_advance_246 (by decide) ?_
  exact hk134 _ _ _ hf

set_option maxRecDepth 20000 in
theorem w_X7_advance_192 (h : xH) {k134 : xH → Nat → Option (xH)} (hk134 : ∀ (h : xH) (l0 : Nat) (r : xH), k134 h l0 = some r → V 3 yX7_advance cX7_advance 1 none [] none 134 [(0, .ref l0)] [] h (oVh r)) (l0 : Nat) (s0 : Int32) (s1 : Nat) (r : xH) (hf : f_X7_advance_192 k134 h l0 s0 s1 = some r) : V 3 yX7_advance cX7_advance 1 none [] none 192 [(0, .ref l0)] [.int s0, .ref s1] h (oVh r) := by
  unfold f_X7_advance_192 at hf
  obtain ⟨h1, e6, hf⟩ := bS hf
  refine V.xpF dX7_advance_192 fl_RX7_18 (fun h9 => nomatch h9) (fun _ => rfl) (fun _ => rfl) e6 ?_
  refine V.aload_n dX7_advance_195 rfl 0 rfl ?_
  refine V.aload_n dX7_advance_196 rfl 0 rfl ?_
  obtain ⟨v2, e7, hf⟩ := bS hf
  refine V.xgI dX7_advance_197 fl_RX7_24 e7 ?_
  refine V.aload_n dX7_advance_200 rfl 0 rfl ?_
  obtain ⟨v3, e8, hf⟩ := bS hf
  refine V.xgI dX7_advance_201 fl_RX7_21 e8 ?_
  refine V.isub dX7_advance_204 ?_
  refine V.iconst (v := (5 : Int32)) dX7_advance_205 (by decide) ?_
  refine V.icmp_ge (tgt := 232) dX7_advance_206 (by decide) (fun c4 => ?_) (fun c4 => ?_)
  · rw [if_pos c4] at hf
    refine V.iconst (v := (0 : Int32)) dX7_advance_232 (by decide) ?_
    exact w_X7_advance_233 _ hk134 _ _ _ _ hf
  · rw [if_neg c4] at hf
    refine V.aload_n dX7_advance_209 rfl 0 rfl ?_
    obtain ⟨v5, e9, hf⟩ := bS hf
    refine V.xgI dX7_advance_210 fl_RX7_27 e9 ?_
    refine V.bipush (v := (10 : Int32)) dX7_advance_213 (by decide) ?_
    refine V.imul dX7_advance_215 ?_
    refine V.aload_n dX7_advance_216 rfl 0 rfl ?_
    obtain ⟨v6, e10, hf⟩ := bS hf
    refine V.xgR dX7_advance_217 fl_RX7_44 e10 ?_
    refine V.aload_n dX7_advance_220 rfl 0 rfl ?_
    obtain ⟨v7, e11, hf⟩ := bS hf
    refine V.xgI dX7_advance_221 fl_RX7_24 e11 ?_
    obtain ⟨v8, e12, hf⟩ := bS hf
    refine V.xldB dX7_advance_224 e12 ?_
    refine V.bipush (v := (48 : Int32)) dX7_advance_225 (by decide) ?_
    refine V.isub dX7_advance_227 ?_
    refine V.iadd dX7_advance_228 ?_
    refine V.goto (tgt := 233) dX7_advance_229 (by decide) ?_
    exact w_X7_advance_233 _ hk134 _ _ _ _ hf

set_option maxRecDepth 20000 in
theorem w_X7_advance_297 (h : xH) (l0 : Nat) (s0 : Int32) (s1 : Nat) (r : xH) (hf : f_X7_advance_297 h l0 s0 s1 = some r) : V 3 yX7_advance cX7_advance 1 none [] none 297 [(0, .ref l0)] [.int s0, .ref s1] h (oVh r) := by
  unfold f_X7_advance_297 at hf
  obtain ⟨h1, e13, hf⟩ := bS hf
  refine V.xpF dX7_advance_297 fl_RX7_18 (fun h9 => nomatch h9) (fun _ => rfl) (fun _ => rfl) e13 ?_
  refine V.aload_n dX7_advance_300 rfl 0 rfl ?_
  refine V.dup dX7_advance_301 rfl ?_
  obtain ⟨v2, e14, hf⟩ := bS hf
  refine V.xgI dX7_advance_302 fl_RX7_24 e14 ?_
  refine V.iconst (v := (1 : Int32)) dX7_advance_305 (by decide) ?_
  refine V.iadd dX7_advance_306 ?_
  obtain ⟨h3, e15, hf⟩ := bS hf
  refine V.xpF dX7_advance_307 fl_RX7_24 (fun h9 => nomatch h9) (fun _ => rfl) (fun _ => rfl) e15 ?_
  obtain rfl := Option.some.inj hf
  exact V.vret dX7_advance_310

set_option maxRecDepth 20000 in
theorem w_X7_advance_249 (h : xH) (l0 : Nat) (r : xH) (hf : f_X7_advance_249 h l0 = some r) : V 3 yX7_advance cX7_advance 1 none [] none 249 [(0, .ref l0)] [] h (oVh r) := by
  unfold f_X7_advance_249 at hf
  refine V.aload_n dX7_advance_249 rfl 0 rfl ?_
  obtain ⟨v1, e16, hf⟩ := bS hf
  refine V.xgI dX7_advance_250 fl_RX7_24 e16 ?_
  refine V.aload_n dX7_advance_253 rfl 0 rfl ?_
  obtain ⟨v2, e17, hf⟩ := bS hf
  refine V.xgI dX7_advance_254 fl_RX7_21 e17 ?_
  refine V.icmp_le (tgt := 261) dX7_advance_257 (by decide) (fun c3 => ?_) (fun c3 => ?_)
  · rw [if_pos c3] at hf
    refine V.aload_n dX7_advance_261 rfl 0 rfl ?_
    refine V.iconst (v := (0 : Int32)) dX7_advance_262 (by decide) ?_
    obtain ⟨h4, e18, hf⟩ := bS hf
    refine V.xpF dX7_advance_263 fl_RX7_18 (fun h9 => nomatch h9) (fun _ => rfl) (fun _ => rfl) e18 ?_
    refine V.aload_n dX7_advance_266 rfl 0 rfl ?_
    obtain ⟨v5, e19, hf⟩ := bS hf
    refine V.xgI dX7_advance_267 fl_RX7_24 e19 ?_
    refine V.aload_n dX7_advance_270 rfl 0 rfl ?_
    obtain ⟨v6, e20, hf⟩ := bS hf
    refine V.xgI dX7_advance_271 fl_RX7_54 e20 ?_
    refine V.icmp_ge (tgt := 310) dX7_advance_274 (by decide) (fun c7 => ?_) (fun c7 => ?_)
    · rw [if_pos c7] at hf
      obtain rfl := Option.some.inj hf
      exact V.vret dX7_advance_310
    · rw [if_neg c7] at hf
      refine V.aload_n dX7_advance_277 rfl 0 rfl ?_
      refine V.aload_n dX7_advance_278 rfl 0 rfl ?_
      obtain ⟨v8, e21, hf⟩ := bS hf
      refine V.xgR dX7_advance_279 fl_RX7_44 e21 ?_
      refine V.aload_n dX7_advance_282 rfl 0 rfl ?_
      obtain ⟨v9, e22, hf⟩ := bS hf
      refine V.xgI dX7_advance_283 fl_RX7_24 e22 ?_
      obtain ⟨v10, e23, hf⟩ := bS hf
      refine V.xldB dX7_advance_286 e23 ?_
      refine V.bipush (v := (59 : Int32)) dX7_advance_287 (by decide) ?_
      refine V.icmp_ne (tgt := 296) dX7_advance_289 (by decide) (fun c11 => ?_) (fun c11 => ?_)
      · rw [if_neg c11] at hf
        refine V.iconst (v := (4 : Int32)) dX7_advance_296 (by decide) ?_
        exact w_X7_advance_297 _ _ _ _ _ hf
      · rw [if_pos c11] at hf
        refine V.iconst (v := (3 : Int32)) dX7_advance_292 (by decide) ?_
        refine V.goto (tgt := 297) dX7_advance_293 (by decide) ?_
        exact w_X7_advance_297 _ _ _ _ _ hf
  · rw [if_neg c3] at hf
    obtain rfl := Option.some.inj hf
    exact V.vret dX7_advance_260

set_option maxRecDepth 20000 in
theorem w_X7_advance_134 : ∀ (n : Nat) (h : xH) (l0 : Nat) (r : xH), f_X7_advance_134 n h l0 = some r → V 3 yX7_advance cX7_advance 1 none [] none 134 [(0, .ref l0)] [] h (oVh r) := by
  intro n
  induction n with
  | zero => intro h l0 r hf; cases hf
  | succ n ih =>
    intro h l0 r hf
    rw [f_X7_advance_134] at hf
    refine V.aload_n dX7_advance_134 rfl 0 rfl ?_
    obtain ⟨v1, e24, hf⟩ := bS hf
    refine V.xgI dX7_advance_135 fl_RX7_24 e24 ?_
    refine V.aload_n dX7_advance_138 rfl 0 rfl ?_
    obtain ⟨v2, e25, hf⟩ := bS hf
    refine V.xgI dX7_advance_139 fl_RX7_54 e25 ?_
    refine V.icmp_ge (tgt := 249) dX7_advance_142 (by decide) (fun c3 => ?_) (fun c3 => ?_)
    · rw [if_pos c3] at hf
      exact w_X7_advance_249 _ _ _ hf
    · rw [if_neg c3] at hf
      refine V.aload_n dX7_advance_145 rfl 0 rfl ?_
      obtain ⟨v4, e26, hf⟩ := bS hf
      refine V.xgR dX7_advance_146 fl_RX7_44 e26 ?_
      refine V.aload_n dX7_advance_149 rfl 0 rfl ?_
      obtain ⟨v5, e27, hf⟩ := bS hf
      refine V.xgI dX7_advance_150 fl_RX7_24 e27 ?_
      obtain ⟨v6, e28, hf⟩ := bS hf
      refine V.xldB dX7_advance_153 e28 ?_
      refine V.bipush (v := (48 : Int32)) dX7_advance_154 (by decide) ?_
      refine V.icmp_lt (tgt := 249) dX7_advance_156 (by decide) (fun c7 => ?_) (fun c7 => ?_)
      · rw [if_pos c7] at hf
        exact w_X7_advance_249 _ _ _ hf
      · rw [if_neg c7] at hf
        refine V.aload_n dX7_advance_159 rfl 0 rfl ?_
        obtain ⟨v8, e29, hf⟩ := bS hf
        refine V.xgR dX7_advance_160 fl_RX7_44 e29 ?_
        refine V.aload_n dX7_advance_163 rfl 0 rfl ?_
        obtain ⟨v9, e30, hf⟩ := bS hf
        refine V.xgI dX7_advance_164 fl_RX7_24 e30 ?_
        obtain ⟨v10, e31, hf⟩ := bS hf
        refine V.xldB dX7_advance_167 e31 ?_
        refine V.bipush (v := (57 : Int32)) dX7_advance_168 (by decide) ?_
        refine V.icmp_gt (tgt := 249) dX7_advance_170 (by decide) (fun c11 => ?_) (fun c11 => ?_)
        · rw [if_pos c11] at hf
          exact w_X7_advance_249 _ _ _ hf
        · rw [if_neg c11] at hf
          refine V.aload_n dX7_advance_173 rfl 0 rfl ?_
          refine V.aload_n dX7_advance_174 rfl 0 rfl ?_
          obtain ⟨v12, e32, hf⟩ := bS hf
          refine V.xgI dX7_advance_175 fl_RX7_24 e32 ?_
          refine V.aload_n dX7_advance_178 rfl 0 rfl ?_
          obtain ⟨v13, e33, hf⟩ := bS hf
          refine V.xgI dX7_advance_179 fl_RX7_21 e33 ?_
          refine V.isub dX7_advance_182 ?_
          refine V.iconst (v := (5 : Int32)) dX7_advance_183 (by decide) ?_
          refine V.icmp_ge (tgt := 191) dX7_advance_184 (by decide) (fun c14 => ?_) (fun c14 => ?_)
          · rw [if_pos c14] at hf
            refine V.iconst (v := (4 : Int32)) dX7_advance_191 (by decide) ?_
            exact w_X7_advance_192 _ ih _ _ _ _ hf
          · rw [if_neg c14] at hf
            refine V.iconst (v := (2 : Int32)) dX7_advance_187 (by decide) ?_
            refine V.goto (tgt := 192) dX7_advance_188 (by decide) ?_
            exact w_X7_advance_192 _ ih _ _ _ _ hf

set_option maxRecDepth 20000 in
theorem w_X7_advance_122 (h : xH) (l0 : Nat) (r : xH) (hf : f_X7_advance_122 h l0 = some r) : V 3 yX7_advance cX7_advance 1 none [] none 122 [(0, .ref l0)] [] h (oVh r) := by
  unfold f_X7_advance_122 at hf
  refine V.aload_n dX7_advance_122 rfl 0 rfl ?_
  obtain ⟨v1, e34, hf⟩ := bS hf
  refine V.xgI dX7_advance_123 fl_RX7_24 e34 ?_
  refine V.aload_n dX7_advance_126 rfl 0 rfl ?_
  obtain ⟨v2, e35, hf⟩ := bS hf
  refine V.xgI dX7_advance_127 fl_RX7_21 e35 ?_
  refine V.icmp_le (tgt := 134) dX7_advance_130 (by decide) (fun c3 => ?_) (fun c3 => ?_)
  · rw [if_pos c3] at hf
    exact w_X7_advance_134 _ _ _ _ hf
  · rw [if_neg c3] at hf
    obtain rfl := Option.some.inj hf
    exact V.vret dX7_advance_133

set_option maxRecDepth 20000 in
theorem w_X7_advance_65 : ∀ (n : Nat) (h : xH) (l0 : Nat) (r : xH), f_X7_advance_65 n h l0 = some r → V 3 yX7_advance cX7_advance 1 none [] none 65 [(0, .ref l0)] [] h (oVh r) := by
  intro n
  induction n with
  | zero => intro h l0 r hf; cases hf
  | succ n ih =>
    intro h l0 r hf
    rw [f_X7_advance_65] at hf
    refine V.aload_n dX7_advance_65 rfl 0 rfl ?_
    obtain ⟨v1, e36, hf⟩ := bS hf
    refine V.xgI dX7_advance_66 fl_RX7_24 e36 ?_
    refine V.aload_n dX7_advance_69 rfl 0 rfl ?_
    obtain ⟨v2, e37, hf⟩ := bS hf
    refine V.xgI dX7_advance_70 fl_RX7_54 e37 ?_
    refine V.icmp_ge (tgt := 122) dX7_advance_73 (by decide) (fun c3 => ?_) (fun c3 => ?_)
    · rw [if_pos c3] at hf
      exact w_X7_advance_122 _ _ _ hf
    · rw [if_neg c3] at hf
      refine V.aload_n dX7_advance_76 rfl 0 rfl ?_
      obtain ⟨v4, e38, hf⟩ := bS hf
      refine V.xgR dX7_advance_77 fl_RX7_44 e38 ?_
      refine V.aload_n dX7_advance_80 rfl 0 rfl ?_
      obtain ⟨v5, e39, hf⟩ := bS hf
      refine V.xgI dX7_advance_81 fl_RX7_24 e39 ?_
      obtain ⟨v6, e40, hf⟩ := bS hf
      refine V.xldB dX7_advance_84 e40 ?_
      refine V.bipush (v := (97 : Int32)) dX7_advance_85 (by decide) ?_
      refine V.icmp_lt (tgt := 122) dX7_advance_87 (by decide) (fun c7 => ?_) (fun c7 => ?_)
      · rw [if_pos c7] at hf
        exact w_X7_advance_122 _ _ _ hf
      · rw [if_neg c7] at hf
        refine V.aload_n dX7_advance_90 rfl 0 rfl ?_
        obtain ⟨v8, e41, hf⟩ := bS hf
        refine V.xgR dX7_advance_91 fl_RX7_44 e41 ?_
        refine V.aload_n dX7_advance_94 rfl 0 rfl ?_
        obtain ⟨v9, e42, hf⟩ := bS hf
        refine V.xgI dX7_advance_95 fl_RX7_24 e42 ?_
        obtain ⟨v10, e43, hf⟩ := bS hf
        refine V.xldB dX7_advance_98 e43 ?_
        refine V.bipush (v := (122 : Int32)) dX7_advance_99 (by decide) ?_
        refine V.icmp_gt (tgt := 122) dX7_advance_101 (by decide) (fun c11 => ?_) (fun c11 => ?_)
        · rw [if_pos c11] at hf
          exact w_X7_advance_122 _ _ _ hf
        · rw [if_neg c11] at hf
          refine V.aload_n dX7_advance_104 rfl 0 rfl ?_
          refine V.iconst (v := (1 : Int32)) dX7_advance_105 (by decide) ?_
          obtain ⟨h12, e44, hf⟩ := bS hf
          refine V.xpF dX7_advance_106 fl_RX7_18 (fun h9 => nomatch h9) (fun _ => rfl) (fun _ => rfl) e44 ?_
          refine V.aload_n dX7_advance_109 rfl 0 rfl ?_
          refine V.dup dX7_advance_110 rfl ?_
          obtain ⟨v13, e45, hf⟩ := bS hf
          refine V.xgI dX7_advance_111 fl_RX7_24 e45 ?_
          refine V.iconst (v := (1 : Int32)) dX7_advance_114 (by decide) ?_
          refine V.iadd dX7_advance_115 ?_
          obtain ⟨h14, e46, hf⟩ := bS hf
          refine V.xpF dX7_advance_116 fl_RX7_24 (fun h9 => nomatch h9) (fun _ => rfl) (fun _ => rfl) e46 ?_
          refine V.goto (tgt := 65) dX7_advance_119 (by decide) ?_
          exact ih _ _ _ hf

set_option maxRecDepth 20000 in
theorem w_X7_advance_52 (h : xH) (l0 : Nat) (r : xH) (hf : f_X7_advance_52 h l0 = some r) : V 3 yX7_advance cX7_advance 1 none [] none 52 [(0, .ref l0)] [] h (oVh r) := by
  unfold f_X7_advance_52 at hf
  refine V.aload_n dX7_advance_52 rfl 0 rfl ?_
  refine V.aload_n dX7_advance_53 rfl 0 rfl ?_
  obtain ⟨v1, e47, hf⟩ := bS hf
  refine V.xgI dX7_advance_54 fl_RX7_24 e47 ?_
  obtain ⟨h2, e48, hf⟩ := bS hf
  refine V.xpF dX7_advance_57 fl_RX7_21 (fun h9 => nomatch h9) (fun _ => rfl) (fun _ => rfl) e48 ?_
  refine V.aload_n dX7_advance_60 rfl 0 rfl ?_
  refine V.iconst (v := (0 : Int32)) dX7_advance_61 (by decide) ?_
  obtain ⟨h3, e49, hf⟩ := bS hf
  refine V.xpF dX7_advance_62 fl_RX7_27 (fun h9 => nomatch h9) (fun _ => rfl) (fun _ => rfl) e49 ?_
  exact w_X7_advance_65 _ _ _ _ hf

set_option maxRecDepth 20000 in
theorem w_X7_advance_0 : ∀ (n : Nat) (h : xH) (l0 : Nat) (r : xH), f_X7_advance_0 n h l0 = some r → V 3 yX7_advance cX7_advance 1 none [] none 0 [(0, .ref l0)] [] h (oVh r) := by
  intro n
  induction n with
  | zero => intro h l0 r hf; cases hf
  | succ n ih =>
    intro h l0 r hf
    rw [f_X7_advance_0] at hf
    refine V.aload_n dX7_advance_0 rfl 0 rfl ?_
    obtain ⟨v1, e50, hf⟩ := bS hf
    refine V.xgI dX7_advance_1 fl_RX7_24 e50 ?_
    refine V.aload_n dX7_advance_4 rfl 0 rfl ?_
    obtain ⟨v2, e51, hf⟩ := bS hf
    refine V.xgI dX7_advance_5 fl_RX7_54 e51 ?_
    refine V.icmp_ge (tgt := 52) dX7_advance_8 (by decide) (fun c3 => ?_) (fun c3 => ?_)
    · rw [if_pos c3] at hf
      exact w_X7_advance_52 _ _ _ hf
    · rw [if_neg c3] at hf
      refine V.aload_n dX7_advance_11 rfl 0 rfl ?_
      obtain ⟨v4, e52, hf⟩ := bS hf
      refine V.xgR dX7_advance_12 fl_RX7_44 e52 ?_
      refine V.aload_n dX7_advance_15 rfl 0 rfl ?_
      obtain ⟨v5, e53, hf⟩ := bS hf
      refine V.xgI dX7_advance_16 fl_RX7_24 e53 ?_
      obtain ⟨v6, e54, hf⟩ := bS hf
      refine V.xldB dX7_advance_19 e54 ?_
      refine V.bipush (v := (10 : Int32)) dX7_advance_20 (by decide) ?_
      refine V.icmp_eq (tgt := 39) dX7_advance_22 (by decide) (fun c7 => ?_) (fun c7 => ?_)
      · rw [if_pos c7] at hf
        exact w_X7_advance_39 _ ih _ _ hf
      · rw [if_neg c7] at hf
        refine V.aload_n dX7_advance_25 rfl 0 rfl ?_
        obtain ⟨v8, e55, hf⟩ := bS hf
        refine V.xgR dX7_advance_26 fl_RX7_44 e55 ?_
        refine V.aload_n dX7_advance_29 rfl 0 rfl ?_
        obtain ⟨v9, e56, hf⟩ := bS hf
        refine V.xgI dX7_advance_30 fl_RX7_24 e56 ?_
        obtain ⟨v10, e57, hf⟩ := bS hf
        refine V.xldB dX7_advance_33 e57 ?_
        refine V.bipush (v := (32 : Int32)) dX7_advance_34 (by decide) ?_
        refine V.icmp_ne (tgt := 52) dX7_advance_36 (by decide) (fun c11 => ?_) (fun c11 => ?_)
        · rw [if_neg c11] at hf
          exact w_X7_advance_52 _ _ _ hf
        · rw [if_pos c11] at hf
          exact w_X7_advance_39 _ ih _ _ hf

theorem w_X7_advance (h : xH) (l0 : Nat) (r : xH) (hf : f_X7_advance h l0 = some r) : Ev 3 yX7_advance cX7_advance 1 none [] [.ref l0] h (oVh r) := by
  refine Ev.of (by decide +kernel) (Nat.le_of_ble_eq_true rfl) ?_
  unfold f_X7_advance at hf
  exact w_X7_advance_0 _ _ _ _ hf

def f_X7_refuse_14 (h : xH) (l0 : Nat) (s0 : Int32) (s1 : Nat) : Option (Int32 × xH) := (pF h s1 7 0 (.int s0)).bind fun h1 => (gI h1 l0 7 5).bind fun v2 => (pF h1 l0 7 1 (.int v2)).bind fun h3 => some (((0 : Int32), h3))
def f_X7_refuse (h : xH) (l0 : Nat) (l1 : Int32) : Option (Int32 × xH) := (gI h l0 7 4).bind fun v1 => (if v1 = (4 : Int32) then (f_X7_refuse_14 h l0 (1 : Int32) l0) else (f_X7_refuse_14 h l0 l1 l0))
set_option maxRecDepth 20000 in
theorem w_X7_refuse_14 (h : xH) (l0 : Nat) (s0 : Int32) (s1 : Nat) (r : Int32 × xH) (hf : f_X7_refuse_14 h l0 s0 s1 = some r) : V 3 yX7_refuse cX7_refuse 2 (some .boolean) [] none 14 [(0, .ref l0)] [.int s0, .ref s1] h (oIh r) := by
  unfold f_X7_refuse_14 at hf
  obtain ⟨h1, e1, hf⟩ := bS hf
  refine V.xpF dX7_refuse_14 fl_RX7_9 (fun h9 => nomatch h9) (fun _ => rfl) (fun _ => rfl) e1 ?_
  refine V.aload_n dX7_refuse_17 rfl 0 rfl ?_
  refine V.aload_n dX7_refuse_18 rfl 0 rfl ?_
  obtain ⟨v2, e2, hf⟩ := bS hf
  refine V.xgI dX7_refuse_19 fl_RX7_21 e2 ?_
  obtain ⟨h3, e3, hf⟩ := bS hf
  refine V.xpF dX7_refuse_22 fl_RX7_15 (fun h9 => nomatch h9) (fun _ => rfl) (fun _ => rfl) e3 ?_
  refine V.iconst (v := (0 : Int32)) dX7_refuse_25 (by decide) ?_
  obtain rfl := Option.some.inj hf
  exact V.zret dX7_refuse_26 (by first | rfl | assumption)

set_option maxRecDepth 20000 in
theorem w_X7_refuse (h : xH) (l0 : Nat) (l1 : Int32) (r : Int32 × xH) (hf : f_X7_refuse h l0 l1 = some r) : Ev 3 yX7_refuse cX7_refuse 2 (some .boolean) [] [.ref l0, .int l1] h (oIh r) := by
  refine Ev.of (by decide +kernel) (Nat.le_of_ble_eq_true rfl) ?_
  unfold f_X7_refuse at hf
  refine V.aload_n dX7_refuse_0 rfl 0 rfl ?_
  refine V.aload_n dX7_refuse_1 rfl 0 rfl ?_
  obtain ⟨v1, e4, hf⟩ := bS hf
  refine V.xgI dX7_refuse_2 fl_RX7_18 e4 ?_
  refine V.iconst (v := (4 : Int32)) dX7_refuse_5 (by decide) ?_
  refine V.icmp_ne (tgt := 13) dX7_refuse_6 (by decide) (fun c2 => ?_) (fun c2 => ?_)
  · rw [if_neg c2] at hf
    refine V.iload_n dX7_refuse_13 rfl 1 rfl ?_
    refine V.sub [0] rfl ?_
    exact w_X7_refuse_14 _ _ _ _ _ hf
  · rw [if_pos c2] at hf
    refine V.iconst (v := (1 : Int32)) dX7_refuse_9 (by decide) ?_
    refine V.goto (tgt := 14) dX7_refuse_10 (by decide) ?_
    refine V.sub [0] rfl ?_
    exact w_X7_refuse_14 _ _ _ _ _ hf

def f_X7_passSign (h : xH) (l0 : Nat) : Option (Int32 × xH) := (gI h l0 7 4).bind fun v1 => (if v1 = (3 : Int32) then ((gO h l0 7).bind fun q3 => (f_X7_advance h l0).bind fun r4 => some (((1 : Int32), r4))) else ((gO h l0 7).bind fun q5 => (f_X7_refuse h l0 (2 : Int32)).bind fun r6 => (if narrow .boolean (.int (r6.1)) = .int (r6.1) then some (r6.1, r6.2) else none)))
set_option maxRecDepth 20000 in
theorem w_X7_passSign (h : xH) (l0 : Nat) (r : Int32 × xH) (hf : f_X7_passSign h l0 = some r) : Ev 4 yX7_passSign cX7_passSign 1 (some .boolean) [] [.ref l0] h (oIh r) := by
  refine Ev.of (by decide +kernel) (Nat.le_of_ble_eq_true rfl) ?_
  unfold f_X7_passSign at hf
  refine V.aload_n dX7_passSign_0 rfl 0 rfl ?_
  obtain ⟨v1, e1, hf⟩ := bS hf
  refine V.xgI dX7_passSign_1 fl_RX7_18 e1 ?_
  refine V.iconst (v := (3 : Int32)) dX7_passSign_4 (by decide) ?_
  refine V.icmp_eq (tgt := 14) dX7_passSign_5 (by decide) (fun c2 => ?_) (fun c2 => ?_)
  · rw [if_pos c2] at hf
    refine V.aload_n dX7_passSign_14 rfl 0 rfl ?_
    obtain ⟨q3, e2, hf⟩ := bS hf
    obtain ⟨r4, e3, hf⟩ := bS hf
    refine V.callV (As := []) (st := []) dX7_passSign_15 cl_RX7_57 sw_yX7_advance (by decide) rfl (Nat.le_of_ble_eq_true rfl) rfl (gO_some e2) rfl (w_X7_advance _ _ _ e3) ?_
    refine V.iconst (v := (1 : Int32)) dX7_passSign_18 (by decide) ?_
    obtain rfl := Option.some.inj hf
    exact V.zret dX7_passSign_19 (by first | rfl | assumption)
  · rw [if_neg c2] at hf
    refine V.aload_n dX7_passSign_8 rfl 0 rfl ?_
    refine V.iconst (v := (2 : Int32)) dX7_passSign_9 (by decide) ?_
    obtain ⟨q5, e4, hf⟩ := bS hf
    obtain ⟨r6, e5, hf⟩ := bS hf
    refine V.callV (As := [.int (2 : Int32)]) (st := []) dX7_passSign_10 cl_RX7_120 sw_yX7_refuse (by decide) rfl (Nat.le_of_ble_eq_true rfl) rfl (gO_some e4) rfl (w_X7_refuse _ _ _ _ e5) ?_
    by_cases c7 : narrow .boolean (.int (r6.1)) = .int (r6.1)
    · rw [if_pos c7] at hf
      obtain rfl := Option.some.inj hf
      exact V.zret dX7_passSign_13 c7
    · rw [if_neg c7] at hf
      cases hf

def f_X7_isWord_28 (h : xH) : Nat → Nat → Nat → Int32 → Option (Int32)
  | 0, _, _, _ => none
  | n + 1, l0, l1, l2 => (sLen l1).bind fun v1 => (if v1 ≤ l2 then (some ((1 : Int32))) else ((gR h l0 7 2).bind fun v3 => (gI h l0 7 5).bind fun v4 => (ldI h .byte v3 (v4 + l2)).bind fun v5 => (sChr l1 l2).bind fun v6 => (if v5 = v6 then (f_X7_isWord_28 h n l0 l1 (l2 + 1)) else (some ((0 : Int32))))))
def f_X7_isWord (h : xH) (l0 : Nat) (l1 : Nat) : Option (Int32) := (gI h l0 7 4).bind fun v1 => (if v1 = (1 : Int32) then ((gI h l0 7 6).bind fun v3 => (gI h l0 7 5).bind fun v4 => (sLen l1).bind fun v5 => (if (v3 - v4) = v5 then (f_X7_isWord_28 h xFU l0 l1 (0 : Int32)) else (some ((0 : Int32))))) else (some ((0 : Int32))))
set_option maxRecDepth 20000 in
theorem w_X7_isWord_28 (h : xH) : ∀ (n : Nat) (l0 : Nat) (l1 : Nat) (l2 : Int32) (r : Int32), f_X7_isWord_28 h n l0 l1 l2 = some r → V 7 yX7_isWord cX7_isWord 3 (some .boolean) [] none 28 [(0, .ref l0), (1, .ref l1), (2, .int l2)] [] h (oI h r) := by
  intro n
  induction n with
  | zero => intro l0 l1 l2 r hf; cases hf
  | succ n ih =>
    intro l0 l1 l2 r hf
    rw [f_X7_isWord_28] at hf
    refine V.iload_n dX7_isWord_28 rfl 2 rfl ?_
    refine V.aload_n dX7_isWord_29 rfl 1 rfl ?_
    obtain ⟨v1, e1, hf⟩ := bS hf
    refine V.xsLen dX7_isWord_30 cl_RX7_211 (Nat.le_of_ble_eq_true rfl) (Nat.le_of_ble_eq_true rfl) e1 ?_
    refine V.icmp_ge (tgt := 63) dX7_isWord_33 (by decide) (fun c2 => ?_) (fun c2 => ?_)
    · rw [if_pos c2] at hf
      refine V.iconst (v := (1 : Int32)) dX7_isWord_63 (by decide) ?_
      obtain rfl := Option.some.inj hf
      exact V.zret dX7_isWord_64 (by first | rfl | assumption)
    · rw [if_neg c2] at hf
      refine V.aload_n dX7_isWord_36 rfl 0 rfl ?_
      obtain ⟨v3, e2, hf⟩ := bS hf
      refine V.xgR dX7_isWord_37 fl_RX7_44 e2 ?_
      refine V.aload_n dX7_isWord_40 rfl 0 rfl ?_
      obtain ⟨v4, e3, hf⟩ := bS hf
      refine V.xgI dX7_isWord_41 fl_RX7_21 e3 ?_
      refine V.iload_n dX7_isWord_44 rfl 2 rfl ?_
      refine V.iadd dX7_isWord_45 ?_
      obtain ⟨v5, e4, hf⟩ := bS hf
      refine V.xldB dX7_isWord_46 e4 ?_
      refine V.aload_n dX7_isWord_47 rfl 1 rfl ?_
      refine V.iload_n dX7_isWord_48 rfl 2 rfl ?_
      obtain ⟨v6, e5, hf⟩ := bS hf
      refine V.xsChr dX7_isWord_49 cl_RX7_216 (Nat.le_of_ble_eq_true rfl) (Nat.le_of_ble_eq_true rfl) e5 ?_
      refine V.icmp_eq (tgt := 57) dX7_isWord_52 (by decide) (fun c7 => ?_) (fun c7 => ?_)
      · rw [if_pos c7] at hf
        refine V.iinc (v := (l2 + 1)) (lv' := [(2, .int (l2 + 1)), (0, .ref l0), (1, .ref l1)]) dX7_isWord_57 2 rfl rfl (Nat.le_of_ble_eq_true rfl) rfl ?_
        refine V.goto (tgt := 28) dX7_isWord_60 (by decide) ?_
        refine V.sub [1, 2, 0] rfl ?_
        exact ih _ _ _ _ hf
      · rw [if_neg c7] at hf
        refine V.iconst (v := (0 : Int32)) dX7_isWord_55 (by decide) ?_
        obtain rfl := Option.some.inj hf
        exact V.zret dX7_isWord_56 (by first | rfl | assumption)

set_option maxRecDepth 20000 in
theorem w_X7_isWord (h : xH) (l0 : Nat) (l1 : Nat) (r : Int32) (hf : f_X7_isWord h l0 l1 = some r) : Ev 7 yX7_isWord cX7_isWord 3 (some .boolean) [] [.ref l0, .ref l1] h (oI h r) := by
  refine Ev.of (by decide +kernel) (Nat.le_of_ble_eq_true rfl) ?_
  unfold f_X7_isWord at hf
  refine V.aload_n dX7_isWord_0 rfl 0 rfl ?_
  obtain ⟨v1, e6, hf⟩ := bS hf
  refine V.xgI dX7_isWord_1 fl_RX7_18 e6 ?_
  refine V.iconst (v := (1 : Int32)) dX7_isWord_4 (by decide) ?_
  refine V.icmp_ne (tgt := 24) dX7_isWord_5 (by decide) (fun c2 => ?_) (fun c2 => ?_)
  · rw [if_neg c2] at hf
    refine V.iconst (v := (0 : Int32)) dX7_isWord_24 (by decide) ?_
    obtain rfl := Option.some.inj hf
    exact V.zret dX7_isWord_25 (by first | rfl | assumption)
  · rw [if_pos c2] at hf
    refine V.aload_n dX7_isWord_8 rfl 0 rfl ?_
    obtain ⟨v3, e7, hf⟩ := bS hf
    refine V.xgI dX7_isWord_9 fl_RX7_24 e7 ?_
    refine V.aload_n dX7_isWord_12 rfl 0 rfl ?_
    obtain ⟨v4, e8, hf⟩ := bS hf
    refine V.xgI dX7_isWord_13 fl_RX7_21 e8 ?_
    refine V.isub dX7_isWord_16 ?_
    refine V.aload_n dX7_isWord_17 rfl 1 rfl ?_
    obtain ⟨v5, e9, hf⟩ := bS hf
    refine V.xsLen dX7_isWord_18 cl_RX7_211 (Nat.le_of_ble_eq_true rfl) (Nat.le_of_ble_eq_true rfl) e9 ?_
    refine V.icmp_eq (tgt := 26) dX7_isWord_21 (by decide) (fun c6 => ?_) (fun c6 => ?_)
    · rw [if_pos c6] at hf
      refine V.iconst (v := (0 : Int32)) dX7_isWord_26 (by decide) ?_
      refine V.istore_n (lv' := [(2, .int (0 : Int32)), (0, .ref l0), (1, .ref l1)]) dX7_isWord_27 rfl (by decide) rfl ?_
      refine V.sub [1, 2, 0] rfl ?_
      exact w_X7_isWord_28 h _ _ _ _ _ hf
    · rw [if_neg c6] at hf
      refine V.iconst (v := (0 : Int32)) dX7_isWord_24 (by decide) ?_
      obtain rfl := Option.some.inj hf
      exact V.zret dX7_isWord_25 (by first | rfl | assumption)

def f_X7_mayBegin (h : xH) (l0 : Nat) (l1 : Int32) : Option (Int32 × xH) := (gR h l0 7 8).bind fun v1 => (gI h v1 3 1).bind fun v2 => (if v2 = 0 then ((gO h l0 7).bind fun q8 => (f_X7_refuse h l0 (2 : Int32)).bind fun r9 => (if narrow .boolean (.int (r9.1)) = .int (r9.1) then some (r9.1, r9.2) else none)) else ((if l1 = 0 then ((gO h l0 7).bind fun q5 => (f_X7_refuse h l0 (4 : Int32)).bind fun r6 => (if r6.1 = 0 then (some (((0 : Int32), r6.2))) else (some (((1 : Int32), r6.2))))) else (some (((1 : Int32), h))))))
set_option maxRecDepth 20000 in
theorem w_X7_mayBegin (h : xH) (l0 : Nat) (l1 : Int32) (r : Int32 × xH) (hf : f_X7_mayBegin h l0 l1 = some r) : Ev 4 yX7_mayBegin cX7_mayBegin 2 (some .boolean) [] [.ref l0, .int l1] h (oIh r) := by
  refine Ev.of (by decide +kernel) (Nat.le_of_ble_eq_true rfl) ?_
  unfold f_X7_mayBegin at hf
  refine V.aload_n dX7_mayBegin_0 rfl 0 rfl ?_
  obtain ⟨v1, e1, hf⟩ := bS hf
  refine V.xgR dX7_mayBegin_1 fl_RX7_33 e1 ?_
  obtain ⟨v2, e2, hf⟩ := bS hf
  refine V.xgI dX7_mayBegin_4 fl_RX7_124 e2 ?_
  refine V.if_ne (tgt := 16) dX7_mayBegin_7 (by decide) (fun c3 => ?_) (fun c3 => ?_)
  · rw [if_neg c3] at hf
    refine V.iload_n dX7_mayBegin_16 rfl 1 rfl ?_
    refine V.if_ne (tgt := 28) dX7_mayBegin_17 (by decide) (fun c4 => ?_) (fun c4 => ?_)
    · rw [if_neg c4] at hf
      refine V.iconst (v := (1 : Int32)) dX7_mayBegin_28 (by decide) ?_
      refine V.goto (tgt := 33) dX7_mayBegin_29 (by decide) ?_
      obtain rfl := Option.some.inj hf
      exact V.zret dX7_mayBegin_33 (by first | rfl | assumption)
    · rw [if_pos c4] at hf
      refine V.aload_n dX7_mayBegin_20 rfl 0 rfl ?_
      refine V.iconst (v := (4 : Int32)) dX7_mayBegin_21 (by decide) ?_
      obtain ⟨q5, e3, hf⟩ := bS hf
      obtain ⟨r6, e4, hf⟩ := bS hf
      refine V.callV (As := [.int (4 : Int32)]) (st := []) dX7_mayBegin_22 cl_RX7_120 sw_yX7_refuse (by decide) rfl (Nat.le_of_ble_eq_true rfl) rfl (gO_some e3) rfl (w_X7_refuse _ _ _ _ e4) ?_
      refine V.if_eq (tgt := 32) dX7_mayBegin_25 (by decide) (fun c7 => ?_) (fun c7 => ?_)
      · rw [if_pos c7] at hf
        refine V.iconst (v := (0 : Int32)) dX7_mayBegin_32 (by decide) ?_
        obtain rfl := Option.some.inj hf
        exact V.zret dX7_mayBegin_33 (by first | rfl | assumption)
      · rw [if_neg c7] at hf
        refine V.iconst (v := (1 : Int32)) dX7_mayBegin_28 (by decide) ?_
        refine V.goto (tgt := 33) dX7_mayBegin_29 (by decide) ?_
        obtain rfl := Option.some.inj hf
        exact V.zret dX7_mayBegin_33 (by first | rfl | assumption)
  · rw [if_pos c3] at hf
    refine V.aload_n dX7_mayBegin_10 rfl 0 rfl ?_
    refine V.iconst (v := (2 : Int32)) dX7_mayBegin_11 (by decide) ?_
    obtain ⟨q8, e5, hf⟩ := bS hf
    obtain ⟨r9, e6, hf⟩ := bS hf
    refine V.callV (As := [.int (2 : Int32)]) (st := []) dX7_mayBegin_12 cl_RX7_120 sw_yX7_refuse (by decide) rfl (Nat.le_of_ble_eq_true rfl) rfl (gO_some e5) rfl (w_X7_refuse _ _ _ _ e6) ?_
    by_cases c10 : narrow .boolean (.int (r9.1)) = .int (r9.1)
    · rw [if_pos c10] at hf
      obtain rfl := Option.some.inj hf
      exact V.zret dX7_mayBegin_15 c10
    · rw [if_neg c10] at hf
      cases hf

def f_X7_tell (h : xH) (l0 : Nat) (l1 : Int32) : Option (xH) := (gI h l0 7 10).bind fun v1 => (gR h l0 7 9).bind fun v2 => (aln h v2).bind fun v3 => (if v3 ≤ v1 then (some (h)) else ((gR h l0 7 9).bind fun v5 => (gI h l0 7 10).bind fun v6 => (stI h .int v5 v6 l1).bind fun h7 => (gI h7 l0 7 10).bind fun v8 => (pF h7 l0 7 10 (.int (v8 + (1 : Int32)))).bind fun h9 => some (h9)))
set_option maxRecDepth 20000 in
theorem w_X7_tell (h : xH) (l0 : Nat) (l1 : Int32) (r : xH) (hf : f_X7_tell h l0 l1 = some r) : Ev 3 yX7_tell cX7_tell 2 none [] [.ref l0, .int l1] h (oVh r) := by
  refine Ev.of (by decide +kernel) (Nat.le_of_ble_eq_true rfl) ?_
  unfold f_X7_tell at hf
  refine V.aload_n dX7_tell_0 rfl 0 rfl ?_
  obtain ⟨v1, e1, hf⟩ := bS hf
  refine V.xgI dX7_tell_1 fl_RX7_41 e1 ?_
  refine V.aload_n dX7_tell_4 rfl 0 rfl ?_
  obtain ⟨v2, e2, hf⟩ := bS hf
  refine V.xgR dX7_tell_5 fl_RX7_37 e2 ?_
  obtain ⟨v3, e3, hf⟩ := bS hf
  refine V.xaln dX7_tell_8 e3 ?_
  refine V.icmp_ge (tgt := 32) dX7_tell_9 (by decide) (fun c4 => ?_) (fun c4 => ?_)
  · rw [if_pos c4] at hf
    obtain rfl := Option.some.inj hf
    exact V.vret dX7_tell_32
  · rw [if_neg c4] at hf
    refine V.aload_n dX7_tell_12 rfl 0 rfl ?_
    obtain ⟨v5, e4, hf⟩ := bS hf
    refine V.xgR dX7_tell_13 fl_RX7_37 e4 ?_
    refine V.aload_n dX7_tell_16 rfl 0 rfl ?_
    obtain ⟨v6, e5, hf⟩ := bS hf
    refine V.xgI dX7_tell_17 fl_RX7_41 e5 ?_
    refine V.iload_n dX7_tell_20 rfl 1 rfl ?_
    obtain ⟨h7, e6, hf⟩ := bS hf
    refine V.xstI dX7_tell_21 e6 ?_
    refine V.aload_n dX7_tell_22 rfl 0 rfl ?_
    refine V.dup dX7_tell_23 rfl ?_
    obtain ⟨v8, e7, hf⟩ := bS hf
    refine V.xgI dX7_tell_24 fl_RX7_41 e7 ?_
    refine V.iconst (v := (1 : Int32)) dX7_tell_27 (by decide) ?_
    refine V.iadd dX7_tell_28 ?_
    obtain ⟨h9, e8, hf⟩ := bS hf
    refine V.xpF dX7_tell_29 fl_RX7_41 (fun h9 => nomatch h9) (fun _ => rfl) (fun _ => rfl) e8 ?_
    obtain rfl := Option.some.inj hf
    exact V.vret dX7_tell_32

def f_X7_number_30 (h : xH) (l0 : Nat) : Option (Int32 × xH) := (gO h l0 7).bind fun q1 => (f_X7_refuse h l0 (3 : Int32)).bind fun r2 => (if narrow .boolean (.int (r2.1)) = .int (r2.1) then some (r2.1, r2.2) else none)
def f_X7_number (h : xH) (l0 : Nat) (l1 : Int32) (l2 : Int32) : Option (Int32 × xH) := (gI h l0 7 4).bind fun v1 => (if v1 = (2 : Int32) then ((gI h l0 7 7).bind fun v3 => (if v3 < l1 then (f_X7_number_30 h l0) else ((gI h l0 7 7).bind fun v5 => (if v5 ≤ l2 then ((gI h l0 7 7).bind fun v7 => (gO h l0 7).bind fun q8 => (f_X7_tell h l0 v7).bind fun r9 => (gO r9 l0 7).bind fun q10 => (f_X7_advance r9 l0).bind fun r11 => some (((1 : Int32), r11))) else (f_X7_number_30 h l0))))) else ((gO h l0 7).bind fun q12 => (f_X7_refuse h l0 (2 : Int32)).bind fun r13 => (if narrow .boolean (.int (r13.1)) = .int (r13.1) then some (r13.1, r13.2) else none)))
set_option maxRecDepth 20000 in
theorem w_X7_number_30 (h : xH) (l0 : Nat) (r : Int32 × xH) (hf : f_X7_number_30 h l0 = some r) : V 4 yX7_number cX7_number 3 (some .boolean) [] none 30 [(0, .ref l0)] [] h (oIh r) := by
  unfold f_X7_number_30 at hf
  refine V.aload_n dX7_number_30 rfl 0 rfl ?_
  refine V.iconst (v := (3 : Int32)) dX7_number_31 (by decide) ?_
  obtain ⟨q1, e1, hf⟩ := bS hf
  obtain ⟨r2, e2, hf⟩ := bS hf
  refine V.callV (As := [.int (3 : Int32)]) (st := []) dX7_number_32 cl_RX7_120 sw_yX7_refuse (by decide) rfl (Nat.le_of_ble_eq_true rfl) rfl (gO_some e1) rfl (w_X7_refuse _ _ _ _ e2) ?_
  by_cases c3 : narrow .boolean (.int (r2.1)) = .int (r2.1)
  · rw [if_pos c3] at hf
    obtain rfl := Option.some.inj hf
    exact V.zret dX7_number_35 c3
  · rw [if_neg c3] at hf
    cases hf

set_option maxRecDepth 20000 in
theorem w_X7_number (h : xH) (l0 : Nat) (l1 : Int32) (l2 : Int32) (r : Int32 × xH) (hf : f_X7_number h l0 l1 l2 = some r) : Ev 4 yX7_number cX7_number 3 (some .boolean) [] [.ref l0, .int l1, .int l2] h (oIh r) := by
  refine Ev.of (by decide +kernel) (Nat.le_of_ble_eq_true rfl) ?_
  unfold f_X7_number at hf
  refine V.aload_n dX7_number_0 rfl 0 rfl ?_
  obtain ⟨v1, e3, hf⟩ := bS hf
  refine V.xgI dX7_number_1 fl_RX7_18 e3 ?_
  refine V.iconst (v := (2 : Int32)) dX7_number_4 (by decide) ?_
  refine V.icmp_eq (tgt := 14) dX7_number_5 (by decide) (fun c2 => ?_) (fun c2 => ?_)
  · rw [if_pos c2] at hf
    refine V.aload_n dX7_number_14 rfl 0 rfl ?_
    obtain ⟨v3, e4, hf⟩ := bS hf
    refine V.xgI dX7_number_15 fl_RX7_27 e4 ?_
    refine V.iload_n dX7_number_18 rfl 1 rfl ?_
    refine V.icmp_lt (tgt := 30) dX7_number_19 (by decide) (fun c4 => ?_) (fun c4 => ?_)
    · rw [if_pos c4] at hf
      refine V.sub [0] rfl ?_
      exact w_X7_number_30 _ _ _ hf
    · rw [if_neg c4] at hf
      refine V.aload_n dX7_number_22 rfl 0 rfl ?_
      obtain ⟨v5, e5, hf⟩ := bS hf
      refine V.xgI dX7_number_23 fl_RX7_27 e5 ?_
      refine V.iload_n dX7_number_26 rfl 2 rfl ?_
      refine V.icmp_le (tgt := 36) dX7_number_27 (by decide) (fun c6 => ?_) (fun c6 => ?_)
      · rw [if_pos c6] at hf
        refine V.aload_n dX7_number_36 rfl 0 rfl ?_
        refine V.aload_n dX7_number_37 rfl 0 rfl ?_
        obtain ⟨v7, e6, hf⟩ := bS hf
        refine V.xgI dX7_number_38 fl_RX7_27 e6 ?_
        obtain ⟨q8, e7, hf⟩ := bS hf
        obtain ⟨r9, e8, hf⟩ := bS hf
        refine V.callV (As := [.int v7]) (st := []) dX7_number_41 cl_RX7_148 sw_yX7_tell (by decide) rfl (Nat.le_of_ble_eq_true rfl) rfl (gO_some e7) rfl (w_X7_tell _ _ _ _ e8) ?_
        refine V.aload_n dX7_number_44 rfl 0 rfl ?_
        obtain ⟨q10, e9, hf⟩ := bS hf
        obtain ⟨r11, e10, hf⟩ := bS hf
        refine V.callV (As := []) (st := []) dX7_number_45 cl_RX7_57 sw_yX7_advance (by decide) rfl (Nat.le_of_ble_eq_true rfl) rfl (gO_some e9) rfl (w_X7_advance _ _ _ e10) ?_
        refine V.iconst (v := (1 : Int32)) dX7_number_48 (by decide) ?_
        obtain rfl := Option.some.inj hf
        exact V.zret dX7_number_49 (by first | rfl | assumption)
      · rw [if_neg c6] at hf
        refine V.sub [0] rfl ?_
        exact w_X7_number_30 _ _ _ hf
  · rw [if_neg c2] at hf
    refine V.aload_n dX7_number_8 rfl 0 rfl ?_
    refine V.iconst (v := (2 : Int32)) dX7_number_9 (by decide) ?_
    obtain ⟨q12, e11, hf⟩ := bS hf
    obtain ⟨r13, e12, hf⟩ := bS hf
    refine V.callV (As := [.int (2 : Int32)]) (st := []) dX7_number_10 cl_RX7_120 sw_yX7_refuse (by decide) rfl (Nat.le_of_ble_eq_true rfl) rfl (gO_some e11) rfl (w_X7_refuse _ _ _ _ e12) ?_
    by_cases c14 : narrow .boolean (.int (r13.1)) = .int (r13.1)
    · rw [if_pos c14] at hf
      obtain rfl := Option.some.inj hf
      exact V.zret dX7_number_13 c14
    · rw [if_neg c14] at hf
      cases hf

def f_X7_pass (h : xH) (l0 : Nat) (l1 : Nat) : Option (Int32 × xH) := (gO h l0 7).bind fun q1 => (f_X7_isWord h l0 l1).bind fun r2 => (if r2 = 0 then ((gO h l0 7).bind fun q6 => (f_X7_refuse h l0 (2 : Int32)).bind fun r7 => (if narrow .boolean (.int (r7.1)) = .int (r7.1) then some (r7.1, r7.2) else none)) else ((gO h l0 7).bind fun q4 => (f_X7_advance h l0).bind fun r5 => some (((1 : Int32), r5))))
set_option maxRecDepth 20000 in
theorem w_X7_pass (h : xH) (l0 : Nat) (l1 : Nat) (r : Int32 × xH) (hf : f_X7_pass h l0 l1 = some r) : Ev 8 yX7_pass cX7_pass 2 (some .boolean) [] [.ref l0, .ref l1] h (oIh r) := by
  refine Ev.of (by decide +kernel) (Nat.le_of_ble_eq_true rfl) ?_
  unfold f_X7_pass at hf
  refine V.aload_n dX7_pass_0 rfl 0 rfl ?_
  refine V.aload_n dX7_pass_1 rfl 1 rfl ?_
  obtain ⟨q1, e1, hf⟩ := bS hf
  obtain ⟨r2, e2, hf⟩ := bS hf
  refine V.callV (As := [.ref l1]) (st := []) dX7_pass_2 cl_RX7_78 sw_yX7_isWord (by decide) rfl (Nat.le_of_ble_eq_true rfl) rfl (gO_some e1) rfl (w_X7_isWord _ _ _ _ e2) ?_
  refine V.if_ne (tgt := 14) dX7_pass_5 (by decide) (fun c3 => ?_) (fun c3 => ?_)
  · rw [if_neg c3] at hf
    refine V.aload_n dX7_pass_14 rfl 0 rfl ?_
    obtain ⟨q4, e3, hf⟩ := bS hf
    obtain ⟨r5, e4, hf⟩ := bS hf
    refine V.callV (As := []) (st := []) dX7_pass_15 cl_RX7_57 sw_yX7_advance (by decide) rfl (Nat.le_of_ble_eq_true rfl) rfl (gO_some e3) rfl (w_X7_advance _ _ _ e4) ?_
    refine V.iconst (v := (1 : Int32)) dX7_pass_18 (by decide) ?_
    obtain rfl := Option.some.inj hf
    exact V.zret dX7_pass_19 (by first | rfl | assumption)
  · rw [if_pos c3] at hf
    refine V.aload_n dX7_pass_8 rfl 0 rfl ?_
    refine V.iconst (v := (2 : Int32)) dX7_pass_9 (by decide) ?_
    obtain ⟨q6, e5, hf⟩ := bS hf
    obtain ⟨r7, e6, hf⟩ := bS hf
    refine V.callV (As := [.int (2 : Int32)]) (st := []) dX7_pass_10 cl_RX7_120 sw_yX7_refuse (by decide) rfl (Nat.le_of_ble_eq_true rfl) rfl (gO_some e5) rfl (w_X7_refuse _ _ _ _ e6) ?_
    by_cases c8 : narrow .boolean (.int (r7.1)) = .int (r7.1)
    · rw [if_pos c8] at hf
      obtain rfl := Option.some.inj hf
      exact V.zret dX7_pass_13 c8
    · rw [if_neg c8] at hf
      cases hf

def f_X7_readBurns (h : xH) (l0 : Nat) : Option (Int32 × xH) := (gO h l0 7).bind fun q1 => (f_X7_mayBegin h l0 (1 : Int32)).bind fun r2 => (if r2.1 = 0 then (some (((0 : Int32), r2.2))) else ((gO r2.2 l0 7).bind fun q4 => (f_X7_pass r2.2 l0 (xS0 + 2 * 14)).bind fun r5 => (if r5.1 = 0 then (some (((0 : Int32), r5.2))) else ((gO r5.2 l0 7).bind fun q7 => (f_X7_number r5.2 l0 (0 : Int32) (99 : Int32)).bind fun r8 => (if r8.1 = 0 then (some (((0 : Int32), r8.2))) else ((gO r8.2 l0 7).bind fun q10 => (f_X7_pass r8.2 l0 (xS0 + 2 * 15)).bind fun r11 => (if r11.1 = 0 then (some (((0 : Int32), r11.2))) else ((gR r11.2 l0 7 8).bind fun v13 => (gI r11.2 v13 3 1).bind fun v14 => (gO r11.2 l0 7).bind fun q15 => (f_X7_number r11.2 l0 (0 : Int32) (v14 - (1 : Int32))).bind fun r16 => (if r16.1 = 0 then (some (((0 : Int32), r16.2))) else ((gR r16.2 l0 7 8).bind fun v18 => (gR r16.2 v18 3 11).bind fun v19 => (gR r16.2 l0 7 9).bind fun v20 => (ldI r16.2 .int v20 (1 : Int32)).bind fun v21 => (gR r16.2 l0 7 9).bind fun v22 => (ldI r16.2 .int v22 (0 : Int32)).bind fun v23 => (stI r16.2 .int v19 v21 v23).bind fun h24 => some (((1 : Int32), h24))))))))))))
set_option maxRecDepth 20000 in
theorem w_X7_readBurns (h : xH) (l0 : Nat) (r : Int32 × xH) (hf : f_X7_readBurns h l0 = some r) : Ev 9 yX7_readBurns cX7_readBurns 1 (some .boolean) [] [.ref l0] h (oIh r) := by
  refine Ev.of (by decide +kernel) (Nat.le_of_ble_eq_true rfl) ?_
  unfold f_X7_readBurns at hf
  refine V.aload_n dX7_readBurns_0 rfl 0 rfl ?_
  refine V.iconst (v := (1 : Int32)) dX7_readBurns_1 (by decide) ?_
  obtain ⟨q1, e1, hf⟩ := bS hf
  obtain ⟨r2, e2, hf⟩ := bS hf
  refine V.callV (As := [.int (1 : Int32)]) (st := []) dX7_readBurns_2 cl_RX7_136 sw_yX7_mayBegin (by decide) rfl (Nat.le_of_ble_eq_true rfl) rfl (gO_some e1) rfl (w_X7_mayBegin _ _ _ _ e2) ?_
  refine V.if_eq (tgt := 53) dX7_readBurns_5 (by decide) (fun c3 => ?_) (fun c3 => ?_)
  · rw [if_pos c3] at hf
    refine V.iconst (v := (0 : Int32)) dX7_readBurns_53 (by decide) ?_
    obtain rfl := Option.some.inj hf
    exact V.zret dX7_readBurns_54 (by first | rfl | assumption)
  · rw [if_neg c3] at hf
    refine V.aload_n dX7_readBurns_8 rfl 0 rfl ?_
    refine V.ldcS (i := 14) dX7_readBurns_9 (by decide) ?_
    obtain ⟨q4, e3, hf⟩ := bS hf
    obtain ⟨r5, e4, hf⟩ := bS hf
    refine V.callV (As := [.ref (xS0 + 2 * 14)]) (st := []) dX7_readBurns_11 cl_RX7_126 sw_yX7_pass (by decide) rfl (Nat.le_of_ble_eq_true rfl) rfl (gO_some e3) rfl (w_X7_pass _ _ _ _ e4) ?_
    refine V.if_eq (tgt := 53) dX7_readBurns_14 (by decide) (fun c6 => ?_) (fun c6 => ?_)
    · rw [if_pos c6] at hf
      refine V.iconst (v := (0 : Int32)) dX7_readBurns_53 (by decide) ?_
      obtain rfl := Option.some.inj hf
      exact V.zret dX7_readBurns_54 (by first | rfl | assumption)
    · rw [if_neg c6] at hf
      refine V.aload_n dX7_readBurns_17 rfl 0 rfl ?_
      refine V.iconst (v := (0 : Int32)) dX7_readBurns_18 (by decide) ?_
      refine V.bipush (v := (99 : Int32)) dX7_readBurns_19 (by decide) ?_
      obtain ⟨q7, e5, hf⟩ := bS hf
      obtain ⟨r8, e6, hf⟩ := bS hf
      refine V.callV (As := [.int (0 : Int32), .int (99 : Int32)]) (st := []) dX7_readBurns_21 cl_RX7_129 sw_yX7_number (by decide) rfl (Nat.le_of_ble_eq_true rfl) rfl (gO_some e5) rfl (w_X7_number _ _ _ _ _ e6) ?_
      refine V.if_eq (tgt := 53) dX7_readBurns_24 (by decide) (fun c9 => ?_) (fun c9 => ?_)
      · rw [if_pos c9] at hf
        refine V.iconst (v := (0 : Int32)) dX7_readBurns_53 (by decide) ?_
        obtain rfl := Option.some.inj hf
        exact V.zret dX7_readBurns_54 (by first | rfl | assumption)
      · rw [if_neg c9] at hf
        refine V.aload_n dX7_readBurns_27 rfl 0 rfl ?_
        refine V.ldcS (i := 15) dX7_readBurns_28 (by decide) ?_
        obtain ⟨q10, e7, hf⟩ := bS hf
        obtain ⟨r11, e8, hf⟩ := bS hf
        refine V.callV (As := [.ref (xS0 + 2 * 15)]) (st := []) dX7_readBurns_30 cl_RX7_126 sw_yX7_pass (by decide) rfl (Nat.le_of_ble_eq_true rfl) rfl (gO_some e7) rfl (w_X7_pass _ _ _ _ e8) ?_
        refine V.if_eq (tgt := 53) dX7_readBurns_33 (by decide) (fun c12 => ?_) (fun c12 => ?_)
        · rw [if_pos c12] at hf
          refine V.iconst (v := (0 : Int32)) dX7_readBurns_53 (by decide) ?_
          obtain rfl := Option.some.inj hf
          exact V.zret dX7_readBurns_54 (by first | rfl | assumption)
        · rw [if_neg c12] at hf
          refine V.aload_n dX7_readBurns_36 rfl 0 rfl ?_
          refine V.iconst (v := (0 : Int32)) dX7_readBurns_37 (by decide) ?_
          refine V.aload_n dX7_readBurns_38 rfl 0 rfl ?_
          obtain ⟨v13, e9, hf⟩ := bS hf
          refine V.xgR dX7_readBurns_39 fl_RX7_33 e9 ?_
          obtain ⟨v14, e10, hf⟩ := bS hf
          refine V.xgI dX7_readBurns_42 fl_RX7_124 e10 ?_
          refine V.iconst (v := (1 : Int32)) dX7_readBurns_45 (by decide) ?_
          refine V.isub dX7_readBurns_46 ?_
          obtain ⟨q15, e11, hf⟩ := bS hf
          obtain ⟨r16, e12, hf⟩ := bS hf
          refine V.callV (As := [.int (0 : Int32), .int (v14 - (1 : Int32))]) (st := []) dX7_readBurns_47 cl_RX7_129 sw_yX7_number (by decide) rfl (Nat.le_of_ble_eq_true rfl) rfl (gO_some e11) rfl (w_X7_number _ _ _ _ _ e12) ?_
          refine V.if_ne (tgt := 55) dX7_readBurns_50 (by decide) (fun c17 => ?_) (fun c17 => ?_)
          · rw [if_neg c17] at hf
            refine V.aload_n dX7_readBurns_55 rfl 0 rfl ?_
            obtain ⟨v18, e13, hf⟩ := bS hf
            refine V.xgR dX7_readBurns_56 fl_RX7_33 e13 ?_
            obtain ⟨v19, e14, hf⟩ := bS hf
            refine V.rgR dX7_readBurns_59 fl_RX7_194 e14 ?_
            refine V.aload_n dX7_readBurns_62 rfl 0 rfl ?_
            obtain ⟨v20, e15, hf⟩ := bS hf
            refine V.xgR dX7_readBurns_63 fl_RX7_37 e15 ?_
            refine V.iconst (v := (1 : Int32)) dX7_readBurns_66 (by decide) ?_
            obtain ⟨v21, e16, hf⟩ := bS hf
            refine V.xldI dX7_readBurns_67 e16 ?_
            refine V.aload_n dX7_readBurns_68 rfl 0 rfl ?_
            obtain ⟨v22, e17, hf⟩ := bS hf
            refine V.xgR dX7_readBurns_69 fl_RX7_37 e17 ?_
            refine V.iconst (v := (0 : Int32)) dX7_readBurns_72 (by decide) ?_
            obtain ⟨v23, e18, hf⟩ := bS hf
            refine V.xldI dX7_readBurns_73 e18 ?_
            obtain ⟨h24, e19, hf⟩ := bS hf
            refine V.xstI dX7_readBurns_74 e19 ?_
            refine V.iconst (v := (1 : Int32)) dX7_readBurns_75 (by decide) ?_
            obtain rfl := Option.some.inj hf
            exact V.zret dX7_readBurns_76 (by first | rfl | assumption)
          · rw [if_pos c17] at hf
            refine V.iconst (v := (0 : Int32)) dX7_readBurns_53 (by decide) ?_
            obtain rfl := Option.some.inj hf
            exact V.zret dX7_readBurns_54 (by first | rfl | assumption)

def f_X7_readDear (h : xH) (l0 : Nat) : Option (Int32 × xH) := (gO h l0 7).bind fun q1 => (f_X7_pass h l0 (xS0 + 2 * 17)).bind fun r2 => (if r2.1 = 0 then (some (((0 : Int32), r2.2))) else ((gO r2.2 l0 7).bind fun q4 => (f_X7_number r2.2 l0 (0 : Int32) (999 : Int32)).bind fun r5 => (if r5.1 = 0 then (some (((0 : Int32), r5.2))) else ((gR r5.2 l0 7 8).bind fun v7 => (gR r5.2 l0 7 9).bind fun v8 => (ldI r5.2 .int v8 (0 : Int32)).bind fun v9 => (pF r5.2 v7 3 2 (.int v9)).bind fun h10 => some (((1 : Int32), h10))))))
set_option maxRecDepth 20000 in
theorem w_X7_readDear (h : xH) (l0 : Nat) (r : Int32 × xH) (hf : f_X7_readDear h l0 = some r) : Ev 9 yX7_readDear cX7_readDear 1 (some .boolean) [] [.ref l0] h (oIh r) := by
  refine Ev.of (by decide +kernel) (Nat.le_of_ble_eq_true rfl) ?_
  unfold f_X7_readDear at hf
  refine V.aload_n dX7_readDear_0 rfl 0 rfl ?_
  refine V.ldcS (i := 17) dX7_readDear_1 (by decide) ?_
  obtain ⟨q1, e1, hf⟩ := bS hf
  obtain ⟨r2, e2, hf⟩ := bS hf
  refine V.callV (As := [.ref (xS0 + 2 * 17)]) (st := []) dX7_readDear_3 cl_RX7_126 sw_yX7_pass (by decide) rfl (Nat.le_of_ble_eq_true rfl) rfl (gO_some e1) rfl (w_X7_pass _ _ _ _ e2) ?_
  refine V.if_eq (tgt := 20) dX7_readDear_6 (by decide) (fun c3 => ?_) (fun c3 => ?_)
  · rw [if_pos c3] at hf
    refine V.iconst (v := (0 : Int32)) dX7_readDear_20 (by decide) ?_
    obtain rfl := Option.some.inj hf
    exact V.zret dX7_readDear_21 (by first | rfl | assumption)
  · rw [if_neg c3] at hf
    refine V.aload_n dX7_readDear_9 rfl 0 rfl ?_
    refine V.iconst (v := (0 : Int32)) dX7_readDear_10 (by decide) ?_
    refine V.sipush (v := (999 : Int32)) dX7_readDear_11 (by decide) ?_
    obtain ⟨q4, e3, hf⟩ := bS hf
    obtain ⟨r5, e4, hf⟩ := bS hf
    refine V.callV (As := [.int (0 : Int32), .int (999 : Int32)]) (st := []) dX7_readDear_14 cl_RX7_129 sw_yX7_number (by decide) rfl (Nat.le_of_ble_eq_true rfl) rfl (gO_some e3) rfl (w_X7_number _ _ _ _ _ e4) ?_
    refine V.if_ne (tgt := 22) dX7_readDear_17 (by decide) (fun c6 => ?_) (fun c6 => ?_)
    · rw [if_neg c6] at hf
      refine V.aload_n dX7_readDear_22 rfl 0 rfl ?_
      obtain ⟨v7, e5, hf⟩ := bS hf
      refine V.xgR dX7_readDear_23 fl_RX7_33 e5 ?_
      refine V.aload_n dX7_readDear_26 rfl 0 rfl ?_
      obtain ⟨v8, e6, hf⟩ := bS hf
      refine V.xgR dX7_readDear_27 fl_RX7_37 e6 ?_
      refine V.iconst (v := (0 : Int32)) dX7_readDear_30 (by decide) ?_
      obtain ⟨v9, e7, hf⟩ := bS hf
      refine V.xldI dX7_readDear_31 e7 ?_
      obtain ⟨h10, e8, hf⟩ := bS hf
      refine V.xpF dX7_readDear_32 fl_RX7_201 (fun h9 => nomatch h9) (fun _ => rfl) (fun _ => rfl) e8 ?_
      refine V.iconst (v := (1 : Int32)) dX7_readDear_35 (by decide) ?_
      obtain rfl := Option.some.inj hf
      exact V.zret dX7_readDear_36 (by first | rfl | assumption)
    · rw [if_pos c6] at hf
      refine V.iconst (v := (0 : Int32)) dX7_readDear_20 (by decide) ?_
      obtain rfl := Option.some.inj hf
      exact V.zret dX7_readDear_21 (by first | rfl | assumption)

def f_X7_differs (h : xH) (l0 : Nat) : Option (Int32 × xH) := (gI h l0 7 4).bind fun v1 => (if v1 = (2 : Int32) then ((gI h l0 7 7).bind fun v3 => (gR h l0 7 9).bind fun v4 => (ldI h .int v4 (0 : Int32)).bind fun v5 => (if v3 = v5 then ((gO h l0 7).bind fun q7 => (f_X7_refuse h l0 (3 : Int32)).bind fun r8 => (if r8.1 = 0 then (some (((0 : Int32), r8.2))) else (some (((1 : Int32), r8.2))))) else (some (((1 : Int32), h))))) else (some (((1 : Int32), h))))
set_option maxRecDepth 20000 in
theorem w_X7_differs (h : xH) (l0 : Nat) (r : Int32 × xH) (hf : f_X7_differs h l0 = some r) : Ev 4 yX7_differs cX7_differs 1 (some .boolean) [] [.ref l0] h (oIh r) := by
  refine Ev.of (by decide +kernel) (Nat.le_of_ble_eq_true rfl) ?_
  unfold f_X7_differs at hf
  refine V.aload_n dX7_differs_0 rfl 0 rfl ?_
  obtain ⟨v1, e1, hf⟩ := bS hf
  refine V.xgI dX7_differs_1 fl_RX7_18 e1 ?_
  refine V.iconst (v := (2 : Int32)) dX7_differs_4 (by decide) ?_
  refine V.icmp_ne (tgt := 29) dX7_differs_5 (by decide) (fun c2 => ?_) (fun c2 => ?_)
  · rw [if_neg c2] at hf
    refine V.iconst (v := (1 : Int32)) dX7_differs_29 (by decide) ?_
    refine V.goto (tgt := 34) dX7_differs_30 (by decide) ?_
    obtain rfl := Option.some.inj hf
    exact V.zret dX7_differs_34 (by first | rfl | assumption)
  · rw [if_pos c2] at hf
    refine V.aload_n dX7_differs_8 rfl 0 rfl ?_
    obtain ⟨v3, e2, hf⟩ := bS hf
    refine V.xgI dX7_differs_9 fl_RX7_27 e2 ?_
    refine V.aload_n dX7_differs_12 rfl 0 rfl ?_
    obtain ⟨v4, e3, hf⟩ := bS hf
    refine V.xgR dX7_differs_13 fl_RX7_37 e3 ?_
    refine V.iconst (v := (0 : Int32)) dX7_differs_16 (by decide) ?_
    obtain ⟨v5, e4, hf⟩ := bS hf
    refine V.xldI dX7_differs_17 e4 ?_
    refine V.icmp_ne (tgt := 29) dX7_differs_18 (by decide) (fun c6 => ?_) (fun c6 => ?_)
    · rw [if_neg c6] at hf
      refine V.iconst (v := (1 : Int32)) dX7_differs_29 (by decide) ?_
      refine V.goto (tgt := 34) dX7_differs_30 (by decide) ?_
      obtain rfl := Option.some.inj hf
      exact V.zret dX7_differs_34 (by first | rfl | assumption)
    · rw [if_pos c6] at hf
      refine V.aload_n dX7_differs_21 rfl 0 rfl ?_
      refine V.iconst (v := (3 : Int32)) dX7_differs_22 (by decide) ?_
      obtain ⟨q7, e5, hf⟩ := bS hf
      obtain ⟨r8, e6, hf⟩ := bS hf
      refine V.callV (As := [.int (3 : Int32)]) (st := []) dX7_differs_23 cl_RX7_120 sw_yX7_refuse (by decide) rfl (Nat.le_of_ble_eq_true rfl) rfl (gO_some e5) rfl (w_X7_refuse _ _ _ _ e6) ?_
      refine V.if_eq (tgt := 33) dX7_differs_26 (by decide) (fun c9 => ?_) (fun c9 => ?_)
      · rw [if_pos c9] at hf
        refine V.iconst (v := (0 : Int32)) dX7_differs_33 (by decide) ?_
        obtain rfl := Option.some.inj hf
        exact V.zret dX7_differs_34 (by first | rfl | assumption)
      · rw [if_neg c9] at hf
        refine V.iconst (v := (1 : Int32)) dX7_differs_29 (by decide) ?_
        refine V.goto (tgt := 34) dX7_differs_30 (by decide) ?_
        obtain rfl := Option.some.inj hf
        exact V.zret dX7_differs_34 (by first | rfl | assumption)

def f_X7_readHates (h : xH) (l0 : Nat) : Option (Int32 × xH) := (gR h l0 7 8).bind fun v1 => (gI h v1 3 1).bind fun v2 => (gO h l0 7).bind fun q3 => (f_X7_mayBegin h l0 (1 : Int32)).bind fun r4 => (if r4.1 = 0 then (some (((0 : Int32), r4.2))) else ((gO r4.2 l0 7).bind fun q6 => (f_X7_pass r4.2 l0 (xS0 + 2 * 16)).bind fun r7 => (if r7.1 = 0 then (some (((0 : Int32), r7.2))) else ((gO r7.2 l0 7).bind fun q9 => (f_X7_number r7.2 l0 (0 : Int32) (v2 - (1 : Int32))).bind fun r10 => (if r10.1 = 0 then (some (((0 : Int32), r10.2))) else ((gO r10.2 l0 7).bind fun q12 => (f_X7_differs r10.2 l0).bind fun r13 => (if r13.1 = 0 then (some (((0 : Int32), r13.2))) else ((gO r13.2 l0 7).bind fun q15 => (f_X7_number r13.2 l0 (0 : Int32) (v2 - (1 : Int32))).bind fun r16 => (if r16.1 = 0 then (some (((0 : Int32), r16.2))) else ((gR r16.2 l0 7 8).bind fun v18 => (gR r16.2 v18 3 12).bind fun v19 => (gR r16.2 l0 7 9).bind fun v20 => (ldI r16.2 .int v20 (0 : Int32)).bind fun v21 => (ldI r16.2 .int v19 v21).bind fun v22 => (gR r16.2 l0 7 9).bind fun v23 => (ldI r16.2 .int v23 (1 : Int32)).bind fun v24 => (stI r16.2 .int v19 v21 (v22 ||| ((1 : Int32) <<< (v24 &&& 31)))).bind fun h25 => some (((1 : Int32), h25))))))))))))
set_option maxRecDepth 20000 in
theorem w_X7_readHates (h : xH) (l0 : Nat) (r : Int32 × xH) (hf : f_X7_readHates h l0 = some r) : Ev 9 yX7_readHates cX7_readHates 2 (some .boolean) [] [.ref l0] h (oIh r) := by
  refine Ev.of (by decide +kernel) (Nat.le_of_ble_eq_true rfl) ?_
  unfold f_X7_readHates at hf
  refine V.aload_n dX7_readHates_0 rfl 0 rfl ?_
  obtain ⟨v1, e1, hf⟩ := bS hf
  refine V.xgR dX7_readHates_1 fl_RX7_33 e1 ?_
  obtain ⟨v2, e2, hf⟩ := bS hf
  refine V.xgI dX7_readHates_4 fl_RX7_124 e2 ?_
  refine V.iconst (v := (1 : Int32)) dX7_readHates_7 (by decide) ?_
  refine V.isub dX7_readHates_8 ?_
  refine V.istore_n (lv' := [(1, .int (v2 - (1 : Int32))), (0, .ref l0)]) dX7_readHates_9 rfl (by decide) rfl ?_
  refine V.aload_n dX7_readHates_10 rfl 1 rfl ?_
  refine V.iconst (v := (1 : Int32)) dX7_readHates_11 (by decide) ?_
  obtain ⟨q3, e3, hf⟩ := bS hf
  obtain ⟨r4, e4, hf⟩ := bS hf
  refine V.callV (As := [.int (1 : Int32)]) (st := []) dX7_readHates_12 cl_RX7_136 sw_yX7_mayBegin (by decide) rfl (Nat.le_of_ble_eq_true rfl) rfl (gO_some e3) rfl (w_X7_mayBegin _ _ _ _ e4) ?_
  refine V.if_eq (tgt := 52) dX7_readHates_15 (by decide) (fun c5 => ?_) (fun c5 => ?_)
  · rw [if_pos c5] at hf
    refine V.iconst (v := (0 : Int32)) dX7_readHates_52 (by decide) ?_
    obtain rfl := Option.some.inj hf
    exact V.zret dX7_readHates_53 (by first | rfl | assumption)
  · rw [if_neg c5] at hf
    refine V.aload_n dX7_readHates_18 rfl 1 rfl ?_
    refine V.ldcS (i := 16) dX7_readHates_19 (by decide) ?_
    obtain ⟨q6, e5, hf⟩ := bS hf
    obtain ⟨r7, e6, hf⟩ := bS hf
    refine V.callV (As := [.ref (xS0 + 2 * 16)]) (st := []) dX7_readHates_21 cl_RX7_126 sw_yX7_pass (by decide) rfl (Nat.le_of_ble_eq_true rfl) rfl (gO_some e5) rfl (w_X7_pass _ _ _ _ e6) ?_
    refine V.if_eq (tgt := 52) dX7_readHates_24 (by decide) (fun c8 => ?_) (fun c8 => ?_)
    · rw [if_pos c8] at hf
      refine V.iconst (v := (0 : Int32)) dX7_readHates_52 (by decide) ?_
      obtain rfl := Option.some.inj hf
      exact V.zret dX7_readHates_53 (by first | rfl | assumption)
    · rw [if_neg c8] at hf
      refine V.aload_n dX7_readHates_27 rfl 1 rfl ?_
      refine V.iconst (v := (0 : Int32)) dX7_readHates_28 (by decide) ?_
      refine V.iload_n dX7_readHates_29 rfl 0 rfl ?_
      obtain ⟨q9, e7, hf⟩ := bS hf
      obtain ⟨r10, e8, hf⟩ := bS hf
      refine V.callV (As := [.int (0 : Int32), .int (v2 - (1 : Int32))]) (st := []) dX7_readHates_30 cl_RX7_129 sw_yX7_number (by decide) rfl (Nat.le_of_ble_eq_true rfl) rfl (gO_some e7) rfl (w_X7_number _ _ _ _ _ e8) ?_
      refine V.if_eq (tgt := 52) dX7_readHates_33 (by decide) (fun c11 => ?_) (fun c11 => ?_)
      · rw [if_pos c11] at hf
        refine V.iconst (v := (0 : Int32)) dX7_readHates_52 (by decide) ?_
        obtain rfl := Option.some.inj hf
        exact V.zret dX7_readHates_53 (by first | rfl | assumption)
      · rw [if_neg c11] at hf
        refine V.aload_n dX7_readHates_36 rfl 1 rfl ?_
        obtain ⟨q12, e9, hf⟩ := bS hf
        obtain ⟨r13, e10, hf⟩ := bS hf
        refine V.callV (As := []) (st := []) dX7_readHates_37 cl_RX7_196 sw_yX7_differs (by decide) rfl (Nat.le_of_ble_eq_true rfl) rfl (gO_some e9) rfl (w_X7_differs _ _ _ e10) ?_
        refine V.if_eq (tgt := 52) dX7_readHates_40 (by decide) (fun c14 => ?_) (fun c14 => ?_)
        · rw [if_pos c14] at hf
          refine V.iconst (v := (0 : Int32)) dX7_readHates_52 (by decide) ?_
          obtain rfl := Option.some.inj hf
          exact V.zret dX7_readHates_53 (by first | rfl | assumption)
        · rw [if_neg c14] at hf
          refine V.aload_n dX7_readHates_43 rfl 1 rfl ?_
          refine V.iconst (v := (0 : Int32)) dX7_readHates_44 (by decide) ?_
          refine V.iload_n dX7_readHates_45 rfl 0 rfl ?_
          obtain ⟨q15, e11, hf⟩ := bS hf
          obtain ⟨r16, e12, hf⟩ := bS hf
          refine V.callV (As := [.int (0 : Int32), .int (v2 - (1 : Int32))]) (st := []) dX7_readHates_46 cl_RX7_129 sw_yX7_number (by decide) rfl (Nat.le_of_ble_eq_true rfl) rfl (gO_some e11) rfl (w_X7_number _ _ _ _ _ e12) ?_
          refine V.if_ne (tgt := 54) dX7_readHates_49 (by decide) (fun c17 => ?_) (fun c17 => ?_)
          · rw [if_neg c17] at hf
            refine V.aload_n dX7_readHates_54 rfl 1 rfl ?_
            obtain ⟨v18, e13, hf⟩ := bS hf
            refine V.xgR dX7_readHates_55 fl_RX7_33 e13 ?_
            obtain ⟨v19, e14, hf⟩ := bS hf
            refine V.rgR dX7_readHates_58 fl_RX7_199 e14 ?_
            refine V.aload_n dX7_readHates_61 rfl 1 rfl ?_
            obtain ⟨v20, e15, hf⟩ := bS hf
            refine V.xgR dX7_readHates_62 fl_RX7_37 e15 ?_
            refine V.iconst (v := (0 : Int32)) dX7_readHates_65 (by decide) ?_
            obtain ⟨v21, e16, hf⟩ := bS hf
            refine V.xldI dX7_readHates_66 e16 ?_
            refine V.dup2 dX7_readHates_67 rfl rfl ?_
            obtain ⟨v22, e17, hf⟩ := bS hf
            refine V.xldI dX7_readHates_68 e17 ?_
            refine V.iconst (v := (1 : Int32)) dX7_readHates_69 (by decide) ?_
            refine V.aload_n dX7_readHates_70 rfl 1 rfl ?_
            obtain ⟨v23, e18, hf⟩ := bS hf
            refine V.xgR dX7_readHates_71 fl_RX7_37 e18 ?_
            refine V.iconst (v := (1 : Int32)) dX7_readHates_74 (by decide) ?_
            obtain ⟨v24, e19, hf⟩ := bS hf
            refine V.xldI dX7_readHates_75 e19 ?_
            refine V.ishl dX7_readHates_76 ?_
            refine V.ior dX7_readHates_77 ?_
            obtain ⟨h25, e20, hf⟩ := bS hf
            refine V.xstI dX7_readHates_78 e20 ?_
            refine V.iconst (v := (1 : Int32)) dX7_readHates_79 (by decide) ?_
            obtain rfl := Option.some.inj hf
            exact V.zret dX7_readHates_80 (by first | rfl | assumption)
          · rw [if_pos c17] at hf
            refine V.iconst (v := (0 : Int32)) dX7_readHates_52 (by decide) ?_
            obtain rfl := Option.some.inj hf
            exact V.zret dX7_readHates_53 (by first | rfl | assumption)

def f_X7_keep (h : xH) (l0 : Nat) (l1 : Nat) (l2 : Int32) (l3 : Int32) : Option (xH) := (gR h l0 7 9).bind fun v1 => (cpI h v1 (0 : Int32) l1 l2 l3).bind fun h2 => some (h2)
set_option maxRecDepth 20000 in
theorem w_X7_keep (h : xH) (l0 : Nat) (l1 : Nat) (l2 : Int32) (l3 : Int32) (r : xH) (hf : f_X7_keep h l0 l1 l2 l3 = some r) : Ev 4 yX7_keep cX7_keep 4 none [] [.ref l0, .ref l1, .int l2, .int l3] h (oVh r) := by
  refine Ev.of (by decide +kernel) (Nat.le_of_ble_eq_true rfl) ?_
  unfold f_X7_keep at hf
  refine V.aload_n dX7_keep_0 rfl 0 rfl ?_
  obtain ⟨v1, e1, hf⟩ := bS hf
  refine V.xgR dX7_keep_1 fl_RX7_37 e1 ?_
  refine V.iconst (v := (0 : Int32)) dX7_keep_4 (by decide) ?_
  refine V.aload_n dX7_keep_5 rfl 1 rfl ?_
  refine V.iload_n dX7_keep_6 rfl 2 rfl ?_
  refine V.iload_n dX7_keep_7 rfl 3 rfl ?_
  obtain ⟨h2, e2, hf⟩ := bS hf
  refine V.xcpI dX7_keep_8 ac_RX7_205 ac_nat ac_st ac_in (Nat.le_of_ble_eq_true rfl) e2 ?_
  obtain rfl := Option.some.inj hf
  exact V.vret dX7_keep_11

def f_X7_passIf (h : xH) (l0 : Nat) (l1 : Nat) : Option (Int32 × xH) := (gO h l0 7).bind fun q1 => (f_X7_isWord h l0 l1).bind fun r2 => (if r2 = 0 then (some (((0 : Int32), h))) else ((gO h l0 7).bind fun q4 => (f_X7_advance h l0).bind fun r5 => some (((1 : Int32), r5))))
set_option maxRecDepth 20000 in
theorem w_X7_passIf (h : xH) (l0 : Nat) (l1 : Nat) (r : Int32 × xH) (hf : f_X7_passIf h l0 l1 = some r) : Ev 8 yX7_passIf cX7_passIf 2 (some .boolean) [] [.ref l0, .ref l1] h (oIh r) := by
  refine Ev.of (by decide +kernel) (Nat.le_of_ble_eq_true rfl) ?_
  unfold f_X7_passIf at hf
  refine V.aload_n dX7_passIf_0 rfl 0 rfl ?_
  refine V.aload_n dX7_passIf_1 rfl 1 rfl ?_
  obtain ⟨q1, e1, hf⟩ := bS hf
  obtain ⟨r2, e2, hf⟩ := bS hf
  refine V.callV (As := [.ref l1]) (st := []) dX7_passIf_2 cl_RX7_78 sw_yX7_isWord (by decide) rfl (Nat.le_of_ble_eq_true rfl) rfl (gO_some e1) rfl (w_X7_isWord _ _ _ _ e2) ?_
  refine V.if_ne (tgt := 10) dX7_passIf_5 (by decide) (fun c3 => ?_) (fun c3 => ?_)
  · rw [if_neg c3] at hf
    refine V.aload_n dX7_passIf_10 rfl 0 rfl ?_
    obtain ⟨q4, e3, hf⟩ := bS hf
    obtain ⟨r5, e4, hf⟩ := bS hf
    refine V.callV (As := []) (st := []) dX7_passIf_11 cl_RX7_57 sw_yX7_advance (by decide) rfl (Nat.le_of_ble_eq_true rfl) rfl (gO_some e3) rfl (w_X7_advance _ _ _ e4) ?_
    refine V.iconst (v := (1 : Int32)) dX7_passIf_14 (by decide) ?_
    obtain rfl := Option.some.inj hf
    exact V.zret dX7_passIf_15 (by first | rfl | assumption)
  · rw [if_pos c3] at hf
    refine V.iconst (v := (0 : Int32)) dX7_passIf_8 (by decide) ?_
    obtain rfl := Option.some.inj hf
    exact V.zret dX7_passIf_9 (by first | rfl | assumption)

def f_X7_passage (h : xH) (l0 : Nat) : Option (Int32 × xH) := (gR h l0 7 8).bind fun v1 => (gI h v1 3 1).bind fun v2 => (gO h l0 7).bind fun q3 => (f_X7_number h l0 (0 : Int32) (v2 - (1 : Int32))).bind fun r4 => (if r4.1 = 0 then (some (((0 : Int32), r4.2))) else ((gO r4.2 l0 7).bind fun q6 => (f_X7_pass r4.2 l0 (xS0 + 2 * 2)).bind fun r7 => (if r7.1 = 0 then (some (((0 : Int32), r7.2))) else ((gO r7.2 l0 7).bind fun q9 => (f_X7_differs r7.2 l0).bind fun r10 => (if r10.1 = 0 then (some (((0 : Int32), r10.2))) else ((gO r10.2 l0 7).bind fun q12 => (f_X7_number r10.2 l0 (0 : Int32) (v2 - (1 : Int32))).bind fun r13 => (if r13.1 = 0 then (some (((0 : Int32), r13.2))) else ((gO r13.2 l0 7).bind fun q15 => (f_X7_pass r13.2 l0 (xS0 + 2 * 3)).bind fun r16 => (if r16.1 = 0 then (some (((0 : Int32), r16.2))) else ((gO r16.2 l0 7).bind fun q18 => (f_X7_number r16.2 l0 (1 : Int32) (100 : Int32)).bind fun r19 => (if r19.1 = 0 then (some (((0 : Int32), r19.2))) else (some (((1 : Int32), r19.2))))))))))))))
set_option maxRecDepth 20000 in
theorem w_X7_passage (h : xH) (l0 : Nat) (r : Int32 × xH) (hf : f_X7_passage h l0 = some r) : Ev 9 yX7_passage cX7_passage 2 (some .boolean) [] [.ref l0] h (oIh r) := by
  refine Ev.of (by decide +kernel) (Nat.le_of_ble_eq_true rfl) ?_
  unfold f_X7_passage at hf
  refine V.aload_n dX7_passage_0 rfl 0 rfl ?_
  obtain ⟨v1, e1, hf⟩ := bS hf
  refine V.xgR dX7_passage_1 fl_RX7_33 e1 ?_
  obtain ⟨v2, e2, hf⟩ := bS hf
  refine V.xgI dX7_passage_4 fl_RX7_124 e2 ?_
  refine V.iconst (v := (1 : Int32)) dX7_passage_7 (by decide) ?_
  refine V.isub dX7_passage_8 ?_
  refine V.istore_n (lv' := [(1, .int (v2 - (1 : Int32))), (0, .ref l0)]) dX7_passage_9 rfl (by decide) rfl ?_
  refine V.aload_n dX7_passage_10 rfl 1 rfl ?_
  refine V.iconst (v := (0 : Int32)) dX7_passage_11 (by decide) ?_
  refine V.iload_n dX7_passage_12 rfl 0 rfl ?_
  obtain ⟨q3, e3, hf⟩ := bS hf
  obtain ⟨r4, e4, hf⟩ := bS hf
  refine V.callV (As := [.int (0 : Int32), .int (v2 - (1 : Int32))]) (st := []) dX7_passage_13 cl_RX7_129 sw_yX7_number (by decide) rfl (Nat.le_of_ble_eq_true rfl) rfl (gO_some e3) rfl (w_X7_number _ _ _ _ _ e4) ?_
  refine V.if_eq (tgt := 67) dX7_passage_16 (by decide) (fun c5 => ?_) (fun c5 => ?_)
  · rw [if_pos c5] at hf
    refine V.iconst (v := (0 : Int32)) dX7_passage_67 (by decide) ?_
    obtain rfl := Option.some.inj hf
    exact V.zret dX7_passage_68 (by first | rfl | assumption)
  · rw [if_neg c5] at hf
    refine V.aload_n dX7_passage_19 rfl 1 rfl ?_
    refine V.ldcS (i := 2) dX7_passage_20 (by decide) ?_
    obtain ⟨q6, e5, hf⟩ := bS hf
    obtain ⟨r7, e6, hf⟩ := bS hf
    refine V.callV (As := [.ref (xS0 + 2 * 2)]) (st := []) dX7_passage_22 cl_RX7_126 sw_yX7_pass (by decide) rfl (Nat.le_of_ble_eq_true rfl) rfl (gO_some e5) rfl (w_X7_pass _ _ _ _ e6) ?_
    refine V.if_eq (tgt := 67) dX7_passage_25 (by decide) (fun c8 => ?_) (fun c8 => ?_)
    · rw [if_pos c8] at hf
      refine V.iconst (v := (0 : Int32)) dX7_passage_67 (by decide) ?_
      obtain rfl := Option.some.inj hf
      exact V.zret dX7_passage_68 (by first | rfl | assumption)
    · rw [if_neg c8] at hf
      refine V.aload_n dX7_passage_28 rfl 1 rfl ?_
      obtain ⟨q9, e7, hf⟩ := bS hf
      obtain ⟨r10, e8, hf⟩ := bS hf
      refine V.callV (As := []) (st := []) dX7_passage_29 cl_RX7_196 sw_yX7_differs (by decide) rfl (Nat.le_of_ble_eq_true rfl) rfl (gO_some e7) rfl (w_X7_differs _ _ _ e8) ?_
      refine V.if_eq (tgt := 67) dX7_passage_32 (by decide) (fun c11 => ?_) (fun c11 => ?_)
      · rw [if_pos c11] at hf
        refine V.iconst (v := (0 : Int32)) dX7_passage_67 (by decide) ?_
        obtain rfl := Option.some.inj hf
        exact V.zret dX7_passage_68 (by first | rfl | assumption)
      · rw [if_neg c11] at hf
        refine V.aload_n dX7_passage_35 rfl 1 rfl ?_
        refine V.iconst (v := (0 : Int32)) dX7_passage_36 (by decide) ?_
        refine V.iload_n dX7_passage_37 rfl 0 rfl ?_
        obtain ⟨q12, e9, hf⟩ := bS hf
        obtain ⟨r13, e10, hf⟩ := bS hf
        refine V.callV (As := [.int (0 : Int32), .int (v2 - (1 : Int32))]) (st := []) dX7_passage_38 cl_RX7_129 sw_yX7_number (by decide) rfl (Nat.le_of_ble_eq_true rfl) rfl (gO_some e9) rfl (w_X7_number _ _ _ _ _ e10) ?_
        refine V.if_eq (tgt := 67) dX7_passage_41 (by decide) (fun c14 => ?_) (fun c14 => ?_)
        · rw [if_pos c14] at hf
          refine V.iconst (v := (0 : Int32)) dX7_passage_67 (by decide) ?_
          obtain rfl := Option.some.inj hf
          exact V.zret dX7_passage_68 (by first | rfl | assumption)
        · rw [if_neg c14] at hf
          refine V.aload_n dX7_passage_44 rfl 1 rfl ?_
          refine V.ldcS (i := 3) dX7_passage_45 (by decide) ?_
          obtain ⟨q15, e11, hf⟩ := bS hf
          obtain ⟨r16, e12, hf⟩ := bS hf
          refine V.callV (As := [.ref (xS0 + 2 * 3)]) (st := []) dX7_passage_47 cl_RX7_126 sw_yX7_pass (by decide) rfl (Nat.le_of_ble_eq_true rfl) rfl (gO_some e11) rfl (w_X7_pass _ _ _ _ e12) ?_
          refine V.if_eq (tgt := 67) dX7_passage_50 (by decide) (fun c17 => ?_) (fun c17 => ?_)
          · rw [if_pos c17] at hf
            refine V.iconst (v := (0 : Int32)) dX7_passage_67 (by decide) ?_
            obtain rfl := Option.some.inj hf
            exact V.zret dX7_passage_68 (by first | rfl | assumption)
          · rw [if_neg c17] at hf
            refine V.aload_n dX7_passage_53 rfl 1 rfl ?_
            refine V.iconst (v := (1 : Int32)) dX7_passage_54 (by decide) ?_
            refine V.bipush (v := (100 : Int32)) dX7_passage_55 (by decide) ?_
            obtain ⟨q18, e13, hf⟩ := bS hf
            obtain ⟨r19, e14, hf⟩ := bS hf
            refine V.callV (As := [.int (1 : Int32), .int (100 : Int32)]) (st := []) dX7_passage_57 cl_RX7_129 sw_yX7_number (by decide) rfl (Nat.le_of_ble_eq_true rfl) rfl (gO_some e13) rfl (w_X7_number _ _ _ _ _ e14) ?_
            refine V.if_eq (tgt := 67) dX7_passage_60 (by decide) (fun c20 => ?_) (fun c20 => ?_)
            · rw [if_pos c20] at hf
              refine V.iconst (v := (0 : Int32)) dX7_passage_67 (by decide) ?_
              obtain rfl := Option.some.inj hf
              exact V.zret dX7_passage_68 (by first | rfl | assumption)
            · rw [if_neg c20] at hf
              refine V.iconst (v := (1 : Int32)) dX7_passage_63 (by decide) ?_
              refine V.goto (tgt := 68) dX7_passage_64 (by decide) ?_
              obtain rfl := Option.some.inj hf
              exact V.zret dX7_passage_68 (by first | rfl | assumption)

def f_X7_readHole_76 (h : xH) (l0 : Nat) (s0 : Int32) (s1 : Nat) : Option (Int32 × xH) := (gO h s1 7).bind fun q1 => (f_X7_tell h s1 s0).bind fun r2 => (gR r2 l0 7 8).bind fun v3 => (gR r2 v3 3 10).bind fun v4 => (gR r2 l0 7 8).bind fun v5 => (gI r2 v5 3 6).bind fun v6 => (gO r2 l0 7).bind fun q7 => (f_X7_keep r2 l0 v4 (v6 * (5 : Int32)) (5 : Int32)).bind fun r8 => (gR r8 l0 7 8).bind fun v9 => (gI r8 v9 3 6).bind fun v10 => (pF r8 v9 3 6 (.int (v10 + (1 : Int32)))).bind fun h11 => some (((1 : Int32), h11))
def f_X7_readHole_18 (h : xH) (l0 : Nat) (s0 : Int32) (s1 : Nat) : Option (Int32 × xH) := (gO h s1 7).bind fun q1 => (f_X7_mayBegin h s1 s0).bind fun r2 => (if r2.1 = 0 then (some (((0 : Int32), r2.2))) else ((gO r2.2 l0 7).bind fun q4 => (f_X7_pass r2.2 l0 (xS0 + 2 * 12)).bind fun r5 => (if r5.1 = 0 then (some (((0 : Int32), r5.2))) else ((gO r5.2 l0 7).bind fun q7 => (f_X7_passage r5.2 l0).bind fun r8 => (if r8.1 = 0 then (some (((0 : Int32), r8.2))) else ((gO r8.2 l0 7).bind fun q10 => (f_X7_pass r8.2 l0 (xS0 + 2 * 13)).bind fun r11 => (if r11.1 = 0 then (some (((0 : Int32), r11.2))) else ((gO r11.2 l0 7).bind fun q13 => (f_X7_number r11.2 l0 (0 : Int32) (99 : Int32)).bind fun r14 => (if r14.1 = 0 then (some (((0 : Int32), r14.2))) else ((gO r14.2 l0 7).bind fun q16 => (f_X7_passIf r14.2 l0 (xS0 + 2 * 4)).bind fun r17 => (if r17.1 = 0 then (f_X7_readHole_76 r17.2 l0 (0 : Int32) l0) else (f_X7_readHole_76 r17.2 l0 (1 : Int32) l0))))))))))))
def f_X7_readHole (h : xH) (l0 : Nat) : Option (Int32 × xH) := (gR h l0 7 8).bind fun v1 => (gI h v1 3 6).bind fun v2 => (if (8 : Int32) ≤ v2 then (f_X7_readHole_18 h l0 (0 : Int32) l0) else (f_X7_readHole_18 h l0 (1 : Int32) l0))
set_option maxRecDepth 20000 in
theorem w_X7_readHole_76 (h : xH) (l0 : Nat) (s0 : Int32) (s1 : Nat) (r : Int32 × xH) (hf : f_X7_readHole_76 h l0 s0 s1 = some r) : V 10 yX7_readHole cX7_readHole 1 (some .boolean) [] none 76 [(0, .ref l0)] [.int s0, .ref s1] h (oIh r) := by
  unfold f_X7_readHole_76 at hf
  obtain ⟨q1, e1, hf⟩ := bS hf
  obtain ⟨r2, e2, hf⟩ := bS hf
  refine V.callV (As := [.int s0]) (st := []) dX7_readHole_76 cl_RX7_148 sw_yX7_tell (by decide) rfl (Nat.le_of_ble_eq_true rfl) rfl (gO_some e1) rfl (w_X7_tell _ _ _ _ e2) ?_
  refine V.aload_n dX7_readHole_79 rfl 0 rfl ?_
  refine V.aload_n dX7_readHole_80 rfl 0 rfl ?_
  obtain ⟨v3, e3, hf⟩ := bS hf
  refine V.xgR dX7_readHole_81 fl_RX7_33 e3 ?_
  obtain ⟨v4, e4, hf⟩ := bS hf
  refine V.rgR dX7_readHole_84 fl_RX7_189 e4 ?_
  refine V.aload_n dX7_readHole_87 rfl 0 rfl ?_
  obtain ⟨v5, e5, hf⟩ := bS hf
  refine V.xgR dX7_readHole_88 fl_RX7_33 e5 ?_
  obtain ⟨v6, e6, hf⟩ := bS hf
  refine V.xgI dX7_readHole_91 fl_RX7_184 e6 ?_
  refine V.iconst (v := (5 : Int32)) dX7_readHole_94 (by decide) ?_
  refine V.imul dX7_readHole_95 ?_
  refine V.iconst (v := (5 : Int32)) dX7_readHole_96 (by decide) ?_
  obtain ⟨q7, e7, hf⟩ := bS hf
  obtain ⟨r8, e8, hf⟩ := bS hf
  refine V.callV (As := [.ref v4, .int (v6 * (5 : Int32)), .int (5 : Int32)]) (st := []) dX7_readHole_97 cl_RX7_155 sw_yX7_keep (by decide) rfl (Nat.le_of_ble_eq_true rfl) rfl (gO_some e7) rfl (w_X7_keep _ _ _ _ _ _ e8) ?_
  refine V.aload_n dX7_readHole_100 rfl 0 rfl ?_
  obtain ⟨v9, e9, hf⟩ := bS hf
  refine V.xgR dX7_readHole_101 fl_RX7_33 e9 ?_
  refine V.dup dX7_readHole_104 rfl ?_
  obtain ⟨v10, e10, hf⟩ := bS hf
  refine V.xgI dX7_readHole_105 fl_RX7_184 e10 ?_
  refine V.iconst (v := (1 : Int32)) dX7_readHole_108 (by decide) ?_
  refine V.iadd dX7_readHole_109 ?_
  obtain ⟨h11, e11, hf⟩ := bS hf
  refine V.xpF dX7_readHole_110 fl_RX7_184 (fun h9 => nomatch h9) (fun _ => rfl) (fun _ => rfl) e11 ?_
  refine V.iconst (v := (1 : Int32)) dX7_readHole_113 (by decide) ?_
  obtain rfl := Option.some.inj hf
  exact V.zret dX7_readHole_114 (by first | rfl | assumption)

set_option maxRecDepth 20000 in
theorem w_X7_readHole_18 (h : xH) (l0 : Nat) (s0 : Int32) (s1 : Nat) (r : Int32 × xH) (hf : f_X7_readHole_18 h l0 s0 s1 = some r) : V 10 yX7_readHole cX7_readHole 1 (some .boolean) [] none 18 [(0, .ref l0)] [.int s0, .ref s1] h (oIh r) := by
  unfold f_X7_readHole_18 at hf
  obtain ⟨q1, e12, hf⟩ := bS hf
  obtain ⟨r2, e13, hf⟩ := bS hf
  refine V.callV (As := [.int s0]) (st := []) dX7_readHole_18 cl_RX7_136 sw_yX7_mayBegin (by decide) rfl (Nat.le_of_ble_eq_true rfl) rfl (gO_some e12) rfl (w_X7_mayBegin _ _ _ _ e13) ?_
  refine V.if_eq (tgt := 59) dX7_readHole_21 (by decide) (fun c3 => ?_) (fun c3 => ?_)
  · rw [if_pos c3] at hf
    refine V.iconst (v := (0 : Int32)) dX7_readHole_59 (by decide) ?_
    obtain rfl := Option.some.inj hf
    exact V.zret dX7_readHole_60 (by first | rfl | assumption)
  · rw [if_neg c3] at hf
    refine V.aload_n dX7_readHole_24 rfl 0 rfl ?_
    refine V.ldcS (i := 12) dX7_readHole_25 (by decide) ?_
    obtain ⟨q4, e14, hf⟩ := bS hf
    obtain ⟨r5, e15, hf⟩ := bS hf
    refine V.callV (As := [.ref (xS0 + 2 * 12)]) (st := []) dX7_readHole_27 cl_RX7_126 sw_yX7_pass (by decide) rfl (Nat.le_of_ble_eq_true rfl) rfl (gO_some e14) rfl (w_X7_pass _ _ _ _ e15) ?_
    refine V.if_eq (tgt := 59) dX7_readHole_30 (by decide) (fun c6 => ?_) (fun c6 => ?_)
    · rw [if_pos c6] at hf
      refine V.iconst (v := (0 : Int32)) dX7_readHole_59 (by decide) ?_
      obtain rfl := Option.some.inj hf
      exact V.zret dX7_readHole_60 (by first | rfl | assumption)
    · rw [if_neg c6] at hf
      refine V.aload_n dX7_readHole_33 rfl 0 rfl ?_
      obtain ⟨q7, e16, hf⟩ := bS hf
      obtain ⟨r8, e17, hf⟩ := bS hf
      refine V.callV (As := []) (st := []) dX7_readHole_34 cl_RX7_140 sw_yX7_passage (by decide) rfl (Nat.le_of_ble_eq_true rfl) rfl (gO_some e16) rfl (w_X7_passage _ _ _ e17) ?_
      refine V.if_eq (tgt := 59) dX7_readHole_37 (by decide) (fun c9 => ?_) (fun c9 => ?_)
      · rw [if_pos c9] at hf
        refine V.iconst (v := (0 : Int32)) dX7_readHole_59 (by decide) ?_
        obtain rfl := Option.some.inj hf
        exact V.zret dX7_readHole_60 (by first | rfl | assumption)
      · rw [if_neg c9] at hf
        refine V.aload_n dX7_readHole_40 rfl 0 rfl ?_
        refine V.ldcS (i := 13) dX7_readHole_41 (by decide) ?_
        obtain ⟨q10, e18, hf⟩ := bS hf
        obtain ⟨r11, e19, hf⟩ := bS hf
        refine V.callV (As := [.ref (xS0 + 2 * 13)]) (st := []) dX7_readHole_43 cl_RX7_126 sw_yX7_pass (by decide) rfl (Nat.le_of_ble_eq_true rfl) rfl (gO_some e18) rfl (w_X7_pass _ _ _ _ e19) ?_
        refine V.if_eq (tgt := 59) dX7_readHole_46 (by decide) (fun c12 => ?_) (fun c12 => ?_)
        · rw [if_pos c12] at hf
          refine V.iconst (v := (0 : Int32)) dX7_readHole_59 (by decide) ?_
          obtain rfl := Option.some.inj hf
          exact V.zret dX7_readHole_60 (by first | rfl | assumption)
        · rw [if_neg c12] at hf
          refine V.aload_n dX7_readHole_49 rfl 0 rfl ?_
          refine V.iconst (v := (0 : Int32)) dX7_readHole_50 (by decide) ?_
          refine V.bipush (v := (99 : Int32)) dX7_readHole_51 (by decide) ?_
          obtain ⟨q13, e20, hf⟩ := bS hf
          obtain ⟨r14, e21, hf⟩ := bS hf
          refine V.callV (As := [.int (0 : Int32), .int (99 : Int32)]) (st := []) dX7_readHole_53 cl_RX7_129 sw_yX7_number (by decide) rfl (Nat.le_of_ble_eq_true rfl) rfl (gO_some e20) rfl (w_X7_number _ _ _ _ _ e21) ?_
          refine V.if_ne (tgt := 61) dX7_readHole_56 (by decide) (fun c15 => ?_) (fun c15 => ?_)
          · rw [if_neg c15] at hf
            refine V.aload_n dX7_readHole_61 rfl 0 rfl ?_
            refine V.aload_n dX7_readHole_62 rfl 0 rfl ?_
            refine V.ldcS (i := 4) dX7_readHole_63 (by decide) ?_
            obtain ⟨q16, e22, hf⟩ := bS hf
            obtain ⟨r17, e23, hf⟩ := bS hf
            refine V.callV (As := [.ref (xS0 + 2 * 4)]) (st := [.ref l0]) dX7_readHole_65 cl_RX7_145 sw_yX7_passIf (by decide) rfl (Nat.le_of_ble_eq_true rfl) rfl (gO_some e22) rfl (w_X7_passIf _ _ _ _ e23) ?_
            refine V.if_eq (tgt := 75) dX7_readHole_68 (by decide) (fun c18 => ?_) (fun c18 => ?_)
            · rw [if_pos c18] at hf
              refine V.iconst (v := (0 : Int32)) dX7_readHole_75 (by decide) ?_
              exact w_X7_readHole_76 _ _ _ _ _ hf
            · rw [if_neg c18] at hf
              refine V.iconst (v := (1 : Int32)) dX7_readHole_71 (by decide) ?_
              refine V.goto (tgt := 76) dX7_readHole_72 (by decide) ?_
              exact w_X7_readHole_76 _ _ _ _ _ hf
          · rw [if_pos c15] at hf
            refine V.iconst (v := (0 : Int32)) dX7_readHole_59 (by decide) ?_
            obtain rfl := Option.some.inj hf
            exact V.zret dX7_readHole_60 (by first | rfl | assumption)

set_option maxRecDepth 20000 in
theorem w_X7_readHole (h : xH) (l0 : Nat) (r : Int32 × xH) (hf : f_X7_readHole h l0 = some r) : Ev 10 yX7_readHole cX7_readHole 1 (some .boolean) [] [.ref l0] h (oIh r) := by
  refine Ev.of (by decide +kernel) (Nat.le_of_ble_eq_true rfl) ?_
  unfold f_X7_readHole at hf
  refine V.aload_n dX7_readHole_0 rfl 0 rfl ?_
  refine V.aload_n dX7_readHole_1 rfl 0 rfl ?_
  obtain ⟨v1, e24, hf⟩ := bS hf
  refine V.xgR dX7_readHole_2 fl_RX7_33 e24 ?_
  obtain ⟨v2, e25, hf⟩ := bS hf
  refine V.xgI dX7_readHole_5 fl_RX7_184 e25 ?_
  refine V.bipush (v := (8 : Int32)) dX7_readHole_8 (by decide) ?_
  refine V.icmp_ge (tgt := 17) dX7_readHole_10 (by decide) (fun c3 => ?_) (fun c3 => ?_)
  · rw [if_pos c3] at hf
    refine V.iconst (v := (0 : Int32)) dX7_readHole_17 (by decide) ?_
    exact w_X7_readHole_18 _ _ _ _ _ hf
  · rw [if_neg c3] at hf
    refine V.iconst (v := (1 : Int32)) dX7_readHole_13 (by decide) ?_
    refine V.goto (tgt := 18) dX7_readHole_14 (by decide) ?_
    exact w_X7_readHole_18 _ _ _ _ _ hf

def f_X7_readLamp (h : xH) (l0 : Nat) : Option (Int32 × xH) := (gR h l0 7 8).bind fun v1 => (gI h v1 3 4).bind fun v2 => (if v2 < (4 : Int32) then ((gO h l0 7).bind fun q4 => (f_X7_pass h l0 (xS0 + 2 * 5)).bind fun r5 => (if r5.1 = 0 then (some (((0 : Int32), r5.2))) else ((gO r5.2 l0 7).bind fun q7 => (f_X7_pass r5.2 l0 (xS0 + 2 * 6)).bind fun r8 => (if r8.1 = 0 then (some (((0 : Int32), r8.2))) else ((gO r8.2 l0 7).bind fun q10 => (f_X7_number r8.2 l0 (1 : Int32) (999 : Int32)).bind fun r11 => (if r11.1 = 0 then (some (((0 : Int32), r11.2))) else ((gO r11.2 l0 7).bind fun q13 => (f_X7_pass r11.2 l0 (xS0 + 2 * 7)).bind fun r14 => (if r14.1 = 0 then (some (((0 : Int32), r14.2))) else ((gO r14.2 l0 7).bind fun q16 => (f_X7_number r14.2 l0 (0 : Int32) (99 : Int32)).bind fun r17 => (if r17.1 = 0 then (some (((0 : Int32), r17.2))) else ((gR r17.2 l0 7 8).bind fun v19 => (gR r17.2 v19 3 8).bind fun v20 => (gR r17.2 l0 7 8).bind fun v21 => (gI r17.2 v21 3 4).bind fun v22 => (gO r17.2 l0 7).bind fun q23 => (f_X7_keep r17.2 l0 v20 (v22 * (2 : Int32)) (2 : Int32)).bind fun r24 => (gR r24 l0 7 8).bind fun v25 => (gI r24 v25 3 4).bind fun v26 => (pF r24 v25 3 4 (.int (v26 + (1 : Int32)))).bind fun h27 => some (((1 : Int32), h27))))))))))))) else ((gO h l0 7).bind fun q28 => (f_X7_refuse h l0 (4 : Int32)).bind fun r29 => (if narrow .boolean (.int (r29.1)) = .int (r29.1) then some (r29.1, r29.2) else none)))
set_option maxRecDepth 20000 in
theorem w_X7_readLamp (h : xH) (l0 : Nat) (r : Int32 × xH) (hf : f_X7_readLamp h l0 = some r) : Ev 9 yX7_readLamp cX7_readLamp 1 (some .boolean) [] [.ref l0] h (oIh r) := by
  refine Ev.of (by decide +kernel) (Nat.le_of_ble_eq_true rfl) ?_
  unfold f_X7_readLamp at hf
  refine V.aload_n dX7_readLamp_0 rfl 0 rfl ?_
  obtain ⟨v1, e1, hf⟩ := bS hf
  refine V.xgR dX7_readLamp_1 fl_RX7_33 e1 ?_
  obtain ⟨v2, e2, hf⟩ := bS hf
  refine V.xgI dX7_readLamp_4 fl_RX7_159 e2 ?_
  refine V.iconst (v := (4 : Int32)) dX7_readLamp_7 (by decide) ?_
  refine V.icmp_lt (tgt := 17) dX7_readLamp_8 (by decide) (fun c3 => ?_) (fun c3 => ?_)
  · rw [if_pos c3] at hf
    refine V.aload_n dX7_readLamp_17 rfl 0 rfl ?_
    refine V.ldcS (i := 5) dX7_readLamp_18 (by decide) ?_
    obtain ⟨q4, e3, hf⟩ := bS hf
    obtain ⟨r5, e4, hf⟩ := bS hf
    refine V.callV (As := [.ref (xS0 + 2 * 5)]) (st := []) dX7_readLamp_20 cl_RX7_126 sw_yX7_pass (by decide) rfl (Nat.le_of_ble_eq_true rfl) rfl (gO_some e3) rfl (w_X7_pass _ _ _ _ e4) ?_
    refine V.if_eq (tgt := 65) dX7_readLamp_23 (by decide) (fun c6 => ?_) (fun c6 => ?_)
    · rw [if_pos c6] at hf
      refine V.iconst (v := (0 : Int32)) dX7_readLamp_65 (by decide) ?_
      obtain rfl := Option.some.inj hf
      exact V.zret dX7_readLamp_66 (by first | rfl | assumption)
    · rw [if_neg c6] at hf
      refine V.aload_n dX7_readLamp_26 rfl 0 rfl ?_
      refine V.ldcS (i := 6) dX7_readLamp_27 (by decide) ?_
      obtain ⟨q7, e5, hf⟩ := bS hf
      obtain ⟨r8, e6, hf⟩ := bS hf
      refine V.callV (As := [.ref (xS0 + 2 * 6)]) (st := []) dX7_readLamp_29 cl_RX7_126 sw_yX7_pass (by decide) rfl (Nat.le_of_ble_eq_true rfl) rfl (gO_some e5) rfl (w_X7_pass _ _ _ _ e6) ?_
      refine V.if_eq (tgt := 65) dX7_readLamp_32 (by decide) (fun c9 => ?_) (fun c9 => ?_)
      · rw [if_pos c9] at hf
        refine V.iconst (v := (0 : Int32)) dX7_readLamp_65 (by decide) ?_
        obtain rfl := Option.some.inj hf
        exact V.zret dX7_readLamp_66 (by first | rfl | assumption)
      · rw [if_neg c9] at hf
        refine V.aload_n dX7_readLamp_35 rfl 0 rfl ?_
        refine V.iconst (v := (1 : Int32)) dX7_readLamp_36 (by decide) ?_
        refine V.sipush (v := (999 : Int32)) dX7_readLamp_37 (by decide) ?_
        obtain ⟨q10, e7, hf⟩ := bS hf
        obtain ⟨r11, e8, hf⟩ := bS hf
        refine V.callV (As := [.int (1 : Int32), .int (999 : Int32)]) (st := []) dX7_readLamp_40 cl_RX7_129 sw_yX7_number (by decide) rfl (Nat.le_of_ble_eq_true rfl) rfl (gO_some e7) rfl (w_X7_number _ _ _ _ _ e8) ?_
        refine V.if_eq (tgt := 65) dX7_readLamp_43 (by decide) (fun c12 => ?_) (fun c12 => ?_)
        · rw [if_pos c12] at hf
          refine V.iconst (v := (0 : Int32)) dX7_readLamp_65 (by decide) ?_
          obtain rfl := Option.some.inj hf
          exact V.zret dX7_readLamp_66 (by first | rfl | assumption)
        · rw [if_neg c12] at hf
          refine V.aload_n dX7_readLamp_46 rfl 0 rfl ?_
          refine V.ldcS (i := 7) dX7_readLamp_47 (by decide) ?_
          obtain ⟨q13, e9, hf⟩ := bS hf
          obtain ⟨r14, e10, hf⟩ := bS hf
          refine V.callV (As := [.ref (xS0 + 2 * 7)]) (st := []) dX7_readLamp_49 cl_RX7_126 sw_yX7_pass (by decide) rfl (Nat.le_of_ble_eq_true rfl) rfl (gO_some e9) rfl (w_X7_pass _ _ _ _ e10) ?_
          refine V.if_eq (tgt := 65) dX7_readLamp_52 (by decide) (fun c15 => ?_) (fun c15 => ?_)
          · rw [if_pos c15] at hf
            refine V.iconst (v := (0 : Int32)) dX7_readLamp_65 (by decide) ?_
            obtain rfl := Option.some.inj hf
            exact V.zret dX7_readLamp_66 (by first | rfl | assumption)
          · rw [if_neg c15] at hf
            refine V.aload_n dX7_readLamp_55 rfl 0 rfl ?_
            refine V.iconst (v := (0 : Int32)) dX7_readLamp_56 (by decide) ?_
            refine V.bipush (v := (99 : Int32)) dX7_readLamp_57 (by decide) ?_
            obtain ⟨q16, e11, hf⟩ := bS hf
            obtain ⟨r17, e12, hf⟩ := bS hf
            refine V.callV (As := [.int (0 : Int32), .int (99 : Int32)]) (st := []) dX7_readLamp_59 cl_RX7_129 sw_yX7_number (by decide) rfl (Nat.le_of_ble_eq_true rfl) rfl (gO_some e11) rfl (w_X7_number _ _ _ _ _ e12) ?_
            refine V.if_ne (tgt := 67) dX7_readLamp_62 (by decide) (fun c18 => ?_) (fun c18 => ?_)
            · rw [if_neg c18] at hf
              refine V.aload_n dX7_readLamp_67 rfl 0 rfl ?_
              refine V.aload_n dX7_readLamp_68 rfl 0 rfl ?_
              obtain ⟨v19, e13, hf⟩ := bS hf
              refine V.xgR dX7_readLamp_69 fl_RX7_33 e13 ?_
              obtain ⟨v20, e14, hf⟩ := bS hf
              refine V.rgR dX7_readLamp_72 fl_RX7_166 e14 ?_
              refine V.aload_n dX7_readLamp_75 rfl 0 rfl ?_
              obtain ⟨v21, e15, hf⟩ := bS hf
              refine V.xgR dX7_readLamp_76 fl_RX7_33 e15 ?_
              obtain ⟨v22, e16, hf⟩ := bS hf
              refine V.xgI dX7_readLamp_79 fl_RX7_159 e16 ?_
              refine V.iconst (v := (2 : Int32)) dX7_readLamp_82 (by decide) ?_
              refine V.imul dX7_readLamp_83 ?_
              refine V.iconst (v := (2 : Int32)) dX7_readLamp_84 (by decide) ?_
              obtain ⟨q23, e17, hf⟩ := bS hf
              obtain ⟨r24, e18, hf⟩ := bS hf
              refine V.callV (As := [.ref v20, .int (v22 * (2 : Int32)), .int (2 : Int32)]) (st := []) dX7_readLamp_85 cl_RX7_155 sw_yX7_keep (by decide) rfl (Nat.le_of_ble_eq_true rfl) rfl (gO_some e17) rfl (w_X7_keep _ _ _ _ _ _ e18) ?_
              refine V.aload_n dX7_readLamp_88 rfl 0 rfl ?_
              obtain ⟨v25, e19, hf⟩ := bS hf
              refine V.xgR dX7_readLamp_89 fl_RX7_33 e19 ?_
              refine V.dup dX7_readLamp_92 rfl ?_
              obtain ⟨v26, e20, hf⟩ := bS hf
              refine V.xgI dX7_readLamp_93 fl_RX7_159 e20 ?_
              refine V.iconst (v := (1 : Int32)) dX7_readLamp_96 (by decide) ?_
              refine V.iadd dX7_readLamp_97 ?_
              obtain ⟨h27, e21, hf⟩ := bS hf
              refine V.xpF dX7_readLamp_98 fl_RX7_159 (fun h9 => nomatch h9) (fun _ => rfl) (fun _ => rfl) e21 ?_
              refine V.iconst (v := (1 : Int32)) dX7_readLamp_101 (by decide) ?_
              obtain rfl := Option.some.inj hf
              exact V.zret dX7_readLamp_102 (by first | rfl | assumption)
            · rw [if_pos c18] at hf
              refine V.iconst (v := (0 : Int32)) dX7_readLamp_65 (by decide) ?_
              obtain rfl := Option.some.inj hf
              exact V.zret dX7_readLamp_66 (by first | rfl | assumption)
  · rw [if_neg c3] at hf
    refine V.aload_n dX7_readLamp_11 rfl 0 rfl ?_
    refine V.iconst (v := (4 : Int32)) dX7_readLamp_12 (by decide) ?_
    obtain ⟨q28, e22, hf⟩ := bS hf
    obtain ⟨r29, e23, hf⟩ := bS hf
    refine V.callV (As := [.int (4 : Int32)]) (st := []) dX7_readLamp_13 cl_RX7_120 sw_yX7_refuse (by decide) rfl (Nat.le_of_ble_eq_true rfl) rfl (gO_some e22) rfl (w_X7_refuse _ _ _ _ e23) ?_
    by_cases c30 : narrow .boolean (.int (r29.1)) = .int (r29.1)
    · rw [if_pos c30] at hf
      obtain rfl := Option.some.inj hf
      exact V.zret dX7_readLamp_16 c30
    · rw [if_neg c30] at hf
      cases hf

def f_X7_readPane_57 (h : xH) (l0 : Nat) (s0 : Int32) (s1 : Nat) : Option (Int32 × xH) := (gO h s1 7).bind fun q1 => (f_X7_tell h s1 s0).bind fun r2 => (gR r2 l0 7 8).bind fun v3 => (gR r2 v3 3 7).bind fun v4 => (gR r2 l0 7 8).bind fun v5 => (gI r2 v5 3 3).bind fun v6 => (gO r2 l0 7).bind fun q7 => (f_X7_keep r2 l0 v4 (v6 * (4 : Int32)) (4 : Int32)).bind fun r8 => (gR r8 l0 7 8).bind fun v9 => (gI r8 v9 3 3).bind fun v10 => (pF r8 v9 3 3 (.int (v10 + (1 : Int32)))).bind fun h11 => some (((1 : Int32), h11))
def f_X7_readPane_18 (h : xH) (l0 : Nat) (s0 : Int32) (s1 : Nat) : Option (Int32 × xH) := (gO h s1 7).bind fun q1 => (f_X7_mayBegin h s1 s0).bind fun r2 => (if r2.1 = 0 then (some (((0 : Int32), r2.2))) else ((gO r2.2 l0 7).bind fun q4 => (f_X7_pass r2.2 l0 (xS0 + 2 * 1)).bind fun r5 => (if r5.1 = 0 then (some (((0 : Int32), r5.2))) else ((gO r5.2 l0 7).bind fun q7 => (f_X7_passage r5.2 l0).bind fun r8 => (if r8.1 = 0 then (some (((0 : Int32), r8.2))) else ((gO r8.2 l0 7).bind fun q10 => (f_X7_passIf r8.2 l0 (xS0 + 2 * 4)).bind fun r11 => (if r11.1 = 0 then (f_X7_readPane_57 r11.2 l0 (0 : Int32) l0) else (f_X7_readPane_57 r11.2 l0 (1 : Int32) l0))))))))
def f_X7_readPane (h : xH) (l0 : Nat) : Option (Int32 × xH) := (gR h l0 7 8).bind fun v1 => (gI h v1 3 3).bind fun v2 => (if (60 : Int32) ≤ v2 then (f_X7_readPane_18 h l0 (0 : Int32) l0) else (f_X7_readPane_18 h l0 (1 : Int32) l0))
set_option maxRecDepth 20000 in
theorem w_X7_readPane_57 (h : xH) (l0 : Nat) (s0 : Int32) (s1 : Nat) (r : Int32 × xH) (hf : f_X7_readPane_57 h l0 s0 s1 = some r) : V 10 yX7_readPane cX7_readPane 1 (some .boolean) [] none 57 [(0, .ref l0)] [.int s0, .ref s1] h (oIh r) := by
  unfold f_X7_readPane_57 at hf
  obtain ⟨q1, e1, hf⟩ := bS hf
  obtain ⟨r2, e2, hf⟩ := bS hf
  refine V.callV (As := [.int s0]) (st := []) dX7_readPane_57 cl_RX7_148 sw_yX7_tell (by decide) rfl (Nat.le_of_ble_eq_true rfl) rfl (gO_some e1) rfl (w_X7_tell _ _ _ _ e2) ?_
  refine V.aload_n dX7_readPane_60 rfl 0 rfl ?_
  refine V.aload_n dX7_readPane_61 rfl 0 rfl ?_
  obtain ⟨v3, e3, hf⟩ := bS hf
  refine V.xgR dX7_readPane_62 fl_RX7_33 e3 ?_
  obtain ⟨v4, e4, hf⟩ := bS hf
  refine V.rgR dX7_readPane_65 fl_RX7_152 e4 ?_
  refine V.aload_n dX7_readPane_68 rfl 0 rfl ?_
  obtain ⟨v5, e5, hf⟩ := bS hf
  refine V.xgR dX7_readPane_69 fl_RX7_33 e5 ?_
  obtain ⟨v6, e6, hf⟩ := bS hf
  refine V.xgI dX7_readPane_72 fl_RX7_133 e6 ?_
  refine V.iconst (v := (4 : Int32)) dX7_readPane_75 (by decide) ?_
  refine V.imul dX7_readPane_76 ?_
  refine V.iconst (v := (4 : Int32)) dX7_readPane_77 (by decide) ?_
  obtain ⟨q7, e7, hf⟩ := bS hf
  obtain ⟨r8, e8, hf⟩ := bS hf
  refine V.callV (As := [.ref v4, .int (v6 * (4 : Int32)), .int (4 : Int32)]) (st := []) dX7_readPane_78 cl_RX7_155 sw_yX7_keep (by decide) rfl (Nat.le_of_ble_eq_true rfl) rfl (gO_some e7) rfl (w_X7_keep _ _ _ _ _ _ e8) ?_
  refine V.aload_n dX7_readPane_81 rfl 0 rfl ?_
  obtain ⟨v9, e9, hf⟩ := bS hf
  refine V.xgR dX7_readPane_82 fl_RX7_33 e9 ?_
  refine V.dup dX7_readPane_85 rfl ?_
  obtain ⟨v10, e10, hf⟩ := bS hf
  refine V.xgI dX7_readPane_86 fl_RX7_133 e10 ?_
  refine V.iconst (v := (1 : Int32)) dX7_readPane_89 (by decide) ?_
  refine V.iadd dX7_readPane_90 ?_
  obtain ⟨h11, e11, hf⟩ := bS hf
  refine V.xpF dX7_readPane_91 fl_RX7_133 (fun h9 => nomatch h9) (fun _ => rfl) (fun _ => rfl) e11 ?_
  refine V.iconst (v := (1 : Int32)) dX7_readPane_94 (by decide) ?_
  obtain rfl := Option.some.inj hf
  exact V.zret dX7_readPane_95 (by first | rfl | assumption)

set_option maxRecDepth 20000 in
theorem w_X7_readPane_18 (h : xH) (l0 : Nat) (s0 : Int32) (s1 : Nat) (r : Int32 × xH) (hf : f_X7_readPane_18 h l0 s0 s1 = some r) : V 10 yX7_readPane cX7_readPane 1 (some .boolean) [] none 18 [(0, .ref l0)] [.int s0, .ref s1] h (oIh r) := by
  unfold f_X7_readPane_18 at hf
  obtain ⟨q1, e12, hf⟩ := bS hf
  obtain ⟨r2, e13, hf⟩ := bS hf
  refine V.callV (As := [.int s0]) (st := []) dX7_readPane_18 cl_RX7_136 sw_yX7_mayBegin (by decide) rfl (Nat.le_of_ble_eq_true rfl) rfl (gO_some e12) rfl (w_X7_mayBegin _ _ _ _ e13) ?_
  refine V.if_eq (tgt := 40) dX7_readPane_21 (by decide) (fun c3 => ?_) (fun c3 => ?_)
  · rw [if_pos c3] at hf
    refine V.iconst (v := (0 : Int32)) dX7_readPane_40 (by decide) ?_
    obtain rfl := Option.some.inj hf
    exact V.zret dX7_readPane_41 (by first | rfl | assumption)
  · rw [if_neg c3] at hf
    refine V.aload_n dX7_readPane_24 rfl 0 rfl ?_
    refine V.ldcS (i := 1) dX7_readPane_25 (by decide) ?_
    obtain ⟨q4, e14, hf⟩ := bS hf
    obtain ⟨r5, e15, hf⟩ := bS hf
    refine V.callV (As := [.ref (xS0 + 2 * 1)]) (st := []) dX7_readPane_27 cl_RX7_126 sw_yX7_pass (by decide) rfl (Nat.le_of_ble_eq_true rfl) rfl (gO_some e14) rfl (w_X7_pass _ _ _ _ e15) ?_
    refine V.if_eq (tgt := 40) dX7_readPane_30 (by decide) (fun c6 => ?_) (fun c6 => ?_)
    · rw [if_pos c6] at hf
      refine V.iconst (v := (0 : Int32)) dX7_readPane_40 (by decide) ?_
      obtain rfl := Option.some.inj hf
      exact V.zret dX7_readPane_41 (by first | rfl | assumption)
    · rw [if_neg c6] at hf
      refine V.aload_n dX7_readPane_33 rfl 0 rfl ?_
      obtain ⟨q7, e16, hf⟩ := bS hf
      obtain ⟨r8, e17, hf⟩ := bS hf
      refine V.callV (As := []) (st := []) dX7_readPane_34 cl_RX7_140 sw_yX7_passage (by decide) rfl (Nat.le_of_ble_eq_true rfl) rfl (gO_some e16) rfl (w_X7_passage _ _ _ e17) ?_
      refine V.if_ne (tgt := 42) dX7_readPane_37 (by decide) (fun c9 => ?_) (fun c9 => ?_)
      · rw [if_neg c9] at hf
        refine V.aload_n dX7_readPane_42 rfl 0 rfl ?_
        refine V.aload_n dX7_readPane_43 rfl 0 rfl ?_
        refine V.ldcS (i := 4) dX7_readPane_44 (by decide) ?_
        obtain ⟨q10, e18, hf⟩ := bS hf
        obtain ⟨r11, e19, hf⟩ := bS hf
        refine V.callV (As := [.ref (xS0 + 2 * 4)]) (st := [.ref l0]) dX7_readPane_46 cl_RX7_145 sw_yX7_passIf (by decide) rfl (Nat.le_of_ble_eq_true rfl) rfl (gO_some e18) rfl (w_X7_passIf _ _ _ _ e19) ?_
        refine V.if_eq (tgt := 56) dX7_readPane_49 (by decide) (fun c12 => ?_) (fun c12 => ?_)
        · rw [if_pos c12] at hf
          refine V.iconst (v := (0 : Int32)) dX7_readPane_56 (by decide) ?_
          exact w_X7_readPane_57 _ _ _ _ _ hf
        · rw [if_neg c12] at hf
          refine V.iconst (v := (1 : Int32)) dX7_readPane_52 (by decide) ?_
          refine V.goto (tgt := 57) dX7_readPane_53 (by decide) ?_
          exact w_X7_readPane_57 _ _ _ _ _ hf
      · rw [if_pos c9] at hf
        refine V.iconst (v := (0 : Int32)) dX7_readPane_40 (by decide) ?_
        obtain rfl := Option.some.inj hf
        exact V.zret dX7_readPane_41 (by first | rfl | assumption)

set_option maxRecDepth 20000 in
theorem w_X7_readPane (h : xH) (l0 : Nat) (r : Int32 × xH) (hf : f_X7_readPane h l0 = some r) : Ev 10 yX7_readPane cX7_readPane 1 (some .boolean) [] [.ref l0] h (oIh r) := by
  refine Ev.of (by decide +kernel) (Nat.le_of_ble_eq_true rfl) ?_
  unfold f_X7_readPane at hf
  refine V.aload_n dX7_readPane_0 rfl 0 rfl ?_
  refine V.aload_n dX7_readPane_1 rfl 0 rfl ?_
  obtain ⟨v1, e20, hf⟩ := bS hf
  refine V.xgR dX7_readPane_2 fl_RX7_33 e20 ?_
  obtain ⟨v2, e21, hf⟩ := bS hf
  refine V.xgI dX7_readPane_5 fl_RX7_133 e21 ?_
  refine V.bipush (v := (60 : Int32)) dX7_readPane_8 (by decide) ?_
  refine V.icmp_ge (tgt := 17) dX7_readPane_10 (by decide) (fun c3 => ?_) (fun c3 => ?_)
  · rw [if_pos c3] at hf
    refine V.iconst (v := (0 : Int32)) dX7_readPane_17 (by decide) ?_
    exact w_X7_readPane_18 _ _ _ _ _ hf
  · rw [if_neg c3] at hf
    refine V.iconst (v := (1 : Int32)) dX7_readPane_13 (by decide) ?_
    refine V.goto (tgt := 18) dX7_readPane_14 (by decide) ?_
    exact w_X7_readPane_18 _ _ _ _ _ hf

def f_X7_readRooms (h : xH) (l0 : Nat) : Option (Int32 × xH) := (gR h l0 7 8).bind fun v1 => (gI h v1 3 1).bind fun v2 => (if v2 ≤ 0 then ((gO h l0 7).bind fun q4 => (f_X7_pass h l0 (xS0 + 2 * 0)).bind fun r5 => (if r5.1 = 0 then (some (((0 : Int32), r5.2))) else ((gO r5.2 l0 7).bind fun q7 => (f_X7_number r5.2 l0 (1 : Int32) (16 : Int32)).bind fun r8 => (if r8.1 = 0 then (some (((0 : Int32), r8.2))) else ((gR r8.2 l0 7 8).bind fun v10 => (gR r8.2 l0 7 9).bind fun v11 => (ldI r8.2 .int v11 (0 : Int32)).bind fun v12 => (pF r8.2 v10 3 1 (.int v12)).bind fun h13 => some (((1 : Int32), h13))))))) else ((gO h l0 7).bind fun q14 => (f_X7_refuse h l0 (4 : Int32)).bind fun r15 => (if narrow .boolean (.int (r15.1)) = .int (r15.1) then some (r15.1, r15.2) else none)))
set_option maxRecDepth 20000 in
theorem w_X7_readRooms (h : xH) (l0 : Nat) (r : Int32 × xH) (hf : f_X7_readRooms h l0 = some r) : Ev 9 yX7_readRooms cX7_readRooms 1 (some .boolean) [] [.ref l0] h (oIh r) := by
  refine Ev.of (by decide +kernel) (Nat.le_of_ble_eq_true rfl) ?_
  unfold f_X7_readRooms at hf
  refine V.aload_n dX7_readRooms_0 rfl 0 rfl ?_
  obtain ⟨v1, e1, hf⟩ := bS hf
  refine V.xgR dX7_readRooms_1 fl_RX7_33 e1 ?_
  obtain ⟨v2, e2, hf⟩ := bS hf
  refine V.xgI dX7_readRooms_4 fl_RX7_124 e2 ?_
  refine V.if_le (tgt := 16) dX7_readRooms_7 (by decide) (fun c3 => ?_) (fun c3 => ?_)
  · rw [if_pos c3] at hf
    refine V.aload_n dX7_readRooms_16 rfl 0 rfl ?_
    refine V.ldcS (i := 0) dX7_readRooms_17 (by decide) ?_
    obtain ⟨q4, e3, hf⟩ := bS hf
    obtain ⟨r5, e4, hf⟩ := bS hf
    refine V.callV (As := [.ref (xS0 + 2 * 0)]) (st := []) dX7_readRooms_19 cl_RX7_126 sw_yX7_pass (by decide) rfl (Nat.le_of_ble_eq_true rfl) rfl (gO_some e3) rfl (w_X7_pass _ _ _ _ e4) ?_
    refine V.if_eq (tgt := 35) dX7_readRooms_22 (by decide) (fun c6 => ?_) (fun c6 => ?_)
    · rw [if_pos c6] at hf
      refine V.iconst (v := (0 : Int32)) dX7_readRooms_35 (by decide) ?_
      obtain rfl := Option.some.inj hf
      exact V.zret dX7_readRooms_36 (by first | rfl | assumption)
    · rw [if_neg c6] at hf
      refine V.aload_n dX7_readRooms_25 rfl 0 rfl ?_
      refine V.iconst (v := (1 : Int32)) dX7_readRooms_26 (by decide) ?_
      refine V.bipush (v := (16 : Int32)) dX7_readRooms_27 (by decide) ?_
      obtain ⟨q7, e5, hf⟩ := bS hf
      obtain ⟨r8, e6, hf⟩ := bS hf
      refine V.callV (As := [.int (1 : Int32), .int (16 : Int32)]) (st := []) dX7_readRooms_29 cl_RX7_129 sw_yX7_number (by decide) rfl (Nat.le_of_ble_eq_true rfl) rfl (gO_some e5) rfl (w_X7_number _ _ _ _ _ e6) ?_
      refine V.if_ne (tgt := 37) dX7_readRooms_32 (by decide) (fun c9 => ?_) (fun c9 => ?_)
      · rw [if_neg c9] at hf
        refine V.aload_n dX7_readRooms_37 rfl 0 rfl ?_
        obtain ⟨v10, e7, hf⟩ := bS hf
        refine V.xgR dX7_readRooms_38 fl_RX7_33 e7 ?_
        refine V.aload_n dX7_readRooms_41 rfl 0 rfl ?_
        obtain ⟨v11, e8, hf⟩ := bS hf
        refine V.xgR dX7_readRooms_42 fl_RX7_37 e8 ?_
        refine V.iconst (v := (0 : Int32)) dX7_readRooms_45 (by decide) ?_
        obtain ⟨v12, e9, hf⟩ := bS hf
        refine V.xldI dX7_readRooms_46 e9 ?_
        obtain ⟨h13, e10, hf⟩ := bS hf
        refine V.xpF dX7_readRooms_47 fl_RX7_124 (fun h9 => nomatch h9) (fun _ => rfl) (fun _ => rfl) e10 ?_
        refine V.iconst (v := (1 : Int32)) dX7_readRooms_50 (by decide) ?_
        obtain rfl := Option.some.inj hf
        exact V.zret dX7_readRooms_51 (by first | rfl | assumption)
      · rw [if_pos c9] at hf
        refine V.iconst (v := (0 : Int32)) dX7_readRooms_35 (by decide) ?_
        obtain rfl := Option.some.inj hf
        exact V.zret dX7_readRooms_36 (by first | rfl | assumption)
  · rw [if_neg c3] at hf
    refine V.aload_n dX7_readRooms_10 rfl 0 rfl ?_
    refine V.iconst (v := (4 : Int32)) dX7_readRooms_11 (by decide) ?_
    obtain ⟨q14, e11, hf⟩ := bS hf
    obtain ⟨r15, e12, hf⟩ := bS hf
    refine V.callV (As := [.int (4 : Int32)]) (st := []) dX7_readRooms_12 cl_RX7_120 sw_yX7_refuse (by decide) rfl (Nat.le_of_ble_eq_true rfl) rfl (gO_some e11) rfl (w_X7_refuse _ _ _ _ e12) ?_
    by_cases c16 : narrow .boolean (.int (r15.1)) = .int (r15.1)
    · rw [if_pos c16] at hf
      obtain rfl := Option.some.inj hf
      exact V.zret dX7_readRooms_15 c16
    · rw [if_neg c16] at hf
      cases hf

def f_X7_readWant_167 (h : xH) (l0 : Nat) : Option (Int32 × xH) := (gR h l0 7 8).bind fun v1 => (gR h v1 3 9).bind fun v2 => (gR h l0 7 8).bind fun v3 => (gI h v3 3 5).bind fun v4 => (gO h l0 7).bind fun q5 => (f_X7_keep h l0 v2 (v4 * (5 : Int32)) (5 : Int32)).bind fun r6 => (gR r6 l0 7 8).bind fun v7 => (gI r6 v7 3 5).bind fun v8 => (pF r6 v7 3 5 (.int (v8 + (1 : Int32)))).bind fun h9 => some (((1 : Int32), h9))
def f_X7_readWant_108 (h : xH) (l0 : Nat) : Option (Int32 × xH) := (gO h l0 7).bind fun q1 => (f_X7_passIf h l0 (xS0 + 2 * 11)).bind fun r2 => (if r2.1 = 0 then ((gO r2.2 l0 7).bind fun q15 => (f_X7_tell r2.2 l0 (0 : Int32)).bind fun r16 => (gO r16 l0 7).bind fun q17 => (f_X7_tell r16 l0 (23 : Int32)).bind fun r18 => f_X7_readWant_167 r18 l0) else ((gO r2.2 l0 7).bind fun q4 => (f_X7_number r2.2 l0 (0 : Int32) (23 : Int32)).bind fun r5 => (if r5.1 = 0 then (some (((0 : Int32), r5.2))) else ((gO r5.2 l0 7).bind fun q7 => (f_X7_pass r5.2 l0 (xS0 + 2 * 2)).bind fun r8 => (if r8.1 = 0 then (some (((0 : Int32), r8.2))) else ((gR r8.2 l0 7 9).bind fun v10 => (ldI r8.2 .int v10 (3 : Int32)).bind fun v11 => (gO r8.2 l0 7).bind fun q12 => (f_X7_number r8.2 l0 v11 (23 : Int32)).bind fun r13 => (if r13.1 = 0 then (some (((0 : Int32), r13.2))) else (f_X7_readWant_167 r13.2 l0))))))))
def f_X7_readWant_18 (h : xH) (l0 : Nat) (s0 : Int32) (s1 : Nat) : Option (Int32 × xH) := (gO h s1 7).bind fun q1 => (f_X7_mayBegin h s1 s0).bind fun r2 => (if r2.1 = 0 then (some (((0 : Int32), r2.2))) else ((gO r2.2 l0 7).bind fun q4 => (f_X7_pass r2.2 l0 (xS0 + 2 * 8)).bind fun r5 => (if r5.1 = 0 then (some (((0 : Int32), r5.2))) else ((gR r5.2 l0 7 8).bind fun v7 => (gI r5.2 v7 3 1).bind fun v8 => (gO r5.2 l0 7).bind fun q9 => (f_X7_number r5.2 l0 (0 : Int32) (v8 - (1 : Int32))).bind fun r10 => (if r10.1 = 0 then (some (((0 : Int32), r10.2))) else ((gO r10.2 l0 7).bind fun q12 => (f_X7_pass r10.2 l0 (xS0 + 2 * 9)).bind fun r13 => (if r13.1 = 0 then (some (((0 : Int32), r13.2))) else ((gO r13.2 l0 7).bind fun q15 => (f_X7_number r13.2 l0 (0 : Int32) (9999 : Int32)).bind fun r16 => (if r16.1 = 0 then (some (((0 : Int32), r16.2))) else ((gO r16.2 l0 7).bind fun q18 => (f_X7_passIf r16.2 l0 (xS0 + 2 * 10)).bind fun r19 => (if r19.1 = 0 then ((gO r19.2 l0 7).bind fun q26 => (f_X7_tell r19.2 l0 (99999 : Int32)).bind fun r27 => f_X7_readWant_108 r27 l0) else ((gR r19.2 l0 7 9).bind fun v21 => (ldI r19.2 .int v21 (1 : Int32)).bind fun v22 => (gO r19.2 l0 7).bind fun q23 => (f_X7_number r19.2 l0 v22 (9999 : Int32)).bind fun r24 => (if r24.1 = 0 then (some (((0 : Int32), r24.2))) else (f_X7_readWant_108 r24.2 l0))))))))))))))
def f_X7_readWant (h : xH) (l0 : Nat) : Option (Int32 × xH) := (gR h l0 7 8).bind fun v1 => (gI h v1 3 5).bind fun v2 => (if (24 : Int32) ≤ v2 then (f_X7_readWant_18 h l0 (0 : Int32) l0) else (f_X7_readWant_18 h l0 (1 : Int32) l0))
set_option maxRecDepth 20000 in
theorem w_X7_readWant_167 (h : xH) (l0 : Nat) (r : Int32 × xH) (hf : f_X7_readWant_167 h l0 = some r) : V 9 yX7_readWant cX7_readWant 1 (some .boolean) [] none 167 [(0, .ref l0)] [] h (oIh r) := by
  unfold f_X7_readWant_167 at hf
  refine V.aload_n dX7_readWant_167 rfl 0 rfl ?_
  refine V.aload_n dX7_readWant_168 rfl 0 rfl ?_
  obtain ⟨v1, e1, hf⟩ := bS hf
  refine V.xgR dX7_readWant_169 fl_RX7_33 e1 ?_
  obtain ⟨v2, e2, hf⟩ := bS hf
  refine V.rgR dX7_readWant_172 fl_RX7_181 e2 ?_
  refine V.aload_n dX7_readWant_175 rfl 0 rfl ?_
  obtain ⟨v3, e3, hf⟩ := bS hf
  refine V.xgR dX7_readWant_176 fl_RX7_33 e3 ?_
  obtain ⟨v4, e4, hf⟩ := bS hf
  refine V.xgI dX7_readWant_179 fl_RX7_169 e4 ?_
  refine V.iconst (v := (5 : Int32)) dX7_readWant_182 (by decide) ?_
  refine V.imul dX7_readWant_183 ?_
  refine V.iconst (v := (5 : Int32)) dX7_readWant_184 (by decide) ?_
  obtain ⟨q5, e5, hf⟩ := bS hf
  obtain ⟨r6, e6, hf⟩ := bS hf
  refine V.callV (As := [.ref v2, .int (v4 * (5 : Int32)), .int (5 : Int32)]) (st := []) dX7_readWant_185 cl_RX7_155 sw_yX7_keep (by decide) rfl (Nat.le_of_ble_eq_true rfl) rfl (gO_some e5) rfl (w_X7_keep _ _ _ _ _ _ e6) ?_
  refine V.aload_n dX7_readWant_188 rfl 0 rfl ?_
  obtain ⟨v7, e7, hf⟩ := bS hf
  refine V.xgR dX7_readWant_189 fl_RX7_33 e7 ?_
  refine V.dup dX7_readWant_192 rfl ?_
  obtain ⟨v8, e8, hf⟩ := bS hf
  refine V.xgI dX7_readWant_193 fl_RX7_169 e8 ?_
  refine V.iconst (v := (1 : Int32)) dX7_readWant_196 (by decide) ?_
  refine V.iadd dX7_readWant_197 ?_
  obtain ⟨h9, e9, hf⟩ := bS hf
  refine V.xpF dX7_readWant_198 fl_RX7_169 (fun h9 => nomatch h9) (fun _ => rfl) (fun _ => rfl) e9 ?_
  refine V.iconst (v := (1 : Int32)) dX7_readWant_201 (by decide) ?_
  obtain rfl := Option.some.inj hf
  exact V.zret dX7_readWant_202 (by first | rfl | assumption)

set_option maxRecDepth 20000 in
theorem w_X7_readWant_108 (h : xH) (l0 : Nat) (r : Int32 × xH) (hf : f_X7_readWant_108 h l0 = some r) : V 9 yX7_readWant cX7_readWant 1 (some .boolean) [] none 108 [(0, .ref l0)] [] h (oIh r) := by
  unfold f_X7_readWant_108 at hf
  refine V.aload_n dX7_readWant_108 rfl 0 rfl ?_
  refine V.ldcS (i := 11) dX7_readWant_109 (by decide) ?_
  obtain ⟨q1, e10, hf⟩ := bS hf
  obtain ⟨r2, e11, hf⟩ := bS hf
  refine V.callV (As := [.ref (xS0 + 2 * 11)]) (st := []) dX7_readWant_111 cl_RX7_145 sw_yX7_passIf (by decide) rfl (Nat.le_of_ble_eq_true rfl) rfl (gO_some e10) rfl (w_X7_passIf _ _ _ _ e11) ?_
  refine V.if_ne (tgt := 131) dX7_readWant_114 (by decide) (fun c3 => ?_) (fun c3 => ?_)
  · rw [if_neg c3] at hf
    refine V.aload_n dX7_readWant_131 rfl 0 rfl ?_
    refine V.iconst (v := (0 : Int32)) dX7_readWant_132 (by decide) ?_
    refine V.bipush (v := (23 : Int32)) dX7_readWant_133 (by decide) ?_
    obtain ⟨q4, e12, hf⟩ := bS hf
    obtain ⟨r5, e13, hf⟩ := bS hf
    refine V.callV (As := [.int (0 : Int32), .int (23 : Int32)]) (st := []) dX7_readWant_135 cl_RX7_129 sw_yX7_number (by decide) rfl (Nat.le_of_ble_eq_true rfl) rfl (gO_some e12) rfl (w_X7_number _ _ _ _ _ e13) ?_
    refine V.if_eq (tgt := 165) dX7_readWant_138 (by decide) (fun c6 => ?_) (fun c6 => ?_)
    · rw [if_pos c6] at hf
      refine V.iconst (v := (0 : Int32)) dX7_readWant_165 (by decide) ?_
      obtain rfl := Option.some.inj hf
      exact V.zret dX7_readWant_166 (by first | rfl | assumption)
    · rw [if_neg c6] at hf
      refine V.aload_n dX7_readWant_141 rfl 0 rfl ?_
      refine V.ldcS (i := 2) dX7_readWant_142 (by decide) ?_
      obtain ⟨q7, e14, hf⟩ := bS hf
      obtain ⟨r8, e15, hf⟩ := bS hf
      refine V.callV (As := [.ref (xS0 + 2 * 2)]) (st := []) dX7_readWant_144 cl_RX7_126 sw_yX7_pass (by decide) rfl (Nat.le_of_ble_eq_true rfl) rfl (gO_some e14) rfl (w_X7_pass _ _ _ _ e15) ?_
      refine V.if_eq (tgt := 165) dX7_readWant_147 (by decide) (fun c9 => ?_) (fun c9 => ?_)
      · rw [if_pos c9] at hf
        refine V.iconst (v := (0 : Int32)) dX7_readWant_165 (by decide) ?_
        obtain rfl := Option.some.inj hf
        exact V.zret dX7_readWant_166 (by first | rfl | assumption)
      · rw [if_neg c9] at hf
        refine V.aload_n dX7_readWant_150 rfl 0 rfl ?_
        refine V.aload_n dX7_readWant_151 rfl 0 rfl ?_
        obtain ⟨v10, e16, hf⟩ := bS hf
        refine V.xgR dX7_readWant_152 fl_RX7_37 e16 ?_
        refine V.iconst (v := (3 : Int32)) dX7_readWant_155 (by decide) ?_
        obtain ⟨v11, e17, hf⟩ := bS hf
        refine V.xldI dX7_readWant_156 e17 ?_
        refine V.bipush (v := (23 : Int32)) dX7_readWant_157 (by decide) ?_
        obtain ⟨q12, e18, hf⟩ := bS hf
        obtain ⟨r13, e19, hf⟩ := bS hf
        refine V.callV (As := [.int v11, .int (23 : Int32)]) (st := []) dX7_readWant_159 cl_RX7_129 sw_yX7_number (by decide) rfl (Nat.le_of_ble_eq_true rfl) rfl (gO_some e18) rfl (w_X7_number _ _ _ _ _ e19) ?_
        refine V.if_ne (tgt := 167) dX7_readWant_162 (by decide) (fun c14 => ?_) (fun c14 => ?_)
        · rw [if_neg c14] at hf
          exact w_X7_readWant_167 _ _ _ hf
        · rw [if_pos c14] at hf
          refine V.iconst (v := (0 : Int32)) dX7_readWant_165 (by decide) ?_
          obtain rfl := Option.some.inj hf
          exact V.zret dX7_readWant_166 (by first | rfl | assumption)
  · rw [if_pos c3] at hf
    refine V.aload_n dX7_readWant_117 rfl 0 rfl ?_
    refine V.iconst (v := (0 : Int32)) dX7_readWant_118 (by decide) ?_
    obtain ⟨q15, e20, hf⟩ := bS hf
    obtain ⟨r16, e21, hf⟩ := bS hf
    refine V.callV (As := [.int (0 : Int32)]) (st := []) dX7_readWant_119 cl_RX7_148 sw_yX7_tell (by decide) rfl (Nat.le_of_ble_eq_true rfl) rfl (gO_some e20) rfl (w_X7_tell _ _ _ _ e21) ?_
    refine V.aload_n dX7_readWant_122 rfl 0 rfl ?_
    refine V.bipush (v := (23 : Int32)) dX7_readWant_123 (by decide) ?_
    obtain ⟨q17, e22, hf⟩ := bS hf
    obtain ⟨r18, e23, hf⟩ := bS hf
    refine V.callV (As := [.int (23 : Int32)]) (st := []) dX7_readWant_125 cl_RX7_148 sw_yX7_tell (by decide) rfl (Nat.le_of_ble_eq_true rfl) rfl (gO_some e22) rfl (w_X7_tell _ _ _ _ e23) ?_
    refine V.goto (tgt := 167) dX7_readWant_128 (by decide) ?_
    exact w_X7_readWant_167 _ _ _ hf

set_option maxRecDepth 20000 in
theorem w_X7_readWant_18 (h : xH) (l0 : Nat) (s0 : Int32) (s1 : Nat) (r : Int32 × xH) (hf : f_X7_readWant_18 h l0 s0 s1 = some r) : V 9 yX7_readWant cX7_readWant 1 (some .boolean) [] none 18 [(0, .ref l0)] [.int s0, .ref s1] h (oIh r) := by
  unfold f_X7_readWant_18 at hf
  obtain ⟨q1, e24, hf⟩ := bS hf
  obtain ⟨r2, e25, hf⟩ := bS hf
  refine V.callV (As := [.int s0]) (st := []) dX7_readWant_18 cl_RX7_136 sw_yX7_mayBegin (by decide) rfl (Nat.le_of_ble_eq_true rfl) rfl (gO_some e24) rfl (w_X7_mayBegin _ _ _ _ e25) ?_
  refine V.if_eq (tgt := 70) dX7_readWant_21 (by decide) (fun c3 => ?_) (fun c3 => ?_)
  · rw [if_pos c3] at hf
    refine V.iconst (v := (0 : Int32)) dX7_readWant_70 (by decide) ?_
    obtain rfl := Option.some.inj hf
    exact V.zret dX7_readWant_71 (by first | rfl | assumption)
  · rw [if_neg c3] at hf
    refine V.aload_n dX7_readWant_24 rfl 0 rfl ?_
    refine V.ldcS (i := 8) dX7_readWant_25 (by decide) ?_
    obtain ⟨q4, e26, hf⟩ := bS hf
    obtain ⟨r5, e27, hf⟩ := bS hf
    refine V.callV (As := [.ref (xS0 + 2 * 8)]) (st := []) dX7_readWant_27 cl_RX7_126 sw_yX7_pass (by decide) rfl (Nat.le_of_ble_eq_true rfl) rfl (gO_some e26) rfl (w_X7_pass _ _ _ _ e27) ?_
    refine V.if_eq (tgt := 70) dX7_readWant_30 (by decide) (fun c6 => ?_) (fun c6 => ?_)
    · rw [if_pos c6] at hf
      refine V.iconst (v := (0 : Int32)) dX7_readWant_70 (by decide) ?_
      obtain rfl := Option.some.inj hf
      exact V.zret dX7_readWant_71 (by first | rfl | assumption)
    · rw [if_neg c6] at hf
      refine V.aload_n dX7_readWant_33 rfl 0 rfl ?_
      refine V.iconst (v := (0 : Int32)) dX7_readWant_34 (by decide) ?_
      refine V.aload_n dX7_readWant_35 rfl 0 rfl ?_
      obtain ⟨v7, e28, hf⟩ := bS hf
      refine V.xgR dX7_readWant_36 fl_RX7_33 e28 ?_
      obtain ⟨v8, e29, hf⟩ := bS hf
      refine V.xgI dX7_readWant_39 fl_RX7_124 e29 ?_
      refine V.iconst (v := (1 : Int32)) dX7_readWant_42 (by decide) ?_
      refine V.isub dX7_readWant_43 ?_
      obtain ⟨q9, e30, hf⟩ := bS hf
      obtain ⟨r10, e31, hf⟩ := bS hf
      refine V.callV (As := [.int (0 : Int32), .int (v8 - (1 : Int32))]) (st := []) dX7_readWant_44 cl_RX7_129 sw_yX7_number (by decide) rfl (Nat.le_of_ble_eq_true rfl) rfl (gO_some e30) rfl (w_X7_number _ _ _ _ _ e31) ?_
      refine V.if_eq (tgt := 70) dX7_readWant_47 (by decide) (fun c11 => ?_) (fun c11 => ?_)
      · rw [if_pos c11] at hf
        refine V.iconst (v := (0 : Int32)) dX7_readWant_70 (by decide) ?_
        obtain rfl := Option.some.inj hf
        exact V.zret dX7_readWant_71 (by first | rfl | assumption)
      · rw [if_neg c11] at hf
        refine V.aload_n dX7_readWant_50 rfl 0 rfl ?_
        refine V.ldcS (i := 9) dX7_readWant_51 (by decide) ?_
        obtain ⟨q12, e32, hf⟩ := bS hf
        obtain ⟨r13, e33, hf⟩ := bS hf
        refine V.callV (As := [.ref (xS0 + 2 * 9)]) (st := []) dX7_readWant_53 cl_RX7_126 sw_yX7_pass (by decide) rfl (Nat.le_of_ble_eq_true rfl) rfl (gO_some e32) rfl (w_X7_pass _ _ _ _ e33) ?_
        refine V.if_eq (tgt := 70) dX7_readWant_56 (by decide) (fun c14 => ?_) (fun c14 => ?_)
        · rw [if_pos c14] at hf
          refine V.iconst (v := (0 : Int32)) dX7_readWant_70 (by decide) ?_
          obtain rfl := Option.some.inj hf
          exact V.zret dX7_readWant_71 (by first | rfl | assumption)
        · rw [if_neg c14] at hf
          refine V.aload_n dX7_readWant_59 rfl 0 rfl ?_
          refine V.iconst (v := (0 : Int32)) dX7_readWant_60 (by decide) ?_
          refine V.sipush (v := (9999 : Int32)) dX7_readWant_61 (by decide) ?_
          obtain ⟨q15, e34, hf⟩ := bS hf
          obtain ⟨r16, e35, hf⟩ := bS hf
          refine V.callV (As := [.int (0 : Int32), .int (9999 : Int32)]) (st := []) dX7_readWant_64 cl_RX7_129 sw_yX7_number (by decide) rfl (Nat.le_of_ble_eq_true rfl) rfl (gO_some e34) rfl (w_X7_number _ _ _ _ _ e35) ?_
          refine V.if_ne (tgt := 72) dX7_readWant_67 (by decide) (fun c17 => ?_) (fun c17 => ?_)
          · rw [if_neg c17] at hf
            refine V.aload_n dX7_readWant_72 rfl 0 rfl ?_
            refine V.ldcS (i := 10) dX7_readWant_73 (by decide) ?_
            obtain ⟨q18, e36, hf⟩ := bS hf
            obtain ⟨r19, e37, hf⟩ := bS hf
            refine V.callV (As := [.ref (xS0 + 2 * 10)]) (st := []) dX7_readWant_75 cl_RX7_145 sw_yX7_passIf (by decide) rfl (Nat.le_of_ble_eq_true rfl) rfl (gO_some e36) rfl (w_X7_passIf _ _ _ _ e37) ?_
            refine V.if_ne (tgt := 90) dX7_readWant_78 (by decide) (fun c20 => ?_) (fun c20 => ?_)
            · rw [if_neg c20] at hf
              refine V.aload_n dX7_readWant_90 rfl 0 rfl ?_
              refine V.aload_n dX7_readWant_91 rfl 0 rfl ?_
              obtain ⟨v21, e38, hf⟩ := bS hf
              refine V.xgR dX7_readWant_92 fl_RX7_37 e38 ?_
              refine V.iconst (v := (1 : Int32)) dX7_readWant_95 (by decide) ?_
              obtain ⟨v22, e39, hf⟩ := bS hf
              refine V.xldI dX7_readWant_96 e39 ?_
              refine V.sipush (v := (9999 : Int32)) dX7_readWant_97 (by decide) ?_
              obtain ⟨q23, e40, hf⟩ := bS hf
              obtain ⟨r24, e41, hf⟩ := bS hf
              refine V.callV (As := [.int v22, .int (9999 : Int32)]) (st := []) dX7_readWant_100 cl_RX7_129 sw_yX7_number (by decide) rfl (Nat.le_of_ble_eq_true rfl) rfl (gO_some e40) rfl (w_X7_number _ _ _ _ _ e41) ?_
              refine V.if_ne (tgt := 108) dX7_readWant_103 (by decide) (fun c25 => ?_) (fun c25 => ?_)
              · rw [if_neg c25] at hf
                exact w_X7_readWant_108 _ _ _ hf
              · rw [if_pos c25] at hf
                refine V.iconst (v := (0 : Int32)) dX7_readWant_106 (by decide) ?_
                obtain rfl := Option.some.inj hf
                exact V.zret dX7_readWant_107 (by first | rfl | assumption)
            · rw [if_pos c20] at hf
              refine V.aload_n dX7_readWant_81 rfl 0 rfl ?_
              refine V.ldc (v := 99999) dX7_readWant_82 co_RX7_176 ?_
              obtain ⟨q26, e42, hf⟩ := bS hf
              obtain ⟨r27, e43, hf⟩ := bS hf
              refine V.callV (As := [.int (99999 : Int32)]) (st := []) dX7_readWant_84 cl_RX7_148 sw_yX7_tell (by decide) rfl (Nat.le_of_ble_eq_true rfl) rfl (gO_some e42) rfl (w_X7_tell _ _ _ _ e43) ?_
              refine V.goto (tgt := 108) dX7_readWant_87 (by decide) ?_
              exact w_X7_readWant_108 _ _ _ hf
          · rw [if_pos c17] at hf
            refine V.iconst (v := (0 : Int32)) dX7_readWant_70 (by decide) ?_
            obtain rfl := Option.some.inj hf
            exact V.zret dX7_readWant_71 (by first | rfl | assumption)

set_option maxRecDepth 20000 in
theorem w_X7_readWant (h : xH) (l0 : Nat) (r : Int32 × xH) (hf : f_X7_readWant h l0 = some r) : Ev 9 yX7_readWant cX7_readWant 1 (some .boolean) [] [.ref l0] h (oIh r) := by
  refine Ev.of (by decide +kernel) (Nat.le_of_ble_eq_true rfl) ?_
  unfold f_X7_readWant at hf
  refine V.aload_n dX7_readWant_0 rfl 0 rfl ?_
  refine V.aload_n dX7_readWant_1 rfl 0 rfl ?_
  obtain ⟨v1, e44, hf⟩ := bS hf
  refine V.xgR dX7_readWant_2 fl_RX7_33 e44 ?_
  obtain ⟨v2, e45, hf⟩ := bS hf
  refine V.xgI dX7_readWant_5 fl_RX7_169 e45 ?_
  refine V.bipush (v := (24 : Int32)) dX7_readWant_8 (by decide) ?_
  refine V.icmp_ge (tgt := 17) dX7_readWant_10 (by decide) (fun c3 => ?_) (fun c3 => ?_)
  · rw [if_pos c3] at hf
    refine V.iconst (v := (0 : Int32)) dX7_readWant_17 (by decide) ?_
    exact w_X7_readWant_18 _ _ _ _ _ hf
  · rw [if_neg c3] at hf
    refine V.iconst (v := (1 : Int32)) dX7_readWant_13 (by decide) ?_
    refine V.goto (tgt := 18) dX7_readWant_14 (by decide) ?_
    exact w_X7_readWant_18 _ _ _ _ _ hf

def f_X7_readLine (h : xH) (l0 : Nat) : Option (Int32 × xH) := (gO h l0 7).bind fun q1 => (f_X7_isWord h l0 (xS0 + 2 * 0)).bind fun r2 => (if r2 = 0 then ((gO h l0 7).bind fun q4 => (f_X7_isWord h l0 (xS0 + 2 * 1)).bind fun r5 => (if r5 = 0 then ((gO h l0 7).bind fun q7 => (f_X7_isWord h l0 (xS0 + 2 * 5)).bind fun r8 => (if r8 = 0 then ((gO h l0 7).bind fun q10 => (f_X7_isWord h l0 (xS0 + 2 * 8)).bind fun r11 => (if r11 = 0 then ((gO h l0 7).bind fun q13 => (f_X7_isWord h l0 (xS0 + 2 * 12)).bind fun r14 => (if r14 = 0 then ((gO h l0 7).bind fun q16 => (f_X7_isWord h l0 (xS0 + 2 * 14)).bind fun r17 => (if r17 = 0 then ((gO h l0 7).bind fun q19 => (f_X7_isWord h l0 (xS0 + 2 * 16)).bind fun r20 => (if r20 = 0 then ((gO h l0 7).bind fun q22 => (f_X7_isWord h l0 (xS0 + 2 * 17)).bind fun r23 => (if r23 = 0 then ((gO h l0 7).bind fun q25 => (f_X7_refuse h l0 (2 : Int32)).bind fun r26 => (if narrow .boolean (.int (r26.1)) = .int (r26.1) then some (r26.1, r26.2) else none)) else ((gO h l0 7).bind fun q28 => (f_X7_readDear h l0).bind fun r29 => (if narrow .boolean (.int (r29.1)) = .int (r29.1) then some (r29.1, r29.2) else none)))) else ((gO h l0 7).bind fun q31 => (f_X7_readHates h l0).bind fun r32 => (if narrow .boolean (.int (r32.1)) = .int (r32.1) then some (r32.1, r32.2) else none)))) else ((gO h l0 7).bind fun q34 => (f_X7_readBurns h l0).bind fun r35 => (if narrow .boolean (.int (r35.1)) = .int (r35.1) then some (r35.1, r35.2) else none)))) else ((gO h l0 7).bind fun q37 => (f_X7_readHole h l0).bind fun r38 => (if narrow .boolean (.int (r38.1)) = .int (r38.1) then some (r38.1, r38.2) else none)))) else ((gO h l0 7).bind fun q40 => (f_X7_readWant h l0).bind fun r41 => (if narrow .boolean (.int (r41.1)) = .int (r41.1) then some (r41.1, r41.2) else none)))) else ((gO h l0 7).bind fun q43 => (f_X7_readLamp h l0).bind fun r44 => (if narrow .boolean (.int (r44.1)) = .int (r44.1) then some (r44.1, r44.2) else none)))) else ((gO h l0 7).bind fun q46 => (f_X7_readPane h l0).bind fun r47 => (if narrow .boolean (.int (r47.1)) = .int (r47.1) then some (r47.1, r47.2) else none)))) else ((gO h l0 7).bind fun q49 => (f_X7_readRooms h l0).bind fun r50 => (if narrow .boolean (.int (r50.1)) = .int (r50.1) then some (r50.1, r50.2) else none)))
set_option maxRecDepth 20000 in
theorem w_X7_readLine (h : xH) (l0 : Nat) (r : Int32 × xH) (hf : f_X7_readLine h l0 = some r) : Ev 11 yX7_readLine cX7_readLine 1 (some .boolean) [] [.ref l0] h (oIh r) := by
  refine Ev.of (by decide +kernel) (Nat.le_of_ble_eq_true rfl) ?_
  unfold f_X7_readLine at hf
  refine V.aload_n dX7_readLine_0 rfl 0 rfl ?_
  refine V.ldcS (i := 0) dX7_readLine_1 (by decide) ?_
  obtain ⟨q1, e1, hf⟩ := bS hf
  obtain ⟨r2, e2, hf⟩ := bS hf
  refine V.callV (As := [.ref (xS0 + 2 * 0)]) (st := []) dX7_readLine_3 cl_RX7_78 sw_yX7_isWord (by decide) rfl (Nat.le_of_ble_eq_true rfl) rfl (gO_some e1) rfl (w_X7_isWord _ _ _ _ e2) ?_
  refine V.if_eq (tgt := 14) dX7_readLine_6 (by decide) (fun c3 => ?_) (fun c3 => ?_)
  · rw [if_pos c3] at hf
    refine V.aload_n dX7_readLine_14 rfl 0 rfl ?_
    refine V.ldcS (i := 1) dX7_readLine_15 (by decide) ?_
    obtain ⟨q4, e3, hf⟩ := bS hf
    obtain ⟨r5, e4, hf⟩ := bS hf
    refine V.callV (As := [.ref (xS0 + 2 * 1)]) (st := []) dX7_readLine_17 cl_RX7_78 sw_yX7_isWord (by decide) rfl (Nat.le_of_ble_eq_true rfl) rfl (gO_some e3) rfl (w_X7_isWord _ _ _ _ e4) ?_
    refine V.if_eq (tgt := 28) dX7_readLine_20 (by decide) (fun c6 => ?_) (fun c6 => ?_)
    · rw [if_pos c6] at hf
      refine V.aload_n dX7_readLine_28 rfl 0 rfl ?_
      refine V.ldcS (i := 5) dX7_readLine_29 (by decide) ?_
      obtain ⟨q7, e5, hf⟩ := bS hf
      obtain ⟨r8, e6, hf⟩ := bS hf
      refine V.callV (As := [.ref (xS0 + 2 * 5)]) (st := []) dX7_readLine_31 cl_RX7_78 sw_yX7_isWord (by decide) rfl (Nat.le_of_ble_eq_true rfl) rfl (gO_some e5) rfl (w_X7_isWord _ _ _ _ e6) ?_
      refine V.if_eq (tgt := 42) dX7_readLine_34 (by decide) (fun c9 => ?_) (fun c9 => ?_)
      · rw [if_pos c9] at hf
        refine V.aload_n dX7_readLine_42 rfl 0 rfl ?_
        refine V.ldcS (i := 8) dX7_readLine_43 (by decide) ?_
        obtain ⟨q10, e7, hf⟩ := bS hf
        obtain ⟨r11, e8, hf⟩ := bS hf
        refine V.callV (As := [.ref (xS0 + 2 * 8)]) (st := []) dX7_readLine_45 cl_RX7_78 sw_yX7_isWord (by decide) rfl (Nat.le_of_ble_eq_true rfl) rfl (gO_some e7) rfl (w_X7_isWord _ _ _ _ e8) ?_
        refine V.if_eq (tgt := 56) dX7_readLine_48 (by decide) (fun c12 => ?_) (fun c12 => ?_)
        · rw [if_pos c12] at hf
          refine V.aload_n dX7_readLine_56 rfl 0 rfl ?_
          refine V.ldcS (i := 12) dX7_readLine_57 (by decide) ?_
          obtain ⟨q13, e9, hf⟩ := bS hf
          obtain ⟨r14, e10, hf⟩ := bS hf
          refine V.callV (As := [.ref (xS0 + 2 * 12)]) (st := []) dX7_readLine_59 cl_RX7_78 sw_yX7_isWord (by decide) rfl (Nat.le_of_ble_eq_true rfl) rfl (gO_some e9) rfl (w_X7_isWord _ _ _ _ e10) ?_
          refine V.if_eq (tgt := 70) dX7_readLine_62 (by decide) (fun c15 => ?_) (fun c15 => ?_)
          · rw [if_pos c15] at hf
            refine V.aload_n dX7_readLine_70 rfl 0 rfl ?_
            refine V.ldcS (i := 14) dX7_readLine_71 (by decide) ?_
            obtain ⟨q16, e11, hf⟩ := bS hf
            obtain ⟨r17, e12, hf⟩ := bS hf
            refine V.callV (As := [.ref (xS0 + 2 * 14)]) (st := []) dX7_readLine_73 cl_RX7_78 sw_yX7_isWord (by decide) rfl (Nat.le_of_ble_eq_true rfl) rfl (gO_some e11) rfl (w_X7_isWord _ _ _ _ e12) ?_
            refine V.if_eq (tgt := 84) dX7_readLine_76 (by decide) (fun c18 => ?_) (fun c18 => ?_)
            · rw [if_pos c18] at hf
              refine V.aload_n dX7_readLine_84 rfl 0 rfl ?_
              refine V.ldcS (i := 16) dX7_readLine_85 (by decide) ?_
              obtain ⟨q19, e13, hf⟩ := bS hf
              obtain ⟨r20, e14, hf⟩ := bS hf
              refine V.callV (As := [.ref (xS0 + 2 * 16)]) (st := []) dX7_readLine_87 cl_RX7_78 sw_yX7_isWord (by decide) rfl (Nat.le_of_ble_eq_true rfl) rfl (gO_some e13) rfl (w_X7_isWord _ _ _ _ e14) ?_
              refine V.if_eq (tgt := 98) dX7_readLine_90 (by decide) (fun c21 => ?_) (fun c21 => ?_)
              · rw [if_pos c21] at hf
                refine V.aload_n dX7_readLine_98 rfl 0 rfl ?_
                refine V.ldcS (i := 17) dX7_readLine_99 (by decide) ?_
                obtain ⟨q22, e15, hf⟩ := bS hf
                obtain ⟨r23, e16, hf⟩ := bS hf
                refine V.callV (As := [.ref (xS0 + 2 * 17)]) (st := []) dX7_readLine_101 cl_RX7_78 sw_yX7_isWord (by decide) rfl (Nat.le_of_ble_eq_true rfl) rfl (gO_some e15) rfl (w_X7_isWord _ _ _ _ e16) ?_
                refine V.if_eq (tgt := 114) dX7_readLine_104 (by decide) (fun c24 => ?_) (fun c24 => ?_)
                · rw [if_pos c24] at hf
                  refine V.aload_n dX7_readLine_114 rfl 0 rfl ?_
                  refine V.iconst (v := (2 : Int32)) dX7_readLine_115 (by decide) ?_
                  obtain ⟨q25, e17, hf⟩ := bS hf
                  obtain ⟨r26, e18, hf⟩ := bS hf
                  refine V.callV (As := [.int (2 : Int32)]) (st := []) dX7_readLine_116 cl_RX7_120 sw_yX7_refuse (by decide) rfl (Nat.le_of_ble_eq_true rfl) rfl (gO_some e17) rfl (w_X7_refuse _ _ _ _ e18) ?_
                  by_cases c27 : narrow .boolean (.int (r26.1)) = .int (r26.1)
                  · rw [if_pos c27] at hf
                    obtain rfl := Option.some.inj hf
                    exact V.zret dX7_readLine_119 c27
                  · rw [if_neg c27] at hf
                    cases hf
                · rw [if_neg c24] at hf
                  refine V.aload_n dX7_readLine_107 rfl 0 rfl ?_
                  obtain ⟨q28, e19, hf⟩ := bS hf
                  obtain ⟨r29, e20, hf⟩ := bS hf
                  refine V.callV (As := []) (st := []) dX7_readLine_108 cl_RX7_117 sw_yX7_readDear (by decide) rfl (Nat.le_of_ble_eq_true rfl) rfl (gO_some e19) rfl (w_X7_readDear _ _ _ e20) ?_
                  refine V.goto (tgt := 119) dX7_readLine_111 (by decide) ?_
                  by_cases c30 : narrow .boolean (.int (r29.1)) = .int (r29.1)
                  · rw [if_pos c30] at hf
                    obtain rfl := Option.some.inj hf
                    exact V.zret dX7_readLine_119 c30
                  · rw [if_neg c30] at hf
                    cases hf
              · rw [if_neg c21] at hf
                refine V.aload_n dX7_readLine_93 rfl 0 rfl ?_
                obtain ⟨q31, e21, hf⟩ := bS hf
                obtain ⟨r32, e22, hf⟩ := bS hf
                refine V.callV (As := []) (st := []) dX7_readLine_94 cl_RX7_112 sw_yX7_readHates (by decide) rfl (Nat.le_of_ble_eq_true rfl) rfl (gO_some e21) rfl (w_X7_readHates _ _ _ e22) ?_
                by_cases c33 : narrow .boolean (.int (r32.1)) = .int (r32.1)
                · rw [if_pos c33] at hf
                  obtain rfl := Option.some.inj hf
                  exact V.zret dX7_readLine_97 c33
                · rw [if_neg c33] at hf
                  cases hf
            · rw [if_neg c18] at hf
              refine V.aload_n dX7_readLine_79 rfl 0 rfl ?_
              obtain ⟨q34, e23, hf⟩ := bS hf
              obtain ⟨r35, e24, hf⟩ := bS hf
              refine V.callV (As := []) (st := []) dX7_readLine_80 cl_RX7_107 sw_yX7_readBurns (by decide) rfl (Nat.le_of_ble_eq_true rfl) rfl (gO_some e23) rfl (w_X7_readBurns _ _ _ e24) ?_
              by_cases c36 : narrow .boolean (.int (r35.1)) = .int (r35.1)
              · rw [if_pos c36] at hf
                obtain rfl := Option.some.inj hf
                exact V.zret dX7_readLine_83 c36
              · rw [if_neg c36] at hf
                cases hf
          · rw [if_neg c15] at hf
            refine V.aload_n dX7_readLine_65 rfl 0 rfl ?_
            obtain ⟨q37, e25, hf⟩ := bS hf
            obtain ⟨r38, e26, hf⟩ := bS hf
            refine V.callV (As := []) (st := []) dX7_readLine_66 cl_RX7_102 sw_yX7_readHole (by decide) rfl (Nat.le_of_ble_eq_true rfl) rfl (gO_some e25) rfl (w_X7_readHole _ _ _ e26) ?_
            by_cases c39 : narrow .boolean (.int (r38.1)) = .int (r38.1)
            · rw [if_pos c39] at hf
              obtain rfl := Option.some.inj hf
              exact V.zret dX7_readLine_69 c39
            · rw [if_neg c39] at hf
              cases hf
        · rw [if_neg c12] at hf
          refine V.aload_n dX7_readLine_51 rfl 0 rfl ?_
          obtain ⟨q40, e27, hf⟩ := bS hf
          obtain ⟨r41, e28, hf⟩ := bS hf
          refine V.callV (As := []) (st := []) dX7_readLine_52 cl_RX7_97 sw_yX7_readWant (by decide) rfl (Nat.le_of_ble_eq_true rfl) rfl (gO_some e27) rfl (w_X7_readWant _ _ _ e28) ?_
          by_cases c42 : narrow .boolean (.int (r41.1)) = .int (r41.1)
          · rw [if_pos c42] at hf
            obtain rfl := Option.some.inj hf
            exact V.zret dX7_readLine_55 c42
          · rw [if_neg c42] at hf
            cases hf
      · rw [if_neg c9] at hf
        refine V.aload_n dX7_readLine_37 rfl 0 rfl ?_
        obtain ⟨q43, e29, hf⟩ := bS hf
        obtain ⟨r44, e30, hf⟩ := bS hf
        refine V.callV (As := []) (st := []) dX7_readLine_38 cl_RX7_92 sw_yX7_readLamp (by decide) rfl (Nat.le_of_ble_eq_true rfl) rfl (gO_some e29) rfl (w_X7_readLamp _ _ _ e30) ?_
        by_cases c45 : narrow .boolean (.int (r44.1)) = .int (r44.1)
        · rw [if_pos c45] at hf
          obtain rfl := Option.some.inj hf
          exact V.zret dX7_readLine_41 c45
        · rw [if_neg c45] at hf
          cases hf
    · rw [if_neg c6] at hf
      refine V.aload_n dX7_readLine_23 rfl 0 rfl ?_
      obtain ⟨q46, e31, hf⟩ := bS hf
      obtain ⟨r47, e32, hf⟩ := bS hf
      refine V.callV (As := []) (st := []) dX7_readLine_24 cl_RX7_87 sw_yX7_readPane (by decide) rfl (Nat.le_of_ble_eq_true rfl) rfl (gO_some e31) rfl (w_X7_readPane _ _ _ e32) ?_
      by_cases c48 : narrow .boolean (.int (r47.1)) = .int (r47.1)
      · rw [if_pos c48] at hf
        obtain rfl := Option.some.inj hf
        exact V.zret dX7_readLine_27 c48
      · rw [if_neg c48] at hf
        cases hf
  · rw [if_neg c3] at hf
    refine V.aload_n dX7_readLine_9 rfl 0 rfl ?_
    obtain ⟨q49, e33, hf⟩ := bS hf
    obtain ⟨r50, e34, hf⟩ := bS hf
    refine V.callV (As := []) (st := []) dX7_readLine_10 cl_RX7_82 sw_yX7_readRooms (by decide) rfl (Nat.le_of_ble_eq_true rfl) rfl (gO_some e33) rfl (w_X7_readRooms _ _ _ e34) ?_
    by_cases c51 : narrow .boolean (.int (r50.1)) = .int (r50.1)
    · rw [if_pos c51] at hf
      obtain rfl := Option.some.inj hf
      exact V.zret dX7_readLine_13 c51
    · rw [if_neg c51] at hf
      cases hf

def f_X7_readHouse_86 (h : xH) (l0 : Nat) : Option (Nat × xH) := (gR h l0 7 8).bind fun v1 => some ((v1, h))
def f_X7_readHouse_65 (h : xH) (l0 : Nat) : Option (Nat × xH) := (gI h l0 7 0).bind fun v1 => (if v1 = 0 then ((gR h l0 7 8).bind fun v3 => (gO h v3 3).bind fun q4 => (f_X3_findNext h v3).bind fun r5 => (gR r5 l0 7 8).bind fun v6 => (gO r5 v6 3).bind fun q7 => (f_X3_findWalks r5 v6).bind fun r8 => f_X7_readHouse_86 r8 l0) else (f_X7_readHouse_86 h l0))
def f_X7_readHouse_6 : Nat → xH → Nat → Int32 → Option (Nat × xH)
  | 0, _, _, _ => none
  | n + 1, h, l0, l1 => (if (800 : Int32) ≤ l1 then (f_X7_readHouse_65 h l0) else ((gI h l0 7 0).bind fun v2 => (if v2 = 0 then ((gI h l0 7 4).bind fun v4 => (if v4 = 0 then (f_X7_readHouse_65 h l0) else ((pF h l0 7 10 (.int (0 : Int32))).bind fun h6 => (gO h6 l0 7).bind fun q7 => (f_X7_readLine h6 l0).bind fun r8 => (if r8.1 = 0 then (f_X7_readHouse_6 n r8.2 l0 (l1 + 1)) else ((gO r8.2 l0 7).bind fun q10 => (f_X7_passSign r8.2 l0).bind fun r11 => (if r11.1 = 0 then (f_X7_readHouse_6 n r11.2 l0 (l1 + 1)) else ((gR r11.2 l0 7 8).bind fun v13 => (gI r11.2 v13 3 0).bind fun v14 => (pF r11.2 v13 3 0 (.int (v14 + (1 : Int32)))).bind fun h15 => f_X7_readHouse_6 n h15 l0 (l1 + 1)))))))) else (f_X7_readHouse_65 h l0))))
def f_X7_readHouse (h : xH) (l0 : Nat) : Option (Nat × xH) := (gO h l0 7).bind fun q1 => (f_X7_advance h l0).bind fun r2 => f_X7_readHouse_6 xFU r2 l0 (0 : Int32)
set_option maxRecDepth 20000 in
theorem w_X7_readHouse_86 (h : xH) (l0 : Nat) (r : Nat × xH) (hf : f_X7_readHouse_86 h l0 = some r) : V 12 yX7_readHouse cX7_readHouse 2 (some (.object "LitNextDoor$House")) [] none 86 [(0, .ref l0)] [] h (oRh r) := by
  unfold f_X7_readHouse_86 at hf
  refine V.aload_n dX7_readHouse_86 rfl 0 rfl ?_
  obtain ⟨v1, e1, hf⟩ := bS hf
  refine V.xgR dX7_readHouse_87 fl_RX7_33 e1 ?_
  obtain rfl := Option.some.inj hf
  exact V.aret dX7_readHouse_90 (by first | exact Or.inl ⟨_, rfl⟩ | exact Or.inr ⟨_, rfl⟩)

set_option maxRecDepth 20000 in
theorem w_X7_readHouse_65 (h : xH) (l0 : Nat) (r : Nat × xH) (hf : f_X7_readHouse_65 h l0 = some r) : V 12 yX7_readHouse cX7_readHouse 2 (some (.object "LitNextDoor$House")) [] none 65 [(0, .ref l0)] [] h (oRh r) := by
  unfold f_X7_readHouse_65 at hf
  refine V.aload_n dX7_readHouse_65 rfl 0 rfl ?_
  obtain ⟨v1, e2, hf⟩ := bS hf
  refine V.xgI dX7_readHouse_66 fl_RX7_9 e2 ?_
  refine V.if_ne (tgt := 86) dX7_readHouse_69 (by decide) (fun c2 => ?_) (fun c2 => ?_)
  · rw [if_neg c2] at hf
    exact w_X7_readHouse_86 _ _ _ hf
  · rw [if_pos c2] at hf
    refine V.aload_n dX7_readHouse_72 rfl 0 rfl ?_
    obtain ⟨v3, e3, hf⟩ := bS hf
    refine V.xgR dX7_readHouse_73 fl_RX7_33 e3 ?_
    obtain ⟨q4, e4, hf⟩ := bS hf
    obtain ⟨r5, e5, hf⟩ := bS hf
    refine V.callV (As := []) (st := []) dX7_readHouse_76 cl_RX7_70 sw_yX3_findNext (by decide) rfl (Nat.le_of_ble_eq_true rfl) rfl (gO_some e4) rfl (w_X3_findNext _ _ _ e5) ?_
    refine V.aload_n dX7_readHouse_79 rfl 0 rfl ?_
    obtain ⟨v6, e6, hf⟩ := bS hf
    refine V.xgR dX7_readHouse_80 fl_RX7_33 e6 ?_
    obtain ⟨q7, e7, hf⟩ := bS hf
    obtain ⟨r8, e8, hf⟩ := bS hf
    refine V.callV (As := []) (st := []) dX7_readHouse_83 cl_RX7_73 sw_yX3_findWalks (by decide) rfl (Nat.le_of_ble_eq_true rfl) rfl (gO_some e7) rfl (w_X3_findWalks _ _ _ e8) ?_
    exact w_X7_readHouse_86 _ _ _ hf

set_option maxRecDepth 20000 in
theorem w_X7_readHouse_6 : ∀ (n : Nat) (h : xH) (l0 : Nat) (l1 : Int32) (r : Nat × xH), f_X7_readHouse_6 n h l0 l1 = some r → V 12 yX7_readHouse cX7_readHouse 2 (some (.object "LitNextDoor$House")) [] none 6 [(0, .ref l0), (1, .int l1)] [] h (oRh r) := by
  intro n
  induction n with
  | zero => intro h l0 l1 r hf; cases hf
  | succ n ih =>
    intro h l0 l1 r hf
    rw [f_X7_readHouse_6] at hf
    refine V.iload_n dX7_readHouse_6 rfl 1 rfl ?_
    refine V.sipush (v := (800 : Int32)) dX7_readHouse_7 (by decide) ?_
    refine V.icmp_ge (tgt := 65) dX7_readHouse_10 (by decide) (fun c1 => ?_) (fun c1 => ?_)
    · rw [if_pos c1] at hf
      refine V.sub [0] rfl ?_
      exact w_X7_readHouse_65 _ _ _ hf
    · rw [if_neg c1] at hf
      refine V.aload_n dX7_readHouse_13 rfl 0 rfl ?_
      obtain ⟨v2, e9, hf⟩ := bS hf
      refine V.xgI dX7_readHouse_14 fl_RX7_9 e9 ?_
      refine V.if_ne (tgt := 65) dX7_readHouse_17 (by decide) (fun c3 => ?_) (fun c3 => ?_)
      · rw [if_neg c3] at hf
        refine V.sub [0] rfl ?_
        exact w_X7_readHouse_65 _ _ _ hf
      · rw [if_pos c3] at hf
        refine V.aload_n dX7_readHouse_20 rfl 0 rfl ?_
        obtain ⟨v4, e10, hf⟩ := bS hf
        refine V.xgI dX7_readHouse_21 fl_RX7_18 e10 ?_
        refine V.if_eq (tgt := 65) dX7_readHouse_24 (by decide) (fun c5 => ?_) (fun c5 => ?_)
        · rw [if_pos c5] at hf
          refine V.sub [0] rfl ?_
          exact w_X7_readHouse_65 _ _ _ hf
        · rw [if_neg c5] at hf
          refine V.aload_n dX7_readHouse_27 rfl 0 rfl ?_
          refine V.iconst (v := (0 : Int32)) dX7_readHouse_28 (by decide) ?_
          obtain ⟨h6, e11, hf⟩ := bS hf
          refine V.xpF dX7_readHouse_29 fl_RX7_41 (fun h9 => nomatch h9) (fun _ => rfl) (fun _ => rfl) e11 ?_
          refine V.aload_n dX7_readHouse_32 rfl 0 rfl ?_
          obtain ⟨q7, e12, hf⟩ := bS hf
          obtain ⟨r8, e13, hf⟩ := bS hf
          refine V.callV (As := []) (st := []) dX7_readHouse_33 cl_RX7_60 sw_yX7_readLine (by decide) rfl (Nat.le_of_ble_eq_true rfl) rfl (gO_some e12) rfl (w_X7_readLine _ _ _ e13) ?_
          refine V.if_eq (tgt := 59) dX7_readHouse_36 (by decide) (fun c9 => ?_) (fun c9 => ?_)
          · rw [if_pos c9] at hf
            refine V.iinc (v := (l1 + 1)) (lv' := [(1, .int (l1 + 1)), (0, .ref l0)]) dX7_readHouse_59 1 rfl rfl (Nat.le_of_ble_eq_true rfl) rfl ?_
            refine V.goto (tgt := 6) dX7_readHouse_62 (by decide) ?_
            refine V.sub [1, 0] rfl ?_
            exact ih _ _ _ _ hf
          · rw [if_neg c9] at hf
            refine V.aload_n dX7_readHouse_39 rfl 0 rfl ?_
            obtain ⟨q10, e14, hf⟩ := bS hf
            obtain ⟨r11, e15, hf⟩ := bS hf
            refine V.callV (As := []) (st := []) dX7_readHouse_40 cl_RX7_64 sw_yX7_passSign (by decide) rfl (Nat.le_of_ble_eq_true rfl) rfl (gO_some e14) rfl (w_X7_passSign _ _ _ e15) ?_
            refine V.if_eq (tgt := 59) dX7_readHouse_43 (by decide) (fun c12 => ?_) (fun c12 => ?_)
            · rw [if_pos c12] at hf
              refine V.iinc (v := (l1 + 1)) (lv' := [(1, .int (l1 + 1)), (0, .ref l0)]) dX7_readHouse_59 1 rfl rfl (Nat.le_of_ble_eq_true rfl) rfl ?_
              refine V.goto (tgt := 6) dX7_readHouse_62 (by decide) ?_
              refine V.sub [1, 0] rfl ?_
              exact ih _ _ _ _ hf
            · rw [if_neg c12] at hf
              refine V.aload_n dX7_readHouse_46 rfl 0 rfl ?_
              obtain ⟨v13, e16, hf⟩ := bS hf
              refine V.xgR dX7_readHouse_47 fl_RX7_33 e16 ?_
              refine V.dup dX7_readHouse_50 rfl ?_
              obtain ⟨v14, e17, hf⟩ := bS hf
              refine V.xgI dX7_readHouse_51 fl_RX7_67 e17 ?_
              refine V.iconst (v := (1 : Int32)) dX7_readHouse_54 (by decide) ?_
              refine V.iadd dX7_readHouse_55 ?_
              obtain ⟨h15, e18, hf⟩ := bS hf
              refine V.xpF dX7_readHouse_56 fl_RX7_67 (fun h9 => nomatch h9) (fun _ => rfl) (fun _ => rfl) e18 ?_
              refine V.iinc (v := (l1 + 1)) (lv' := [(1, .int (l1 + 1)), (0, .ref l0)]) dX7_readHouse_59 1 rfl rfl (Nat.le_of_ble_eq_true rfl) rfl ?_
              refine V.goto (tgt := 6) dX7_readHouse_62 (by decide) ?_
              refine V.sub [1, 0] rfl ?_
              exact ih _ _ _ _ hf

set_option maxRecDepth 20000 in
theorem w_X7_readHouse (h : xH) (l0 : Nat) (r : Nat × xH) (hf : f_X7_readHouse h l0 = some r) : Ev 12 yX7_readHouse cX7_readHouse 2 (some (.object "LitNextDoor$House")) [] [.ref l0] h (oRh r) := by
  refine Ev.of (by decide +kernel) (Nat.le_of_ble_eq_true rfl) ?_
  unfold f_X7_readHouse at hf
  refine V.aload_n dX7_readHouse_0 rfl 0 rfl ?_
  obtain ⟨q1, e19, hf⟩ := bS hf
  obtain ⟨r2, e20, hf⟩ := bS hf
  refine V.callV (As := []) (st := []) dX7_readHouse_1 cl_RX7_57 sw_yX7_advance (by decide) rfl (Nat.le_of_ble_eq_true rfl) rfl (gO_some e19) rfl (w_X7_advance _ _ _ e20) ?_
  refine V.iconst (v := (0 : Int32)) dX7_readHouse_4 (by decide) ?_
  refine V.istore_n (lv' := [(1, .int (0 : Int32)), (0, .ref l0)]) dX7_readHouse_5 rfl (by decide) rfl ?_
  refine V.sub [1, 0] rfl ?_
  exact w_X7_readHouse_6 _ _ _ _ _ hf

