def f_L_angry (h : xH) (l0 : Nat) (l1 : Int32) (l2 : Nat) : Option (Int32 × xH) := (gO h l0 11).bind fun q1 => (f_X11_angry h l0 l1).bind fun r2 => (match r2 with | .inl E3 => ((if E3.1 = "java/lang/IllegalArgumentException" then (some (((1 : Int32), E3.2))) else none)) | .inr v4 => ((stJ h l2 (0 : Int32) (Int32.toInt64 v4)).bind fun h6 => some (((0 : Int32), h6))))
set_option maxRecDepth 20000 in
theorem w_L_angry (h : xH) (l0 : Nat) (l1 : Int32) (l2 : Nat) (r : Int32 × xH) (hf : f_L_angry h l0 l1 l2 = some r) : Ev 6 yL_angry cL_angry 4 (some .int) [(0, 9, 12, 13)] [.ref l0, .int l1, .ref l2] h (oIh r) := by
  refine Ev.ofH (by decide +kernel) (Nat.le_of_ble_eq_true rfl) ?_
  unfold f_L_angry at hf
  refine V.aload_n dL_angry_0 rfl 2 rfl ?_
  refine V.iconst (v := (0 : Int32)) dL_angry_1 (by decide) ?_
  refine V.aload_n dL_angry_2 rfl 0 rfl ?_
  refine V.iload_n dL_angry_3 rfl 1 rfl ?_
  obtain ⟨q1, e1, hf⟩ := bS hf
  obtain ⟨r2, e2, hf⟩ := bS hf
  rcases r2 with E3 | v4
  · obtain ⟨E3c, E3h⟩ := E3
    dsimp only at hf
    by_cases c5 : E3c = "java/lang/IllegalArgumentException"
    · rw [if_pos c5] at hf
      subst c5
      refine V.callVC (k := 3) (pre := []) (suf := []) (x := ⟨0, 9, 12, 13⟩) (name := "java/lang/IllegalArgumentException") (E0 := "java/lang/IllegalArgumentException") (h' := E3h) (As := [.int l1]) (st := [.int (0 : Int32), .ref l2]) dL_angry_4 cl_RL_52 sw_yX11_angry (by decide) rfl (Nat.le_of_ble_eq_true rfl) rfl (gO_some e1) rfl (w_X11_angry _ _ _ _ e2) rfl xpre_n (by decide) (by decide) (by decide) ncl_RL_13 (by decide +kernel) (Or.inl ⟨⟨_, dL_angry_12, rfl⟩, rfl⟩) (by decide) ?_
      refine V.iconst (v := (1 : Int32)) dL_angry_13 (by decide) ?_
      obtain rfl := Option.some.inj hf
      exact V.iret dL_angry_14
    · rw [if_neg c5] at hf
      cases hf
  · refine V.callV (As := [.int l1]) (st := [.int (0 : Int32), .ref l2]) dL_angry_4 cl_RL_52 sw_yX11_angry (by decide) rfl (Nat.le_of_ble_eq_true rfl) rfl (gO_some e1) rfl (w_X11_angry _ _ _ _ e2) ?_
    try dsimp only at hf
    refine V.i2l dL_angry_7 ?_
    obtain ⟨h6, e3, hf⟩ := bS hf
    refine V.xstJ dL_angry_8 e3 ?_
    refine V.goto (tgt := 15) dL_angry_9 (by decide) ?_
    refine V.iconst (v := (0 : Int32)) dL_angry_15 (by decide) ?_
    obtain rfl := Option.some.inj hf
    exact V.iret dL_angry_16

def f_L_barred (h : xH) (l0 : Nat) (l1 : Int32) (l2 : Nat) : Option (Int32 × xH) := (gO h l0 11).bind fun q1 => (f_X11_barred h l0 l1).bind fun r2 => (match r2 with | .inl E3 => ((if E3.1 = "java/util/NoSuchElementException" then (some (((1 : Int32), E3.2))) else none)) | .inr v4 => ((stJ v4.2 l2 (0 : Int32) (Int32.toInt64 (v4.1))).bind fun h6 => some (((0 : Int32), h6))))
set_option maxRecDepth 20000 in
theorem w_L_barred (h : xH) (l0 : Nat) (l1 : Int32) (l2 : Nat) (r : Int32 × xH) (hf : f_L_barred h l0 l1 l2 = some r) : Ev 49 yL_barred cL_barred 4 (some .int) [(0, 9, 12, 19)] [.ref l0, .int l1, .ref l2] h (oIh r) := by
  refine Ev.ofH (by decide +kernel) (Nat.le_of_ble_eq_true rfl) ?_
  unfold f_L_barred at hf
  refine V.aload_n dL_barred_0 rfl 2 rfl ?_
  refine V.iconst (v := (0 : Int32)) dL_barred_1 (by decide) ?_
  refine V.aload_n dL_barred_2 rfl 0 rfl ?_
  refine V.iload_n dL_barred_3 rfl 1 rfl ?_
  obtain ⟨q1, e1, hf⟩ := bS hf
  obtain ⟨r2, e2, hf⟩ := bS hf
  rcases r2 with E3 | v4
  · obtain ⟨E3c, E3h⟩ := E3
    dsimp only at hf
    by_cases c5 : E3c = "java/util/NoSuchElementException"
    · rw [if_pos c5] at hf
      subst c5
      refine V.callVC (k := 3) (pre := []) (suf := []) (x := ⟨0, 9, 12, 19⟩) (name := "java/util/NoSuchElementException") (E0 := "java/util/NoSuchElementException") (h' := E3h) (As := [.int l1]) (st := [.int (0 : Int32), .ref l2]) dL_barred_4 cl_RL_65 sw_yX11_barred (by decide) rfl (Nat.le_of_ble_eq_true rfl) rfl (gO_some e1) rfl (w_X11_barred _ _ _ _ e2) rfl xpre_n (by decide) (by decide) (by decide) ncl_RL_19 (by decide +kernel) (Or.inl ⟨⟨_, dL_barred_12, rfl⟩, rfl⟩) (by decide) ?_
      refine V.iconst (v := (1 : Int32)) dL_barred_13 (by decide) ?_
      obtain rfl := Option.some.inj hf
      exact V.iret dL_barred_14
    · rw [if_neg c5] at hf
      cases hf
  · refine V.callV (As := [.int l1]) (st := [.int (0 : Int32), .ref l2]) dL_barred_4 cl_RL_65 sw_yX11_barred (by decide) rfl (Nat.le_of_ble_eq_true rfl) rfl (gO_some e1) rfl (w_X11_barred _ _ _ _ e2) ?_
    try dsimp only at hf
    refine V.i2l dL_barred_7 ?_
    obtain ⟨h6, e3, hf⟩ := bS hf
    refine V.xstJ dL_barred_8 e3 ?_
    refine V.goto (tgt := 15) dL_barred_9 (by decide) ?_
    refine V.iconst (v := (0 : Int32)) dL_barred_15 (by decide) ?_
    obtain rfl := Option.some.inj hf
    exact V.iret dL_barred_16

def f_L_best (h : xH) (l0 : Nat) (l1 : Int32) (l2 : Nat) : Option (Int32 × xH) := (gO h l0 11).bind fun q1 => (f_X11_best h l0 l1).bind fun r2 => (match r2 with | .inl E3 => ((if E3.1 = "java/lang/IllegalArgumentException" then (some (((1 : Int32), E3.2))) else none)) | .inr v4 => ((stJ v4.2 l2 (0 : Int32) (Int32.toInt64 (v4.1))).bind fun h6 => some (((0 : Int32), h6))))
set_option maxRecDepth 20000 in
theorem w_L_best (h : xH) (l0 : Nat) (l1 : Int32) (l2 : Nat) (r : Int32 × xH) (hf : f_L_best h l0 l1 l2 = some r) : Ev 48 yL_best cL_best 4 (some .int) [(0, 9, 12, 13)] [.ref l0, .int l1, .ref l2] h (oIh r) := by
  refine Ev.ofH (by decide +kernel) (Nat.le_of_ble_eq_true rfl) ?_
  unfold f_L_best at hf
  refine V.aload_n dL_best_0 rfl 2 rfl ?_
  refine V.iconst (v := (0 : Int32)) dL_best_1 (by decide) ?_
  refine V.aload_n dL_best_2 rfl 0 rfl ?_
  refine V.iload_n dL_best_3 rfl 1 rfl ?_
  obtain ⟨q1, e1, hf⟩ := bS hf
  obtain ⟨r2, e2, hf⟩ := bS hf
  rcases r2 with E3 | v4
  · obtain ⟨E3c, E3h⟩ := E3
    dsimp only at hf
    by_cases c5 : E3c = "java/lang/IllegalArgumentException"
    · rw [if_pos c5] at hf
      subst c5
      refine V.callVC (k := 3) (pre := []) (suf := []) (x := ⟨0, 9, 12, 13⟩) (name := "java/lang/IllegalArgumentException") (E0 := "java/lang/IllegalArgumentException") (h' := E3h) (As := [.int l1]) (st := [.int (0 : Int32), .ref l2]) dL_best_4 cl_RL_59 sw_yX11_best (by decide) rfl (Nat.le_of_ble_eq_true rfl) rfl (gO_some e1) rfl (w_X11_best _ _ _ _ e2) rfl xpre_n (by decide) (by decide) (by decide) ncl_RL_13 (by decide +kernel) (Or.inl ⟨⟨_, dL_best_12, rfl⟩, rfl⟩) (by decide) ?_
      refine V.iconst (v := (1 : Int32)) dL_best_13 (by decide) ?_
      obtain rfl := Option.some.inj hf
      exact V.iret dL_best_14
    · rw [if_neg c5] at hf
      cases hf
  · refine V.callV (As := [.int l1]) (st := [.int (0 : Int32), .ref l2]) dL_best_4 cl_RL_59 sw_yX11_best (by decide) rfl (Nat.le_of_ble_eq_true rfl) rfl (gO_some e1) rfl (w_X11_best _ _ _ _ e2) ?_
    try dsimp only at hf
    refine V.i2l dL_best_7 ?_
    obtain ⟨h6, e3, hf⟩ := bS hf
    refine V.xstJ dL_best_8 e3 ?_
    refine V.goto (tgt := 15) dL_best_9 (by decide) ?_
    refine V.iconst (v := (0 : Int32)) dL_best_15 (by decide) ?_
    obtain rfl := Option.some.inj hf
    exact V.iret dL_best_16

def f_L_bright (h : xH) (l0 : Nat) (l1 : Int32) (l2 : Int32) (l3 : Nat) : Option (Int32 × xH) := (gO h l0 11).bind fun q1 => (f_X11_bright h l0 l1 l2).bind fun r2 => (match r2 with | .inl E3 => ((if E3.1 = "java/util/NoSuchElementException" then (some (((1 : Int32), E3.2))) else (if E3.1 = "java/lang/IllegalArgumentException" then (some (((2 : Int32), E3.2))) else none))) | .inr v4 => ((stJ v4.2 l3 (0 : Int32) (Int32.toInt64 (v4.1))).bind fun h7 => some (((0 : Int32), h7))))
set_option maxRecDepth 20000 in
theorem w_L_bright (h : xH) (l0 : Nat) (l1 : Int32) (l2 : Int32) (l3 : Nat) (r : Int32 × xH) (hf : f_L_bright h l0 l1 l2 l3 = some r) : Ev 48 yL_bright cL_bright 5 (some .int) [(0, 10, 13, 19), (0, 10, 17, 13)] [.ref l0, .int l1, .int l2, .ref l3] h (oIh r) := by
  refine Ev.ofH (by decide +kernel) (Nat.le_of_ble_eq_true rfl) ?_
  unfold f_L_bright at hf
  refine V.aload_n dL_bright_0 rfl 3 rfl ?_
  refine V.iconst (v := (0 : Int32)) dL_bright_1 (by decide) ?_
  refine V.aload_n dL_bright_2 rfl 0 rfl ?_
  refine V.iload_n dL_bright_3 rfl 1 rfl ?_
  refine V.iload_n dL_bright_4 rfl 2 rfl ?_
  obtain ⟨q1, e1, hf⟩ := bS hf
  obtain ⟨r2, e2, hf⟩ := bS hf
  rcases r2 with E3 | v4
  · obtain ⟨E3c, E3h⟩ := E3
    dsimp only at hf
    by_cases c5 : E3c = "java/util/NoSuchElementException"
    · rw [if_pos c5] at hf
      subst c5
      refine V.callVC (k := 4) (pre := []) (suf := [⟨0, 10, 17, 13⟩]) (x := ⟨0, 10, 13, 19⟩) (name := "java/util/NoSuchElementException") (E0 := "java/util/NoSuchElementException") (h' := E3h) (As := [.int l1, .int l2]) (st := [.int (0 : Int32), .ref l3]) dL_bright_5 cl_RL_62 sw_yX11_bright (by decide) rfl (Nat.le_of_ble_eq_true rfl) rfl (gO_some e1) rfl (w_X11_bright _ _ _ _ _ e2) rfl xpre_n (by decide) (by decide) (by decide) ncl_RL_19 (by decide +kernel) (Or.inr ⟨dL_bright_13, rfl⟩) (by decide) ?_
      refine V.iconst (v := (1 : Int32)) dL_bright_15 (by decide) ?_
      obtain rfl := Option.some.inj hf
      exact V.iret dL_bright_16
    · rw [if_neg c5] at hf
      by_cases c6 : E3c = "java/lang/IllegalArgumentException"
      · rw [if_pos c6] at hf
        subst c6
        refine V.callVC (k := 4) (pre := [⟨0, 10, 13, 19⟩]) (suf := []) (x := ⟨0, 10, 17, 13⟩) (name := "java/lang/IllegalArgumentException") (E0 := "java/lang/IllegalArgumentException") (h' := E3h) (As := [.int l1, .int l2]) (st := [.int (0 : Int32), .ref l3]) dL_bright_5 cl_RL_62 sw_yX11_bright (by decide) rfl (Nat.le_of_ble_eq_true rfl) rfl (gO_some e1) rfl (w_X11_bright _ _ _ _ _ e2) rfl (xpre_c (by decide) ncl_RL_19 (by decide) (by decide) xpre_n) (by decide) (by decide) (by decide) ncl_RL_13 (by decide +kernel) (Or.inr ⟨dL_bright_17, rfl⟩) (by decide) ?_
        refine V.iconst (v := (2 : Int32)) dL_bright_19 (by decide) ?_
        obtain rfl := Option.some.inj hf
        exact V.iret dL_bright_20
      · rw [if_neg c6] at hf
        cases hf
  · refine V.callV (As := [.int l1, .int l2]) (st := [.int (0 : Int32), .ref l3]) dL_bright_5 cl_RL_62 sw_yX11_bright (by decide) rfl (Nat.le_of_ble_eq_true rfl) rfl (gO_some e1) rfl (w_X11_bright _ _ _ _ _ e2) ?_
    try dsimp only at hf
    refine V.i2l dL_bright_8 ?_
    obtain ⟨h7, e3, hf⟩ := bS hf
    refine V.xstJ dL_bright_9 e3 ?_
    refine V.goto (tgt := 21) dL_bright_10 (by decide) ?_
    refine V.iconst (v := (0 : Int32)) dL_bright_21 (by decide) ?_
    obtain rfl := Option.some.inj hf
    exact V.iret dL_bright_22

def f_L_by (h : xH) (l0 : Nat) (l1 : Int32) (l2 : Int32) (l3 : Nat) : Option (Int32 × xH) := (gO h l0 11).bind fun q1 => (f_X11_by h l0 l1 l2).bind fun r2 => (match r2 with | .inl E3 => ((if E3.1 = "java/util/NoSuchElementException" then (some (((1 : Int32), E3.2))) else (if E3.1 = "java/lang/IllegalArgumentException" then (some (((2 : Int32), E3.2))) else none))) | .inr v4 => ((stJ h l3 (0 : Int32) (Int32.toInt64 v4)).bind fun h7 => some (((0 : Int32), h7))))
set_option maxRecDepth 20000 in
theorem w_L_by (h : xH) (l0 : Nat) (l1 : Int32) (l2 : Int32) (l3 : Nat) (r : Int32 × xH) (hf : f_L_by h l0 l1 l2 l3 = some r) : Ev 6 yL_by cL_by 5 (some .int) [(0, 10, 13, 19), (0, 10, 17, 13)] [.ref l0, .int l1, .int l2, .ref l3] h (oIh r) := by
  refine Ev.ofH (by decide +kernel) (Nat.le_of_ble_eq_true rfl) ?_
  unfold f_L_by at hf
  refine V.aload_n dL_by_0 rfl 3 rfl ?_
  refine V.iconst (v := (0 : Int32)) dL_by_1 (by decide) ?_
  refine V.aload_n dL_by_2 rfl 0 rfl ?_
  refine V.iload_n dL_by_3 rfl 1 rfl ?_
  refine V.iload_n dL_by_4 rfl 2 rfl ?_
  obtain ⟨q1, e1, hf⟩ := bS hf
  obtain ⟨r2, e2, hf⟩ := bS hf
  rcases r2 with E3 | v4
  · obtain ⟨E3c, E3h⟩ := E3
    dsimp only at hf
    by_cases c5 : E3c = "java/util/NoSuchElementException"
    · rw [if_pos c5] at hf
      subst c5
      refine V.callVC (k := 4) (pre := []) (suf := [⟨0, 10, 17, 13⟩]) (x := ⟨0, 10, 13, 19⟩) (name := "java/util/NoSuchElementException") (E0 := "java/util/NoSuchElementException") (h' := E3h) (As := [.int l1, .int l2]) (st := [.int (0 : Int32), .ref l3]) dL_by_5 cl_RL_40 sw_yX11_by (by decide) rfl (Nat.le_of_ble_eq_true rfl) rfl (gO_some e1) rfl (w_X11_by _ _ _ _ _ e2) rfl xpre_n (by decide) (by decide) (by decide) ncl_RL_19 (by decide +kernel) (Or.inr ⟨dL_by_13, rfl⟩) (by decide) ?_
      refine V.iconst (v := (1 : Int32)) dL_by_15 (by decide) ?_
      obtain rfl := Option.some.inj hf
      exact V.iret dL_by_16
    · rw [if_neg c5] at hf
      by_cases c6 : E3c = "java/lang/IllegalArgumentException"
      · rw [if_pos c6] at hf
        subst c6
        refine V.callVC (k := 4) (pre := [⟨0, 10, 13, 19⟩]) (suf := []) (x := ⟨0, 10, 17, 13⟩) (name := "java/lang/IllegalArgumentException") (E0 := "java/lang/IllegalArgumentException") (h' := E3h) (As := [.int l1, .int l2]) (st := [.int (0 : Int32), .ref l3]) dL_by_5 cl_RL_40 sw_yX11_by (by decide) rfl (Nat.le_of_ble_eq_true rfl) rfl (gO_some e1) rfl (w_X11_by _ _ _ _ _ e2) rfl (xpre_c (by decide) ncl_RL_19 (by decide) (by decide) xpre_n) (by decide) (by decide) (by decide) ncl_RL_13 (by decide +kernel) (Or.inr ⟨dL_by_17, rfl⟩) (by decide) ?_
        refine V.iconst (v := (2 : Int32)) dL_by_19 (by decide) ?_
        obtain rfl := Option.some.inj hf
        exact V.iret dL_by_20
      · rw [if_neg c6] at hf
        cases hf
  · refine V.callV (As := [.int l1, .int l2]) (st := [.int (0 : Int32), .ref l3]) dL_by_5 cl_RL_40 sw_yX11_by (by decide) rfl (Nat.le_of_ble_eq_true rfl) rfl (gO_some e1) rfl (w_X11_by _ _ _ _ _ e2) ?_
    try dsimp only at hf
    refine V.i2l dL_by_8 ?_
    obtain ⟨h7, e3, hf⟩ := bS hf
    refine V.xstJ dL_by_9 e3 ?_
    refine V.goto (tgt := 21) dL_by_10 (by decide) ?_
    refine V.iconst (v := (0 : Int32)) dL_by_21 (by decide) ?_
    obtain rfl := Option.some.inj hf
    exact V.iret dL_by_22

def f_L_carry (h : xH) (l0 : Nat) (l1 : Int32) (l2 : Int32) (l3 : Int32) (l4 : Int32) (l5 : Nat) : Option (Int32 × xH) := (gO h l0 11).bind fun q1 => (f_X11_carry h l0 l1 l2 l3 l4).bind fun r2 => (match r2 with | .inl E3 => ((if E3.1 = "java/lang/IllegalArgumentException" then (some (((1 : Int32), E3.2))) else none)) | .inr v4 => ((stJ v4.2 l5 (0 : Int32) (Int32.toInt64 (v4.1))).bind fun h6 => some (((0 : Int32), h6))))
set_option maxRecDepth 20000 in
theorem w_L_carry (h : xH) (l0 : Nat) (l1 : Int32) (l2 : Int32) (l3 : Int32) (l4 : Int32) (l5 : Nat) (r : Int32 × xH) (hf : f_L_carry h l0 l1 l2 l3 l4 l5 = some r) : Ev 9 yL_carry cL_carry 7 (some .int) [(0, 14, 17, 13)] [.ref l0, .int l1, .int l2, .int l3, .int l4, .ref l5] h (oIh r) := by
  refine Ev.ofH (by decide +kernel) (Nat.le_of_ble_eq_true rfl) ?_
  unfold f_L_carry at hf
  refine V.aload dL_carry_0 5 rfl ?_
  refine V.iconst (v := (0 : Int32)) dL_carry_2 (by decide) ?_
  refine V.aload_n dL_carry_3 rfl 0 rfl ?_
  refine V.iload_n dL_carry_4 rfl 1 rfl ?_
  refine V.iload_n dL_carry_5 rfl 2 rfl ?_
  refine V.iload_n dL_carry_6 rfl 3 rfl ?_
  refine V.iload dL_carry_7 4 rfl ?_
  obtain ⟨q1, e1, hf⟩ := bS hf
  obtain ⟨r2, e2, hf⟩ := bS hf
  rcases r2 with E3 | v4
  · obtain ⟨E3c, E3h⟩ := E3
    dsimp only at hf
    by_cases c5 : E3c = "java/lang/IllegalArgumentException"
    · rw [if_pos c5] at hf
      subst c5
      refine V.callVC (k := 6) (pre := []) (suf := []) (x := ⟨0, 14, 17, 13⟩) (name := "java/lang/IllegalArgumentException") (E0 := "java/lang/IllegalArgumentException") (h' := E3h) (As := [.int l1, .int l2, .int l3, .int l4]) (st := [.int (0 : Int32), .ref l5]) dL_carry_9 cl_RL_83 sw_yX11_carry (by decide) rfl (Nat.le_of_ble_eq_true rfl) rfl (gO_some e1) rfl (w_X11_carry _ _ _ _ _ _ _ e2) rfl xpre_n (by decide) (by decide) (by decide) ncl_RL_13 (by decide +kernel) (Or.inr ⟨dL_carry_17, rfl⟩) (by decide) ?_
      refine V.iconst (v := (1 : Int32)) dL_carry_19 (by decide) ?_
      obtain rfl := Option.some.inj hf
      exact V.iret dL_carry_20
    · rw [if_neg c5] at hf
      cases hf
  · refine V.callV (As := [.int l1, .int l2, .int l3, .int l4]) (st := [.int (0 : Int32), .ref l5]) dL_carry_9 cl_RL_83 sw_yX11_carry (by decide) rfl (Nat.le_of_ble_eq_true rfl) rfl (gO_some e1) rfl (w_X11_carry _ _ _ _ _ _ _ e2) ?_
    try dsimp only at hf
    refine V.i2l dL_carry_12 ?_
    obtain ⟨h6, e3, hf⟩ := bS hf
    refine V.xstJ dL_carry_13 e3 ?_
    refine V.goto (tgt := 21) dL_carry_14 (by decide) ?_
    refine V.iconst (v := (0 : Int32)) dL_carry_21 (by decide) ?_
    obtain rfl := Option.some.inj hf
    exact V.iret dL_carry_22

def f_L_cost (h : xH) (l0 : Nat) (l1 : Int32) (l2 : Nat) : Option (Int32 × xH) := (gO h l0 11).bind fun q1 => (f_X11_cost h l0 l1).bind fun r2 => (match r2 with | .inl E3 => ((if E3.1 = "java/lang/IllegalArgumentException" then (some (((1 : Int32), E3.2))) else none)) | .inr v4 => ((stJ v4.2 l2 (0 : Int32) (Int32.toInt64 (v4.1))).bind fun h6 => some (((0 : Int32), h6))))
set_option maxRecDepth 20000 in
theorem w_L_cost (h : xH) (l0 : Nat) (l1 : Int32) (l2 : Nat) (r : Int32 × xH) (hf : f_L_cost h l0 l1 l2 = some r) : Ev 48 yL_cost cL_cost 4 (some .int) [(0, 9, 12, 13)] [.ref l0, .int l1, .ref l2] h (oIh r) := by
  refine Ev.ofH (by decide +kernel) (Nat.le_of_ble_eq_true rfl) ?_
  unfold f_L_cost at hf
  refine V.aload_n dL_cost_0 rfl 2 rfl ?_
  refine V.iconst (v := (0 : Int32)) dL_cost_1 (by decide) ?_
  refine V.aload_n dL_cost_2 rfl 0 rfl ?_
  refine V.iload_n dL_cost_3 rfl 1 rfl ?_
  obtain ⟨q1, e1, hf⟩ := bS hf
  obtain ⟨r2, e2, hf⟩ := bS hf
  rcases r2 with E3 | v4
  · obtain ⟨E3c, E3h⟩ := E3
    dsimp only at hf
    by_cases c5 : E3c = "java/lang/IllegalArgumentException"
    · rw [if_pos c5] at hf
      subst c5
      refine V.callVC (k := 3) (pre := []) (suf := []) (x := ⟨0, 9, 12, 13⟩) (name := "java/lang/IllegalArgumentException") (E0 := "java/lang/IllegalArgumentException") (h' := E3h) (As := [.int l1]) (st := [.int (0 : Int32), .ref l2]) dL_cost_4 cl_RL_87 sw_yX11_cost (by decide) rfl (Nat.le_of_ble_eq_true rfl) rfl (gO_some e1) rfl (w_X11_cost _ _ _ _ e2) rfl xpre_n (by decide) (by decide) (by decide) ncl_RL_13 (by decide +kernel) (Or.inl ⟨⟨_, dL_cost_12, rfl⟩, rfl⟩) (by decide) ?_
      refine V.iconst (v := (1 : Int32)) dL_cost_13 (by decide) ?_
      obtain rfl := Option.some.inj hf
      exact V.iret dL_cost_14
    · rw [if_neg c5] at hf
      cases hf
  · refine V.callV (As := [.int l1]) (st := [.int (0 : Int32), .ref l2]) dL_cost_4 cl_RL_87 sw_yX11_cost (by decide) rfl (Nat.le_of_ble_eq_true rfl) rfl (gO_some e1) rfl (w_X11_cost _ _ _ _ e2) ?_
    try dsimp only at hf
    refine V.i2l dL_cost_7 ?_
    obtain ⟨h6, e3, hf⟩ := bS hf
    refine V.xstJ dL_cost_8 e3 ?_
    refine V.goto (tgt := 15) dL_cost_9 (by decide) ?_
    refine V.iconst (v := (0 : Int32)) dL_cost_15 (by decide) ?_
    obtain rfl := Option.some.inj hf
    exact V.iret dL_cost_16

def f_L_dark (h : xH) (l0 : Nat) (l1 : Int32) (l2 : Nat) : Option (Int32 × xH) := (gO h l0 11).bind fun q1 => (f_X11_dark h l0 l1).bind fun r2 => (match r2 with | .inl E3 => ((if E3.1 = "java/lang/IllegalArgumentException" then (some (((1 : Int32), E3.2))) else none)) | .inr v4 => ((stJ v4.2 l2 (0 : Int32) (Int32.toInt64 (v4.1))).bind fun h6 => some (((0 : Int32), h6))))
set_option maxRecDepth 20000 in
theorem w_L_dark (h : xH) (l0 : Nat) (l1 : Int32) (l2 : Nat) (r : Int32 × xH) (hf : f_L_dark h l0 l1 l2 = some r) : Ev 7 yL_dark cL_dark 4 (some .int) [(0, 9, 12, 13)] [.ref l0, .int l1, .ref l2] h (oIh r) := by
  refine Ev.ofH (by decide +kernel) (Nat.le_of_ble_eq_true rfl) ?_
  unfold f_L_dark at hf
  refine V.aload_n dL_dark_0 rfl 2 rfl ?_
  refine V.iconst (v := (0 : Int32)) dL_dark_1 (by decide) ?_
  refine V.aload_n dL_dark_2 rfl 0 rfl ?_
  refine V.iload_n dL_dark_3 rfl 1 rfl ?_
  obtain ⟨q1, e1, hf⟩ := bS hf
  obtain ⟨r2, e2, hf⟩ := bS hf
  rcases r2 with E3 | v4
  · obtain ⟨E3c, E3h⟩ := E3
    dsimp only at hf
    by_cases c5 : E3c = "java/lang/IllegalArgumentException"
    · rw [if_pos c5] at hf
      subst c5
      refine V.callVC (k := 3) (pre := []) (suf := []) (x := ⟨0, 9, 12, 13⟩) (name := "java/lang/IllegalArgumentException") (E0 := "java/lang/IllegalArgumentException") (h' := E3h) (As := [.int l1]) (st := [.int (0 : Int32), .ref l2]) dL_dark_4 cl_RL_43 sw_yX11_dark (by decide) rfl (Nat.le_of_ble_eq_true rfl) rfl (gO_some e1) rfl (w_X11_dark _ _ _ _ e2) rfl xpre_n (by decide) (by decide) (by decide) ncl_RL_13 (by decide +kernel) (Or.inl ⟨⟨_, dL_dark_12, rfl⟩, rfl⟩) (by decide) ?_
      refine V.iconst (v := (1 : Int32)) dL_dark_13 (by decide) ?_
      obtain rfl := Option.some.inj hf
      exact V.iret dL_dark_14
    · rw [if_neg c5] at hf
      cases hf
  · refine V.callV (As := [.int l1]) (st := [.int (0 : Int32), .ref l2]) dL_dark_4 cl_RL_43 sw_yX11_dark (by decide) rfl (Nat.le_of_ble_eq_true rfl) rfl (gO_some e1) rfl (w_X11_dark _ _ _ _ e2) ?_
    try dsimp only at hf
    refine V.i2l dL_dark_7 ?_
    obtain ⟨h6, e3, hf⟩ := bS hf
    refine V.xstJ dL_dark_8 e3 ?_
    refine V.goto (tgt := 15) dL_dark_9 (by decide) ?_
    refine V.iconst (v := (0 : Int32)) dL_dark_15 (by decide) ?_
    obtain rfl := Option.some.inj hf
    exact V.iret dL_dark_16

def f_L_day (h : xH) (l0 : Nat) (l1 : Int32) (l2 : Nat) : Option (Int32 × xH) := (gO h l0 11).bind fun q1 => (f_X11_day h l0 l1).bind fun r2 => (match r2 with | .inl E3 => ((if E3.1 = "java/util/NoSuchElementException" then (some (((1 : Int32), E3.2))) else none)) | .inr v4 => ((stJ v4.2 l2 (0 : Int32) (Int32.toInt64 (v4.1))).bind fun h6 => some (((0 : Int32), h6))))
set_option maxRecDepth 20000 in
theorem w_L_day (h : xH) (l0 : Nat) (l1 : Int32) (l2 : Nat) (r : Int32 × xH) (hf : f_L_day h l0 l1 l2 = some r) : Ev 49 yL_day cL_day 4 (some .int) [(0, 9, 12, 19)] [.ref l0, .int l1, .ref l2] h (oIh r) := by
  refine Ev.ofH (by decide +kernel) (Nat.le_of_ble_eq_true rfl) ?_
  unfold f_L_day at hf
  refine V.aload_n dL_day_0 rfl 2 rfl ?_
  refine V.iconst (v := (0 : Int32)) dL_day_1 (by decide) ?_
  refine V.aload_n dL_day_2 rfl 0 rfl ?_
  refine V.iload_n dL_day_3 rfl 1 rfl ?_
  obtain ⟨q1, e1, hf⟩ := bS hf
  obtain ⟨r2, e2, hf⟩ := bS hf
  rcases r2 with E3 | v4
  · obtain ⟨E3c, E3h⟩ := E3
    dsimp only at hf
    by_cases c5 : E3c = "java/util/NoSuchElementException"
    · rw [if_pos c5] at hf
      subst c5
      refine V.callVC (k := 3) (pre := []) (suf := []) (x := ⟨0, 9, 12, 19⟩) (name := "java/util/NoSuchElementException") (E0 := "java/util/NoSuchElementException") (h' := E3h) (As := [.int l1]) (st := [.int (0 : Int32), .ref l2]) dL_day_4 cl_RL_68 sw_yX11_day (by decide) rfl (Nat.le_of_ble_eq_true rfl) rfl (gO_some e1) rfl (w_X11_day _ _ _ _ e2) rfl xpre_n (by decide) (by decide) (by decide) ncl_RL_19 (by decide +kernel) (Or.inl ⟨⟨_, dL_day_12, rfl⟩, rfl⟩) (by decide) ?_
      refine V.iconst (v := (1 : Int32)) dL_day_13 (by decide) ?_
      obtain rfl := Option.some.inj hf
      exact V.iret dL_day_14
    · rw [if_neg c5] at hf
      cases hf
  · refine V.callV (As := [.int l1]) (st := [.int (0 : Int32), .ref l2]) dL_day_4 cl_RL_68 sw_yX11_day (by decide) rfl (Nat.le_of_ble_eq_true rfl) rfl (gO_some e1) rfl (w_X11_day _ _ _ _ e2) ?_
    try dsimp only at hf
    refine V.i2l dL_day_7 ?_
    obtain ⟨h6, e3, hf⟩ := bS hf
    refine V.xstJ dL_day_8 e3 ?_
    refine V.goto (tgt := 15) dL_day_9 (by decide) ?_
    refine V.iconst (v := (0 : Int32)) dL_day_15 (by decide) ?_
    obtain rfl := Option.some.inj hf
    exact V.iret dL_day_16

def f_L_grid (h : xH) (l0 : Nat) (l1 : Int32) (l2 : Int32) (l3 : Nat) : Option (Int32 × xH) := (gO h l0 11).bind fun q1 => (f_X11_grid h l0 l1 l2).bind fun r2 => (match r2 with | .inl E3 => ((if E3.1 = "java/lang/IllegalArgumentException" then (some (((1 : Int32), E3.2))) else none)) | .inr v4 => ((stJ v4.2 l3 (0 : Int32) (Int32.toInt64 (v4.1))).bind fun h6 => some (((0 : Int32), h6))))
set_option maxRecDepth 20000 in
theorem w_L_grid (h : xH) (l0 : Nat) (l1 : Int32) (l2 : Int32) (l3 : Nat) (r : Int32 × xH) (hf : f_L_grid h l0 l1 l2 l3 = some r) : Ev 48 yL_grid cL_grid 5 (some .int) [(0, 10, 13, 13)] [.ref l0, .int l1, .int l2, .ref l3] h (oIh r) := by
  refine Ev.ofH (by decide +kernel) (Nat.le_of_ble_eq_true rfl) ?_
  unfold f_L_grid at hf
  refine V.aload_n dL_grid_0 rfl 3 rfl ?_
  refine V.iconst (v := (0 : Int32)) dL_grid_1 (by decide) ?_
  refine V.aload_n dL_grid_2 rfl 0 rfl ?_
  refine V.iload_n dL_grid_3 rfl 1 rfl ?_
  refine V.iload_n dL_grid_4 rfl 2 rfl ?_
  obtain ⟨q1, e1, hf⟩ := bS hf
  obtain ⟨r2, e2, hf⟩ := bS hf
  rcases r2 with E3 | v4
  · obtain ⟨E3c, E3h⟩ := E3
    dsimp only at hf
    by_cases c5 : E3c = "java/lang/IllegalArgumentException"
    · rw [if_pos c5] at hf
      subst c5
      refine V.callVC (k := 4) (pre := []) (suf := []) (x := ⟨0, 10, 13, 13⟩) (name := "java/lang/IllegalArgumentException") (E0 := "java/lang/IllegalArgumentException") (h' := E3h) (As := [.int l1, .int l2]) (st := [.int (0 : Int32), .ref l3]) dL_grid_5 cl_RL_74 sw_yX11_grid (by decide) rfl (Nat.le_of_ble_eq_true rfl) rfl (gO_some e1) rfl (w_X11_grid _ _ _ _ _ e2) rfl xpre_n (by decide) (by decide) (by decide) ncl_RL_13 (by decide +kernel) (Or.inr ⟨dL_grid_13, rfl⟩) (by decide) ?_
      refine V.iconst (v := (1 : Int32)) dL_grid_15 (by decide) ?_
      obtain rfl := Option.some.inj hf
      exact V.iret dL_grid_16
    · rw [if_neg c5] at hf
      cases hf
  · refine V.callV (As := [.int l1, .int l2]) (st := [.int (0 : Int32), .ref l3]) dL_grid_5 cl_RL_74 sw_yX11_grid (by decide) rfl (Nat.le_of_ble_eq_true rfl) rfl (gO_some e1) rfl (w_X11_grid _ _ _ _ _ e2) ?_
    try dsimp only at hf
    refine V.i2l dL_grid_8 ?_
    obtain ⟨h6, e3, hf⟩ := bS hf
    refine V.xstJ dL_grid_9 e3 ?_
    refine V.goto (tgt := 17) dL_grid_10 (by decide) ?_
    refine V.iconst (v := (0 : Int32)) dL_grid_17 (by decide) ?_
    obtain rfl := Option.some.inj hf
    exact V.iret dL_grid_18

def f_L_hang (h : xH) (l0 : Nat) (l1 : Int32) (l2 : Int32) (l3 : Int32) (l4 : Nat) : Option (Int32 × xH) := (gO h l0 11).bind fun q1 => (f_X11_hang h l0 l1 l2 l3).bind fun r2 => (match r2 with | .inl E3 => ((if E3.1 = "java/util/NoSuchElementException" then (some (((1 : Int32), E3.2))) else (if E3.1 = "java/lang/IllegalArgumentException" then (some (((2 : Int32), E3.2))) else none))) | .inr v4 => ((stJ v4.2 l4 (0 : Int32) (Int32.toInt64 (v4.1))).bind fun h7 => some (((0 : Int32), h7))))
set_option maxRecDepth 20000 in
theorem w_L_hang (h : xH) (l0 : Nat) (l1 : Int32) (l2 : Int32) (l3 : Int32) (l4 : Nat) (r : Int32 × xH) (hf : f_L_hang h l0 l1 l2 l3 l4 = some r) : Ev 6 yL_hang cL_hang 6 (some .int) [(0, 12, 15, 19), (0, 12, 19, 13)] [.ref l0, .int l1, .int l2, .int l3, .ref l4] h (oIh r) := by
  refine Ev.ofH (by decide +kernel) (Nat.le_of_ble_eq_true rfl) ?_
  unfold f_L_hang at hf
  refine V.aload dL_hang_0 4 rfl ?_
  refine V.iconst (v := (0 : Int32)) dL_hang_2 (by decide) ?_
  refine V.aload_n dL_hang_3 rfl 0 rfl ?_
  refine V.iload_n dL_hang_4 rfl 1 rfl ?_
  refine V.iload_n dL_hang_5 rfl 2 rfl ?_
  refine V.iload_n dL_hang_6 rfl 3 rfl ?_
  obtain ⟨q1, e1, hf⟩ := bS hf
  obtain ⟨r2, e2, hf⟩ := bS hf
  rcases r2 with E3 | v4
  · obtain ⟨E3c, E3h⟩ := E3
    dsimp only at hf
    by_cases c5 : E3c = "java/util/NoSuchElementException"
    · rw [if_pos c5] at hf
      subst c5
      refine V.callVC (k := 5) (pre := []) (suf := [⟨0, 12, 19, 13⟩]) (x := ⟨0, 12, 15, 19⟩) (name := "java/util/NoSuchElementException") (E0 := "java/util/NoSuchElementException") (h' := E3h) (As := [.int l1, .int l2, .int l3]) (st := [.int (0 : Int32), .ref l4]) dL_hang_7 cl_RL_30 sw_yX11_hang (by decide) rfl (Nat.le_of_ble_eq_true rfl) rfl (gO_some e1) rfl (w_X11_hang _ _ _ _ _ _ e2) rfl xpre_n (by decide) (by decide) (by decide) ncl_RL_19 (by decide +kernel) (Or.inr ⟨dL_hang_15, rfl⟩) (by decide) ?_
      refine V.iconst (v := (1 : Int32)) dL_hang_17 (by decide) ?_
      obtain rfl := Option.some.inj hf
      exact V.iret dL_hang_18
    · rw [if_neg c5] at hf
      by_cases c6 : E3c = "java/lang/IllegalArgumentException"
      · rw [if_pos c6] at hf
        subst c6
        refine V.callVC (k := 5) (pre := [⟨0, 12, 15, 19⟩]) (suf := []) (x := ⟨0, 12, 19, 13⟩) (name := "java/lang/IllegalArgumentException") (E0 := "java/lang/IllegalArgumentException") (h' := E3h) (As := [.int l1, .int l2, .int l3]) (st := [.int (0 : Int32), .ref l4]) dL_hang_7 cl_RL_30 sw_yX11_hang (by decide) rfl (Nat.le_of_ble_eq_true rfl) rfl (gO_some e1) rfl (w_X11_hang _ _ _ _ _ _ e2) rfl (xpre_c (by decide) ncl_RL_19 (by decide) (by decide) xpre_n) (by decide) (by decide) (by decide) ncl_RL_13 (by decide +kernel) (Or.inr ⟨dL_hang_19, rfl⟩) (by decide) ?_
        refine V.iconst (v := (2 : Int32)) dL_hang_21 (by decide) ?_
        obtain rfl := Option.some.inj hf
        exact V.iret dL_hang_22
      · rw [if_neg c6] at hf
        cases hf
  · refine V.callV (As := [.int l1, .int l2, .int l3]) (st := [.int (0 : Int32), .ref l4]) dL_hang_7 cl_RL_30 sw_yX11_hang (by decide) rfl (Nat.le_of_ble_eq_true rfl) rfl (gO_some e1) rfl (w_X11_hang _ _ _ _ _ _ e2) ?_
    try dsimp only at hf
    refine V.i2l dL_hang_10 ?_
    obtain ⟨h7, e3, hf⟩ := bS hf
    refine V.xstJ dL_hang_11 e3 ?_
    refine V.goto (tgt := 23) dL_hang_12 (by decide) ?_
    refine V.iconst (v := (0 : Int32)) dL_hang_23 (by decide) ?_
    obtain rfl := Option.some.inj hf
    exact V.iret dL_hang_24

def f_L_hated (h : xH) (l0 : Nat) (l1 : Int32) (l2 : Nat) : Option (Int32 × xH) := (gO h l0 11).bind fun q1 => (f_X11_hated h l0 l1).bind fun r2 => (match r2 with | .inl E3 => ((if E3.1 = "java/util/NoSuchElementException" then (some (((1 : Int32), E3.2))) else none)) | .inr v4 => ((stJ h l2 (0 : Int32) (Int32.toInt64 v4)).bind fun h6 => some (((0 : Int32), h6))))
set_option maxRecDepth 20000 in
theorem w_L_hated (h : xH) (l0 : Nat) (l1 : Int32) (l2 : Nat) (r : Int32 × xH) (hf : f_L_hated h l0 l1 l2 = some r) : Ev 6 yL_hated cL_hated 4 (some .int) [(0, 9, 12, 19)] [.ref l0, .int l1, .ref l2] h (oIh r) := by
  refine Ev.ofH (by decide +kernel) (Nat.le_of_ble_eq_true rfl) ?_
  unfold f_L_hated at hf
  refine V.aload_n dL_hated_0 rfl 2 rfl ?_
  refine V.iconst (v := (0 : Int32)) dL_hated_1 (by decide) ?_
  refine V.aload_n dL_hated_2 rfl 0 rfl ?_
  refine V.iload_n dL_hated_3 rfl 1 rfl ?_
  obtain ⟨q1, e1, hf⟩ := bS hf
  obtain ⟨r2, e2, hf⟩ := bS hf
  rcases r2 with E3 | v4
  · obtain ⟨E3c, E3h⟩ := E3
    dsimp only at hf
    by_cases c5 : E3c = "java/util/NoSuchElementException"
    · rw [if_pos c5] at hf
      subst c5
      refine V.callVC (k := 3) (pre := []) (suf := []) (x := ⟨0, 9, 12, 19⟩) (name := "java/util/NoSuchElementException") (E0 := "java/util/NoSuchElementException") (h' := E3h) (As := [.int l1]) (st := [.int (0 : Int32), .ref l2]) dL_hated_4 cl_RL_27 sw_yX11_hated (by decide) rfl (Nat.le_of_ble_eq_true rfl) rfl (gO_some e1) rfl (w_X11_hated _ _ _ _ e2) rfl xpre_n (by decide) (by decide) (by decide) ncl_RL_19 (by decide +kernel) (Or.inl ⟨⟨_, dL_hated_12, rfl⟩, rfl⟩) (by decide) ?_
      refine V.iconst (v := (1 : Int32)) dL_hated_13 (by decide) ?_
      obtain rfl := Option.some.inj hf
      exact V.iret dL_hated_14
    · rw [if_neg c5] at hf
      cases hf
  · refine V.callV (As := [.int l1]) (st := [.int (0 : Int32), .ref l2]) dL_hated_4 cl_RL_27 sw_yX11_hated (by decide) rfl (Nat.le_of_ble_eq_true rfl) rfl (gO_some e1) rfl (w_X11_hated _ _ _ _ e2) ?_
    try dsimp only at hf
    refine V.i2l dL_hated_7 ?_
    obtain ⟨h6, e3, hf⟩ := bS hf
    refine V.xstJ dL_hated_8 e3 ?_
    refine V.goto (tgt := 15) dL_hated_9 (by decide) ?_
    refine V.iconst (v := (0 : Int32)) dL_hated_15 (by decide) ?_
    obtain rfl := Option.some.inj hf
    exact V.iret dL_hated_16

def f_L_hole (h : xH) (l0 : Nat) (l1 : Int32) (l2 : Int32) (l3 : Nat) : Option (Int32 × xH) := (gO h l0 11).bind fun q1 => (f_X11_hole h l0 l1 l2).bind fun r2 => (match r2 with | .inl E3 => ((if E3.1 = "java/util/NoSuchElementException" then (some (((1 : Int32), E3.2))) else (if E3.1 = "java/lang/IllegalArgumentException" then (some (((2 : Int32), E3.2))) else none))) | .inr v4 => ((stJ v4.2 l3 (0 : Int32) (Int32.toInt64 (v4.1))).bind fun h7 => some (((0 : Int32), h7))))
set_option maxRecDepth 20000 in
theorem w_L_hole (h : xH) (l0 : Nat) (l1 : Int32) (l2 : Int32) (l3 : Nat) (r : Int32 × xH) (hf : f_L_hole h l0 l1 l2 l3 = some r) : Ev 49 yL_hole cL_hole 5 (some .int) [(0, 10, 13, 19), (0, 10, 17, 13)] [.ref l0, .int l1, .int l2, .ref l3] h (oIh r) := by
  refine Ev.ofH (by decide +kernel) (Nat.le_of_ble_eq_true rfl) ?_
  unfold f_L_hole at hf
  refine V.aload_n dL_hole_0 rfl 3 rfl ?_
  refine V.iconst (v := (0 : Int32)) dL_hole_1 (by decide) ?_
  refine V.aload_n dL_hole_2 rfl 0 rfl ?_
  refine V.iload_n dL_hole_3 rfl 1 rfl ?_
  refine V.iload_n dL_hole_4 rfl 2 rfl ?_
  obtain ⟨q1, e1, hf⟩ := bS hf
  obtain ⟨r2, e2, hf⟩ := bS hf
  rcases r2 with E3 | v4
  · obtain ⟨E3c, E3h⟩ := E3
    dsimp only at hf
    by_cases c5 : E3c = "java/util/NoSuchElementException"
    · rw [if_pos c5] at hf
      subst c5
      refine V.callVC (k := 4) (pre := []) (suf := [⟨0, 10, 17, 13⟩]) (x := ⟨0, 10, 13, 19⟩) (name := "java/util/NoSuchElementException") (E0 := "java/util/NoSuchElementException") (h' := E3h) (As := [.int l1, .int l2]) (st := [.int (0 : Int32), .ref l3]) dL_hole_5 cl_RL_77 sw_yX11_hole (by decide) rfl (Nat.le_of_ble_eq_true rfl) rfl (gO_some e1) rfl (w_X11_hole _ _ _ _ _ e2) rfl xpre_n (by decide) (by decide) (by decide) ncl_RL_19 (by decide +kernel) (Or.inr ⟨dL_hole_13, rfl⟩) (by decide) ?_
      refine V.iconst (v := (1 : Int32)) dL_hole_15 (by decide) ?_
      obtain rfl := Option.some.inj hf
      exact V.iret dL_hole_16
    · rw [if_neg c5] at hf
      by_cases c6 : E3c = "java/lang/IllegalArgumentException"
      · rw [if_pos c6] at hf
        subst c6
        refine V.callVC (k := 4) (pre := [⟨0, 10, 13, 19⟩]) (suf := []) (x := ⟨0, 10, 17, 13⟩) (name := "java/lang/IllegalArgumentException") (E0 := "java/lang/IllegalArgumentException") (h' := E3h) (As := [.int l1, .int l2]) (st := [.int (0 : Int32), .ref l3]) dL_hole_5 cl_RL_77 sw_yX11_hole (by decide) rfl (Nat.le_of_ble_eq_true rfl) rfl (gO_some e1) rfl (w_X11_hole _ _ _ _ _ e2) rfl (xpre_c (by decide) ncl_RL_19 (by decide) (by decide) xpre_n) (by decide) (by decide) (by decide) ncl_RL_13 (by decide +kernel) (Or.inr ⟨dL_hole_17, rfl⟩) (by decide) ?_
        refine V.iconst (v := (2 : Int32)) dL_hole_19 (by decide) ?_
        obtain rfl := Option.some.inj hf
        exact V.iret dL_hole_20
      · rw [if_neg c6] at hf
        cases hf
  · refine V.callV (As := [.int l1, .int l2]) (st := [.int (0 : Int32), .ref l3]) dL_hole_5 cl_RL_77 sw_yX11_hole (by decide) rfl (Nat.le_of_ble_eq_true rfl) rfl (gO_some e1) rfl (w_X11_hole _ _ _ _ _ e2) ?_
    try dsimp only at hf
    refine V.i2l dL_hole_8 ?_
    obtain ⟨h7, e3, hf⟩ := bS hf
    refine V.xstJ dL_hole_9 e3 ?_
    refine V.goto (tgt := 21) dL_hole_10 (by decide) ?_
    refine V.iconst (v := (0 : Int32)) dL_hole_21 (by decide) ?_
    obtain rfl := Option.some.inj hf
    exact V.iret dL_hole_22

def f_L_house (h : xH) (l0 : Nat) (l1 : Int32) (l2 : Nat) : Option (Int32 × xH) := (gO h l0 11).bind fun q1 => (f_X11_house h l0 l1).bind fun r2 => (match r2 with | .inl E3 => ((if E3.1 = "java/lang/IllegalArgumentException" then (some (((1 : Int32), E3.2))) else none)) | .inr v4 => ((stJ v4.2 l2 (0 : Int32) (Int32.toInt64 (v4.1))).bind fun h6 => some (((0 : Int32), h6))))
set_option maxRecDepth 20000 in
theorem w_L_house (h : xH) (l0 : Nat) (l1 : Int32) (l2 : Nat) (r : Int32 × xH) (hf : f_L_house h l0 l1 l2 = some r) : Ev 14 yL_house cL_house 4 (some .int) [(0, 9, 12, 13)] [.ref l0, .int l1, .ref l2] h (oIh r) := by
  refine Ev.ofH (by decide +kernel) (Nat.le_of_ble_eq_true rfl) ?_
  unfold f_L_house at hf
  refine V.aload_n dL_house_0 rfl 2 rfl ?_
  refine V.iconst (v := (0 : Int32)) dL_house_1 (by decide) ?_
  refine V.aload_n dL_house_2 rfl 0 rfl ?_
  refine V.iload_n dL_house_3 rfl 1 rfl ?_
  obtain ⟨q1, e1, hf⟩ := bS hf
  obtain ⟨r2, e2, hf⟩ := bS hf
  rcases r2 with E3 | v4
  · obtain ⟨E3c, E3h⟩ := E3
    dsimp only at hf
    by_cases c5 : E3c = "java/lang/IllegalArgumentException"
    · rw [if_pos c5] at hf
      subst c5
      refine V.callVC (k := 3) (pre := []) (suf := []) (x := ⟨0, 9, 12, 13⟩) (name := "java/lang/IllegalArgumentException") (E0 := "java/lang/IllegalArgumentException") (h' := E3h) (As := [.int l1]) (st := [.int (0 : Int32), .ref l2]) dL_house_4 cl_RL_7 sw_yX11_house (by decide) rfl (Nat.le_of_ble_eq_true rfl) rfl (gO_some e1) rfl (w_X11_house _ _ _ _ e2) rfl xpre_n (by decide) (by decide) (by decide) ncl_RL_13 (by decide +kernel) (Or.inl ⟨⟨_, dL_house_12, rfl⟩, rfl⟩) (by decide) ?_
      refine V.iconst (v := (1 : Int32)) dL_house_13 (by decide) ?_
      obtain rfl := Option.some.inj hf
      exact V.iret dL_house_14
    · rw [if_neg c5] at hf
      cases hf
  · refine V.callV (As := [.int l1]) (st := [.int (0 : Int32), .ref l2]) dL_house_4 cl_RL_7 sw_yX11_house (by decide) rfl (Nat.le_of_ble_eq_true rfl) rfl (gO_some e1) rfl (w_X11_house _ _ _ _ e2) ?_
    try dsimp only at hf
    refine V.i2l dL_house_7 ?_
    obtain ⟨h6, e3, hf⟩ := bS hf
    refine V.xstJ dL_house_8 e3 ?_
    refine V.goto (tgt := 15) dL_house_9 (by decide) ?_
    refine V.iconst (v := (0 : Int32)) dL_house_15 (by decide) ?_
    obtain rfl := Option.some.inj hf
    exact V.iret dL_house_16

def f_L_image (h : xH) (l0 : Nat) (l1 : Int32) : Option (Int32 × xH) := (gO h l0 11).bind fun q1 => (f_X11_image h l0 l1).bind fun r2 => (match r2 with | .inl E3 => ((if E3.1 = "java/util/NoSuchElementException" then (some (((1 : Int32), E3.2))) else none)) | .inr v4 => (some (((0 : Int32), v4))))
set_option maxRecDepth 20000 in
theorem w_L_image (h : xH) (l0 : Nat) (l1 : Int32) (r : Int32 × xH) (hf : f_L_image h l0 l1 = some r) : Ev 6 yL_image cL_image 3 (some .int) [(0, 5, 8, 19)] [.ref l0, .int l1] h (oIh r) := by
  refine Ev.ofH (by decide +kernel) (Nat.le_of_ble_eq_true rfl) ?_
  unfold f_L_image at hf
  refine V.aload_n dL_image_0 rfl 0 rfl ?_
  refine V.iload_n dL_image_1 rfl 1 rfl ?_
  obtain ⟨q1, e1, hf⟩ := bS hf
  obtain ⟨r2, e2, hf⟩ := bS hf
  rcases r2 with E3 | v4
  · obtain ⟨E3c, E3h⟩ := E3
    dsimp only at hf
    by_cases c5 : E3c = "java/util/NoSuchElementException"
    · rw [if_pos c5] at hf
      subst c5
      refine V.callVC (k := 2) (pre := []) (suf := []) (x := ⟨0, 5, 8, 19⟩) (name := "java/util/NoSuchElementException") (E0 := "java/util/NoSuchElementException") (h' := E3h) (As := [.int l1]) (st := []) dL_image_2 cl_RL_126 sw_yX11_image (by decide) rfl (Nat.le_of_ble_eq_true rfl) rfl (gO_some e1) rfl (w_X11_image _ _ _ _ e2) rfl xpre_n (by decide) (by decide) (by decide) ncl_RL_19 (by decide +kernel) (Or.inl ⟨⟨_, dL_image_8, rfl⟩, rfl⟩) (by decide) ?_
      refine V.iconst (v := (1 : Int32)) dL_image_9 (by decide) ?_
      obtain rfl := Option.some.inj hf
      exact V.iret dL_image_10
    · rw [if_neg c5] at hf
      cases hf
  · refine V.callV (As := [.int l1]) (st := []) dL_image_2 cl_RL_126 sw_yX11_image (by decide) rfl (Nat.le_of_ble_eq_true rfl) rfl (gO_some e1) rfl (w_X11_image _ _ _ _ e2) ?_
    try dsimp only at hf
    refine V.goto (tgt := 11) dL_image_5 (by decide) ?_
    refine V.iconst (v := (0 : Int32)) dL_image_11 (by decide) ?_
    obtain rfl := Option.some.inj hf
    exact V.iret dL_image_12

def f_L_kind (h : xH) (l0 : Nat) (l1 : Int32) (l2 : Int32) (l3 : Nat) : Option (Int32 × xH) := (gO h l0 11).bind fun q1 => (f_X11_kind h l0 l1 l2).bind fun r2 => (match r2 with | .inl E3 => ((if E3.1 = "java/util/NoSuchElementException" then (some (((1 : Int32), E3.2))) else (if E3.1 = "java/lang/IllegalArgumentException" then (some (((2 : Int32), E3.2))) else none))) | .inr v4 => ((stJ h l3 (0 : Int32) (Int32.toInt64 v4)).bind fun h7 => some (((0 : Int32), h7))))
set_option maxRecDepth 20000 in
theorem w_L_kind (h : xH) (l0 : Nat) (l1 : Int32) (l2 : Int32) (l3 : Nat) (r : Int32 × xH) (hf : f_L_kind h l0 l1 l2 l3 = some r) : Ev 6 yL_kind cL_kind 5 (some .int) [(0, 10, 13, 19), (0, 10, 17, 13)] [.ref l0, .int l1, .int l2, .ref l3] h (oIh r) := by
  refine Ev.ofH (by decide +kernel) (Nat.le_of_ble_eq_true rfl) ?_
  unfold f_L_kind at hf
  refine V.aload_n dL_kind_0 rfl 3 rfl ?_
  refine V.iconst (v := (0 : Int32)) dL_kind_1 (by decide) ?_
  refine V.aload_n dL_kind_2 rfl 0 rfl ?_
  refine V.iload_n dL_kind_3 rfl 1 rfl ?_
  refine V.iload_n dL_kind_4 rfl 2 rfl ?_
  obtain ⟨q1, e1, hf⟩ := bS hf
  obtain ⟨r2, e2, hf⟩ := bS hf
  rcases r2 with E3 | v4
  · obtain ⟨E3c, E3h⟩ := E3
    dsimp only at hf
    by_cases c5 : E3c = "java/util/NoSuchElementException"
    · rw [if_pos c5] at hf
      subst c5
      refine V.callVC (k := 4) (pre := []) (suf := [⟨0, 10, 17, 13⟩]) (x := ⟨0, 10, 13, 19⟩) (name := "java/util/NoSuchElementException") (E0 := "java/util/NoSuchElementException") (h' := E3h) (As := [.int l1, .int l2]) (st := [.int (0 : Int32), .ref l3]) dL_kind_5 cl_RL_21 sw_yX11_kind (by decide) rfl (Nat.le_of_ble_eq_true rfl) rfl (gO_some e1) rfl (w_X11_kind _ _ _ _ _ e2) rfl xpre_n (by decide) (by decide) (by decide) ncl_RL_19 (by decide +kernel) (Or.inr ⟨dL_kind_13, rfl⟩) (by decide) ?_
      refine V.iconst (v := (1 : Int32)) dL_kind_15 (by decide) ?_
      obtain rfl := Option.some.inj hf
      exact V.iret dL_kind_16
    · rw [if_neg c5] at hf
      by_cases c6 : E3c = "java/lang/IllegalArgumentException"
      · rw [if_pos c6] at hf
        subst c6
        refine V.callVC (k := 4) (pre := [⟨0, 10, 13, 19⟩]) (suf := []) (x := ⟨0, 10, 17, 13⟩) (name := "java/lang/IllegalArgumentException") (E0 := "java/lang/IllegalArgumentException") (h' := E3h) (As := [.int l1, .int l2]) (st := [.int (0 : Int32), .ref l3]) dL_kind_5 cl_RL_21 sw_yX11_kind (by decide) rfl (Nat.le_of_ble_eq_true rfl) rfl (gO_some e1) rfl (w_X11_kind _ _ _ _ _ e2) rfl (xpre_c (by decide) ncl_RL_19 (by decide) (by decide) xpre_n) (by decide) (by decide) (by decide) ncl_RL_13 (by decide +kernel) (Or.inr ⟨dL_kind_17, rfl⟩) (by decide) ?_
        refine V.iconst (v := (2 : Int32)) dL_kind_19 (by decide) ?_
        obtain rfl := Option.some.inj hf
        exact V.iret dL_kind_20
      · rw [if_neg c6] at hf
        cases hf
  · refine V.callV (As := [.int l1, .int l2]) (st := [.int (0 : Int32), .ref l3]) dL_kind_5 cl_RL_21 sw_yX11_kind (by decide) rfl (Nat.le_of_ble_eq_true rfl) rfl (gO_some e1) rfl (w_X11_kind _ _ _ _ _ e2) ?_
    try dsimp only at hf
    refine V.i2l dL_kind_8 ?_
    obtain ⟨h7, e3, hf⟩ := bS hf
    refine V.xstJ dL_kind_9 e3 ?_
    refine V.goto (tgt := 21) dL_kind_10 (by decide) ?_
    refine V.iconst (v := (0 : Int32)) dL_kind_21 (by decide) ?_
    obtain rfl := Option.some.inj hf
    exact V.iret dL_kind_22

def f_L_light (h : xH) (l0 : Nat) (l1 : Int32) (l2 : Int32) (l3 : Nat) : Option (Int32 × xH) := (gO h l0 11).bind fun q1 => (f_X11_light h l0 l1 l2).bind fun r2 => (match r2 with | .inl E3 => ((if E3.1 = "java/util/NoSuchElementException" then (some (((1 : Int32), E3.2))) else (if E3.1 = "java/lang/IllegalArgumentException" then (some (((2 : Int32), E3.2))) else none))) | .inr v4 => ((stJ v4.2 l3 (0 : Int32) (Int32.toInt64 (v4.1))).bind fun h7 => some (((0 : Int32), h7))))
set_option maxRecDepth 20000 in
theorem w_L_light (h : xH) (l0 : Nat) (l1 : Int32) (l2 : Int32) (l3 : Nat) (r : Int32 × xH) (hf : f_L_light h l0 l1 l2 l3 = some r) : Ev 6 yL_light cL_light 5 (some .int) [(0, 10, 13, 19), (0, 10, 17, 13)] [.ref l0, .int l1, .int l2, .ref l3] h (oIh r) := by
  refine Ev.ofH (by decide +kernel) (Nat.le_of_ble_eq_true rfl) ?_
  unfold f_L_light at hf
  refine V.aload_n dL_light_0 rfl 3 rfl ?_
  refine V.iconst (v := (0 : Int32)) dL_light_1 (by decide) ?_
  refine V.aload_n dL_light_2 rfl 0 rfl ?_
  refine V.iload_n dL_light_3 rfl 1 rfl ?_
  refine V.iload_n dL_light_4 rfl 2 rfl ?_
  obtain ⟨q1, e1, hf⟩ := bS hf
  obtain ⟨r2, e2, hf⟩ := bS hf
  rcases r2 with E3 | v4
  · obtain ⟨E3c, E3h⟩ := E3
    dsimp only at hf
    by_cases c5 : E3c = "java/util/NoSuchElementException"
    · rw [if_pos c5] at hf
      subst c5
      refine V.callVC (k := 4) (pre := []) (suf := [⟨0, 10, 17, 13⟩]) (x := ⟨0, 10, 13, 19⟩) (name := "java/util/NoSuchElementException") (E0 := "java/util/NoSuchElementException") (h' := E3h) (As := [.int l1, .int l2]) (st := [.int (0 : Int32), .ref l3]) dL_light_5 cl_RL_37 sw_yX11_light (by decide) rfl (Nat.le_of_ble_eq_true rfl) rfl (gO_some e1) rfl (w_X11_light _ _ _ _ _ e2) rfl xpre_n (by decide) (by decide) (by decide) ncl_RL_19 (by decide +kernel) (Or.inr ⟨dL_light_13, rfl⟩) (by decide) ?_
      refine V.iconst (v := (1 : Int32)) dL_light_15 (by decide) ?_
      obtain rfl := Option.some.inj hf
      exact V.iret dL_light_16
    · rw [if_neg c5] at hf
      by_cases c6 : E3c = "java/lang/IllegalArgumentException"
      · rw [if_pos c6] at hf
        subst c6
        refine V.callVC (k := 4) (pre := [⟨0, 10, 13, 19⟩]) (suf := []) (x := ⟨0, 10, 17, 13⟩) (name := "java/lang/IllegalArgumentException") (E0 := "java/lang/IllegalArgumentException") (h' := E3h) (As := [.int l1, .int l2]) (st := [.int (0 : Int32), .ref l3]) dL_light_5 cl_RL_37 sw_yX11_light (by decide) rfl (Nat.le_of_ble_eq_true rfl) rfl (gO_some e1) rfl (w_X11_light _ _ _ _ _ e2) rfl (xpre_c (by decide) ncl_RL_19 (by decide) (by decide) xpre_n) (by decide) (by decide) (by decide) ncl_RL_13 (by decide +kernel) (Or.inr ⟨dL_light_17, rfl⟩) (by decide) ?_
        refine V.iconst (v := (2 : Int32)) dL_light_19 (by decide) ?_
        obtain rfl := Option.some.inj hf
        exact V.iret dL_light_20
      · rw [if_neg c6] at hf
        cases hf
  · refine V.callV (As := [.int l1, .int l2]) (st := [.int (0 : Int32), .ref l3]) dL_light_5 cl_RL_37 sw_yX11_light (by decide) rfl (Nat.le_of_ble_eq_true rfl) rfl (gO_some e1) rfl (w_X11_light _ _ _ _ _ e2) ?_
    try dsimp only at hf
    refine V.i2l dL_light_8 ?_
    obtain ⟨h7, e3, hf⟩ := bS hf
    refine V.xstJ dL_light_9 e3 ?_
    refine V.goto (tgt := 21) dL_light_10 (by decide) ?_
    refine V.iconst (v := (0 : Int32)) dL_light_21 (by decide) ?_
    obtain rfl := Option.some.inj hf
    exact V.iret dL_light_22

def f_L_lights_16 (h : xH) (s0 : Int64) (s1 : Int32) (s2 : Nat) : Option (Int32 × xH) := (stJ h s2 s1 s0).bind fun h1 => some (((0 : Int32), h1))
def f_L_lights (h : xH) (l0 : Nat) (l1 : Int32) (l2 : Int32) (l3 : Nat) : Option (Int32 × xH) := (gO h l0 11).bind fun q1 => (f_X11_lights h l0 l1 l2).bind fun r2 => (match r2 with | .inl E3 => ((if E3.1 = "java/lang/IllegalArgumentException" then (some (((1 : Int32), E3.2))) else none)) | .inr v4 => ((if v4 = 0 then (f_L_lights_16 h (0 : Int64) (0 : Int32) l3) else (f_L_lights_16 h (1 : Int64) (0 : Int32) l3))))
set_option maxRecDepth 20000 in
theorem w_L_lights_16 (h : xH) (s0 : Int64) (s1 : Int32) (s2 : Nat) (r : Int32 × xH) (hf : f_L_lights_16 h s0 s1 s2 = some r) : V 6 yL_lights cL_lights 5 (some .int) [(0, 17, 20, 13)] none 16 [] [.long s0, .int s1, .ref s2] h (oIh r) := by
  unfold f_L_lights_16 at hf
  obtain ⟨h1, e1, hf⟩ := bS hf
  refine V.xstJ dL_lights_16 e1 ?_
  refine V.goto (tgt := 24) dL_lights_17 (by decide) ?_
  refine V.iconst (v := (0 : Int32)) dL_lights_24 (by decide) ?_
  obtain rfl := Option.some.inj hf
  exact V.iret dL_lights_25

set_option maxRecDepth 20000 in
theorem w_L_lights (h : xH) (l0 : Nat) (l1 : Int32) (l2 : Int32) (l3 : Nat) (r : Int32 × xH) (hf : f_L_lights h l0 l1 l2 l3 = some r) : Ev 6 yL_lights cL_lights 5 (some .int) [(0, 17, 20, 13)] [.ref l0, .int l1, .int l2, .ref l3] h (oIh r) := by
  refine Ev.ofH (by decide +kernel) (Nat.le_of_ble_eq_true rfl) ?_
  unfold f_L_lights at hf
  refine V.aload_n dL_lights_0 rfl 3 rfl ?_
  refine V.iconst (v := (0 : Int32)) dL_lights_1 (by decide) ?_
  refine V.aload_n dL_lights_2 rfl 0 rfl ?_
  refine V.iload_n dL_lights_3 rfl 1 rfl ?_
  refine V.iload_n dL_lights_4 rfl 2 rfl ?_
  obtain ⟨q1, e2, hf⟩ := bS hf
  obtain ⟨r2, e3, hf⟩ := bS hf
  rcases r2 with E3 | v4
  · obtain ⟨E3c, E3h⟩ := E3
    dsimp only at hf
    by_cases c5 : E3c = "java/lang/IllegalArgumentException"
    · rw [if_pos c5] at hf
      subst c5
      refine V.callVC (k := 4) (pre := []) (suf := []) (x := ⟨0, 17, 20, 13⟩) (name := "java/lang/IllegalArgumentException") (E0 := "java/lang/IllegalArgumentException") (h' := E3h) (As := [.int l1, .int l2]) (st := [.int (0 : Int32), .ref l3]) dL_lights_5 cl_RL_55 sw_yX11_lights (by decide) rfl (Nat.le_of_ble_eq_true rfl) rfl (gO_some e2) rfl (w_X11_lights _ _ _ _ _ e3) rfl xpre_n (by decide) (by decide) (by decide) ncl_RL_13 (by decide +kernel) (Or.inr ⟨dL_lights_20, rfl⟩) (by decide) ?_
      refine V.iconst (v := (1 : Int32)) dL_lights_22 (by decide) ?_
      obtain rfl := Option.some.inj hf
      exact V.iret dL_lights_23
    · rw [if_neg c5] at hf
      cases hf
  · refine V.callV (As := [.int l1, .int l2]) (st := [.int (0 : Int32), .ref l3]) dL_lights_5 cl_RL_55 sw_yX11_lights (by decide) rfl (Nat.le_of_ble_eq_true rfl) rfl (gO_some e2) rfl (w_X11_lights _ _ _ _ _ e3) ?_
    try dsimp only at hf
    refine V.if_eq (tgt := 15) dL_lights_8 (by decide) (fun c6 => ?_) (fun c6 => ?_)
    · rw [if_pos c6] at hf
      refine V.lconst (v := 0) dL_lights_15 (by decide) ?_
      refine V.sub [] rfl ?_
      exact w_L_lights_16 _ _ _ _ _ hf
    · rw [if_neg c6] at hf
      refine V.lconst (v := 1) dL_lights_11 (by decide) ?_
      refine V.goto (tgt := 16) dL_lights_12 (by decide) ?_
      refine V.sub [] rfl ?_
      exact w_L_lights_16 _ _ _ _ _ hf

def f_L_look (h : xH) (l0 : Nat) (l1 : Int32) (l2 : Int32) (l3 : Int32) (l4 : Nat) : Option (Int32 × xH) := (gO h l0 11).bind fun q1 => (f_X11_look h l0 l1 l2 l3).bind fun r2 => (match r2 with | .inl E3 => ((if E3.1 = "java/lang/IllegalArgumentException" then (some (((1 : Int32), E3.2))) else none)) | .inr v4 => ((stJ h l4 (0 : Int32) (Int32.toInt64 v4)).bind fun h6 => some (((0 : Int32), h6))))
set_option maxRecDepth 20000 in
theorem w_L_look (h : xH) (l0 : Nat) (l1 : Int32) (l2 : Int32) (l3 : Int32) (l4 : Nat) (r : Int32 × xH) (hf : f_L_look h l0 l1 l2 l3 l4 = some r) : Ev 6 yL_look cL_look 6 (some .int) [(0, 12, 15, 13)] [.ref l0, .int l1, .int l2, .int l3, .ref l4] h (oIh r) := by
  refine Ev.ofH (by decide +kernel) (Nat.le_of_ble_eq_true rfl) ?_
  unfold f_L_look at hf
  refine V.aload dL_look_0 4 rfl ?_
  refine V.iconst (v := (0 : Int32)) dL_look_2 (by decide) ?_
  refine V.aload_n dL_look_3 rfl 0 rfl ?_
  refine V.iload_n dL_look_4 rfl 1 rfl ?_
  refine V.iload_n dL_look_5 rfl 2 rfl ?_
  refine V.iload_n dL_look_6 rfl 3 rfl ?_
  obtain ⟨q1, e1, hf⟩ := bS hf
  obtain ⟨r2, e2, hf⟩ := bS hf
  rcases r2 with E3 | v4
  · obtain ⟨E3c, E3h⟩ := E3
    dsimp only at hf
    by_cases c5 : E3c = "java/lang/IllegalArgumentException"
    · rw [if_pos c5] at hf
      subst c5
      refine V.callVC (k := 5) (pre := []) (suf := []) (x := ⟨0, 12, 15, 13⟩) (name := "java/lang/IllegalArgumentException") (E0 := "java/lang/IllegalArgumentException") (h' := E3h) (As := [.int l1, .int l2, .int l3]) (st := [.int (0 : Int32), .ref l4]) dL_look_7 cl_RL_108 sw_yX11_look (by decide) rfl (Nat.le_of_ble_eq_true rfl) rfl (gO_some e1) rfl (w_X11_look _ _ _ _ _ _ e2) rfl xpre_n (by decide) (by decide) (by decide) ncl_RL_13 (by decide +kernel) (Or.inr ⟨dL_look_15, rfl⟩) (by decide) ?_
      refine V.iconst (v := (1 : Int32)) dL_look_17 (by decide) ?_
      obtain rfl := Option.some.inj hf
      exact V.iret dL_look_18
    · rw [if_neg c5] at hf
      cases hf
  · refine V.callV (As := [.int l1, .int l2, .int l3]) (st := [.int (0 : Int32), .ref l4]) dL_look_7 cl_RL_108 sw_yX11_look (by decide) rfl (Nat.le_of_ble_eq_true rfl) rfl (gO_some e1) rfl (w_X11_look _ _ _ _ _ _ e2) ?_
    try dsimp only at hf
    refine V.i2l dL_look_10 ?_
    obtain ⟨h6, e3, hf⟩ := bS hf
    refine V.xstJ dL_look_11 e3 ?_
    refine V.goto (tgt := 19) dL_look_12 (by decide) ?_
    refine V.iconst (v := (0 : Int32)) dL_look_19 (by decide) ?_
    obtain rfl := Option.some.inj hf
    exact V.iret dL_look_20

def f_L_mixed (h : xH) (l0 : Nat) (l1 : Int32) (l2 : Int32) (l3 : Nat) : Option (Int32 × xH) := (gO h l0 11).bind fun q1 => (f_X11_mixed h l0 l1 l2).bind fun r2 => (match r2 with | .inl E3 => ((if E3.1 = "java/lang/IllegalArgumentException" then (some (((1 : Int32), E3.2))) else none)) | .inr v4 => ((stJ v4.2 l3 (0 : Int32) (Int32.toInt64 (v4.1))).bind fun h6 => some (((0 : Int32), h6))))
set_option maxRecDepth 20000 in
theorem w_L_mixed (h : xH) (l0 : Nat) (l1 : Int32) (l2 : Int32) (l3 : Nat) (r : Int32 × xH) (hf : f_L_mixed h l0 l1 l2 l3 = some r) : Ev 49 yL_mixed cL_mixed 5 (some .int) [(0, 10, 13, 13)] [.ref l0, .int l1, .int l2, .ref l3] h (oIh r) := by
  refine Ev.ofH (by decide +kernel) (Nat.le_of_ble_eq_true rfl) ?_
  unfold f_L_mixed at hf
  refine V.aload_n dL_mixed_0 rfl 3 rfl ?_
  refine V.iconst (v := (0 : Int32)) dL_mixed_1 (by decide) ?_
  refine V.aload_n dL_mixed_2 rfl 0 rfl ?_
  refine V.iload_n dL_mixed_3 rfl 1 rfl ?_
  refine V.iload_n dL_mixed_4 rfl 2 rfl ?_
  obtain ⟨q1, e1, hf⟩ := bS hf
  obtain ⟨r2, e2, hf⟩ := bS hf
  rcases r2 with E3 | v4
  · obtain ⟨E3c, E3h⟩ := E3
    dsimp only at hf
    by_cases c5 : E3c = "java/lang/IllegalArgumentException"
    · rw [if_pos c5] at hf
      subst c5
      refine V.callVC (k := 4) (pre := []) (suf := []) (x := ⟨0, 10, 13, 13⟩) (name := "java/lang/IllegalArgumentException") (E0 := "java/lang/IllegalArgumentException") (h' := E3h) (As := [.int l1, .int l2]) (st := [.int (0 : Int32), .ref l3]) dL_mixed_5 cl_RL_71 sw_yX11_mixed (by decide) rfl (Nat.le_of_ble_eq_true rfl) rfl (gO_some e1) rfl (w_X11_mixed _ _ _ _ _ e2) rfl xpre_n (by decide) (by decide) (by decide) ncl_RL_13 (by decide +kernel) (Or.inr ⟨dL_mixed_13, rfl⟩) (by decide) ?_
      refine V.iconst (v := (1 : Int32)) dL_mixed_15 (by decide) ?_
      obtain rfl := Option.some.inj hf
      exact V.iret dL_mixed_16
    · rw [if_neg c5] at hf
      cases hf
  · refine V.callV (As := [.int l1, .int l2]) (st := [.int (0 : Int32), .ref l3]) dL_mixed_5 cl_RL_71 sw_yX11_mixed (by decide) rfl (Nat.le_of_ble_eq_true rfl) rfl (gO_some e1) rfl (w_X11_mixed _ _ _ _ _ e2) ?_
    try dsimp only at hf
    refine V.i2l dL_mixed_8 ?_
    obtain ⟨h6, e3, hf⟩ := bS hf
    refine V.xstJ dL_mixed_9 e3 ?_
    refine V.goto (tgt := 17) dL_mixed_10 (by decide) ?_
    refine V.iconst (v := (0 : Int32)) dL_mixed_17 (by decide) ?_
    obtain rfl := Option.some.inj hf
    exact V.iret dL_mixed_18

def f_L_next (h : xH) (l0 : Nat) (l1 : Int32) (l2 : Nat) : Option (Int32 × xH) := (gO h l0 11).bind fun q1 => (f_X11_next h l0 l1).bind fun r2 => (match r2 with | .inl E3 => ((if E3.1 = "java/util/NoSuchElementException" then (some (((1 : Int32), E3.2))) else none)) | .inr v4 => ((stJ h l2 (0 : Int32) (Int32.toInt64 v4)).bind fun h6 => some (((0 : Int32), h6))))
set_option maxRecDepth 20000 in
theorem w_L_next (h : xH) (l0 : Nat) (l1 : Int32) (l2 : Nat) (r : Int32 × xH) (hf : f_L_next h l0 l1 l2 = some r) : Ev 6 yL_next cL_next 4 (some .int) [(0, 9, 12, 19)] [.ref l0, .int l1, .ref l2] h (oIh r) := by
  refine Ev.ofH (by decide +kernel) (Nat.le_of_ble_eq_true rfl) ?_
  unfold f_L_next at hf
  refine V.aload_n dL_next_0 rfl 2 rfl ?_
  refine V.iconst (v := (0 : Int32)) dL_next_1 (by decide) ?_
  refine V.aload_n dL_next_2 rfl 0 rfl ?_
  refine V.iload_n dL_next_3 rfl 1 rfl ?_
  obtain ⟨q1, e1, hf⟩ := bS hf
  obtain ⟨r2, e2, hf⟩ := bS hf
  rcases r2 with E3 | v4
  · obtain ⟨E3c, E3h⟩ := E3
    dsimp only at hf
    by_cases c5 : E3c = "java/util/NoSuchElementException"
    · rw [if_pos c5] at hf
      subst c5
      refine V.callVC (k := 3) (pre := []) (suf := []) (x := ⟨0, 9, 12, 19⟩) (name := "java/util/NoSuchElementException") (E0 := "java/util/NoSuchElementException") (h' := E3h) (As := [.int l1]) (st := [.int (0 : Int32), .ref l2]) dL_next_4 cl_RL_24 sw_yX11_next (by decide) rfl (Nat.le_of_ble_eq_true rfl) rfl (gO_some e1) rfl (w_X11_next _ _ _ _ e2) rfl xpre_n (by decide) (by decide) (by decide) ncl_RL_19 (by decide +kernel) (Or.inl ⟨⟨_, dL_next_12, rfl⟩, rfl⟩) (by decide) ?_
      refine V.iconst (v := (1 : Int32)) dL_next_13 (by decide) ?_
      obtain rfl := Option.some.inj hf
      exact V.iret dL_next_14
    · rw [if_neg c5] at hf
      cases hf
  · refine V.callV (As := [.int l1]) (st := [.int (0 : Int32), .ref l2]) dL_next_4 cl_RL_24 sw_yX11_next (by decide) rfl (Nat.le_of_ble_eq_true rfl) rfl (gO_some e1) rfl (w_X11_next _ _ _ _ e2) ?_
    try dsimp only at hf
    refine V.i2l dL_next_7 ?_
    obtain ⟨h6, e3, hf⟩ := bS hf
    refine V.xstJ dL_next_8 e3 ?_
    refine V.goto (tgt := 15) dL_next_9 (by decide) ?_
    refine V.iconst (v := (0 : Int32)) dL_next_15 (by decide) ?_
    obtain rfl := Option.some.inj hf
    exact V.iret dL_next_16

def f_L_night (h : xH) (l0 : Nat) (l1 : Int32) (l2 : Int32) (l3 : Int32) (l4 : Nat) : Option (Int32 × xH) := (gO h l0 11).bind fun q1 => (f_X11_night h l0 l1 l2 l3).bind fun r2 => (match r2 with | .inl E3 => ((if E3.1 = "java/lang/IllegalArgumentException" then (some (((1 : Int32), E3.2))) else none)) | .inr v4 => ((stJ v4.2 l4 (0 : Int32) (Int32.toInt64 (v4.1))).bind fun h6 => some (((0 : Int32), h6))))
set_option maxRecDepth 20000 in
theorem w_L_night (h : xH) (l0 : Nat) (l1 : Int32) (l2 : Int32) (l3 : Int32) (l4 : Nat) (r : Int32 × xH) (hf : f_L_night h l0 l1 l2 l3 l4 = some r) : Ev 7 yL_night cL_night 6 (some .int) [(0, 12, 15, 13)] [.ref l0, .int l1, .int l2, .int l3, .ref l4] h (oIh r) := by
  refine Ev.ofH (by decide +kernel) (Nat.le_of_ble_eq_true rfl) ?_
  unfold f_L_night at hf
  refine V.aload dL_night_0 4 rfl ?_
  refine V.iconst (v := (0 : Int32)) dL_night_2 (by decide) ?_
  refine V.aload_n dL_night_3 rfl 0 rfl ?_
  refine V.iload_n dL_night_4 rfl 1 rfl ?_
  refine V.iload_n dL_night_5 rfl 2 rfl ?_
  refine V.iload_n dL_night_6 rfl 3 rfl ?_
  obtain ⟨q1, e1, hf⟩ := bS hf
  obtain ⟨r2, e2, hf⟩ := bS hf
  rcases r2 with E3 | v4
  · obtain ⟨E3c, E3h⟩ := E3
    dsimp only at hf
    by_cases c5 : E3c = "java/lang/IllegalArgumentException"
    · rw [if_pos c5] at hf
      subst c5
      refine V.callVC (k := 5) (pre := []) (suf := []) (x := ⟨0, 12, 15, 13⟩) (name := "java/lang/IllegalArgumentException") (E0 := "java/lang/IllegalArgumentException") (h' := E3h) (As := [.int l1, .int l2, .int l3]) (st := [.int (0 : Int32), .ref l4]) dL_night_7 cl_RL_112 sw_yX11_night (by decide) rfl (Nat.le_of_ble_eq_true rfl) rfl (gO_some e1) rfl (w_X11_night _ _ _ _ _ _ e2) rfl xpre_n (by decide) (by decide) (by decide) ncl_RL_13 (by decide +kernel) (Or.inr ⟨dL_night_15, rfl⟩) (by decide) ?_
      refine V.iconst (v := (1 : Int32)) dL_night_17 (by decide) ?_
      obtain rfl := Option.some.inj hf
      exact V.iret dL_night_18
    · rw [if_neg c5] at hf
      cases hf
  · refine V.callV (As := [.int l1, .int l2, .int l3]) (st := [.int (0 : Int32), .ref l4]) dL_night_7 cl_RL_112 sw_yX11_night (by decide) rfl (Nat.le_of_ble_eq_true rfl) rfl (gO_some e1) rfl (w_X11_night _ _ _ _ _ _ e2) ?_
    try dsimp only at hf
    refine V.i2l dL_night_10 ?_
    obtain ⟨h6, e3, hf⟩ := bS hf
    refine V.xstJ dL_night_11 e3 ?_
    refine V.goto (tgt := 19) dL_night_12 (by decide) ?_
    refine V.iconst (v := (0 : Int32)) dL_night_19 (by decide) ?_
    obtain rfl := Option.some.inj hf
    exact V.iret dL_night_20

def f_L_of (h : xH) (l0 : Nat) (l1 : Int32) (l2 : Int32) (l3 : Nat) : Option (Int32 × xH) := (gO h l0 11).bind fun q1 => (f_X11_of h l0 l1 l2).bind fun r2 => (match r2 with | .inl E3 => ((if E3.1 = "java/util/NoSuchElementException" then (some (((1 : Int32), E3.2))) else (if E3.1 = "java/lang/IllegalArgumentException" then (some (((2 : Int32), E3.2))) else none))) | .inr v4 => ((stJ h l3 (0 : Int32) (Int32.toInt64 v4)).bind fun h7 => some (((0 : Int32), h7))))
set_option maxRecDepth 20000 in
theorem w_L_of (h : xH) (l0 : Nat) (l1 : Int32) (l2 : Int32) (l3 : Nat) (r : Int32 × xH) (hf : f_L_of h l0 l1 l2 l3 = some r) : Ev 6 yL_of cL_of 5 (some .int) [(0, 10, 13, 19), (0, 10, 17, 13)] [.ref l0, .int l1, .int l2, .ref l3] h (oIh r) := by
  refine Ev.ofH (by decide +kernel) (Nat.le_of_ble_eq_true rfl) ?_
  unfold f_L_of at hf
  refine V.aload_n dL_of_0 rfl 3 rfl ?_
  refine V.iconst (v := (0 : Int32)) dL_of_1 (by decide) ?_
  refine V.aload_n dL_of_2 rfl 0 rfl ?_
  refine V.iload_n dL_of_3 rfl 1 rfl ?_
  refine V.iload_n dL_of_4 rfl 2 rfl ?_
  obtain ⟨q1, e1, hf⟩ := bS hf
  obtain ⟨r2, e2, hf⟩ := bS hf
  rcases r2 with E3 | v4
  · obtain ⟨E3c, E3h⟩ := E3
    dsimp only at hf
    by_cases c5 : E3c = "java/util/NoSuchElementException"
    · rw [if_pos c5] at hf
      subst c5
      refine V.callVC (k := 4) (pre := []) (suf := [⟨0, 10, 17, 13⟩]) (x := ⟨0, 10, 13, 19⟩) (name := "java/util/NoSuchElementException") (E0 := "java/util/NoSuchElementException") (h' := E3h) (As := [.int l1, .int l2]) (st := [.int (0 : Int32), .ref l3]) dL_of_5 cl_RL_34 sw_yX11_of (by decide) rfl (Nat.le_of_ble_eq_true rfl) rfl (gO_some e1) rfl (w_X11_of _ _ _ _ _ e2) rfl xpre_n (by decide) (by decide) (by decide) ncl_RL_19 (by decide +kernel) (Or.inr ⟨dL_of_13, rfl⟩) (by decide) ?_
      refine V.iconst (v := (1 : Int32)) dL_of_15 (by decide) ?_
      obtain rfl := Option.some.inj hf
      exact V.iret dL_of_16
    · rw [if_neg c5] at hf
      by_cases c6 : E3c = "java/lang/IllegalArgumentException"
      · rw [if_pos c6] at hf
        subst c6
        refine V.callVC (k := 4) (pre := [⟨0, 10, 13, 19⟩]) (suf := []) (x := ⟨0, 10, 17, 13⟩) (name := "java/lang/IllegalArgumentException") (E0 := "java/lang/IllegalArgumentException") (h' := E3h) (As := [.int l1, .int l2]) (st := [.int (0 : Int32), .ref l3]) dL_of_5 cl_RL_34 sw_yX11_of (by decide) rfl (Nat.le_of_ble_eq_true rfl) rfl (gO_some e1) rfl (w_X11_of _ _ _ _ _ e2) rfl (xpre_c (by decide) ncl_RL_19 (by decide) (by decide) xpre_n) (by decide) (by decide) (by decide) ncl_RL_13 (by decide +kernel) (Or.inr ⟨dL_of_17, rfl⟩) (by decide) ?_
        refine V.iconst (v := (2 : Int32)) dL_of_19 (by decide) ?_
        obtain rfl := Option.some.inj hf
        exact V.iret dL_of_20
      · rw [if_neg c6] at hf
        cases hf
  · refine V.callV (As := [.int l1, .int l2]) (st := [.int (0 : Int32), .ref l3]) dL_of_5 cl_RL_34 sw_yX11_of (by decide) rfl (Nat.le_of_ble_eq_true rfl) rfl (gO_some e1) rfl (w_X11_of _ _ _ _ _ e2) ?_
    try dsimp only at hf
    refine V.i2l dL_of_8 ?_
    obtain ⟨h7, e3, hf⟩ := bS hf
    refine V.xstJ dL_of_9 e3 ?_
    refine V.goto (tgt := 21) dL_of_10 (by decide) ?_
    refine V.iconst (v := (0 : Int32)) dL_of_21 (by decide) ?_
    obtain rfl := Option.some.inj hf
    exact V.iret dL_of_22

def f_L_out (h : xH) (l0 : Nat) (l1 : Int32) (l2 : Int32) (l3 : Nat) : Option (Int32 × xH) := (gO h l0 11).bind fun q1 => (f_X11_out h l0 l1 l2).bind fun r2 => (match r2 with | .inl E3 => ((if E3.1 = "java/util/NoSuchElementException" then (some (((1 : Int32), E3.2))) else (if E3.1 = "java/lang/IllegalArgumentException" then (some (((2 : Int32), E3.2))) else none))) | .inr v4 => ((stJ v4.2 l3 (0 : Int32) (Int32.toInt64 (v4.1))).bind fun h7 => some (((0 : Int32), h7))))
set_option maxRecDepth 20000 in
theorem w_L_out (h : xH) (l0 : Nat) (l1 : Int32) (l2 : Int32) (l3 : Nat) (r : Int32 × xH) (hf : f_L_out h l0 l1 l2 l3 = some r) : Ev 8 yL_out cL_out 5 (some .int) [(0, 10, 13, 19), (0, 10, 17, 13)] [.ref l0, .int l1, .int l2, .ref l3] h (oIh r) := by
  refine Ev.ofH (by decide +kernel) (Nat.le_of_ble_eq_true rfl) ?_
  unfold f_L_out at hf
  refine V.aload_n dL_out_0 rfl 3 rfl ?_
  refine V.iconst (v := (0 : Int32)) dL_out_1 (by decide) ?_
  refine V.aload_n dL_out_2 rfl 0 rfl ?_
  refine V.iload_n dL_out_3 rfl 1 rfl ?_
  refine V.iload_n dL_out_4 rfl 2 rfl ?_
  obtain ⟨q1, e1, hf⟩ := bS hf
  obtain ⟨r2, e2, hf⟩ := bS hf
  rcases r2 with E3 | v4
  · obtain ⟨E3c, E3h⟩ := E3
    dsimp only at hf
    by_cases c5 : E3c = "java/util/NoSuchElementException"
    · rw [if_pos c5] at hf
      subst c5
      refine V.callVC (k := 4) (pre := []) (suf := [⟨0, 10, 17, 13⟩]) (x := ⟨0, 10, 13, 19⟩) (name := "java/util/NoSuchElementException") (E0 := "java/util/NoSuchElementException") (h' := E3h) (As := [.int l1, .int l2]) (st := [.int (0 : Int32), .ref l3]) dL_out_5 cl_RL_46 sw_yX11_out (by decide) rfl (Nat.le_of_ble_eq_true rfl) rfl (gO_some e1) rfl (w_X11_out _ _ _ _ _ e2) rfl xpre_n (by decide) (by decide) (by decide) ncl_RL_19 (by decide +kernel) (Or.inr ⟨dL_out_13, rfl⟩) (by decide) ?_
      refine V.iconst (v := (1 : Int32)) dL_out_15 (by decide) ?_
      obtain rfl := Option.some.inj hf
      exact V.iret dL_out_16
    · rw [if_neg c5] at hf
      by_cases c6 : E3c = "java/lang/IllegalArgumentException"
      · rw [if_pos c6] at hf
        subst c6
        refine V.callVC (k := 4) (pre := [⟨0, 10, 13, 19⟩]) (suf := []) (x := ⟨0, 10, 17, 13⟩) (name := "java/lang/IllegalArgumentException") (E0 := "java/lang/IllegalArgumentException") (h' := E3h) (As := [.int l1, .int l2]) (st := [.int (0 : Int32), .ref l3]) dL_out_5 cl_RL_46 sw_yX11_out (by decide) rfl (Nat.le_of_ble_eq_true rfl) rfl (gO_some e1) rfl (w_X11_out _ _ _ _ _ e2) rfl (xpre_c (by decide) ncl_RL_19 (by decide) (by decide) xpre_n) (by decide) (by decide) (by decide) ncl_RL_13 (by decide +kernel) (Or.inr ⟨dL_out_17, rfl⟩) (by decide) ?_
        refine V.iconst (v := (2 : Int32)) dL_out_19 (by decide) ?_
        obtain rfl := Option.some.inj hf
        exact V.iret dL_out_20
      · rw [if_neg c6] at hf
        cases hf
  · refine V.callV (As := [.int l1, .int l2]) (st := [.int (0 : Int32), .ref l3]) dL_out_5 cl_RL_46 sw_yX11_out (by decide) rfl (Nat.le_of_ble_eq_true rfl) rfl (gO_some e1) rfl (w_X11_out _ _ _ _ _ e2) ?_
    try dsimp only at hf
    refine V.i2l dL_out_8 ?_
    obtain ⟨h7, e3, hf⟩ := bS hf
    refine V.xstJ dL_out_9 e3 ?_
    refine V.goto (tgt := 21) dL_out_10 (by decide) ?_
    refine V.iconst (v := (0 : Int32)) dL_out_21 (by decide) ?_
    obtain rfl := Option.some.inj hf
    exact V.iret dL_out_22

def f_L_owed_15 (h : xH) (s0 : Int64) (s1 : Int32) (s2 : Nat) : Option (Int32 × xH) := (stJ h s2 s1 s0).bind fun h1 => some (((0 : Int32), h1))
def f_L_owed (h : xH) (l0 : Nat) (l1 : Int32) (l2 : Nat) : Option (Int32 × xH) := (gO h l0 11).bind fun q1 => (f_X11_owed h l0 l1).bind fun r2 => (match r2 with | .inl E3 => ((if E3.1 = "java/util/NoSuchElementException" then (some (((1 : Int32), E3.2))) else none)) | .inr v4 => ((if v4.1 = 0 then (f_L_owed_15 v4.2 (0 : Int64) (0 : Int32) l2) else (f_L_owed_15 v4.2 (1 : Int64) (0 : Int32) l2))))
set_option maxRecDepth 20000 in
theorem w_L_owed_15 (h : xH) (s0 : Int64) (s1 : Int32) (s2 : Nat) (r : Int32 × xH) (hf : f_L_owed_15 h s0 s1 s2 = some r) : V 50 yL_owed cL_owed 4 (some .int) [(0, 16, 19, 19)] none 15 [] [.long s0, .int s1, .ref s2] h (oIh r) := by
  unfold f_L_owed_15 at hf
  obtain ⟨h1, e1, hf⟩ := bS hf
  refine V.xstJ dL_owed_15 e1 ?_
  refine V.goto (tgt := 22) dL_owed_16 (by decide) ?_
  refine V.iconst (v := (0 : Int32)) dL_owed_22 (by decide) ?_
  obtain rfl := Option.some.inj hf
  exact V.iret dL_owed_23

set_option maxRecDepth 20000 in
theorem w_L_owed (h : xH) (l0 : Nat) (l1 : Int32) (l2 : Nat) (r : Int32 × xH) (hf : f_L_owed h l0 l1 l2 = some r) : Ev 50 yL_owed cL_owed 4 (some .int) [(0, 16, 19, 19)] [.ref l0, .int l1, .ref l2] h (oIh r) := by
  refine Ev.ofH (by decide +kernel) (Nat.le_of_ble_eq_true rfl) ?_
  unfold f_L_owed at hf
  refine V.aload_n dL_owed_0 rfl 2 rfl ?_
  refine V.iconst (v := (0 : Int32)) dL_owed_1 (by decide) ?_
  refine V.aload_n dL_owed_2 rfl 0 rfl ?_
  refine V.iload_n dL_owed_3 rfl 1 rfl ?_
  obtain ⟨q1, e2, hf⟩ := bS hf
  obtain ⟨r2, e3, hf⟩ := bS hf
  rcases r2 with E3 | v4
  · obtain ⟨E3c, E3h⟩ := E3
    dsimp only at hf
    by_cases c5 : E3c = "java/util/NoSuchElementException"
    · rw [if_pos c5] at hf
      subst c5
      refine V.callVC (k := 3) (pre := []) (suf := []) (x := ⟨0, 16, 19, 19⟩) (name := "java/util/NoSuchElementException") (E0 := "java/util/NoSuchElementException") (h' := E3h) (As := [.int l1]) (st := [.int (0 : Int32), .ref l2]) dL_owed_4 cl_RL_90 sw_yX11_owed (by decide) rfl (Nat.le_of_ble_eq_true rfl) rfl (gO_some e2) rfl (w_X11_owed _ _ _ _ e3) rfl xpre_n (by decide) (by decide) (by decide) ncl_RL_19 (by decide +kernel) (Or.inl ⟨⟨_, dL_owed_19, rfl⟩, rfl⟩) (by decide) ?_
      refine V.iconst (v := (1 : Int32)) dL_owed_20 (by decide) ?_
      obtain rfl := Option.some.inj hf
      exact V.iret dL_owed_21
    · rw [if_neg c5] at hf
      cases hf
  · refine V.callV (As := [.int l1]) (st := [.int (0 : Int32), .ref l2]) dL_owed_4 cl_RL_90 sw_yX11_owed (by decide) rfl (Nat.le_of_ble_eq_true rfl) rfl (gO_some e2) rfl (w_X11_owed _ _ _ _ e3) ?_
    try dsimp only at hf
    refine V.if_eq (tgt := 14) dL_owed_7 (by decide) (fun c6 => ?_) (fun c6 => ?_)
    · rw [if_pos c6] at hf
      refine V.lconst (v := 0) dL_owed_14 (by decide) ?_
      refine V.sub [] rfl ?_
      exact w_L_owed_15 _ _ _ _ _ hf
    · rw [if_neg c6] at hf
      refine V.lconst (v := 1) dL_owed_10 (by decide) ?_
      refine V.goto (tgt := 15) dL_owed_11 (by decide) ?_
      refine V.sub [] rfl ?_
      exact w_L_owed_15 _ _ _ _ _ hf

def f_L_pane (h : xH) (l0 : Nat) (l1 : Int32) (l2 : Int32) (l3 : Nat) : Option (Int32 × xH) := (gO h l0 11).bind fun q1 => (f_X11_pane h l0 l1 l2).bind fun r2 => (match r2 with | .inl E3 => ((if E3.1 = "java/util/NoSuchElementException" then (some (((1 : Int32), E3.2))) else (if E3.1 = "java/lang/IllegalArgumentException" then (some (((2 : Int32), E3.2))) else none))) | .inr v4 => ((stJ h l3 (0 : Int32) (Int32.toInt64 v4)).bind fun h7 => some (((0 : Int32), h7))))
set_option maxRecDepth 20000 in
theorem w_L_pane (h : xH) (l0 : Nat) (l1 : Int32) (l2 : Int32) (l3 : Nat) (r : Int32 × xH) (hf : f_L_pane h l0 l1 l2 l3 = some r) : Ev 6 yL_pane cL_pane 5 (some .int) [(0, 10, 13, 19), (0, 10, 17, 13)] [.ref l0, .int l1, .int l2, .ref l3] h (oIh r) := by
  refine Ev.ofH (by decide +kernel) (Nat.le_of_ble_eq_true rfl) ?_
  unfold f_L_pane at hf
  refine V.aload_n dL_pane_0 rfl 3 rfl ?_
  refine V.iconst (v := (0 : Int32)) dL_pane_1 (by decide) ?_
  refine V.aload_n dL_pane_2 rfl 0 rfl ?_
  refine V.iload_n dL_pane_3 rfl 1 rfl ?_
  refine V.iload_n dL_pane_4 rfl 2 rfl ?_
  obtain ⟨q1, e1, hf⟩ := bS hf
  obtain ⟨r2, e2, hf⟩ := bS hf
  rcases r2 with E3 | v4
  · obtain ⟨E3c, E3h⟩ := E3
    dsimp only at hf
    by_cases c5 : E3c = "java/util/NoSuchElementException"
    · rw [if_pos c5] at hf
      subst c5
      refine V.callVC (k := 4) (pre := []) (suf := [⟨0, 10, 17, 13⟩]) (x := ⟨0, 10, 13, 19⟩) (name := "java/util/NoSuchElementException") (E0 := "java/util/NoSuchElementException") (h' := E3h) (As := [.int l1, .int l2]) (st := [.int (0 : Int32), .ref l3]) dL_pane_5 cl_RL_15 sw_yX11_pane (by decide) rfl (Nat.le_of_ble_eq_true rfl) rfl (gO_some e1) rfl (w_X11_pane _ _ _ _ _ e2) rfl xpre_n (by decide) (by decide) (by decide) ncl_RL_19 (by decide +kernel) (Or.inr ⟨dL_pane_13, rfl⟩) (by decide) ?_
      refine V.iconst (v := (1 : Int32)) dL_pane_15 (by decide) ?_
      obtain rfl := Option.some.inj hf
      exact V.iret dL_pane_16
    · rw [if_neg c5] at hf
      by_cases c6 : E3c = "java/lang/IllegalArgumentException"
      · rw [if_pos c6] at hf
        subst c6
        refine V.callVC (k := 4) (pre := [⟨0, 10, 13, 19⟩]) (suf := []) (x := ⟨0, 10, 17, 13⟩) (name := "java/lang/IllegalArgumentException") (E0 := "java/lang/IllegalArgumentException") (h' := E3h) (As := [.int l1, .int l2]) (st := [.int (0 : Int32), .ref l3]) dL_pane_5 cl_RL_15 sw_yX11_pane (by decide) rfl (Nat.le_of_ble_eq_true rfl) rfl (gO_some e1) rfl (w_X11_pane _ _ _ _ _ e2) rfl (xpre_c (by decide) ncl_RL_19 (by decide) (by decide) xpre_n) (by decide) (by decide) (by decide) ncl_RL_13 (by decide +kernel) (Or.inr ⟨dL_pane_17, rfl⟩) (by decide) ?_
        refine V.iconst (v := (2 : Int32)) dL_pane_19 (by decide) ?_
        obtain rfl := Option.some.inj hf
        exact V.iret dL_pane_20
      · rw [if_neg c6] at hf
        cases hf
  · refine V.callV (As := [.int l1, .int l2]) (st := [.int (0 : Int32), .ref l3]) dL_pane_5 cl_RL_15 sw_yX11_pane (by decide) rfl (Nat.le_of_ble_eq_true rfl) rfl (gO_some e1) rfl (w_X11_pane _ _ _ _ _ e2) ?_
    try dsimp only at hf
    refine V.i2l dL_pane_8 ?_
    obtain ⟨h7, e3, hf⟩ := bS hf
    refine V.xstJ dL_pane_9 e3 ?_
    refine V.goto (tgt := 21) dL_pane_10 (by decide) ?_
    refine V.iconst (v := (0 : Int32)) dL_pane_21 (by decide) ?_
    obtain rfl := Option.some.inj hf
    exact V.iret dL_pane_22

def f_L_pour (h : xH) (l0 : Nat) (l1 : Int32) (l2 : Nat) : Option (Int32 × xH) := (gO h l0 11).bind fun q1 => (f_X11_pour h l0 l1).bind fun r2 => (match r2 with | .inl E3 => ((if E3.1 = "java/util/NoSuchElementException" then (some (((1 : Int32), E3.2))) else (if E3.1 = "java/lang/IllegalStateException" then (some (((2 : Int32), E3.2))) else (if E3.1 = "java/lang/IndexOutOfBoundsException" then (some (((3 : Int32), E3.2))) else (if E3.1 = "java/lang/IllegalArgumentException" then (some (((4 : Int32), E3.2))) else none))))) | .inr v4 => ((stJ v4.2 l2 (0 : Int32) (Int32.toInt64 (v4.1))).bind fun h9 => some (((0 : Int32), h9))))
set_option maxRecDepth 20000 in
theorem w_L_pour (h : xH) (l0 : Nat) (l1 : Int32) (l2 : Nat) (r : Int32 × xH) (hf : f_L_pour h l0 l1 l2 = some r) : Ev 7 yL_pour cL_pour 4 (some .int) [(0, 9, 12, 19), (0, 9, 15, 97), (0, 9, 18, 99), (0, 9, 21, 13)] [.ref l0, .int l1, .ref l2] h (oIh r) := by
  refine Ev.ofH (by decide +kernel) (Nat.le_of_ble_eq_true rfl) ?_
  unfold f_L_pour at hf
  refine V.aload_n dL_pour_0 rfl 2 rfl ?_
  refine V.iconst (v := (0 : Int32)) dL_pour_1 (by decide) ?_
  refine V.aload_n dL_pour_2 rfl 0 rfl ?_
  refine V.iload_n dL_pour_3 rfl 1 rfl ?_
  obtain ⟨q1, e1, hf⟩ := bS hf
  obtain ⟨r2, e2, hf⟩ := bS hf
  rcases r2 with E3 | v4
  · obtain ⟨E3c, E3h⟩ := E3
    dsimp only at hf
    by_cases c5 : E3c = "java/util/NoSuchElementException"
    · rw [if_pos c5] at hf
      subst c5
      refine V.callVC (k := 3) (pre := []) (suf := [⟨0, 9, 15, 97⟩, ⟨0, 9, 18, 99⟩, ⟨0, 9, 21, 13⟩]) (x := ⟨0, 9, 12, 19⟩) (name := "java/util/NoSuchElementException") (E0 := "java/util/NoSuchElementException") (h' := E3h) (As := [.int l1]) (st := [.int (0 : Int32), .ref l2]) dL_pour_4 cl_RL_123 sw_yX11_pour (by decide) rfl (Nat.le_of_ble_eq_true rfl) rfl (gO_some e1) rfl (w_X11_pour _ _ _ _ e2) rfl xpre_n (by decide) (by decide) (by decide) ncl_RL_19 (by decide +kernel) (Or.inl ⟨⟨_, dL_pour_12, rfl⟩, rfl⟩) (by decide) ?_
      refine V.iconst (v := (1 : Int32)) dL_pour_13 (by decide) ?_
      obtain rfl := Option.some.inj hf
      exact V.iret dL_pour_14
    · rw [if_neg c5] at hf
      by_cases c6 : E3c = "java/lang/IllegalStateException"
      · rw [if_pos c6] at hf
        subst c6
        refine V.callVC (k := 3) (pre := [⟨0, 9, 12, 19⟩]) (suf := [⟨0, 9, 18, 99⟩, ⟨0, 9, 21, 13⟩]) (x := ⟨0, 9, 15, 97⟩) (name := "java/lang/IllegalStateException") (E0 := "java/lang/IllegalStateException") (h' := E3h) (As := [.int l1]) (st := [.int (0 : Int32), .ref l2]) dL_pour_4 cl_RL_123 sw_yX11_pour (by decide) rfl (Nat.le_of_ble_eq_true rfl) rfl (gO_some e1) rfl (w_X11_pour _ _ _ _ e2) rfl (xpre_c (by decide) ncl_RL_19 (by decide) (by decide) xpre_n) (by decide) (by decide) (by decide) ncl_RL_97 (by decide +kernel) (Or.inl ⟨⟨_, dL_pour_15, rfl⟩, rfl⟩) (by decide) ?_
        refine V.iconst (v := (2 : Int32)) dL_pour_16 (by decide) ?_
        obtain rfl := Option.some.inj hf
        exact V.iret dL_pour_17
      · rw [if_neg c6] at hf
        by_cases c7 : E3c = "java/lang/IndexOutOfBoundsException"
        · rw [if_pos c7] at hf
          subst c7
          refine V.callVC (k := 3) (pre := [⟨0, 9, 12, 19⟩, ⟨0, 9, 15, 97⟩]) (suf := [⟨0, 9, 21, 13⟩]) (x := ⟨0, 9, 18, 99⟩) (name := "java/lang/IndexOutOfBoundsException") (E0 := "java/lang/IndexOutOfBoundsException") (h' := E3h) (As := [.int l1]) (st := [.int (0 : Int32), .ref l2]) dL_pour_4 cl_RL_123 sw_yX11_pour (by decide) rfl (Nat.le_of_ble_eq_true rfl) rfl (gO_some e1) rfl (w_X11_pour _ _ _ _ e2) rfl (xpre_c (by decide) ncl_RL_19 (by decide) (by decide) (xpre_c (by decide) ncl_RL_97 (by decide) (by decide) xpre_n)) (by decide) (by decide) (by decide) ncl_RL_99 (by decide +kernel) (Or.inl ⟨⟨_, dL_pour_18, rfl⟩, rfl⟩) (by decide) ?_
          refine V.iconst (v := (3 : Int32)) dL_pour_19 (by decide) ?_
          obtain rfl := Option.some.inj hf
          exact V.iret dL_pour_20
        · rw [if_neg c7] at hf
          by_cases c8 : E3c = "java/lang/IllegalArgumentException"
          · rw [if_pos c8] at hf
            subst c8
            refine V.callVC (k := 3) (pre := [⟨0, 9, 12, 19⟩, ⟨0, 9, 15, 97⟩, ⟨0, 9, 18, 99⟩]) (suf := []) (x := ⟨0, 9, 21, 13⟩) (name := "java/lang/IllegalArgumentException") (E0 := "java/lang/IllegalArgumentException") (h' := E3h) (As := [.int l1]) (st := [.int (0 : Int32), .ref l2]) dL_pour_4 cl_RL_123 sw_yX11_pour (by decide) rfl (Nat.le_of_ble_eq_true rfl) rfl (gO_some e1) rfl (w_X11_pour _ _ _ _ e2) rfl (xpre_c (by decide) ncl_RL_19 (by decide) (by decide) (xpre_c (by decide) ncl_RL_97 (by decide) (by decide) (xpre_c (by decide) ncl_RL_99 (by decide) (by decide) xpre_n))) (by decide) (by decide) (by decide) ncl_RL_13 (by decide +kernel) (Or.inl ⟨⟨_, dL_pour_21, rfl⟩, rfl⟩) (by decide) ?_
            refine V.iconst (v := (4 : Int32)) dL_pour_22 (by decide) ?_
            obtain rfl := Option.some.inj hf
            exact V.iret dL_pour_23
          · rw [if_neg c8] at hf
            cases hf
  · refine V.callV (As := [.int l1]) (st := [.int (0 : Int32), .ref l2]) dL_pour_4 cl_RL_123 sw_yX11_pour (by decide) rfl (Nat.le_of_ble_eq_true rfl) rfl (gO_some e1) rfl (w_X11_pour _ _ _ _ e2) ?_
    try dsimp only at hf
    refine V.i2l dL_pour_7 ?_
    obtain ⟨h9, e3, hf⟩ := bS hf
    refine V.xstJ dL_pour_8 e3 ?_
    refine V.goto (tgt := 24) dL_pour_9 (by decide) ?_
    refine V.iconst (v := (0 : Int32)) dL_pour_24 (by decide) ?_
    obtain rfl := Option.some.inj hf
    exact V.iret dL_pour_25

def f_L_restore (h : xH) (l0 : Nat) (l1 : Int32) : Option (Int32 × xH) := (gO h l0 11).bind fun q1 => (f_X11_restore h l0 l1).bind fun r2 => (match r2 with | .inl E3 => ((if E3.1 = "java/util/NoSuchElementException" then (some (((1 : Int32), E3.2))) else (if E3.1 = "java/lang/IllegalStateException" then (some (((2 : Int32), E3.2))) else none))) | .inr v4 => (some (((0 : Int32), v4))))
set_option maxRecDepth 20000 in
theorem w_L_restore (h : xH) (l0 : Nat) (l1 : Int32) (r : Int32 × xH) (hf : f_L_restore h l0 l1 = some r) : Ev 6 yL_restore cL_restore 3 (some .int) [(0, 5, 8, 19), (0, 5, 11, 97)] [.ref l0, .int l1] h (oIh r) := by
  refine Ev.ofH (by decide +kernel) (Nat.le_of_ble_eq_true rfl) ?_
  unfold f_L_restore at hf
  refine V.aload_n dL_restore_0 rfl 0 rfl ?_
  refine V.iload_n dL_restore_1 rfl 1 rfl ?_
  obtain ⟨q1, e1, hf⟩ := bS hf
  obtain ⟨r2, e2, hf⟩ := bS hf
  rcases r2 with E3 | v4
  · obtain ⟨E3c, E3h⟩ := E3
    dsimp only at hf
    by_cases c5 : E3c = "java/util/NoSuchElementException"
    · rw [if_pos c5] at hf
      subst c5
      refine V.callVC (k := 2) (pre := []) (suf := [⟨0, 5, 11, 97⟩]) (x := ⟨0, 5, 8, 19⟩) (name := "java/util/NoSuchElementException") (E0 := "java/util/NoSuchElementException") (h' := E3h) (As := [.int l1]) (st := []) dL_restore_2 cl_RL_130 sw_yX11_restore (by decide) rfl (Nat.le_of_ble_eq_true rfl) rfl (gO_some e1) rfl (w_X11_restore _ _ _ _ e2) rfl xpre_n (by decide) (by decide) (by decide) ncl_RL_19 (by decide +kernel) (Or.inl ⟨⟨_, dL_restore_8, rfl⟩, rfl⟩) (by decide) ?_
      refine V.iconst (v := (1 : Int32)) dL_restore_9 (by decide) ?_
      obtain rfl := Option.some.inj hf
      exact V.iret dL_restore_10
    · rw [if_neg c5] at hf
      by_cases c6 : E3c = "java/lang/IllegalStateException"
      · rw [if_pos c6] at hf
        subst c6
        refine V.callVC (k := 2) (pre := [⟨0, 5, 8, 19⟩]) (suf := []) (x := ⟨0, 5, 11, 97⟩) (name := "java/lang/IllegalStateException") (E0 := "java/lang/IllegalStateException") (h' := E3h) (As := [.int l1]) (st := []) dL_restore_2 cl_RL_130 sw_yX11_restore (by decide) rfl (Nat.le_of_ble_eq_true rfl) rfl (gO_some e1) rfl (w_X11_restore _ _ _ _ e2) rfl (xpre_c (by decide) ncl_RL_19 (by decide) (by decide) xpre_n) (by decide) (by decide) (by decide) ncl_RL_97 (by decide +kernel) (Or.inl ⟨⟨_, dL_restore_11, rfl⟩, rfl⟩) (by decide) ?_
        refine V.iconst (v := (2 : Int32)) dL_restore_12 (by decide) ?_
        obtain rfl := Option.some.inj hf
        exact V.iret dL_restore_13
      · rw [if_neg c6] at hf
        cases hf
  · refine V.callV (As := [.int l1]) (st := []) dL_restore_2 cl_RL_130 sw_yX11_restore (by decide) rfl (Nat.le_of_ble_eq_true rfl) rfl (gO_some e1) rfl (w_X11_restore _ _ _ _ e2) ?_
    try dsimp only at hf
    refine V.goto (tgt := 14) dL_restore_5 (by decide) ?_
    refine V.iconst (v := (0 : Int32)) dL_restore_14 (by decide) ?_
    obtain rfl := Option.some.inj hf
    exact V.iret dL_restore_15

def f_L_round (h : xH) (l0 : Nat) (l1 : Int32) (l2 : Int32) (l3 : Nat) : Option (Int32 × xH) := (gO h l0 11).bind fun q1 => (f_X11_round h l0 l1 l2).bind fun r2 => (match r2 with | .inl E3 => ((if E3.1 = "java/util/NoSuchElementException" then (some (((1 : Int32), E3.2))) else (if E3.1 = "java/lang/IllegalArgumentException" then (some (((2 : Int32), E3.2))) else none))) | .inr v4 => ((stJ v4.2 l3 (0 : Int32) (Int32.toInt64 (v4.1))).bind fun h7 => some (((0 : Int32), h7))))
set_option maxRecDepth 20000 in
theorem w_L_round (h : xH) (l0 : Nat) (l1 : Int32) (l2 : Int32) (l3 : Nat) (r : Int32 × xH) (hf : f_L_round h l0 l1 l2 l3 = some r) : Ev 8 yL_round cL_round 5 (some .int) [(0, 10, 13, 19), (0, 10, 17, 13)] [.ref l0, .int l1, .int l2, .ref l3] h (oIh r) := by
  refine Ev.ofH (by decide +kernel) (Nat.le_of_ble_eq_true rfl) ?_
  unfold f_L_round at hf
  refine V.aload_n dL_round_0 rfl 3 rfl ?_
  refine V.iconst (v := (0 : Int32)) dL_round_1 (by decide) ?_
  refine V.aload_n dL_round_2 rfl 0 rfl ?_
  refine V.iload_n dL_round_3 rfl 1 rfl ?_
  refine V.iload_n dL_round_4 rfl 2 rfl ?_
  obtain ⟨q1, e1, hf⟩ := bS hf
  obtain ⟨r2, e2, hf⟩ := bS hf
  rcases r2 with E3 | v4
  · obtain ⟨E3c, E3h⟩ := E3
    dsimp only at hf
    by_cases c5 : E3c = "java/util/NoSuchElementException"
    · rw [if_pos c5] at hf
      subst c5
      refine V.callVC (k := 4) (pre := []) (suf := [⟨0, 10, 17, 13⟩]) (x := ⟨0, 10, 13, 19⟩) (name := "java/util/NoSuchElementException") (E0 := "java/util/NoSuchElementException") (h' := E3h) (As := [.int l1, .int l2]) (st := [.int (0 : Int32), .ref l3]) dL_round_5 cl_RL_101 sw_yX11_round (by decide) rfl (Nat.le_of_ble_eq_true rfl) rfl (gO_some e1) rfl (w_X11_round _ _ _ _ _ e2) rfl xpre_n (by decide) (by decide) (by decide) ncl_RL_19 (by decide +kernel) (Or.inr ⟨dL_round_13, rfl⟩) (by decide) ?_
      refine V.iconst (v := (1 : Int32)) dL_round_15 (by decide) ?_
      obtain rfl := Option.some.inj hf
      exact V.iret dL_round_16
    · rw [if_neg c5] at hf
      by_cases c6 : E3c = "java/lang/IllegalArgumentException"
      · rw [if_pos c6] at hf
        subst c6
        refine V.callVC (k := 4) (pre := [⟨0, 10, 13, 19⟩]) (suf := []) (x := ⟨0, 10, 17, 13⟩) (name := "java/lang/IllegalArgumentException") (E0 := "java/lang/IllegalArgumentException") (h' := E3h) (As := [.int l1, .int l2]) (st := [.int (0 : Int32), .ref l3]) dL_round_5 cl_RL_101 sw_yX11_round (by decide) rfl (Nat.le_of_ble_eq_true rfl) rfl (gO_some e1) rfl (w_X11_round _ _ _ _ _ e2) rfl (xpre_c (by decide) ncl_RL_19 (by decide) (by decide) xpre_n) (by decide) (by decide) (by decide) ncl_RL_13 (by decide +kernel) (Or.inr ⟨dL_round_17, rfl⟩) (by decide) ?_
        refine V.iconst (v := (2 : Int32)) dL_round_19 (by decide) ?_
        obtain rfl := Option.some.inj hf
        exact V.iret dL_round_20
      · rw [if_neg c6] at hf
        cases hf
  · refine V.callV (As := [.int l1, .int l2]) (st := [.int (0 : Int32), .ref l3]) dL_round_5 cl_RL_101 sw_yX11_round (by decide) rfl (Nat.le_of_ble_eq_true rfl) rfl (gO_some e1) rfl (w_X11_round _ _ _ _ _ e2) ?_
    try dsimp only at hf
    refine V.i2l dL_round_8 ?_
    obtain ⟨h7, e3, hf⟩ := bS hf
    refine V.xstJ dL_round_9 e3 ?_
    refine V.goto (tgt := 21) dL_round_10 (by decide) ?_
    refine V.iconst (v := (0 : Int32)) dL_round_21 (by decide) ?_
    obtain rfl := Option.some.inj hf
    exact V.iret dL_round_22

def f_L_rule (h : xH) (l0 : Nat) (l1 : Int32) (l2 : Int32) (l3 : Int32) (l4 : Int32) (l5 : Nat) : Option (Int32 × xH) := (gO h l0 11).bind fun q1 => (f_X11_rule h l0 l1 l2 l3 l4).bind fun r2 => (match r2 with | .inl E3 => ((if E3.1 = "java/lang/IllegalArgumentException" then (some (((1 : Int32), E3.2))) else none)) | .inr v4 => ((stJ h l5 (0 : Int32) (Int32.toInt64 v4)).bind fun h6 => some (((0 : Int32), h6))))
set_option maxRecDepth 20000 in
theorem w_L_rule (h : xH) (l0 : Nat) (l1 : Int32) (l2 : Int32) (l3 : Int32) (l4 : Int32) (l5 : Nat) (r : Int32 × xH) (hf : f_L_rule h l0 l1 l2 l3 l4 l5 = some r) : Ev 6 yL_rule cL_rule 7 (some .int) [(0, 14, 17, 13)] [.ref l0, .int l1, .int l2, .int l3, .int l4, .ref l5] h (oIh r) := by
  refine Ev.ofH (by decide +kernel) (Nat.le_of_ble_eq_true rfl) ?_
  unfold f_L_rule at hf
  refine V.aload dL_rule_0 5 rfl ?_
  refine V.iconst (v := (0 : Int32)) dL_rule_2 (by decide) ?_
  refine V.aload_n dL_rule_3 rfl 0 rfl ?_
  refine V.iload_n dL_rule_4 rfl 1 rfl ?_
  refine V.iload_n dL_rule_5 rfl 2 rfl ?_
  refine V.iload_n dL_rule_6 rfl 3 rfl ?_
  refine V.iload dL_rule_7 4 rfl ?_
  obtain ⟨q1, e1, hf⟩ := bS hf
  obtain ⟨r2, e2, hf⟩ := bS hf
  rcases r2 with E3 | v4
  · obtain ⟨E3c, E3h⟩ := E3
    dsimp only at hf
    by_cases c5 : E3c = "java/lang/IllegalArgumentException"
    · rw [if_pos c5] at hf
      subst c5
      refine V.callVC (k := 6) (pre := []) (suf := []) (x := ⟨0, 14, 17, 13⟩) (name := "java/lang/IllegalArgumentException") (E0 := "java/lang/IllegalArgumentException") (h' := E3h) (As := [.int l1, .int l2, .int l3, .int l4]) (st := [.int (0 : Int32), .ref l5]) dL_rule_9 cl_RL_104 sw_yX11_rule (by decide) rfl (Nat.le_of_ble_eq_true rfl) rfl (gO_some e1) rfl (w_X11_rule _ _ _ _ _ _ _ e2) rfl xpre_n (by decide) (by decide) (by decide) ncl_RL_13 (by decide +kernel) (Or.inr ⟨dL_rule_17, rfl⟩) (by decide) ?_
      refine V.iconst (v := (1 : Int32)) dL_rule_19 (by decide) ?_
      obtain rfl := Option.some.inj hf
      exact V.iret dL_rule_20
    · rw [if_neg c5] at hf
      cases hf
  · refine V.callV (As := [.int l1, .int l2, .int l3, .int l4]) (st := [.int (0 : Int32), .ref l5]) dL_rule_9 cl_RL_104 sw_yX11_rule (by decide) rfl (Nat.le_of_ble_eq_true rfl) rfl (gO_some e1) rfl (w_X11_rule _ _ _ _ _ _ _ e2) ?_
    try dsimp only at hf
    refine V.i2l dL_rule_12 ?_
    obtain ⟨h6, e3, hf⟩ := bS hf
    refine V.xstJ dL_rule_13 e3 ?_
    refine V.goto (tgt := 21) dL_rule_14 (by decide) ?_
    refine V.iconst (v := (0 : Int32)) dL_rule_21 (by decide) ?_
    obtain rfl := Option.some.inj hf
    exact V.iret dL_rule_22

def f_L_sooner (h : xH) (l0 : Nat) (l1 : Int32) (l2 : Nat) : Option (Int32 × xH) := (gO h l0 11).bind fun q1 => (f_X11_sooner h l0 l1).bind fun r2 => (match r2 with | .inl E3 => ((if E3.1 = "java/util/NoSuchElementException" then (some (((1 : Int32), E3.2))) else (if E3.1 = "java/lang/IllegalStateException" then (some (((2 : Int32), E3.2))) else (if E3.1 = "java/lang/IndexOutOfBoundsException" then (some (((3 : Int32), E3.2))) else (if E3.1 = "java/lang/IllegalArgumentException" then (some (((4 : Int32), E3.2))) else none))))) | .inr v4 => ((stJ v4.2 l2 (0 : Int32) (Int32.toInt64 (v4.1))).bind fun h9 => some (((0 : Int32), h9))))
set_option maxRecDepth 20000 in
theorem w_L_sooner (h : xH) (l0 : Nat) (l1 : Int32) (l2 : Nat) (r : Int32 × xH) (hf : f_L_sooner h l0 l1 l2 = some r) : Ev 50 yL_sooner cL_sooner 4 (some .int) [(0, 9, 12, 19), (0, 9, 15, 97), (0, 9, 18, 99), (0, 9, 21, 13)] [.ref l0, .int l1, .ref l2] h (oIh r) := by
  refine Ev.ofH (by decide +kernel) (Nat.le_of_ble_eq_true rfl) ?_
  unfold f_L_sooner at hf
  refine V.aload_n dL_sooner_0 rfl 2 rfl ?_
  refine V.iconst (v := (0 : Int32)) dL_sooner_1 (by decide) ?_
  refine V.aload_n dL_sooner_2 rfl 0 rfl ?_
  refine V.iload_n dL_sooner_3 rfl 1 rfl ?_
  obtain ⟨q1, e1, hf⟩ := bS hf
  obtain ⟨r2, e2, hf⟩ := bS hf
  rcases r2 with E3 | v4
  · obtain ⟨E3c, E3h⟩ := E3
    dsimp only at hf
    by_cases c5 : E3c = "java/util/NoSuchElementException"
    · rw [if_pos c5] at hf
      subst c5
      refine V.callVC (k := 3) (pre := []) (suf := [⟨0, 9, 15, 97⟩, ⟨0, 9, 18, 99⟩, ⟨0, 9, 21, 13⟩]) (x := ⟨0, 9, 12, 19⟩) (name := "java/util/NoSuchElementException") (E0 := "java/util/NoSuchElementException") (h' := E3h) (As := [.int l1]) (st := [.int (0 : Int32), .ref l2]) dL_sooner_4 cl_RL_94 sw_yX11_sooner (by decide) rfl (Nat.le_of_ble_eq_true rfl) rfl (gO_some e1) rfl (w_X11_sooner _ _ _ _ e2) rfl xpre_n (by decide) (by decide) (by decide) ncl_RL_19 (by decide +kernel) (Or.inl ⟨⟨_, dL_sooner_12, rfl⟩, rfl⟩) (by decide) ?_
      refine V.iconst (v := (1 : Int32)) dL_sooner_13 (by decide) ?_
      obtain rfl := Option.some.inj hf
      exact V.iret dL_sooner_14
    · rw [if_neg c5] at hf
      by_cases c6 : E3c = "java/lang/IllegalStateException"
      · rw [if_pos c6] at hf
        subst c6
        refine V.callVC (k := 3) (pre := [⟨0, 9, 12, 19⟩]) (suf := [⟨0, 9, 18, 99⟩, ⟨0, 9, 21, 13⟩]) (x := ⟨0, 9, 15, 97⟩) (name := "java/lang/IllegalStateException") (E0 := "java/lang/IllegalStateException") (h' := E3h) (As := [.int l1]) (st := [.int (0 : Int32), .ref l2]) dL_sooner_4 cl_RL_94 sw_yX11_sooner (by decide) rfl (Nat.le_of_ble_eq_true rfl) rfl (gO_some e1) rfl (w_X11_sooner _ _ _ _ e2) rfl (xpre_c (by decide) ncl_RL_19 (by decide) (by decide) xpre_n) (by decide) (by decide) (by decide) ncl_RL_97 (by decide +kernel) (Or.inl ⟨⟨_, dL_sooner_15, rfl⟩, rfl⟩) (by decide) ?_
        refine V.iconst (v := (2 : Int32)) dL_sooner_16 (by decide) ?_
        obtain rfl := Option.some.inj hf
        exact V.iret dL_sooner_17
      · rw [if_neg c6] at hf
        by_cases c7 : E3c = "java/lang/IndexOutOfBoundsException"
        · rw [if_pos c7] at hf
          subst c7
          refine V.callVC (k := 3) (pre := [⟨0, 9, 12, 19⟩, ⟨0, 9, 15, 97⟩]) (suf := [⟨0, 9, 21, 13⟩]) (x := ⟨0, 9, 18, 99⟩) (name := "java/lang/IndexOutOfBoundsException") (E0 := "java/lang/IndexOutOfBoundsException") (h' := E3h) (As := [.int l1]) (st := [.int (0 : Int32), .ref l2]) dL_sooner_4 cl_RL_94 sw_yX11_sooner (by decide) rfl (Nat.le_of_ble_eq_true rfl) rfl (gO_some e1) rfl (w_X11_sooner _ _ _ _ e2) rfl (xpre_c (by decide) ncl_RL_19 (by decide) (by decide) (xpre_c (by decide) ncl_RL_97 (by decide) (by decide) xpre_n)) (by decide) (by decide) (by decide) ncl_RL_99 (by decide +kernel) (Or.inl ⟨⟨_, dL_sooner_18, rfl⟩, rfl⟩) (by decide) ?_
          refine V.iconst (v := (3 : Int32)) dL_sooner_19 (by decide) ?_
          obtain rfl := Option.some.inj hf
          exact V.iret dL_sooner_20
        · rw [if_neg c7] at hf
          by_cases c8 : E3c = "java/lang/IllegalArgumentException"
          · rw [if_pos c8] at hf
            subst c8
            refine V.callVC (k := 3) (pre := [⟨0, 9, 12, 19⟩, ⟨0, 9, 15, 97⟩, ⟨0, 9, 18, 99⟩]) (suf := []) (x := ⟨0, 9, 21, 13⟩) (name := "java/lang/IllegalArgumentException") (E0 := "java/lang/IllegalArgumentException") (h' := E3h) (As := [.int l1]) (st := [.int (0 : Int32), .ref l2]) dL_sooner_4 cl_RL_94 sw_yX11_sooner (by decide) rfl (Nat.le_of_ble_eq_true rfl) rfl (gO_some e1) rfl (w_X11_sooner _ _ _ _ e2) rfl (xpre_c (by decide) ncl_RL_19 (by decide) (by decide) (xpre_c (by decide) ncl_RL_97 (by decide) (by decide) (xpre_c (by decide) ncl_RL_99 (by decide) (by decide) xpre_n))) (by decide) (by decide) (by decide) ncl_RL_13 (by decide +kernel) (Or.inl ⟨⟨_, dL_sooner_21, rfl⟩, rfl⟩) (by decide) ?_
            refine V.iconst (v := (4 : Int32)) dL_sooner_22 (by decide) ?_
            obtain rfl := Option.some.inj hf
            exact V.iret dL_sooner_23
          · rw [if_neg c8] at hf
            cases hf
  · refine V.callV (As := [.int l1]) (st := [.int (0 : Int32), .ref l2]) dL_sooner_4 cl_RL_94 sw_yX11_sooner (by decide) rfl (Nat.le_of_ble_eq_true rfl) rfl (gO_some e1) rfl (w_X11_sooner _ _ _ _ e2) ?_
    try dsimp only at hf
    refine V.i2l dL_sooner_7 ?_
    obtain ⟨h9, e3, hf⟩ := bS hf
    refine V.xstJ dL_sooner_8 e3 ?_
    refine V.goto (tgt := 24) dL_sooner_9 (by decide) ?_
    refine V.iconst (v := (0 : Int32)) dL_sooner_24 (by decide) ?_
    obtain rfl := Option.some.inj hf
    exact V.iret dL_sooner_25

def f_L_spare (h : xH) (l0 : Nat) (l1 : Int32) (l2 : Nat) : Option (Int32 × xH) := (gO h l0 11).bind fun q1 => (f_X11_spare h l0 l1).bind fun r2 => (match r2 with | .inl E3 => ((if E3.1 = "java/lang/IllegalArgumentException" then (some (((1 : Int32), E3.2))) else none)) | .inr v4 => ((stJ v4.2 l2 (0 : Int32) (Int32.toInt64 (v4.1))).bind fun h6 => some (((0 : Int32), h6))))
set_option maxRecDepth 20000 in
theorem w_L_spare (h : xH) (l0 : Nat) (l1 : Int32) (l2 : Nat) (r : Int32 × xH) (hf : f_L_spare h l0 l1 l2 = some r) : Ev 8 yL_spare cL_spare 4 (some .int) [(0, 9, 12, 13)] [.ref l0, .int l1, .ref l2] h (oIh r) := by
  refine Ev.ofH (by decide +kernel) (Nat.le_of_ble_eq_true rfl) ?_
  unfold f_L_spare at hf
  refine V.aload_n dL_spare_0 rfl 2 rfl ?_
  refine V.iconst (v := (0 : Int32)) dL_spare_1 (by decide) ?_
  refine V.aload_n dL_spare_2 rfl 0 rfl ?_
  refine V.iload_n dL_spare_3 rfl 1 rfl ?_
  obtain ⟨q1, e1, hf⟩ := bS hf
  obtain ⟨r2, e2, hf⟩ := bS hf
  rcases r2 with E3 | v4
  · obtain ⟨E3c, E3h⟩ := E3
    dsimp only at hf
    by_cases c5 : E3c = "java/lang/IllegalArgumentException"
    · rw [if_pos c5] at hf
      subst c5
      refine V.callVC (k := 3) (pre := []) (suf := []) (x := ⟨0, 9, 12, 13⟩) (name := "java/lang/IllegalArgumentException") (E0 := "java/lang/IllegalArgumentException") (h' := E3h) (As := [.int l1]) (st := [.int (0 : Int32), .ref l2]) dL_spare_4 cl_RL_49 sw_yX11_spare (by decide) rfl (Nat.le_of_ble_eq_true rfl) rfl (gO_some e1) rfl (w_X11_spare _ _ _ _ e2) rfl xpre_n (by decide) (by decide) (by decide) ncl_RL_13 (by decide +kernel) (Or.inl ⟨⟨_, dL_spare_12, rfl⟩, rfl⟩) (by decide) ?_
      refine V.iconst (v := (1 : Int32)) dL_spare_13 (by decide) ?_
      obtain rfl := Option.some.inj hf
      exact V.iret dL_spare_14
    · rw [if_neg c5] at hf
      cases hf
  · refine V.callV (As := [.int l1]) (st := [.int (0 : Int32), .ref l2]) dL_spare_4 cl_RL_49 sw_yX11_spare (by decide) rfl (Nat.le_of_ble_eq_true rfl) rfl (gO_some e1) rfl (w_X11_spare _ _ _ _ e2) ?_
    try dsimp only at hf
    refine V.i2l dL_spare_7 ?_
    obtain ⟨h6, e3, hf⟩ := bS hf
    refine V.xstJ dL_spare_8 e3 ?_
    refine V.goto (tgt := 15) dL_spare_9 (by decide) ?_
    refine V.iconst (v := (0 : Int32)) dL_spare_15 (by decide) ?_
    obtain rfl := Option.some.inj hf
    exact V.iret dL_spare_16

def f_L_tray (h : xH) (l0 : Nat) (l1 : Int32) (l2 : Int32) (l3 : Int32) : Option (Int32 × xH) := (gO h l0 11).bind fun q1 => (f_X11_tray h l0 l1 l2 l3).bind fun r2 => (match r2 with | .inl E3 => ((if E3.1 = "java/util/NoSuchElementException" then (some (((1 : Int32), E3.2))) else (if E3.1 = "java/lang/IllegalArgumentException" then (some (((2 : Int32), E3.2))) else none))) | .inr v4 => (some (((0 : Int32), v4))))
set_option maxRecDepth 20000 in
theorem w_L_tray (h : xH) (l0 : Nat) (l1 : Int32) (l2 : Int32) (l3 : Int32) (r : Int32 × xH) (hf : f_L_tray h l0 l1 l2 l3 = some r) : Ev 6 yL_tray cL_tray 5 (some .int) [(0, 7, 10, 19), (0, 7, 14, 13)] [.ref l0, .int l1, .int l2, .int l3] h (oIh r) := by
  refine Ev.ofH (by decide +kernel) (Nat.le_of_ble_eq_true rfl) ?_
  unfold f_L_tray at hf
  refine V.aload_n dL_tray_0 rfl 0 rfl ?_
  refine V.iload_n dL_tray_1 rfl 1 rfl ?_
  refine V.iload_n dL_tray_2 rfl 2 rfl ?_
  refine V.iload_n dL_tray_3 rfl 3 rfl ?_
  obtain ⟨q1, e1, hf⟩ := bS hf
  obtain ⟨r2, e2, hf⟩ := bS hf
  rcases r2 with E3 | v4
  · obtain ⟨E3c, E3h⟩ := E3
    dsimp only at hf
    by_cases c5 : E3c = "java/util/NoSuchElementException"
    · rw [if_pos c5] at hf
      subst c5
      refine V.callVC (k := 4) (pre := []) (suf := [⟨0, 7, 14, 13⟩]) (x := ⟨0, 7, 10, 19⟩) (name := "java/util/NoSuchElementException") (E0 := "java/util/NoSuchElementException") (h' := E3h) (As := [.int l1, .int l2, .int l3]) (st := []) dL_tray_4 cl_RL_115 sw_yX11_tray (by decide) rfl (Nat.le_of_ble_eq_true rfl) rfl (gO_some e1) rfl (w_X11_tray _ _ _ _ _ _ e2) rfl xpre_n (by decide) (by decide) (by decide) ncl_RL_19 (by decide +kernel) (Or.inr ⟨dL_tray_10, rfl⟩) (by decide) ?_
      refine V.iconst (v := (1 : Int32)) dL_tray_12 (by decide) ?_
      obtain rfl := Option.some.inj hf
      exact V.iret dL_tray_13
    · rw [if_neg c5] at hf
      by_cases c6 : E3c = "java/lang/IllegalArgumentException"
      · rw [if_pos c6] at hf
        subst c6
        refine V.callVC (k := 4) (pre := [⟨0, 7, 10, 19⟩]) (suf := []) (x := ⟨0, 7, 14, 13⟩) (name := "java/lang/IllegalArgumentException") (E0 := "java/lang/IllegalArgumentException") (h' := E3h) (As := [.int l1, .int l2, .int l3]) (st := []) dL_tray_4 cl_RL_115 sw_yX11_tray (by decide) rfl (Nat.le_of_ble_eq_true rfl) rfl (gO_some e1) rfl (w_X11_tray _ _ _ _ _ _ e2) rfl (xpre_c (by decide) ncl_RL_19 (by decide) (by decide) xpre_n) (by decide) (by decide) (by decide) ncl_RL_13 (by decide +kernel) (Or.inr ⟨dL_tray_14, rfl⟩) (by decide) ?_
        refine V.iconst (v := (2 : Int32)) dL_tray_16 (by decide) ?_
        obtain rfl := Option.some.inj hf
        exact V.iret dL_tray_17
      · rw [if_neg c6] at hf
        cases hf
  · refine V.callV (As := [.int l1, .int l2, .int l3]) (st := []) dL_tray_4 cl_RL_115 sw_yX11_tray (by decide) rfl (Nat.le_of_ble_eq_true rfl) rfl (gO_some e1) rfl (w_X11_tray _ _ _ _ _ _ e2) ?_
    try dsimp only at hf
    refine V.goto (tgt := 18) dL_tray_7 (by decide) ?_
    refine V.iconst (v := (0 : Int32)) dL_tray_18 (by decide) ?_
    obtain rfl := Option.some.inj hf
    exact V.iret dL_tray_19

def f_L_walk (h : xH) (l0 : Nat) (l1 : Int32) (l2 : Int32) (l3 : Nat) : Option (Int32 × xH) := (gO h l0 11).bind fun q1 => (f_X11_walk h l0 l1 l2).bind fun r2 => (match r2 with | .inl E3 => ((if E3.1 = "java/util/NoSuchElementException" then (some (((1 : Int32), E3.2))) else none)) | .inr v4 => ((stJ h l3 (0 : Int32) (Int32.toInt64 v4)).bind fun h6 => some (((0 : Int32), h6))))
set_option maxRecDepth 20000 in
theorem w_L_walk (h : xH) (l0 : Nat) (l1 : Int32) (l2 : Int32) (l3 : Nat) (r : Int32 × xH) (hf : f_L_walk h l0 l1 l2 l3 = some r) : Ev 6 yL_walk cL_walk 5 (some .int) [(0, 10, 13, 19)] [.ref l0, .int l1, .int l2, .ref l3] h (oIh r) := by
  refine Ev.ofH (by decide +kernel) (Nat.le_of_ble_eq_true rfl) ?_
  unfold f_L_walk at hf
  refine V.aload_n dL_walk_0 rfl 3 rfl ?_
  refine V.iconst (v := (0 : Int32)) dL_walk_1 (by decide) ?_
  refine V.aload_n dL_walk_2 rfl 0 rfl ?_
  refine V.iload_n dL_walk_3 rfl 1 rfl ?_
  refine V.iload_n dL_walk_4 rfl 2 rfl ?_
  obtain ⟨q1, e1, hf⟩ := bS hf
  obtain ⟨r2, e2, hf⟩ := bS hf
  rcases r2 with E3 | v4
  · obtain ⟨E3c, E3h⟩ := E3
    dsimp only at hf
    by_cases c5 : E3c = "java/util/NoSuchElementException"
    · rw [if_pos c5] at hf
      subst c5
      refine V.callVC (k := 4) (pre := []) (suf := []) (x := ⟨0, 10, 13, 19⟩) (name := "java/util/NoSuchElementException") (E0 := "java/util/NoSuchElementException") (h' := E3h) (As := [.int l1, .int l2]) (st := [.int (0 : Int32), .ref l3]) dL_walk_5 cl_RL_80 sw_yX11_walk (by decide) rfl (Nat.le_of_ble_eq_true rfl) rfl (gO_some e1) rfl (w_X11_walk _ _ _ _ _ e2) rfl xpre_n (by decide) (by decide) (by decide) ncl_RL_19 (by decide +kernel) (Or.inr ⟨dL_walk_13, rfl⟩) (by decide) ?_
      refine V.iconst (v := (1 : Int32)) dL_walk_15 (by decide) ?_
      obtain rfl := Option.some.inj hf
      exact V.iret dL_walk_16
    · rw [if_neg c5] at hf
      cases hf
  · refine V.callV (As := [.int l1, .int l2]) (st := [.int (0 : Int32), .ref l3]) dL_walk_5 cl_RL_80 sw_yX11_walk (by decide) rfl (Nat.le_of_ble_eq_true rfl) rfl (gO_some e1) rfl (w_X11_walk _ _ _ _ _ e2) ?_
    try dsimp only at hf
    refine V.i2l dL_walk_8 ?_
    obtain ⟨h6, e3, hf⟩ := bS hf
    refine V.xstJ dL_walk_9 e3 ?_
    refine V.goto (tgt := 17) dL_walk_10 (by decide) ?_
    refine V.iconst (v := (0 : Int32)) dL_walk_17 (by decide) ?_
    obtain rfl := Option.some.inj hf
    exact V.iret dL_walk_18

def f_L_write (h : xH) (l0 : Nat) (l1 : Int32) (l2 : Int32) (l3 : Int64) (l5 : Nat) : Option (Int32 × xH) := (gO h l0 11).bind fun q1 => (f_X11_write h l0 l1 l2 l3).bind fun r2 => (match r2 with | .inl E3 => ((if E3.1 = "java/util/NoSuchElementException" then (some (((1 : Int32), E3.2))) else (if E3.1 = "java/lang/IllegalStateException" then (some (((2 : Int32), E3.2))) else (if E3.1 = "java/lang/IndexOutOfBoundsException" then (some (((3 : Int32), E3.2))) else none)))) | .inr v4 => ((stJ v4.2 l5 (0 : Int32) (v4.1)).bind fun h8 => some (((0 : Int32), h8))))
set_option maxRecDepth 20000 in
theorem w_L_write (h : xH) (l0 : Nat) (l1 : Int32) (l2 : Int32) (l3 : Int64) (l5 : Nat) (r : Int32 × xH) (hf : f_L_write h l0 l1 l2 l3 l5 = some r) : Ev 7 yL_write cL_write 7 (some .int) [(0, 11, 14, 19), (0, 11, 18, 97), (0, 11, 22, 99)] [.ref l0, .int l1, .int l2, .long l3, .ref l5] h (oIh r) := by
  refine Ev.ofH (by decide +kernel) (Nat.le_of_ble_eq_true rfl) ?_
  unfold f_L_write at hf
  refine V.aload dL_write_0 4 rfl ?_
  refine V.iconst (v := (0 : Int32)) dL_write_2 (by decide) ?_
  refine V.aload_n dL_write_3 rfl 0 rfl ?_
  refine V.iload_n dL_write_4 rfl 1 rfl ?_
  refine V.iload_n dL_write_5 rfl 2 rfl ?_
  refine V.lload_n dL_write_6 rfl 3 rfl ?_
  obtain ⟨q1, e1, hf⟩ := bS hf
  obtain ⟨r2, e2, hf⟩ := bS hf
  rcases r2 with E3 | v4
  · obtain ⟨E3c, E3h⟩ := E3
    dsimp only at hf
    by_cases c5 : E3c = "java/util/NoSuchElementException"
    · rw [if_pos c5] at hf
      subst c5
      refine V.callVC (k := 6) (pre := []) (suf := [⟨0, 11, 18, 97⟩, ⟨0, 11, 22, 99⟩]) (x := ⟨0, 11, 14, 19⟩) (name := "java/util/NoSuchElementException") (E0 := "java/util/NoSuchElementException") (h' := E3h) (As := [.int l1, .int l2, .long l3]) (st := [.int (0 : Int32), .ref l5]) dL_write_7 cl_RL_119 sw_yX11_write (by decide) rfl (Nat.le_of_ble_eq_true rfl) rfl (gO_some e1) rfl (w_X11_write _ _ _ _ _ _ e2) rfl xpre_n (by decide) (by decide) (by decide) ncl_RL_19 (by decide +kernel) (Or.inr ⟨dL_write_14, rfl⟩) (by decide) ?_
      refine V.iconst (v := (1 : Int32)) dL_write_16 (by decide) ?_
      obtain rfl := Option.some.inj hf
      exact V.iret dL_write_17
    · rw [if_neg c5] at hf
      by_cases c6 : E3c = "java/lang/IllegalStateException"
      · rw [if_pos c6] at hf
        subst c6
        refine V.callVC (k := 6) (pre := [⟨0, 11, 14, 19⟩]) (suf := [⟨0, 11, 22, 99⟩]) (x := ⟨0, 11, 18, 97⟩) (name := "java/lang/IllegalStateException") (E0 := "java/lang/IllegalStateException") (h' := E3h) (As := [.int l1, .int l2, .long l3]) (st := [.int (0 : Int32), .ref l5]) dL_write_7 cl_RL_119 sw_yX11_write (by decide) rfl (Nat.le_of_ble_eq_true rfl) rfl (gO_some e1) rfl (w_X11_write _ _ _ _ _ _ e2) rfl (xpre_c (by decide) ncl_RL_19 (by decide) (by decide) xpre_n) (by decide) (by decide) (by decide) ncl_RL_97 (by decide +kernel) (Or.inr ⟨dL_write_18, rfl⟩) (by decide) ?_
        refine V.iconst (v := (2 : Int32)) dL_write_20 (by decide) ?_
        obtain rfl := Option.some.inj hf
        exact V.iret dL_write_21
      · rw [if_neg c6] at hf
        by_cases c7 : E3c = "java/lang/IndexOutOfBoundsException"
        · rw [if_pos c7] at hf
          subst c7
          refine V.callVC (k := 6) (pre := [⟨0, 11, 14, 19⟩, ⟨0, 11, 18, 97⟩]) (suf := []) (x := ⟨0, 11, 22, 99⟩) (name := "java/lang/IndexOutOfBoundsException") (E0 := "java/lang/IndexOutOfBoundsException") (h' := E3h) (As := [.int l1, .int l2, .long l3]) (st := [.int (0 : Int32), .ref l5]) dL_write_7 cl_RL_119 sw_yX11_write (by decide) rfl (Nat.le_of_ble_eq_true rfl) rfl (gO_some e1) rfl (w_X11_write _ _ _ _ _ _ e2) rfl (xpre_c (by decide) ncl_RL_19 (by decide) (by decide) (xpre_c (by decide) ncl_RL_97 (by decide) (by decide) xpre_n)) (by decide) (by decide) (by decide) ncl_RL_99 (by decide +kernel) (Or.inr ⟨dL_write_22, rfl⟩) (by decide) ?_
          refine V.iconst (v := (3 : Int32)) dL_write_24 (by decide) ?_
          obtain rfl := Option.some.inj hf
          exact V.iret dL_write_25
        · rw [if_neg c7] at hf
          cases hf
  · refine V.callV (As := [.int l1, .int l2, .long l3]) (st := [.int (0 : Int32), .ref l5]) dL_write_7 cl_RL_119 sw_yX11_write (by decide) rfl (Nat.le_of_ble_eq_true rfl) rfl (gO_some e1) rfl (w_X11_write _ _ _ _ _ _ e2) ?_
    try dsimp only at hf
    obtain ⟨h8, e3, hf⟩ := bS hf
    refine V.xstJ dL_write_10 e3 ?_
    refine V.goto (tgt := 26) dL_write_11 (by decide) ?_
    refine V.iconst (v := (0 : Int32)) dL_write_26 (by decide) ?_
    obtain rfl := Option.some.inj hf
    exact V.iret dL_write_27

