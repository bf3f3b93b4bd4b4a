/-! ===== a text's length and signs ===== -/
def sIx (w : Nat) : Option Nat := if xS0 ≤ w ∧ (w - xS0) % 2 = 0 ∧ (w - xS0) / 2 < 47 then some ((w - xS0) / 2) else none
theorem sIx_some {w i : Nat} (e : sIx w = some i) : i < 47 ∧ w = xS0 + 2 * i := by
  unfold sIx at e
  split at e
  · rename_i q
    cases e
    exact ⟨q.2.2, by omega⟩
  · cases e
def sLen (w : Nat) : Option Int32 := match sIx w with
  | some i => some (Int32.ofNat (xLen.getD i 0) >>> ((0 : Int32) &&& 31))
  | none => none
def sCh (b : Int32) : Int32 := UInt32.toInt32 (Int32.toUInt32 (b &&& 255) % 65536)
def sChr (w : Nat) (j : Int32) : Option Int32 := match sIx w with
  | some i => if (¬ j < 0) ∧ j < Int32.ofNat (xLen.getD i 0) ∧ inB j (xLen.getD i 0) = true ∧ narrow .char (.int (sCh ((xByt.getD i []).getD j.toNatClampNeg 0))) = .int (sCh ((xByt.getD i []).getD j.toNatClampNeg 0)) then some (sCh ((xByt.getD i []).getD j.toNatClampNeg 0)) else none
  | none => none
theorem ev_coder (h : xH) {i : Nat} (hi : i < 47) : Ev 3 yJ0_coder_7d493 cJ0_coder_7d493 1 (some .byte) [] [.ref (xS0 + 2 * i)] h (.inl (some (.int 0)), h) := by
  refine Ev.of (by decide +kernel) (Nat.le_of_ble_eq_true rfl) ?_
  refine V.compact dJ0_coder_7d493_0 jf_scs ?_
  refine V.if_eq (tgt := 13) dJ0_coder_7d493_3 (by decide) (fun c => absurd c (by decide)) (fun _ => ?_)
  refine V.aload_n dJ0_coder_7d493_6 rfl 0 rfl ?_
  refine V.scod hi dJ0_coder_7d493_7 jf_sc ?_
  refine V.goto (tgt := 14) dJ0_coder_7d493_10 (by decide) ?_
  exact V.zret dJ0_coder_7d493_14 rfl
theorem ev_latin (h : xH) {i : Nat} (hi : i < 47) : Ev 3 yJ0_isLatin1_aae02 cJ0_isLatin1_aae02 1 (some .boolean) [] [.ref (xS0 + 2 * i)] h (.inl (some (.int 1)), h) := by
  refine Ev.of (by decide +kernel) (Nat.le_of_ble_eq_true rfl) ?_
  refine V.compact dJ0_isLatin1_aae02_0 jf_scs ?_
  refine V.if_eq (tgt := 17) dJ0_isLatin1_aae02_3 (by decide) (fun c => absurd c (by decide)) (fun _ => ?_)
  refine V.aload_n dJ0_isLatin1_aae02_6 rfl 0 rfl ?_
  refine V.scod hi dJ0_isLatin1_aae02_7 jf_sc ?_
  refine V.if_ne (tgt := 17) dJ0_isLatin1_aae02_10 (by decide) (fun c => absurd rfl c) (fun _ => ?_)
  refine V.iconst (v := 1) dJ0_isLatin1_aae02_13 (by decide) ?_
  refine V.goto (tgt := 18) dJ0_isLatin1_aae02_14 (by decide) ?_
  exact V.zret dJ0_isLatin1_aae02_18 rfl
theorem ev_len (h : xH) {i : Nat} (hi : i < 47) : Ev 4 yJ0_length_8abf5 cJ0_length_8abf5 1 (some .int) [] [.ref (xS0 + 2 * i)] h (.inl (some (.int (Int32.ofNat (xLen.getD i 0) >>> ((0 : Int32) &&& 31)))), h) := by
  refine Ev.of (by decide +kernel) (Nat.le_of_ble_eq_true rfl) ?_
  refine V.aload_n dJ0_length_8abf5_0 rfl 0 rfl ?_
  refine V.sval hi dJ0_length_8abf5_1 jf_sv ?_
  refine V.sblen hi dJ0_length_8abf5_4 rfl ?_
  refine V.aload_n dJ0_length_8abf5_5 rfl 0 rfl ?_
  refine V.callStr (As := []) (st := [.int (Int32.ofNat (xLen.getD i 0))]) hi dJ0_length_8abf5_6 cl_RJ0_335 sw_yJ0_coder_7d493 (by decide) rfl (Nat.le_of_ble_eq_true rfl) rfl (ev_coder h hi) ?_
  refine V.ishr dJ0_length_8abf5_9 ?_
  exact V.iret dJ0_length_8abf5_10
theorem ev_pre (h : xH) {j n : Int32} (v : Value) (hv : v = .null ∨ v = .ref 1000004000) (h1 : ¬ j < 0) (h2 : j < n) : Ev 3 yJ3_checkIndex_8e157 cJ3_checkIndex_8e157 3 (some .int) [] [.int j, .int n, v] h (.inl (some (.int j)), h) := by
  rcases hv with rfl | rfl
  all_goals
    refine Ev.of (by decide +kernel) (Nat.le_of_ble_eq_true rfl) ?_
    refine V.iload_n dJ3_checkIndex_8e157_0 rfl 0 rfl ?_
    refine V.if_lt (tgt := 9) dJ3_checkIndex_8e157_1 (by decide) (fun c => absurd c h1) (fun _ => ?_)
    refine V.iload_n dJ3_checkIndex_8e157_4 rfl 0 rfl ?_
    refine V.iload_n dJ3_checkIndex_8e157_5 rfl 1 rfl ?_
    refine V.icmp_lt (tgt := 16) dJ3_checkIndex_8e157_6 (by decide) (fun _ => ?_) (fun c => absurd h2 c)
    refine V.iload_n dJ3_checkIndex_8e157_16 rfl 0 rfl ?_
    exact V.iret dJ3_checkIndex_8e157_17
theorem ev_chk (h : xH) {j n : Int32} (h1 : ¬ j < 0) (h2 : j < n) : Ev 4 yJ0_checkIndex_df160 cJ0_checkIndex_df160 2 none [] [.int j, .int n] h (.inl none, h) := by
  refine Ev.of (by decide +kernel) (Nat.le_of_ble_eq_true rfl) ?_
  refine V.iload_n dJ0_checkIndex_df160_0 rfl 0 rfl ?_
  refine V.iload_n dJ0_checkIndex_df160_1 rfl 1 rfl ?_
  refine V.sioobe dJ0_checkIndex_df160_2 jf_sio ?_ ?_
  · refine V.callS (As := [.int j, .int n, .null]) (st := []) dJ0_checkIndex_df160_5 cl_RJ0_1059 sw_yJ3_checkIndex_8e157 (by decide) rfl (Nat.le_of_ble_eq_true rfl) rfl (ev_pre h .null (Or.inl rfl) h1 h2) ?_
    refine V.pop dJ0_checkIndex_df160_8 rfl ?_
    exact V.vret dJ0_checkIndex_df160_9
  · refine V.callS (As := [.int j, .int n, .ref 1000004000]) (st := []) dJ0_checkIndex_df160_5 cl_RJ0_1059 sw_yJ3_checkIndex_8e157 (by decide) rfl (Nat.le_of_ble_eq_true rfl) rfl (ev_pre h (.ref 1000004000) (Or.inr rfl) h1 h2) ?_
    refine V.pop dJ0_checkIndex_df160_8 rfl ?_
    exact V.vret dJ0_checkIndex_df160_9
theorem ev_lat (h : xH) {i : Nat} (hi : i < 47) {j : Int32} (h1 : ¬ j < 0) (h2 : j < Int32.ofNat (xLen.getD i 0)) (h3 : inB j (xLen.getD i 0) = true) (h4 : narrow .char (.int (sCh ((xByt.getD i []).getD j.toNatClampNeg 0))) = .int (sCh ((xByt.getD i []).getD j.toNatClampNeg 0))) :
    Ev 5 yJ1_charAt_3b067 cJ1_charAt_3b067 2 (some .char) [] [.ref (xS0 + 2 * i + 1), .int j] h (.inl (some (.int (sCh ((xByt.getD i []).getD j.toNatClampNeg 0)))), h) := by
  refine Ev.of (by decide +kernel) (Nat.le_of_ble_eq_true rfl) ?_
  refine V.iload_n dJ1_charAt_3b067_0 rfl 1 rfl ?_
  refine V.aload_n dJ1_charAt_3b067_1 rfl 0 rfl ?_
  refine V.sblen hi dJ1_charAt_3b067_2 rfl ?_
  refine V.callS (As := [.int j, .int (Int32.ofNat (xLen.getD i 0))]) (st := []) dJ1_charAt_3b067_3 cl_RJ1_9 sw_yJ0_checkIndex_df160 (by decide) rfl (Nat.le_of_ble_eq_true rfl) rfl (ev_chk h h1 h2) ?_
  refine V.aload_n dJ1_charAt_3b067_6 rfl 0 rfl ?_
  refine V.iload_n dJ1_charAt_3b067_7 rfl 1 rfl ?_
  refine V.sbald hi dJ1_charAt_3b067_8 (inB_vp h3) rfl ?_
  refine V.sipush (v := 255) dJ1_charAt_3b067_9 (by decide) ?_
  refine V.iand dJ1_charAt_3b067_12 ?_
  refine V.i2c dJ1_charAt_3b067_13 ?_
  exact V.zret dJ1_charAt_3b067_14 h4
theorem ev_chr (h : xH) {i : Nat} (hi : i < 47) {j : Int32} (h1 : ¬ j < 0) (h2 : j < Int32.ofNat (xLen.getD i 0)) (h3 : inB j (xLen.getD i 0) = true) (h4 : narrow .char (.int (sCh ((xByt.getD i []).getD j.toNatClampNeg 0))) = .int (sCh ((xByt.getD i []).getD j.toNatClampNeg 0))) :
    Ev 6 yJ0_charAt_5068e cJ0_charAt_5068e 2 (some .char) [] [.ref (xS0 + 2 * i), .int j] h (.inl (some (.int (sCh ((xByt.getD i []).getD j.toNatClampNeg 0)))), h) := by
  refine Ev.of (by decide +kernel) (Nat.le_of_ble_eq_true rfl) ?_
  refine V.aload_n dJ0_charAt_5068e_0 rfl 0 rfl ?_
  refine V.callStr (As := []) (st := []) hi dJ0_charAt_5068e_1 cl_RJ0_492 sw_yJ0_isLatin1_aae02 (by decide) rfl (Nat.le_of_ble_eq_true rfl) rfl (ev_latin h hi) ?_
  refine V.if_eq (tgt := 16) dJ0_charAt_5068e_4 (by decide) (fun c => absurd c (by decide)) (fun _ => ?_)
  refine V.aload_n dJ0_charAt_5068e_7 rfl 0 rfl ?_
  refine V.sval hi dJ0_charAt_5068e_8 jf_sv ?_
  refine V.iload_n dJ0_charAt_5068e_11 rfl 1 rfl ?_
  refine V.callS (As := [.ref (xS0 + 2 * i + 1), .int j]) (st := []) dJ0_charAt_5068e_12 cl_RJ0_495 sw_yJ1_charAt_3b067 (by decide) rfl (Nat.le_of_ble_eq_true rfl) rfl (ev_lat h hi h1 h2 h3 h4) ?_
  exact V.zret dJ0_charAt_5068e_15 h4
section TextRows
variable {d : Nat} {y : MethodName} {cc : ByteArray} {nL : Nat} {rt : Option FieldType} {hh : List (Nat × Nat × Nat × Nat)} {sc : Option (Nat × (Nat → Int32))} {pc : Nat} {lv : List (Nat × Value)} {st : List Value} {h : xH} {o : xO} {idx w : Nat}
theorem V.xsLen {v : Int32} (hd : decode cc pc = .ok (.invokevirtual idx, 3)) (hw : xCL y.cls idx yJ0_length_8abf5 cJ0_length_8abf5 1 (some .int) 0) (hdd : 4 + 1 ≤ d) (hcat : (st.map fun v => v.category).sum ≤ 8) (e : sLen w = some v) (hk : V d y cc nL rt hh sc (pc + 3) lv (.int v :: st) h o) : V d y cc nL rt hh sc pc lv (.ref w :: st) h o := by
  unfold sLen at e
  split at e
  · rename_i i hi
    obtain ⟨h1, rfl⟩ := sIx_some hi
    cases e
    exact V.callStr (As := []) (st := st) h1 hd hw sw_yJ0_length_8abf5 hdd rfl hcat rfl (ev_len h h1) hk
  · cases e
theorem V.xsChr {v j : Int32} (hd : decode cc pc = .ok (.invokevirtual idx, 3)) (hw : xCL y.cls idx yJ0_charAt_5068e cJ0_charAt_5068e 2 (some .char) 1) (hdd : 6 + 1 ≤ d) (hcat : (st.map fun v => v.category).sum ≤ 8) (e : sChr w j = some v) (hk : V d y cc nL rt hh sc (pc + 3) lv (.int v :: st) h o) : V d y cc nL rt hh sc pc lv (.int j :: .ref w :: st) h o := by
  unfold sChr at e
  split at e
  · rename_i i hi
    obtain ⟨h1, rfl⟩ := sIx_some hi
    split at e
    · rename_i q
      cases e
      exact V.callStr (As := [.int j]) (st := st) h1 hd hw sw_yJ0_charAt_5068e hdd rfl hcat rfl (ev_chr h h1 q.1 q.2.1 q.2.2.1 q.2.2.2) hk
    · cases e
  · cases e
end TextRows
