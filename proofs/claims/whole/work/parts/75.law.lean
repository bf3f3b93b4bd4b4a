def f_L_law_244 (L : Nat) (xs : Nat → Int32) (k23 : xH → Nat → Nat → Nat → Int32 → Option (Int32 × xH)) (h : xH) (l1 : Nat) (l2 : Nat) (l3 : Nat) (l4 : Int32) : Option (Int32 × xH) := (ldS L xs (l4 + (1 : Int32))).bind fun v1 => (ldS L xs (l4 + (2 : Int32))).bind fun v2 => (ldS L xs (l4 + (3 : Int32))).bind fun v3 => (ldS L xs (l4 + (4 : Int32))).bind fun v4 => (ldS L xs (l4 + (5 : Int32))).bind fun v5 => (gO h l1 11).bind fun q6 => (f_X11_feed h l1 v1 v2 v3 v4 v5).bind fun r7 => (ldS L xs (l4 + (1 : Int32))).bind fun v8 => (ldS L xs (l4 + (2 : Int32))).bind fun v9 => (ldS L xs (l4 + (3 : Int32))).bind fun v10 => (ldS L xs (l4 + (4 : Int32))).bind fun v11 => (ldS L xs (l4 + (5 : Int32))).bind fun v12 => (gO r7.2 l2 12).bind fun q13 => (f_X12_feed r7.2 l2 v8 v9 v10 v11 v12).bind fun r14 => (if r7.1 = r14.1 then (k23 r14.2 l1 l2 l3 (l4 + 6)) else (some (((0 : Int32), r14.2))))
def f_L_law_317 (L : Nat) (xs : Nat → Int32) (k23 : xH → Nat → Nat → Nat → Int32 → Option (Int32 × xH)) (h : xH) (l1 : Nat) (l2 : Nat) (l3 : Nat) (l4 : Int32) : Option (Int32 × xH) := (ldS L xs (l4 + (1 : Int32))).bind fun v1 => (f_L_house h l1 v1 l3).bind fun r2 => (ldS L xs (l4 + (1 : Int32))).bind fun v3 => (gO r2.2 l2 12).bind fun q4 => (f_X12_house r2.2 l2 v3).bind fun r5 => (gO r5.2 l2 12).bind fun q6 => (f_X12_thrown r5.2 l2).bind fun r7 => (if r7 = r2.1 then ((if r2.1 = 0 then ((ldJ r5.2 l3 (0 : Int32)).bind fun v10 => (if (lg_cmp v10 (Int32.toInt64 (r5.1))) = 0 then (k23 r5.2 l1 l2 l3 (l4 + 6)) else (some (((0 : Int32), r5.2))))) else (k23 r5.2 l1 l2 l3 (l4 + 6)))) else (some (((0 : Int32), r5.2))))
def f_L_law_373 (L : Nat) (xs : Nat → Int32) (k23 : xH → Nat → Nat → Nat → Int32 → Option (Int32 × xH)) (h : xH) (l1 : Nat) (l2 : Nat) (l3 : Nat) (l4 : Int32) : Option (Int32 × xH) := (ldS L xs (l4 + (1 : Int32))).bind fun v1 => (gO h l1 11).bind fun q2 => (f_X11_fault h l1 v1).bind fun r3 => (ldS L xs (l4 + (1 : Int32))).bind fun v4 => (gO h l2 12).bind fun q5 => (f_X12_fault h l2 v4).bind fun r6 => (if r3 = r6.1 then (k23 r6.2 l1 l2 l3 (l4 + 6)) else (some (((0 : Int32), r6.2))))
def f_L_law_398 (L : Nat) (xs : Nat → Int32) (k23 : xH → Nat → Nat → Nat → Int32 → Option (Int32 × xH)) (h : xH) (l1 : Nat) (l2 : Nat) (l3 : Nat) (l4 : Int32) : Option (Int32 × xH) := (ldS L xs (l4 + (1 : Int32))).bind fun v1 => (ldS L xs (l4 + (2 : Int32))).bind fun v2 => (f_L_pane h l1 v1 v2 l3).bind fun r3 => (ldS L xs (l4 + (1 : Int32))).bind fun v4 => (ldS L xs (l4 + (2 : Int32))).bind fun v5 => (gO r3.2 l2 12).bind fun q6 => (f_X12_pane r3.2 l2 v4 v5).bind fun r7 => (gO r7.2 l2 12).bind fun q8 => (f_X12_thrown r7.2 l2).bind fun r9 => (if r9 = r3.1 then ((if r3.1 = 0 then ((ldJ r7.2 l3 (0 : Int32)).bind fun v12 => (if (lg_cmp v12 (Int32.toInt64 (r7.1))) = 0 then (k23 r7.2 l1 l2 l3 (l4 + 6)) else (some (((0 : Int32), r7.2))))) else (k23 r7.2 l1 l2 l3 (l4 + 6)))) else (some (((0 : Int32), r7.2))))
def f_L_law_466 (L : Nat) (xs : Nat → Int32) (k23 : xH → Nat → Nat → Nat → Int32 → Option (Int32 × xH)) (h : xH) (l1 : Nat) (l2 : Nat) (l3 : Nat) (l4 : Int32) : Option (Int32 × xH) := (ldS L xs (l4 + (1 : Int32))).bind fun v1 => (ldS L xs (l4 + (2 : Int32))).bind fun v2 => (f_L_kind h l1 v1 v2 l3).bind fun r3 => (ldS L xs (l4 + (1 : Int32))).bind fun v4 => (ldS L xs (l4 + (2 : Int32))).bind fun v5 => (gO r3.2 l2 12).bind fun q6 => (f_X12_kind r3.2 l2 v4 v5).bind fun r7 => (gO r7.2 l2 12).bind fun q8 => (f_X12_thrown r7.2 l2).bind fun r9 => (if r9 = r3.1 then ((if r3.1 = 0 then ((ldJ r7.2 l3 (0 : Int32)).bind fun v12 => (if (lg_cmp v12 (Int32.toInt64 (r7.1))) = 0 then (k23 r7.2 l1 l2 l3 (l4 + 6)) else (some (((0 : Int32), r7.2))))) else (k23 r7.2 l1 l2 l3 (l4 + 6)))) else (some (((0 : Int32), r7.2))))
def f_L_law_534 (L : Nat) (xs : Nat → Int32) (k23 : xH → Nat → Nat → Nat → Int32 → Option (Int32 × xH)) (h : xH) (l1 : Nat) (l2 : Nat) (l3 : Nat) (l4 : Int32) : Option (Int32 × xH) := (ldS L xs (l4 + (1 : Int32))).bind fun v1 => (f_L_next h l1 v1 l3).bind fun r2 => (ldS L xs (l4 + (1 : Int32))).bind fun v3 => (gO r2.2 l2 12).bind fun q4 => (f_X12_next r2.2 l2 v3).bind fun r5 => (gO r5.2 l2 12).bind fun q6 => (f_X12_thrown r5.2 l2).bind fun r7 => (if r7 = r2.1 then ((if r2.1 = 0 then ((ldJ r5.2 l3 (0 : Int32)).bind fun v10 => (if (lg_cmp v10 (Int32.toInt64 (r5.1))) = 0 then (k23 r5.2 l1 l2 l3 (l4 + 6)) else (some (((0 : Int32), r5.2))))) else (k23 r5.2 l1 l2 l3 (l4 + 6)))) else (some (((0 : Int32), r5.2))))
def f_L_law_590 (L : Nat) (xs : Nat → Int32) (k23 : xH → Nat → Nat → Nat → Int32 → Option (Int32 × xH)) (h : xH) (l1 : Nat) (l2 : Nat) (l3 : Nat) (l4 : Int32) : Option (Int32 × xH) := (ldS L xs (l4 + (1 : Int32))).bind fun v1 => (f_L_hated h l1 v1 l3).bind fun r2 => (ldS L xs (l4 + (1 : Int32))).bind fun v3 => (gO r2.2 l2 12).bind fun q4 => (f_X12_hated r2.2 l2 v3).bind fun r5 => (gO r5.2 l2 12).bind fun q6 => (f_X12_thrown r5.2 l2).bind fun r7 => (if r7 = r2.1 then ((if r2.1 = 0 then ((ldJ r5.2 l3 (0 : Int32)).bind fun v10 => (if (lg_cmp v10 (Int32.toInt64 (r5.1))) = 0 then (k23 r5.2 l1 l2 l3 (l4 + 6)) else (some (((0 : Int32), r5.2))))) else (k23 r5.2 l1 l2 l3 (l4 + 6)))) else (some (((0 : Int32), r5.2))))
def f_L_law_646 (L : Nat) (xs : Nat → Int32) (k23 : xH → Nat → Nat → Nat → Int32 → Option (Int32 × xH)) (h : xH) (l1 : Nat) (l2 : Nat) (l3 : Nat) (l4 : Int32) : Option (Int32 × xH) := (gO h l1 11).bind fun q1 => (f_X11_never h l1).bind fun r2 => (gO h l2 12).bind fun q3 => (f_X12_never h l2).bind fun r4 => (if r2 = r4.1 then (k23 r4.2 l1 l2 l3 (l4 + 6)) else (some (((0 : Int32), r4.2))))
def f_L_law_659 (L : Nat) (xs : Nat → Int32) (k23 : xH → Nat → Nat → Nat → Int32 → Option (Int32 × xH)) (h : xH) (l1 : Nat) (l2 : Nat) (l3 : Nat) (l4 : Int32) : Option (Int32 × xH) := (ldS L xs (l4 + (1 : Int32))).bind fun v1 => (ldS L xs (l4 + (2 : Int32))).bind fun v2 => (ldS L xs (l4 + (3 : Int32))).bind fun v3 => (f_L_hang h l1 v1 v2 v3 l3).bind fun r4 => (ldS L xs (l4 + (1 : Int32))).bind fun v5 => (ldS L xs (l4 + (2 : Int32))).bind fun v6 => (ldS L xs (l4 + (3 : Int32))).bind fun v7 => (gO r4.2 l2 12).bind fun q8 => (f_X12_hang r4.2 l2 v5 v6 v7).bind fun r9 => (gO r9.2 l2 12).bind fun q10 => (f_X12_thrown r9.2 l2).bind fun r11 => (if r11 = r4.1 then ((if r4.1 = 0 then ((ldJ r9.2 l3 (0 : Int32)).bind fun v14 => (if (lg_cmp v14 (Int32.toInt64 (r9.1))) = 0 then (k23 r9.2 l1 l2 l3 (l4 + 6)) else (some (((0 : Int32), r9.2))))) else (k23 r9.2 l1 l2 l3 (l4 + 6)))) else (some (((0 : Int32), r9.2))))
def f_L_law_739 (L : Nat) (xs : Nat → Int32) (k23 : xH → Nat → Nat → Nat → Int32 → Option (Int32 × xH)) (h : xH) (l1 : Nat) (l2 : Nat) (l3 : Nat) (l4 : Int32) : Option (Int32 × xH) := (ldS L xs (l4 + (1 : Int32))).bind fun v1 => (ldS L xs (l4 + (2 : Int32))).bind fun v2 => (f_L_of h l1 v1 v2 l3).bind fun r3 => (ldS L xs (l4 + (1 : Int32))).bind fun v4 => (ldS L xs (l4 + (2 : Int32))).bind fun v5 => (gO r3.2 l2 12).bind fun q6 => (f_X12_of r3.2 l2 v4 v5).bind fun r7 => (gO r7.2 l2 12).bind fun q8 => (f_X12_thrown r7.2 l2).bind fun r9 => (if r9 = r3.1 then ((if r3.1 = 0 then ((ldJ r7.2 l3 (0 : Int32)).bind fun v12 => (if (lg_cmp v12 (Int32.toInt64 (r7.1))) = 0 then (k23 r7.2 l1 l2 l3 (l4 + 6)) else (some (((0 : Int32), r7.2))))) else (k23 r7.2 l1 l2 l3 (l4 + 6)))) else (some (((0 : Int32), r7.2))))
def f_L_law_807 (L : Nat) (xs : Nat → Int32) (k23 : xH → Nat → Nat → Nat → Int32 → Option (Int32 × xH)) (h : xH) (l1 : Nat) (l2 : Nat) (l3 : Nat) (l4 : Int32) : Option (Int32 × xH) := (ldS L xs (l4 + (1 : Int32))).bind fun v1 => (ldS L xs (l4 + (2 : Int32))).bind fun v2 => (f_L_light h l1 v1 v2 l3).bind fun r3 => (ldS L xs (l4 + (1 : Int32))).bind fun v4 => (ldS L xs (l4 + (2 : Int32))).bind fun v5 => (gO r3.2 l2 12).bind fun q6 => (f_X12_light r3.2 l2 v4 v5).bind fun r7 => (gO r7.2 l2 12).bind fun q8 => (f_X12_thrown r7.2 l2).bind fun r9 => (if r9 = r3.1 then ((if r3.1 = 0 then ((ldJ r7.2 l3 (0 : Int32)).bind fun v12 => (if (lg_cmp v12 (Int32.toInt64 (r7.1))) = 0 then (k23 r7.2 l1 l2 l3 (l4 + 6)) else (some (((0 : Int32), r7.2))))) else (k23 r7.2 l1 l2 l3 (l4 + 6)))) else (some (((0 : Int32), r7.2))))
def f_L_law_875 (L : Nat) (xs : Nat → Int32) (k23 : xH → Nat → Nat → Nat → Int32 → Option (Int32 × xH)) (h : xH) (l1 : Nat) (l2 : Nat) (l3 : Nat) (l4 : Int32) : Option (Int32 × xH) := (ldS L xs (l4 + (1 : Int32))).bind fun v1 => (ldS L xs (l4 + (2 : Int32))).bind fun v2 => (f_L_by h l1 v1 v2 l3).bind fun r3 => (ldS L xs (l4 + (1 : Int32))).bind fun v4 => (ldS L xs (l4 + (2 : Int32))).bind fun v5 => (gO r3.2 l2 12).bind fun q6 => (f_X12_by r3.2 l2 v4 v5).bind fun r7 => (gO r7.2 l2 12).bind fun q8 => (f_X12_thrown r7.2 l2).bind fun r9 => (if r9 = r3.1 then ((if r3.1 = 0 then ((ldJ r7.2 l3 (0 : Int32)).bind fun v12 => (if (lg_cmp v12 (Int32.toInt64 (r7.1))) = 0 then (k23 r7.2 l1 l2 l3 (l4 + 6)) else (some (((0 : Int32), r7.2))))) else (k23 r7.2 l1 l2 l3 (l4 + 6)))) else (some (((0 : Int32), r7.2))))
def f_L_law_943 (L : Nat) (xs : Nat → Int32) (k23 : xH → Nat → Nat → Nat → Int32 → Option (Int32 × xH)) (h : xH) (l1 : Nat) (l2 : Nat) (l3 : Nat) (l4 : Int32) : Option (Int32 × xH) := (ldS L xs (l4 + (1 : Int32))).bind fun v1 => (f_L_dark h l1 v1 l3).bind fun r2 => (ldS L xs (l4 + (1 : Int32))).bind fun v3 => (gO r2.2 l2 12).bind fun q4 => (f_X12_dark r2.2 l2 v3).bind fun r5 => (gO r5.2 l2 12).bind fun q6 => (f_X12_thrown r5.2 l2).bind fun r7 => (if r7 = r2.1 then ((if r2.1 = 0 then ((ldJ r5.2 l3 (0 : Int32)).bind fun v10 => (if (lg_cmp v10 (Int32.toInt64 (r5.1))) = 0 then (k23 r5.2 l1 l2 l3 (l4 + 6)) else (some (((0 : Int32), r5.2))))) else (k23 r5.2 l1 l2 l3 (l4 + 6)))) else (some (((0 : Int32), r5.2))))
def f_L_law_999 (L : Nat) (xs : Nat → Int32) (k23 : xH → Nat → Nat → Nat → Int32 → Option (Int32 × xH)) (h : xH) (l1 : Nat) (l2 : Nat) (l3 : Nat) (l4 : Int32) : Option (Int32 × xH) := (gO h l1 11).bind fun q1 => (f_X11_judge h l1).bind fun r2 => (gO r2.2 l2 12).bind fun q3 => (f_X12_judge r2.2 l2).bind fun r4 => (if r2.1 = r4.1 then (k23 r4.2 l1 l2 l3 (l4 + 6)) else (some (((0 : Int32), r4.2))))
def f_L_law_1012 (L : Nat) (xs : Nat → Int32) (k23 : xH → Nat → Nat → Nat → Int32 → Option (Int32 × xH)) (h : xH) (l1 : Nat) (l2 : Nat) (l3 : Nat) (l4 : Int32) : Option (Int32 × xH) := (ldS L xs (l4 + (1 : Int32))).bind fun v1 => (ldS L xs (l4 + (2 : Int32))).bind fun v2 => (f_L_out h l1 v1 v2 l3).bind fun r3 => (ldS L xs (l4 + (1 : Int32))).bind fun v4 => (ldS L xs (l4 + (2 : Int32))).bind fun v5 => (gO r3.2 l2 12).bind fun q6 => (f_X12_out r3.2 l2 v4 v5).bind fun r7 => (gO r7.2 l2 12).bind fun q8 => (f_X12_thrown r7.2 l2).bind fun r9 => (if r9 = r3.1 then ((if r3.1 = 0 then ((ldJ r7.2 l3 (0 : Int32)).bind fun v12 => (if (lg_cmp v12 (Int32.toInt64 (r7.1))) = 0 then (k23 r7.2 l1 l2 l3 (l4 + 6)) else (some (((0 : Int32), r7.2))))) else (k23 r7.2 l1 l2 l3 (l4 + 6)))) else (some (((0 : Int32), r7.2))))
def f_L_law_1080 (L : Nat) (xs : Nat → Int32) (k23 : xH → Nat → Nat → Nat → Int32 → Option (Int32 × xH)) (h : xH) (l1 : Nat) (l2 : Nat) (l3 : Nat) (l4 : Int32) : Option (Int32 × xH) := (ldS L xs (l4 + (1 : Int32))).bind fun v1 => (f_L_spare h l1 v1 l3).bind fun r2 => (ldS L xs (l4 + (1 : Int32))).bind fun v3 => (gO r2.2 l2 12).bind fun q4 => (f_X12_spare r2.2 l2 v3).bind fun r5 => (gO r5.2 l2 12).bind fun q6 => (f_X12_thrown r5.2 l2).bind fun r7 => (if r7 = r2.1 then ((if r2.1 = 0 then ((ldJ r5.2 l3 (0 : Int32)).bind fun v10 => (if (lg_cmp v10 (Int32.toInt64 (r5.1))) = 0 then (k23 r5.2 l1 l2 l3 (l4 + 6)) else (some (((0 : Int32), r5.2))))) else (k23 r5.2 l1 l2 l3 (l4 + 6)))) else (some (((0 : Int32), r5.2))))
def f_L_law_1136 (L : Nat) (xs : Nat → Int32) (k23 : xH → Nat → Nat → Nat → Int32 → Option (Int32 × xH)) (h : xH) (l1 : Nat) (l2 : Nat) (l3 : Nat) (l4 : Int32) : Option (Int32 × xH) := (ldS L xs (l4 + (1 : Int32))).bind fun v1 => (f_L_angry h l1 v1 l3).bind fun r2 => (ldS L xs (l4 + (1 : Int32))).bind fun v3 => (gO r2.2 l2 12).bind fun q4 => (f_X12_angry r2.2 l2 v3).bind fun r5 => (gO r5.2 l2 12).bind fun q6 => (f_X12_thrown r5.2 l2).bind fun r7 => (if r7 = r2.1 then ((if r2.1 = 0 then ((ldJ r5.2 l3 (0 : Int32)).bind fun v10 => (if (lg_cmp v10 (Int32.toInt64 (r5.1))) = 0 then (k23 r5.2 l1 l2 l3 (l4 + 6)) else (some (((0 : Int32), r5.2))))) else (k23 r5.2 l1 l2 l3 (l4 + 6)))) else (some (((0 : Int32), r5.2))))
def f_L_law_1192 (L : Nat) (xs : Nat → Int32) (k23 : xH → Nat → Nat → Nat → Int32 → Option (Int32 × xH)) (h : xH) (l1 : Nat) (l2 : Nat) (l3 : Nat) (l4 : Int32) : Option (Int32 × xH) := (gO h l1 11).bind fun q1 => (f_X11_oil h l1).bind fun r2 => (gO h l2 12).bind fun q3 => (f_X12_oil h l2).bind fun r4 => (if r2 = r4.1 then (k23 r4.2 l1 l2 l3 (l4 + 6)) else (some (((0 : Int32), r4.2))))
def f_L_law_1271 (L : Nat) (xs : Nat → Int32) (k23 : xH → Nat → Nat → Nat → Int32 → Option (Int32 × xH)) (h : xH) (l1 : Nat) (l2 : Nat) (l3 : Nat) (l4 : Int32) (s0 : Int64) (s1 : Int64) : Option (Int32 × xH) := (if (lg_cmp s1 s0) = 0 then (k23 h l1 l2 l3 (l4 + 6)) else (some (((0 : Int32), h))))
def f_L_law_1205 (L : Nat) (xs : Nat → Int32) (k23 : xH → Nat → Nat → Nat → Int32 → Option (Int32 × xH)) (h : xH) (l1 : Nat) (l2 : Nat) (l3 : Nat) (l4 : Int32) : Option (Int32 × xH) := (ldS L xs (l4 + (1 : Int32))).bind fun v1 => (ldS L xs (l4 + (2 : Int32))).bind fun v2 => (f_L_lights h l1 v1 v2 l3).bind fun r3 => (ldS L xs (l4 + (1 : Int32))).bind fun v4 => (ldS L xs (l4 + (2 : Int32))).bind fun v5 => (gO r3.2 l2 12).bind fun q6 => (f_X12_lights r3.2 l2 v4 v5).bind fun r7 => (gO r7.2 l2 12).bind fun q8 => (f_X12_thrown r7.2 l2).bind fun r9 => (if r9 = r3.1 then ((if r3.1 = 0 then ((ldJ r7.2 l3 (0 : Int32)).bind fun v12 => (if r7.1 = 0 then (f_L_law_1271 L xs k23 r7.2 l1 l2 l3 l4 (0 : Int64) v12) else (f_L_law_1271 L xs k23 r7.2 l1 l2 l3 l4 (1 : Int64) v12))) else (k23 r7.2 l1 l2 l3 (l4 + 6)))) else (some (((0 : Int32), r7.2))))
def f_L_law_1280 (L : Nat) (xs : Nat → Int32) (k23 : xH → Nat → Nat → Nat → Int32 → Option (Int32 × xH)) (h : xH) (l1 : Nat) (l2 : Nat) (l3 : Nat) (l4 : Int32) : Option (Int32 × xH) := (ldS L xs (l4 + (1 : Int32))).bind fun v1 => (f_L_best h l1 v1 l3).bind fun r2 => (ldS L xs (l4 + (1 : Int32))).bind fun v3 => (gO r2.2 l2 12).bind fun q4 => (f_X12_best r2.2 l2 v3).bind fun r5 => (gO r5.2 l2 12).bind fun q6 => (f_X12_thrown r5.2 l2).bind fun r7 => (if r7 = r2.1 then ((if r2.1 = 0 then ((ldJ r5.2 l3 (0 : Int32)).bind fun v10 => (if (lg_cmp v10 (Int32.toInt64 (r5.1))) = 0 then (k23 r5.2 l1 l2 l3 (l4 + 6)) else (some (((0 : Int32), r5.2))))) else (k23 r5.2 l1 l2 l3 (l4 + 6)))) else (some (((0 : Int32), r5.2))))
def f_L_law_1336 (L : Nat) (xs : Nat → Int32) (k23 : xH → Nat → Nat → Nat → Int32 → Option (Int32 × xH)) (h : xH) (l1 : Nat) (l2 : Nat) (l3 : Nat) (l4 : Int32) : Option (Int32 × xH) := (gO h l1 11).bind fun q1 => (f_X11_gap h l1).bind fun r2 => (gO r2.2 l2 12).bind fun q3 => (f_X12_gap r2.2 l2).bind fun r4 => (if r2.1 = r4.1 then (k23 r4.2 l1 l2 l3 (l4 + 6)) else (some (((0 : Int32), r4.2))))
def f_L_law_1349 (L : Nat) (xs : Nat → Int32) (k23 : xH → Nat → Nat → Nat → Int32 → Option (Int32 × xH)) (h : xH) (l1 : Nat) (l2 : Nat) (l3 : Nat) (l4 : Int32) : Option (Int32 × xH) := (ldS L xs (l4 + (1 : Int32))).bind fun v1 => (ldS L xs (l4 + (2 : Int32))).bind fun v2 => (f_L_bright h l1 v1 v2 l3).bind fun r3 => (ldS L xs (l4 + (1 : Int32))).bind fun v4 => (ldS L xs (l4 + (2 : Int32))).bind fun v5 => (gO r3.2 l2 12).bind fun q6 => (f_X12_bright r3.2 l2 v4 v5).bind fun r7 => (gO r7.2 l2 12).bind fun q8 => (f_X12_thrown r7.2 l2).bind fun r9 => (if r9 = r3.1 then ((if r3.1 = 0 then ((ldJ r7.2 l3 (0 : Int32)).bind fun v12 => (if (lg_cmp v12 (Int32.toInt64 (r7.1))) = 0 then (k23 r7.2 l1 l2 l3 (l4 + 6)) else (some (((0 : Int32), r7.2))))) else (k23 r7.2 l1 l2 l3 (l4 + 6)))) else (some (((0 : Int32), r7.2))))
def f_L_law_1417 (L : Nat) (xs : Nat → Int32) (k23 : xH → Nat → Nat → Nat → Int32 → Option (Int32 × xH)) (h : xH) (l1 : Nat) (l2 : Nat) (l3 : Nat) (l4 : Int32) : Option (Int32 × xH) := (gO h l1 11).bind fun q1 => (f_X11_always h l1).bind fun r2 => (gO r2.2 l2 12).bind fun q3 => (f_X12_always r2.2 l2).bind fun r4 => (if r2.1 = r4.1 then (k23 r4.2 l1 l2 l3 (l4 + 6)) else (some (((0 : Int32), r4.2))))
def f_L_law_1430 (L : Nat) (xs : Nat → Int32) (k23 : xH → Nat → Nat → Nat → Int32 → Option (Int32 × xH)) (h : xH) (l1 : Nat) (l2 : Nat) (l3 : Nat) (l4 : Int32) : Option (Int32 × xH) := (gO h l1 11).bind fun q1 => (f_X11_ever h l1).bind fun r2 => (gO r2.2 l2 12).bind fun q3 => (f_X12_ever r2.2 l2).bind fun r4 => (if r2.1 = r4.1 then (k23 r4.2 l1 l2 l3 (l4 + 6)) else (some (((0 : Int32), r4.2))))
def f_L_law_1443 (L : Nat) (xs : Nat → Int32) (k23 : xH → Nat → Nat → Nat → Int32 → Option (Int32 × xH)) (h : xH) (l1 : Nat) (l2 : Nat) (l3 : Nat) (l4 : Int32) : Option (Int32 × xH) := (ldS L xs (l4 + (1 : Int32))).bind fun v1 => (f_L_barred h l1 v1 l3).bind fun r2 => (ldS L xs (l4 + (1 : Int32))).bind fun v3 => (gO r2.2 l2 12).bind fun q4 => (f_X12_barred r2.2 l2 v3).bind fun r5 => (gO r5.2 l2 12).bind fun q6 => (f_X12_thrown r5.2 l2).bind fun r7 => (if r7 = r2.1 then ((if r2.1 = 0 then ((ldJ r5.2 l3 (0 : Int32)).bind fun v10 => (if (lg_cmp v10 (Int32.toInt64 (r5.1))) = 0 then (k23 r5.2 l1 l2 l3 (l4 + 6)) else (some (((0 : Int32), r5.2))))) else (k23 r5.2 l1 l2 l3 (l4 + 6)))) else (some (((0 : Int32), r5.2))))
def f_L_law_1499 (L : Nat) (xs : Nat → Int32) (k23 : xH → Nat → Nat → Nat → Int32 → Option (Int32 × xH)) (h : xH) (l1 : Nat) (l2 : Nat) (l3 : Nat) (l4 : Int32) : Option (Int32 × xH) := (ldS L xs (l4 + (1 : Int32))).bind fun v1 => (f_L_day h l1 v1 l3).bind fun r2 => (ldS L xs (l4 + (1 : Int32))).bind fun v3 => (gO r2.2 l2 12).bind fun q4 => (f_X12_day r2.2 l2 v3).bind fun r5 => (gO r5.2 l2 12).bind fun q6 => (f_X12_thrown r5.2 l2).bind fun r7 => (if r7 = r2.1 then ((if r2.1 = 0 then ((ldJ r5.2 l3 (0 : Int32)).bind fun v10 => (if (lg_cmp v10 (Int32.toInt64 (r5.1))) = 0 then (k23 r5.2 l1 l2 l3 (l4 + 6)) else (some (((0 : Int32), r5.2))))) else (k23 r5.2 l1 l2 l3 (l4 + 6)))) else (some (((0 : Int32), r5.2))))
def f_L_law_1555 (L : Nat) (xs : Nat → Int32) (k23 : xH → Nat → Nat → Nat → Int32 → Option (Int32 × xH)) (h : xH) (l1 : Nat) (l2 : Nat) (l3 : Nat) (l4 : Int32) : Option (Int32 × xH) := (ldS L xs (l4 + (1 : Int32))).bind fun v1 => (ldS L xs (l4 + (2 : Int32))).bind fun v2 => (f_L_mixed h l1 v1 v2 l3).bind fun r3 => (ldS L xs (l4 + (1 : Int32))).bind fun v4 => (ldS L xs (l4 + (2 : Int32))).bind fun v5 => (gO r3.2 l2 12).bind fun q6 => (f_X12_mixed r3.2 l2 v4 v5).bind fun r7 => (gO r7.2 l2 12).bind fun q8 => (f_X12_thrown r7.2 l2).bind fun r9 => (if r9 = r3.1 then ((if r3.1 = 0 then ((ldJ r7.2 l3 (0 : Int32)).bind fun v12 => (if (lg_cmp v12 (Int32.toInt64 (r7.1))) = 0 then (k23 r7.2 l1 l2 l3 (l4 + 6)) else (some (((0 : Int32), r7.2))))) else (k23 r7.2 l1 l2 l3 (l4 + 6)))) else (some (((0 : Int32), r7.2))))
def f_L_law_1623 (L : Nat) (xs : Nat → Int32) (k23 : xH → Nat → Nat → Nat → Int32 → Option (Int32 × xH)) (h : xH) (l1 : Nat) (l2 : Nat) (l3 : Nat) (l4 : Int32) : Option (Int32 × xH) := (ldS L xs (l4 + (1 : Int32))).bind fun v1 => (ldS L xs (l4 + (2 : Int32))).bind fun v2 => (f_L_grid h l1 v1 v2 l3).bind fun r3 => (ldS L xs (l4 + (1 : Int32))).bind fun v4 => (ldS L xs (l4 + (2 : Int32))).bind fun v5 => (gO r3.2 l2 12).bind fun q6 => (f_X12_grid r3.2 l2 v4 v5).bind fun r7 => (gO r7.2 l2 12).bind fun q8 => (f_X12_thrown r7.2 l2).bind fun r9 => (if r9 = r3.1 then ((if r3.1 = 0 then ((ldJ r7.2 l3 (0 : Int32)).bind fun v12 => (if (lg_cmp v12 (Int32.toInt64 (r7.1))) = 0 then (k23 r7.2 l1 l2 l3 (l4 + 6)) else (some (((0 : Int32), r7.2))))) else (k23 r7.2 l1 l2 l3 (l4 + 6)))) else (some (((0 : Int32), r7.2))))
def f_L_law_1691 (L : Nat) (xs : Nat → Int32) (k23 : xH → Nat → Nat → Nat → Int32 → Option (Int32 × xH)) (h : xH) (l1 : Nat) (l2 : Nat) (l3 : Nat) (l4 : Int32) : Option (Int32 × xH) := (ldS L xs (l4 + (1 : Int32))).bind fun v1 => (ldS L xs (l4 + (2 : Int32))).bind fun v2 => (f_L_hole h l1 v1 v2 l3).bind fun r3 => (ldS L xs (l4 + (1 : Int32))).bind fun v4 => (ldS L xs (l4 + (2 : Int32))).bind fun v5 => (gO r3.2 l2 12).bind fun q6 => (f_X12_hole r3.2 l2 v4 v5).bind fun r7 => (gO r7.2 l2 12).bind fun q8 => (f_X12_thrown r7.2 l2).bind fun r9 => (if r9 = r3.1 then ((if r3.1 = 0 then ((ldJ r7.2 l3 (0 : Int32)).bind fun v12 => (if (lg_cmp v12 (Int32.toInt64 (r7.1))) = 0 then (k23 r7.2 l1 l2 l3 (l4 + 6)) else (some (((0 : Int32), r7.2))))) else (k23 r7.2 l1 l2 l3 (l4 + 6)))) else (some (((0 : Int32), r7.2))))
def f_L_law_1759 (L : Nat) (xs : Nat → Int32) (k23 : xH → Nat → Nat → Nat → Int32 → Option (Int32 × xH)) (h : xH) (l1 : Nat) (l2 : Nat) (l3 : Nat) (l4 : Int32) : Option (Int32 × xH) := (gO h l1 11).bind fun q1 => (f_X11_which h l1).bind fun r2 => (gO r2.2 l2 12).bind fun q3 => (f_X12_which r2.2 l2).bind fun r4 => (if r2.1 = r4.1 then (k23 r4.2 l1 l2 l3 (l4 + 6)) else (some (((0 : Int32), r4.2))))
def f_L_law_1772 (L : Nat) (xs : Nat → Int32) (k23 : xH → Nat → Nat → Nat → Int32 → Option (Int32 × xH)) (h : xH) (l1 : Nat) (l2 : Nat) (l3 : Nat) (l4 : Int32) : Option (Int32 × xH) := (ldS L xs (l4 + (1 : Int32))).bind fun v1 => (ldS L xs (l4 + (2 : Int32))).bind fun v2 => (f_L_walk h l1 v1 v2 l3).bind fun r3 => (ldS L xs (l4 + (1 : Int32))).bind fun v4 => (ldS L xs (l4 + (2 : Int32))).bind fun v5 => (gO r3.2 l2 12).bind fun q6 => (f_X12_walk r3.2 l2 v4 v5).bind fun r7 => (gO r7.2 l2 12).bind fun q8 => (f_X12_thrown r7.2 l2).bind fun r9 => (if r9 = r3.1 then ((if r3.1 = 0 then ((ldJ r7.2 l3 (0 : Int32)).bind fun v12 => (if (lg_cmp v12 (Int32.toInt64 (r7.1))) = 0 then (k23 r7.2 l1 l2 l3 (l4 + 6)) else (some (((0 : Int32), r7.2))))) else (k23 r7.2 l1 l2 l3 (l4 + 6)))) else (some (((0 : Int32), r7.2))))
def f_L_law_1840 (L : Nat) (xs : Nat → Int32) (k23 : xH → Nat → Nat → Nat → Int32 → Option (Int32 × xH)) (h : xH) (l1 : Nat) (l2 : Nat) (l3 : Nat) (l4 : Int32) : Option (Int32 × xH) := (ldS L xs (l4 + (1 : Int32))).bind fun v1 => (ldS L xs (l4 + (2 : Int32))).bind fun v2 => (ldS L xs (l4 + (3 : Int32))).bind fun v3 => (ldS L xs (l4 + (4 : Int32))).bind fun v4 => (f_L_carry h l1 v1 v2 v3 v4 l3).bind fun r5 => (ldS L xs (l4 + (1 : Int32))).bind fun v6 => (ldS L xs (l4 + (2 : Int32))).bind fun v7 => (ldS L xs (l4 + (3 : Int32))).bind fun v8 => (ldS L xs (l4 + (4 : Int32))).bind fun v9 => (gO r5.2 l2 12).bind fun q10 => (f_X12_carry r5.2 l2 v6 v7 v8 v9).bind fun r11 => (gO r11.2 l2 12).bind fun q12 => (f_X12_thrown r11.2 l2).bind fun r13 => (if r13 = r5.1 then ((if r5.1 = 0 then ((ldJ r11.2 l3 (0 : Int32)).bind fun v16 => (if (lg_cmp v16 (Int32.toInt64 (r11.1))) = 0 then (k23 r11.2 l1 l2 l3 (l4 + 6)) else (some (((0 : Int32), r11.2))))) else (k23 r11.2 l1 l2 l3 (l4 + 6)))) else (some (((0 : Int32), r11.2))))
def f_L_law_1932 (L : Nat) (xs : Nat → Int32) (k23 : xH → Nat → Nat → Nat → Int32 → Option (Int32 × xH)) (h : xH) (l1 : Nat) (l2 : Nat) (l3 : Nat) (l4 : Int32) : Option (Int32 × xH) := (ldS L xs (l4 + (1 : Int32))).bind fun v1 => (f_L_cost h l1 v1 l3).bind fun r2 => (ldS L xs (l4 + (1 : Int32))).bind fun v3 => (gO r2.2 l2 12).bind fun q4 => (f_X12_cost r2.2 l2 v3).bind fun r5 => (gO r5.2 l2 12).bind fun q6 => (f_X12_thrown r5.2 l2).bind fun r7 => (if r7 = r2.1 then ((if r2.1 = 0 then ((ldJ r5.2 l3 (0 : Int32)).bind fun v10 => (if (lg_cmp v10 (Int32.toInt64 (r5.1))) = 0 then (k23 r5.2 l1 l2 l3 (l4 + 6)) else (some (((0 : Int32), r5.2))))) else (k23 r5.2 l1 l2 l3 (l4 + 6)))) else (some (((0 : Int32), r5.2))))
def f_L_law_2042 (L : Nat) (xs : Nat → Int32) (k23 : xH → Nat → Nat → Nat → Int32 → Option (Int32 × xH)) (h : xH) (l1 : Nat) (l2 : Nat) (l3 : Nat) (l4 : Int32) (s0 : Int64) (s1 : Int64) : Option (Int32 × xH) := (if (lg_cmp s1 s0) = 0 then (k23 h l1 l2 l3 (l4 + 6)) else (some (((0 : Int32), h))))
def f_L_law_1988 (L : Nat) (xs : Nat → Int32) (k23 : xH → Nat → Nat → Nat → Int32 → Option (Int32 × xH)) (h : xH) (l1 : Nat) (l2 : Nat) (l3 : Nat) (l4 : Int32) : Option (Int32 × xH) := (ldS L xs (l4 + (1 : Int32))).bind fun v1 => (f_L_owed h l1 v1 l3).bind fun r2 => (ldS L xs (l4 + (1 : Int32))).bind fun v3 => (gO r2.2 l2 12).bind fun q4 => (f_X12_owed r2.2 l2 v3).bind fun r5 => (gO r5.2 l2 12).bind fun q6 => (f_X12_thrown r5.2 l2).bind fun r7 => (if r7 = r2.1 then ((if r2.1 = 0 then ((ldJ r5.2 l3 (0 : Int32)).bind fun v10 => (if r5.1 = 0 then (f_L_law_2042 L xs k23 r5.2 l1 l2 l3 l4 (0 : Int64) v10) else (f_L_law_2042 L xs k23 r5.2 l1 l2 l3 l4 (1 : Int64) v10))) else (k23 r5.2 l1 l2 l3 (l4 + 6)))) else (some (((0 : Int32), r5.2))))
def f_L_law_2051 (L : Nat) (xs : Nat → Int32) (k23 : xH → Nat → Nat → Nat → Int32 → Option (Int32 × xH)) (h : xH) (l1 : Nat) (l2 : Nat) (l3 : Nat) (l4 : Int32) : Option (Int32 × xH) := (gO h l1 11).bind fun q1 => (f_X11_upper h l1).bind fun r2 => (gO h l2 12).bind fun q3 => (f_X12_upper h l2).bind fun r4 => (if (lg_cmp r2 (r4.1)) = 0 then (k23 r4.2 l1 l2 l3 (l4 + 6)) else (some (((0 : Int32), r4.2))))
def f_L_law_2065 (L : Nat) (xs : Nat → Int32) (k23 : xH → Nat → Nat → Nat → Int32 → Option (Int32 × xH)) (h : xH) (l1 : Nat) (l2 : Nat) (l3 : Nat) (l4 : Int32) : Option (Int32 × xH) := (gO h l1 11).bind fun q1 => (f_X11_lower h l1).bind fun r2 => (gO h l2 12).bind fun q3 => (f_X12_lower h l2).bind fun r4 => (if (lg_cmp r2 (r4.1)) = 0 then (k23 r4.2 l1 l2 l3 (l4 + 6)) else (some (((0 : Int32), r4.2))))
def f_L_law_2079 (L : Nat) (xs : Nat → Int32) (k23 : xH → Nat → Nat → Nat → Int32 → Option (Int32 × xH)) (h : xH) (l1 : Nat) (l2 : Nat) (l3 : Nat) (l4 : Int32) : Option (Int32 × xH) := (ldS L xs (l4 + (1 : Int32))).bind fun v1 => (f_L_sooner h l1 v1 l3).bind fun r2 => (ldS L xs (l4 + (1 : Int32))).bind fun v3 => (gO r2.2 l2 12).bind fun q4 => (f_X12_sooner r2.2 l2 v3).bind fun r5 => (gO r5.2 l2 12).bind fun q6 => (f_X12_thrown r5.2 l2).bind fun r7 => (if r7 = r2.1 then ((if r2.1 = 0 then ((ldJ r5.2 l3 (0 : Int32)).bind fun v10 => (if (lg_cmp v10 (Int32.toInt64 (r5.1))) = 0 then (k23 r5.2 l1 l2 l3 (l4 + 6)) else (some (((0 : Int32), r5.2))))) else (k23 r5.2 l1 l2 l3 (l4 + 6)))) else (some (((0 : Int32), r5.2))))
def f_L_law_2135 (L : Nat) (xs : Nat → Int32) (k23 : xH → Nat → Nat → Nat → Int32 → Option (Int32 × xH)) (h : xH) (l1 : Nat) (l2 : Nat) (l3 : Nat) (l4 : Int32) : Option (Int32 × xH) := (ldS L xs (l4 + (1 : Int32))).bind fun v1 => (ldS L xs (l4 + (2 : Int32))).bind fun v2 => (f_L_round h l1 v1 v2 l3).bind fun r3 => (ldS L xs (l4 + (1 : Int32))).bind fun v4 => (ldS L xs (l4 + (2 : Int32))).bind fun v5 => (gO r3.2 l2 12).bind fun q6 => (f_X12_round r3.2 l2 v4 v5).bind fun r7 => (gO r7.2 l2 12).bind fun q8 => (f_X12_thrown r7.2 l2).bind fun r9 => (if r9 = r3.1 then ((if r3.1 = 0 then ((ldJ r7.2 l3 (0 : Int32)).bind fun v12 => (if (lg_cmp v12 (Int32.toInt64 (r7.1))) = 0 then (k23 r7.2 l1 l2 l3 (l4 + 6)) else (some (((0 : Int32), r7.2))))) else (k23 r7.2 l1 l2 l3 (l4 + 6)))) else (some (((0 : Int32), r7.2))))
def f_L_law_2263 (L : Nat) (xs : Nat → Int32) (k23 : xH → Nat → Nat → Nat → Int32 → Option (Int32 × xH)) (h : xH) (l1 : Nat) (l2 : Nat) (l3 : Nat) (l4 : Int32) (l5 : Int32) (s0 : Int32) (s1 : Int32) (s2 : Nat) : Option (Int32 × xH) := (ldS L xs (l4 + (3 : Int32))).bind fun v1 => (ldS L xs (l4 + (4 : Int32))).bind fun v2 => (gO h s2 12).bind fun q3 => (f_X12_rule h s2 s1 s0 v1 v2).bind fun r4 => (gO r4.2 l2 12).bind fun q5 => (f_X12_thrown r4.2 l2).bind fun r6 => (if r6 = l5 then ((if l5 = 0 then ((ldJ r4.2 l3 (0 : Int32)).bind fun v9 => (if (lg_cmp v9 (Int32.toInt64 (r4.1))) = 0 then (k23 r4.2 l1 l2 l3 (l4 + 6)) else (some (((0 : Int32), r4.2))))) else (k23 r4.2 l1 l2 l3 (l4 + 6)))) else (some (((0 : Int32), r4.2))))
def f_L_law_2224 (L : Nat) (xs : Nat → Int32) (k23 : xH → Nat → Nat → Nat → Int32 → Option (Int32 × xH)) (h : xH) (l1 : Nat) (l2 : Nat) (l3 : Nat) (l4 : Int32) (s0 : Int32) (s1 : Int32) (s2 : Nat) : Option (Int32 × xH) := (ldS L xs (l4 + (3 : Int32))).bind fun v1 => (ldS L xs (l4 + (4 : Int32))).bind fun v2 => (f_L_rule h s2 s1 s0 v1 v2 l3).bind fun r3 => (ldS L xs (l4 + (1 : Int32))).bind fun v4 => (ldS L xs (l4 + (2 : Int32))).bind fun v5 => (if v5 = 0 then (f_L_law_2263 L xs k23 r3.2 l1 l2 l3 l4 (r3.1) (0 : Int32) v4 l2) else (f_L_law_2263 L xs k23 r3.2 l1 l2 l3 l4 (r3.1) (1 : Int32) v4 l2))
def f_L_law_2203 (L : Nat) (xs : Nat → Int32) (k23 : xH → Nat → Nat → Nat → Int32 → Option (Int32 × xH)) (h : xH) (l1 : Nat) (l2 : Nat) (l3 : Nat) (l4 : Int32) : Option (Int32 × xH) := (ldS L xs (l4 + (1 : Int32))).bind fun v1 => (ldS L xs (l4 + (2 : Int32))).bind fun v2 => (if v2 = 0 then (f_L_law_2224 L xs k23 h l1 l2 l3 l4 (0 : Int32) v1 l1) else (f_L_law_2224 L xs k23 h l1 l2 l3 l4 (1 : Int32) v1 l1))
def f_L_law_2365 (L : Nat) (xs : Nat → Int32) (k23 : xH → Nat → Nat → Nat → Int32 → Option (Int32 × xH)) (h : xH) (l1 : Nat) (l2 : Nat) (l3 : Nat) (l4 : Int32) (l5 : Int32) (s0 : Int32) (s1 : Int32) (s2 : Nat) : Option (Int32 × xH) := (ldS L xs (l4 + (3 : Int32))).bind fun v1 => (gO h s2 12).bind fun q2 => (f_X12_look h s2 s1 s0 v1).bind fun r3 => (gO r3.2 l2 12).bind fun q4 => (f_X12_thrown r3.2 l2).bind fun r5 => (if r5 = l5 then ((if l5 = 0 then ((ldJ r3.2 l3 (0 : Int32)).bind fun v8 => (if (lg_cmp v8 (Int32.toInt64 (r3.1))) = 0 then (k23 r3.2 l1 l2 l3 (l4 + 6)) else (some (((0 : Int32), r3.2))))) else (k23 r3.2 l1 l2 l3 (l4 + 6)))) else (some (((0 : Int32), r3.2))))
def f_L_law_2332 (L : Nat) (xs : Nat → Int32) (k23 : xH → Nat → Nat → Nat → Int32 → Option (Int32 × xH)) (h : xH) (l1 : Nat) (l2 : Nat) (l3 : Nat) (l4 : Int32) (s0 : Int32) (s1 : Int32) (s2 : Nat) : Option (Int32 × xH) := (ldS L xs (l4 + (3 : Int32))).bind fun v1 => (f_L_look h s2 s1 s0 v1 l3).bind fun r2 => (ldS L xs (l4 + (1 : Int32))).bind fun v3 => (ldS L xs (l4 + (2 : Int32))).bind fun v4 => (if v4 = 0 then (f_L_law_2365 L xs k23 r2.2 l1 l2 l3 l4 (r2.1) (0 : Int32) v3 l2) else (f_L_law_2365 L xs k23 r2.2 l1 l2 l3 l4 (r2.1) (1 : Int32) v3 l2))
def f_L_law_2311 (L : Nat) (xs : Nat → Int32) (k23 : xH → Nat → Nat → Nat → Int32 → Option (Int32 × xH)) (h : xH) (l1 : Nat) (l2 : Nat) (l3 : Nat) (l4 : Int32) : Option (Int32 × xH) := (ldS L xs (l4 + (1 : Int32))).bind fun v1 => (ldS L xs (l4 + (2 : Int32))).bind fun v2 => (if v2 = 0 then (f_L_law_2332 L xs k23 h l1 l2 l3 l4 (0 : Int32) v1 l1) else (f_L_law_2332 L xs k23 h l1 l2 l3 l4 (1 : Int32) v1 l1))
def f_L_law_2407 (L : Nat) (xs : Nat → Int32) (k23 : xH → Nat → Nat → Nat → Int32 → Option (Int32 × xH)) (h : xH) (l1 : Nat) (l2 : Nat) (l3 : Nat) (l4 : Int32) : Option (Int32 × xH) := (ldS L xs (l4 + (1 : Int32))).bind fun v1 => (ldS L xs (l4 + (2 : Int32))).bind fun v2 => (ldS L xs (l4 + (3 : Int32))).bind fun v3 => (f_L_night h l1 v1 v2 v3 l3).bind fun r4 => (ldS L xs (l4 + (1 : Int32))).bind fun v5 => (ldS L xs (l4 + (2 : Int32))).bind fun v6 => (ldS L xs (l4 + (3 : Int32))).bind fun v7 => (gO r4.2 l2 12).bind fun q8 => (f_X12_night r4.2 l2 v5 v6 v7).bind fun r9 => (gO r9.2 l2 12).bind fun q10 => (f_X12_thrown r9.2 l2).bind fun r11 => (if r11 = r4.1 then ((if r4.1 = 0 then ((ldJ r9.2 l3 (0 : Int32)).bind fun v14 => (if (lg_cmp v14 (Int32.toInt64 (r9.1))) = 0 then (k23 r9.2 l1 l2 l3 (l4 + 6)) else (some (((0 : Int32), r9.2))))) else (k23 r9.2 l1 l2 l3 (l4 + 6)))) else (some (((0 : Int32), r9.2))))
def f_L_law_2487 (L : Nat) (xs : Nat → Int32) (k23 : xH → Nat → Nat → Nat → Int32 → Option (Int32 × xH)) (h : xH) (l1 : Nat) (l2 : Nat) (l3 : Nat) (l4 : Int32) : Option (Int32 × xH) := (ldS L xs (l4 + (1 : Int32))).bind fun v1 => (ldS L xs (l4 + (2 : Int32))).bind fun v2 => (ldS L xs (l4 + (3 : Int32))).bind fun v3 => (f_L_tray h l1 v1 v2 v3).bind fun r4 => (ldS L xs (l4 + (1 : Int32))).bind fun v5 => (ldS L xs (l4 + (2 : Int32))).bind fun v6 => (ldS L xs (l4 + (3 : Int32))).bind fun v7 => (gO r4.2 l2 12).bind fun q8 => (f_X12_tray r4.2 l2 v5 v6 v7).bind fun r9 => (gO r9 l2 12).bind fun q10 => (f_X12_thrown r9 l2).bind fun r11 => (if r11 = r4.1 then (k23 r9 l1 l2 l3 (l4 + 6)) else (some (((0 : Int32), r9))))
def f_L_law_2547 (L : Nat) (xs : Nat → Int32) (k23 : xH → Nat → Nat → Nat → Int32 → Option (Int32 × xH)) (h : xH) (l1 : Nat) (l2 : Nat) (l3 : Nat) (l4 : Int32) : Option (Int32 × xH) := (ldS L xs (l4 + (1 : Int32))).bind fun v1 => (ldS L xs (l4 + (2 : Int32))).bind fun v2 => (ldS L xs (l4 + (3 : Int32))).bind fun v3 => (ldS L xs (l4 + (4 : Int32))).bind fun v4 => (f_L_write h l1 v1 v2 (((Int32.toInt64 v3) <<< (Int32.toInt64 (32 : Int32) &&& 63)) ||| ((Int32.toInt64 v4) &&& (4294967295 : Int64))) l3).bind fun r5 => (ldS L xs (l4 + (1 : Int32))).bind fun v6 => (ldS L xs (l4 + (2 : Int32))).bind fun v7 => (ldS L xs (l4 + (3 : Int32))).bind fun v8 => (ldS L xs (l4 + (4 : Int32))).bind fun v9 => (gO r5.2 l2 12).bind fun q10 => (f_X12_write r5.2 l2 v6 v7 (((Int32.toInt64 v8) <<< (Int32.toInt64 (32 : Int32) &&& 63)) ||| ((Int32.toInt64 v9) &&& (4294967295 : Int64)))).bind fun r11 => (gO r11.2 l2 12).bind fun q12 => (f_X12_thrown r11.2 l2).bind fun r13 => (if r13 = r5.1 then ((if r5.1 = 0 then ((ldJ r11.2 l3 (0 : Int32)).bind fun v16 => (if (lg_cmp v16 (r11.1)) = 0 then (k23 r11.2 l1 l2 l3 (l4 + 6)) else (some (((0 : Int32), r11.2))))) else (k23 r11.2 l1 l2 l3 (l4 + 6)))) else (some (((0 : Int32), r11.2))))
def f_L_law_2658 (L : Nat) (xs : Nat → Int32) (k23 : xH → Nat → Nat → Nat → Int32 → Option (Int32 × xH)) (h : xH) (l1 : Nat) (l2 : Nat) (l3 : Nat) (l4 : Int32) : Option (Int32 × xH) := (ldS L xs (l4 + (1 : Int32))).bind fun v1 => (f_L_pour h l1 v1 l3).bind fun r2 => (ldS L xs (l4 + (1 : Int32))).bind fun v3 => (gO r2.2 l2 12).bind fun q4 => (f_X12_pour r2.2 l2 v3).bind fun r5 => (gO r5.2 l2 12).bind fun q6 => (f_X12_thrown r5.2 l2).bind fun r7 => (if r7 = r2.1 then ((if r2.1 = 0 then ((ldJ r5.2 l3 (0 : Int32)).bind fun v10 => (if (lg_cmp v10 (Int32.toInt64 (r5.1))) = 0 then (k23 r5.2 l1 l2 l3 (l4 + 6)) else (some (((0 : Int32), r5.2))))) else (k23 r5.2 l1 l2 l3 (l4 + 6)))) else (some (((0 : Int32), r5.2))))
def f_L_law_2714 (L : Nat) (xs : Nat → Int32) (k23 : xH → Nat → Nat → Nat → Int32 → Option (Int32 × xH)) (h : xH) (l1 : Nat) (l2 : Nat) (l3 : Nat) (l4 : Int32) : Option (Int32 × xH) := (ldS L xs (l4 + (1 : Int32))).bind fun v1 => (f_L_image h l1 v1).bind fun r2 => (ldS L xs (l4 + (1 : Int32))).bind fun v3 => (gO r2.2 l2 12).bind fun q4 => (f_X12_image r2.2 l2 v3).bind fun r5 => (gO r5 l2 12).bind fun q6 => (f_X12_thrown r5 l2).bind fun r7 => (if r7 = r2.1 then (k23 r5 l1 l2 l3 (l4 + 6)) else (some (((0 : Int32), r5))))
def f_L_law_2750 (L : Nat) (xs : Nat → Int32) (k23 : xH → Nat → Nat → Nat → Int32 → Option (Int32 × xH)) (h : xH) (l1 : Nat) (l2 : Nat) (l3 : Nat) (l4 : Int32) : Option (Int32 × xH) := (ldS L xs (l4 + (1 : Int32))).bind fun v1 => (f_L_restore h l1 v1).bind fun r2 => (ldS L xs (l4 + (1 : Int32))).bind fun v3 => (gO r2.2 l2 12).bind fun q4 => (f_X12_restore r2.2 l2 v3).bind fun r5 => (gO r5 l2 12).bind fun q6 => (f_X12_thrown r5 l2).bind fun r7 => (if r7 = r2.1 then (k23 r5 l1 l2 l3 (l4 + 6)) else (some (((0 : Int32), r5))))
def f_L_law_2786 (L : Nat) (xs : Nat → Int32) (k23 : xH → Nat → Nat → Nat → Int32 → Option (Int32 × xH)) (h : xH) (l1 : Nat) (l2 : Nat) (l3 : Nat) (l4 : Int32) : Option (Int32 × xH) := (ldS L xs (l4 + (1 : Int32))).bind fun v1 => (gO h l1 11).bind fun q2 => (f_X11_count h l1 v1).bind fun r3 => (ldS L xs (l4 + (1 : Int32))).bind fun v4 => (gO h l2 12).bind fun q5 => (f_X12_count h l2 v4).bind fun r6 => (if r3 = r6.1 then (k23 r6.2 l1 l2 l3 (l4 + 6)) else (some (((0 : Int32), r6.2))))
def f_L_law_23 (L : Nat) (xs : Nat → Int32) : Nat → xH → Nat → Nat → Nat → Int32 → Option (Int32 × xH)
  | 0, _, _, _, _, _ => none
  | n + 1, h, l1, l2, l3, l4 => (if ((Int32.ofNat L) - (6 : Int32)) < l4 then (some (((1 : Int32), h))) else ((ldS L xs l4).bind fun v2 => (if Int32.toInt (v2 &&& (63 : Int32)) < 0 ∨ 46 < Int32.toInt (v2 &&& (63 : Int32)) then (f_L_law_23 L xs n h l1 l2 l3 (l4 + 6)) else (if (v2 &&& (63 : Int32)) = 0 then (f_L_law_244 L xs (f_L_law_23 L xs n) h l1 l2 l3 l4) else (if (v2 &&& (63 : Int32)) = 1 then (f_L_law_317 L xs (f_L_law_23 L xs n) h l1 l2 l3 l4) else (if (v2 &&& (63 : Int32)) = 2 then (f_L_law_373 L xs (f_L_law_23 L xs n) h l1 l2 l3 l4) else (if (v2 &&& (63 : Int32)) = 3 then (f_L_law_398 L xs (f_L_law_23 L xs n) h l1 l2 l3 l4) else (if (v2 &&& (63 : Int32)) = 4 then (f_L_law_466 L xs (f_L_law_23 L xs n) h l1 l2 l3 l4) else (if (v2 &&& (63 : Int32)) = 5 then (f_L_law_534 L xs (f_L_law_23 L xs n) h l1 l2 l3 l4) else (if (v2 &&& (63 : Int32)) = 6 then (f_L_law_590 L xs (f_L_law_23 L xs n) h l1 l2 l3 l4) else (if (v2 &&& (63 : Int32)) = 7 then (f_L_law_646 L xs (f_L_law_23 L xs n) h l1 l2 l3 l4) else (if (v2 &&& (63 : Int32)) = 8 then (f_L_law_659 L xs (f_L_law_23 L xs n) h l1 l2 l3 l4) else (if (v2 &&& (63 : Int32)) = 9 then (f_L_law_739 L xs (f_L_law_23 L xs n) h l1 l2 l3 l4) else (if (v2 &&& (63 : Int32)) = 10 then (f_L_law_807 L xs (f_L_law_23 L xs n) h l1 l2 l3 l4) else (if (v2 &&& (63 : Int32)) = 11 then (f_L_law_875 L xs (f_L_law_23 L xs n) h l1 l2 l3 l4) else (if (v2 &&& (63 : Int32)) = 12 then (f_L_law_943 L xs (f_L_law_23 L xs n) h l1 l2 l3 l4) else (if (v2 &&& (63 : Int32)) = 13 then (f_L_law_999 L xs (f_L_law_23 L xs n) h l1 l2 l3 l4) else (if (v2 &&& (63 : Int32)) = 14 then (f_L_law_1012 L xs (f_L_law_23 L xs n) h l1 l2 l3 l4) else (if (v2 &&& (63 : Int32)) = 15 then (f_L_law_1080 L xs (f_L_law_23 L xs n) h l1 l2 l3 l4) else (if (v2 &&& (63 : Int32)) = 16 then (f_L_law_1136 L xs (f_L_law_23 L xs n) h l1 l2 l3 l4) else (if (v2 &&& (63 : Int32)) = 17 then (f_L_law_1192 L xs (f_L_law_23 L xs n) h l1 l2 l3 l4) else (if (v2 &&& (63 : Int32)) = 18 then (f_L_law_1205 L xs (f_L_law_23 L xs n) h l1 l2 l3 l4) else (if (v2 &&& (63 : Int32)) = 19 then (f_L_law_1280 L xs (f_L_law_23 L xs n) h l1 l2 l3 l4) else (if (v2 &&& (63 : Int32)) = 20 then (f_L_law_1336 L xs (f_L_law_23 L xs n) h l1 l2 l3 l4) else (if (v2 &&& (63 : Int32)) = 21 then (f_L_law_1349 L xs (f_L_law_23 L xs n) h l1 l2 l3 l4) else (if (v2 &&& (63 : Int32)) = 22 then (f_L_law_1417 L xs (f_L_law_23 L xs n) h l1 l2 l3 l4) else (if (v2 &&& (63 : Int32)) = 23 then (f_L_law_1430 L xs (f_L_law_23 L xs n) h l1 l2 l3 l4) else (if (v2 &&& (63 : Int32)) = 24 then (f_L_law_1443 L xs (f_L_law_23 L xs n) h l1 l2 l3 l4) else (if (v2 &&& (63 : Int32)) = 25 then (f_L_law_1499 L xs (f_L_law_23 L xs n) h l1 l2 l3 l4) else (if (v2 &&& (63 : Int32)) = 26 then (f_L_law_1555 L xs (f_L_law_23 L xs n) h l1 l2 l3 l4) else (if (v2 &&& (63 : Int32)) = 27 then (f_L_law_1623 L xs (f_L_law_23 L xs n) h l1 l2 l3 l4) else (if (v2 &&& (63 : Int32)) = 28 then (f_L_law_1691 L xs (f_L_law_23 L xs n) h l1 l2 l3 l4) else (if (v2 &&& (63 : Int32)) = 29 then (f_L_law_1759 L xs (f_L_law_23 L xs n) h l1 l2 l3 l4) else (if (v2 &&& (63 : Int32)) = 30 then (f_L_law_1772 L xs (f_L_law_23 L xs n) h l1 l2 l3 l4) else (if (v2 &&& (63 : Int32)) = 31 then (f_L_law_1840 L xs (f_L_law_23 L xs n) h l1 l2 l3 l4) else (if (v2 &&& (63 : Int32)) = 32 then (f_L_law_1932 L xs (f_L_law_23 L xs n) h l1 l2 l3 l4) else (if (v2 &&& (63 : Int32)) = 33 then (f_L_law_1988 L xs (f_L_law_23 L xs n) h l1 l2 l3 l4) else (if (v2 &&& (63 : Int32)) = 34 then (f_L_law_2051 L xs (f_L_law_23 L xs n) h l1 l2 l3 l4) else (if (v2 &&& (63 : Int32)) = 35 then (f_L_law_2065 L xs (f_L_law_23 L xs n) h l1 l2 l3 l4) else (if (v2 &&& (63 : Int32)) = 36 then (f_L_law_2079 L xs (f_L_law_23 L xs n) h l1 l2 l3 l4) else (if (v2 &&& (63 : Int32)) = 37 then (f_L_law_2135 L xs (f_L_law_23 L xs n) h l1 l2 l3 l4) else (if (v2 &&& (63 : Int32)) = 38 then (f_L_law_2203 L xs (f_L_law_23 L xs n) h l1 l2 l3 l4) else (if (v2 &&& (63 : Int32)) = 39 then (f_L_law_2311 L xs (f_L_law_23 L xs n) h l1 l2 l3 l4) else (if (v2 &&& (63 : Int32)) = 40 then (f_L_law_2407 L xs (f_L_law_23 L xs n) h l1 l2 l3 l4) else (if (v2 &&& (63 : Int32)) = 41 then (f_L_law_2487 L xs (f_L_law_23 L xs n) h l1 l2 l3 l4) else (if (v2 &&& (63 : Int32)) = 42 then (f_L_law_2547 L xs (f_L_law_23 L xs n) h l1 l2 l3 l4) else (if (v2 &&& (63 : Int32)) = 43 then (f_L_law_2658 L xs (f_L_law_23 L xs n) h l1 l2 l3 l4) else (if (v2 &&& (63 : Int32)) = 44 then (f_L_law_2714 L xs (f_L_law_23 L xs n) h l1 l2 l3 l4) else (if (v2 &&& (63 : Int32)) = 45 then (f_L_law_2750 L xs (f_L_law_23 L xs n) h l1 l2 l3 l4) else (if (v2 &&& (63 : Int32)) = 46 then (f_L_law_2786 L xs (f_L_law_23 L xs n) h l1 l2 l3 l4) else none))))))))))))))))))))))))))))))))))))))))))))))))))
def f_L_law (L : Nat) (xs : Nat → Int32) (h : xH) : Option (Int32 × xH) := (mkO h 11 18 [.null, .int 0, .int 0, .int 0, .null, .null, .null, .null, .long 0, .long 0, .null, .null, .null, .null, .null, .null, .null, .null]).bind fun h1 => (f_X11_init h1 (h.1.length)).bind fun r2 => (mkO r2 12 32 [.null, .null, .null, .null, .int 0, .null, .int 0, .int 0, .int 0, .int 0, .int 0, .int 0, .int 0, .int 0, .int 0, .int 0, .null, .null, .null, .null, .null, .null, .null, .null, .long 0, .long 0, .null, .null, .int 0, .null, .null, .null]).bind fun h3 => (f_X12_init h3 (r2.1.length)).bind fun r4 => (mkJ r4 (1 : Int32)).bind fun h5 => f_L_law_23 L xs xFU h5 (h.1.length) (r2.1.length) (r4.1.length) (0 : Int32)
set_option maxRecDepth 20000 in
theorem w_L_law_244 (L : Nat) (xs : Nat → Int32) (h : xH) {k23 : xH → Nat → Nat → Nat → Int32 → Option (Int32 × xH)} (hk23 : ∀ (h : xH) (l1 : Nat) (l2 : Nat) (l3 : Nat) (l4 : Int32) (r : Int32 × xH), k23 h l1 l2 l3 l4 = some r → V 51 yL_law cL_law 8 (some .boolean) [] (some (L, xs)) 23 [(0, .ref xSC), (1, .ref l1), (2, .ref l2), (3, .ref l3), (4, .int l4)] [] h (oIh r)) (l1 : Nat) (l2 : Nat) (l3 : Nat) (l4 : Int32) (r : Int32 × xH) (hf : f_L_law_244 L xs k23 h l1 l2 l3 l4 = some r) : V 51 yL_law cL_law 8 (some .boolean) [] (some (L, xs)) 244 [(0, .ref xSC), (1, .ref l1), (2, .ref l2), (3, .ref l3), (4, .int l4)] [] h (oIh r) := by
  unfold f_L_law_244 at hf
  refine V.aload_n dL_law_244 rfl 1 rfl ?_
  refine V.aload_n dL_law_245 rfl 0 rfl ?_
  refine V.iload dL_law_246 4 rfl ?_
  refine V.iconst (v := (1 : Int32)) dL_law_248 (by decide) ?_
  refine V.iadd dL_law_249 ?_
  obtain ⟨v1, e1, hf⟩ := bS hf
  refine V.xldS rfl dL_law_250 e1 ?_
  refine V.aload_n dL_law_251 rfl 0 rfl ?_
  refine V.iload dL_law_252 4 rfl ?_
  refine V.iconst (v := (2 : Int32)) dL_law_254 (by decide) ?_
  refine V.iadd dL_law_255 ?_
  obtain ⟨v2, e2, hf⟩ := bS hf
  refine V.xldS rfl dL_law_256 e2 ?_
  refine V.aload_n dL_law_257 rfl 0 rfl ?_
  refine V.iload dL_law_258 4 rfl ?_
  refine V.iconst (v := (3 : Int32)) dL_law_260 (by decide) ?_
  refine V.iadd dL_law_261 ?_
  obtain ⟨v3, e3, hf⟩ := bS hf
  refine V.xldS rfl dL_law_262 e3 ?_
  refine V.aload_n dL_law_263 rfl 0 rfl ?_
  refine V.iload dL_law_264 4 rfl ?_
  refine V.iconst (v := (4 : Int32)) dL_law_266 (by decide) ?_
  refine V.iadd dL_law_267 ?_
  obtain ⟨v4, e4, hf⟩ := bS hf
  refine V.xldS rfl dL_law_268 e4 ?_
  refine V.aload_n dL_law_269 rfl 0 rfl ?_
  refine V.iload dL_law_270 4 rfl ?_
  refine V.iconst (v := (5 : Int32)) dL_law_272 (by decide) ?_
  refine V.iadd dL_law_273 ?_
  obtain ⟨v5, e5, hf⟩ := bS hf
  refine V.xldS rfl dL_law_274 e5 ?_
  obtain ⟨q6, e6, hf⟩ := bS hf
  obtain ⟨r7, e7, hf⟩ := bS hf
  refine V.callV (As := [.int v1, .int v2, .int v3, .int v4, .int v5]) (st := []) dL_law_275 cl_RL_137 sw_yX11_feed (by decide) rfl (Nat.le_of_ble_eq_true rfl) rfl (gO_some e6) rfl (w_X11_feed _ _ _ _ _ _ _ _ e7) ?_
  refine V.aload_n dL_law_278 rfl 2 rfl ?_
  refine V.aload_n dL_law_279 rfl 0 rfl ?_
  refine V.iload dL_law_280 4 rfl ?_
  refine V.iconst (v := (1 : Int32)) dL_law_282 (by decide) ?_
  refine V.iadd dL_law_283 ?_
  obtain ⟨v8, e8, hf⟩ := bS hf
  refine V.xldS rfl dL_law_284 e8 ?_
  refine V.aload_n dL_law_285 rfl 0 rfl ?_
  refine V.iload dL_law_286 4 rfl ?_
  refine V.iconst (v := (2 : Int32)) dL_law_288 (by decide) ?_
  refine V.iadd dL_law_289 ?_
  obtain ⟨v9, e9, hf⟩ := bS hf
  refine V.xldS rfl dL_law_290 e9 ?_
  refine V.aload_n dL_law_291 rfl 0 rfl ?_
  refine V.iload dL_law_292 4 rfl ?_
  refine V.iconst (v := (3 : Int32)) dL_law_294 (by decide) ?_
  refine V.iadd dL_law_295 ?_
  obtain ⟨v10, e10, hf⟩ := bS hf
  refine V.xldS rfl dL_law_296 e10 ?_
  refine V.aload_n dL_law_297 rfl 0 rfl ?_
  refine V.iload dL_law_298 4 rfl ?_
  refine V.iconst (v := (4 : Int32)) dL_law_300 (by decide) ?_
  refine V.iadd dL_law_301 ?_
  obtain ⟨v11, e11, hf⟩ := bS hf
  refine V.xldS rfl dL_law_302 e11 ?_
  refine V.aload_n dL_law_303 rfl 0 rfl ?_
  refine V.iload dL_law_304 4 rfl ?_
  refine V.iconst (v := (5 : Int32)) dL_law_306 (by decide) ?_
  refine V.iadd dL_law_307 ?_
  obtain ⟨v12, e12, hf⟩ := bS hf
  refine V.xldS rfl dL_law_308 e12 ?_
  obtain ⟨q13, e13, hf⟩ := bS hf
  obtain ⟨r14, e14, hf⟩ := bS hf
  refine V.callV (As := [.int v8, .int v9, .int v10, .int v11, .int v12]) (st := [.int (r7.1)]) dL_law_309 cl_RL_141 sw_yX12_feed (by decide) rfl (Nat.le_of_ble_eq_true rfl) rfl (gO_some e13) rfl (w_X12_feed _ _ _ _ _ _ _ _ e14) ?_
  refine V.icmp_eq (tgt := 2811) dL_law_312 (by decide) (fun c15 => ?_) (fun c15 => ?_)
  · rw [if_pos c15] at hf
    refine V.iinc (v := (l4 + 6)) (lv' := [(4, .int (l4 + 6)), (0, .ref xSC), (1, .ref l1), (2, .ref l2), (3, .ref l3)]) dL_law_2811 4 rfl rfl (Nat.le_of_ble_eq_true rfl) rfl ?_
    refine V.goto (tgt := 23) dL_law_2814 (by decide) ?_
    refine V.sub [1, 2, 3, 4, 0] rfl ?_
    exact hk23 _ _ _ _ _ _ hf
  · rw [if_neg c15] at hf
    refine V.iconst (v := (0 : Int32)) dL_law_315 (by decide) ?_
    obtain rfl := Option.some.inj hf
    exact V.zret dL_law_316 (by first | rfl | assumption)

set_option maxRecDepth 20000 in
theorem w_L_law_317 (L : Nat) (xs : Nat → Int32) (h : xH) {k23 : xH → Nat → Nat → Nat → Int32 → Option (Int32 × xH)} (hk23 : ∀ (h : xH) (l1 : Nat) (l2 : Nat) (l3 : Nat) (l4 : Int32) (r : Int32 × xH), k23 h l1 l2 l3 l4 = some r → V 51 yL_law cL_law 8 (some .boolean) [] (some (L, xs)) 23 [(0, .ref xSC), (1, .ref l1), (2, .ref l2), (3, .ref l3), (4, .int l4)] [] h (oIh r)) (l1 : Nat) (l2 : Nat) (l3 : Nat) (l4 : Int32) (r : Int32 × xH) (hf : f_L_law_317 L xs k23 h l1 l2 l3 l4 = some r) : V 51 yL_law cL_law 8 (some .boolean) [] (some (L, xs)) 317 [(0, .ref xSC), (1, .ref l1), (2, .ref l2), (3, .ref l3), (4, .int l4)] [] h (oIh r) := by
  unfold f_L_law_317 at hf
  refine V.aload_n dL_law_317 rfl 1 rfl ?_
  refine V.aload_n dL_law_318 rfl 0 rfl ?_
  refine V.iload dL_law_319 4 rfl ?_
  refine V.iconst (v := (1 : Int32)) dL_law_321 (by decide) ?_
  refine V.iadd dL_law_322 ?_
  obtain ⟨v1, e15, hf⟩ := bS hf
  refine V.xldS rfl dL_law_323 e15 ?_
  refine V.aload_n dL_law_324 rfl 3 rfl ?_
  obtain ⟨r2, e16, hf⟩ := bS hf
  refine V.callSW (As := [.ref l1, .int v1, .ref l3]) (st := []) dL_law_325 cw_RL_142 (by decide) rfl (Nat.le_of_ble_eq_true rfl) rfl (w_L_house _ _ _ _ _ e16) ?_
  refine V.istore (lv' := [(5, .int r2.1), (0, .ref xSC), (1, .ref l1), (2, .ref l2), (3, .ref l3), (4, .int l4)]) dL_law_328 (by decide) rfl ?_
  refine V.aload_n dL_law_330 rfl 3 rfl ?_
  refine V.aload_n dL_law_331 rfl 1 rfl ?_
  refine V.iload dL_law_332 5 rfl ?_
  refine V.iconst (v := (1 : Int32)) dL_law_334 (by decide) ?_
  refine V.iadd dL_law_335 ?_
  obtain ⟨v3, e17, hf⟩ := bS hf
  refine V.xldS rfl dL_law_336 e17 ?_
  obtain ⟨q4, e18, hf⟩ := bS hf
  obtain ⟨r5, e19, hf⟩ := bS hf
  refine V.callV (As := [.int v3]) (st := []) dL_law_337 cl_RL_147 sw_yX12_house (by decide) rfl (Nat.le_of_ble_eq_true rfl) rfl (gO_some e18) rfl (w_X12_house _ _ _ _ e19) ?_
  refine V.istore (lv' := [(6, .int r5.1), (5, .int r2.1), (0, .ref xSC), (1, .ref l1), (2, .ref l2), (3, .ref l3), (4, .int l4)]) dL_law_340 (by decide) rfl ?_
  refine V.aload_n dL_law_342 rfl 4 rfl ?_
  obtain ⟨q6, e20, hf⟩ := bS hf
  obtain ⟨r7, e21, hf⟩ := bS hf
  refine V.callV (As := []) (st := []) dL_law_343 cl_RL_148 sw_yX12_thrown (by decide) rfl (Nat.le_of_ble_eq_true rfl) rfl (gO_some e20) rfl (w_X12_thrown _ _ _ e21) ?_
  refine V.iload dL_law_346 1 rfl ?_
  refine V.icmp_eq (tgt := 353) dL_law_348 (by decide) (fun c8 => ?_) (fun c8 => ?_)
  · rw [if_pos c8] at hf
    refine V.iload dL_law_353 1 rfl ?_
    refine V.if_ne (tgt := 370) dL_law_355 (by decide) (fun c9 => ?_) (fun c9 => ?_)
    · rw [if_neg c9] at hf
      refine V.goto (tgt := 2811) dL_law_370 (by decide) ?_
      refine V.iinc (v := (l4 + 6)) (lv' := [(4, .int (l4 + 6)), (6, .int r5.1), (5, .int r2.1), (0, .ref xSC), (1, .ref l1), (2, .ref l2), (3, .ref l3)]) dL_law_2811 6 rfl rfl (Nat.le_of_ble_eq_true rfl) rfl ?_
      refine V.goto (tgt := 23) dL_law_2814 (by decide) ?_
      refine V.sub [3, 4, 5, 6, 0] rfl ?_
      exact hk23 _ _ _ _ _ _ hf
    · rw [if_pos c9] at hf
      refine V.aload_n dL_law_358 rfl 5 rfl ?_
      refine V.iconst (v := (0 : Int32)) dL_law_359 (by decide) ?_
      obtain ⟨v10, e22, hf⟩ := bS hf
      refine V.xldJ dL_law_360 e22 ?_
      refine V.iload dL_law_361 0 rfl ?_
      refine V.i2l dL_law_363 ?_
      refine V.lcmp dL_law_364 ?_
      refine V.if_eq (tgt := 370) dL_law_365 (by decide) (fun c11 => ?_) (fun c11 => ?_)
      · rw [if_pos c11] at hf
        refine V.goto (tgt := 2811) dL_law_370 (by decide) ?_
        refine V.iinc (v := (l4 + 6)) (lv' := [(4, .int (l4 + 6)), (6, .int r5.1), (5, .int r2.1), (0, .ref xSC), (1, .ref l1), (2, .ref l2), (3, .ref l3)]) dL_law_2811 6 rfl rfl (Nat.le_of_ble_eq_true rfl) rfl ?_
        refine V.goto (tgt := 23) dL_law_2814 (by decide) ?_
        refine V.sub [3, 4, 5, 6, 0] rfl ?_
        exact hk23 _ _ _ _ _ _ hf
      · rw [if_neg c11] at hf
        refine V.iconst (v := (0 : Int32)) dL_law_368 (by decide) ?_
        obtain rfl := Option.some.inj hf
        exact V.zret dL_law_369 (by first | rfl | assumption)
  · rw [if_neg c8] at hf
    refine V.iconst (v := (0 : Int32)) dL_law_351 (by decide) ?_
    obtain rfl := Option.some.inj hf
    exact V.zret dL_law_352 (by first | rfl | assumption)

set_option maxRecDepth 20000 in
theorem w_L_law_373 (L : Nat) (xs : Nat → Int32) (h : xH) {k23 : xH → Nat → Nat → Nat → Int32 → Option (Int32 × xH)} (hk23 : ∀ (h : xH) (l1 : Nat) (l2 : Nat) (l3 : Nat) (l4 : Int32) (r : Int32 × xH), k23 h l1 l2 l3 l4 = some r → V 51 yL_law cL_law 8 (some .boolean) [] (some (L, xs)) 23 [(0, .ref xSC), (1, .ref l1), (2, .ref l2), (3, .ref l3), (4, .int l4)] [] h (oIh r)) (l1 : Nat) (l2 : Nat) (l3 : Nat) (l4 : Int32) (r : Int32 × xH) (hf : f_L_law_373 L xs k23 h l1 l2 l3 l4 = some r) : V 51 yL_law cL_law 8 (some .boolean) [] (some (L, xs)) 373 [(0, .ref xSC), (1, .ref l1), (2, .ref l2), (3, .ref l3), (4, .int l4)] [] h (oIh r) := by
  unfold f_L_law_373 at hf
  refine V.aload_n dL_law_373 rfl 1 rfl ?_
  refine V.aload_n dL_law_374 rfl 0 rfl ?_
  refine V.iload dL_law_375 4 rfl ?_
  refine V.iconst (v := (1 : Int32)) dL_law_377 (by decide) ?_
  refine V.iadd dL_law_378 ?_
  obtain ⟨v1, e23, hf⟩ := bS hf
  refine V.xldS rfl dL_law_379 e23 ?_
  obtain ⟨q2, e24, hf⟩ := bS hf
  obtain ⟨r3, e25, hf⟩ := bS hf
  refine V.callV (As := [.int v1]) (st := []) dL_law_380 cl_RL_152 sw_yX11_fault (by decide) rfl (Nat.le_of_ble_eq_true rfl) rfl (gO_some e24) rfl (w_X11_fault _ _ _ _ e25) ?_
  refine V.aload_n dL_law_383 rfl 2 rfl ?_
  refine V.aload_n dL_law_384 rfl 0 rfl ?_
  refine V.iload dL_law_385 4 rfl ?_
  refine V.iconst (v := (1 : Int32)) dL_law_387 (by decide) ?_
  refine V.iadd dL_law_388 ?_
  obtain ⟨v4, e26, hf⟩ := bS hf
  refine V.xldS rfl dL_law_389 e26 ?_
  obtain ⟨q5, e27, hf⟩ := bS hf
  obtain ⟨r6, e28, hf⟩ := bS hf
  refine V.callV (As := [.int v4]) (st := [.int r3]) dL_law_390 cl_RL_155 sw_yX12_fault (by decide) rfl (Nat.le_of_ble_eq_true rfl) rfl (gO_some e27) rfl (w_X12_fault _ _ _ _ e28) ?_
  refine V.icmp_eq (tgt := 2811) dL_law_393 (by decide) (fun c7 => ?_) (fun c7 => ?_)
  · rw [if_pos c7] at hf
    refine V.iinc (v := (l4 + 6)) (lv' := [(4, .int (l4 + 6)), (0, .ref xSC), (1, .ref l1), (2, .ref l2), (3, .ref l3)]) dL_law_2811 4 rfl rfl (Nat.le_of_ble_eq_true rfl) rfl ?_
    refine V.goto (tgt := 23) dL_law_2814 (by decide) ?_
    refine V.sub [1, 2, 3, 4, 0] rfl ?_
    exact hk23 _ _ _ _ _ _ hf
  · rw [if_neg c7] at hf
    refine V.iconst (v := (0 : Int32)) dL_law_396 (by decide) ?_
    obtain rfl := Option.some.inj hf
    exact V.zret dL_law_397 (by first | rfl | assumption)

set_option maxRecDepth 20000 in
theorem w_L_law_398 (L : Nat) (xs : Nat → Int32) (h : xH) {k23 : xH → Nat → Nat → Nat → Int32 → Option (Int32 × xH)} (hk23 : ∀ (h : xH) (l1 : Nat) (l2 : Nat) (l3 : Nat) (l4 : Int32) (r : Int32 × xH), k23 h l1 l2 l3 l4 = some r → V 51 yL_law cL_law 8 (some .boolean) [] (some (L, xs)) 23 [(0, .ref xSC), (1, .ref l1), (2, .ref l2), (3, .ref l3), (4, .int l4)] [] h (oIh r)) (l1 : Nat) (l2 : Nat) (l3 : Nat) (l4 : Int32) (r : Int32 × xH) (hf : f_L_law_398 L xs k23 h l1 l2 l3 l4 = some r) : V 51 yL_law cL_law 8 (some .boolean) [] (some (L, xs)) 398 [(0, .ref xSC), (1, .ref l1), (2, .ref l2), (3, .ref l3), (4, .int l4)] [] h (oIh r) := by
  unfold f_L_law_398 at hf
  refine V.aload_n dL_law_398 rfl 1 rfl ?_
  refine V.aload_n dL_law_399 rfl 0 rfl ?_
  refine V.iload dL_law_400 4 rfl ?_
  refine V.iconst (v := (1 : Int32)) dL_law_402 (by decide) ?_
  refine V.iadd dL_law_403 ?_
  obtain ⟨v1, e29, hf⟩ := bS hf
  refine V.xldS rfl dL_law_404 e29 ?_
  refine V.aload_n dL_law_405 rfl 0 rfl ?_
  refine V.iload dL_law_406 4 rfl ?_
  refine V.iconst (v := (2 : Int32)) dL_law_408 (by decide) ?_
  refine V.iadd dL_law_409 ?_
  obtain ⟨v2, e30, hf⟩ := bS hf
  refine V.xldS rfl dL_law_410 e30 ?_
  refine V.aload_n dL_law_411 rfl 3 rfl ?_
  obtain ⟨r3, e31, hf⟩ := bS hf
  refine V.callSW (As := [.ref l1, .int v1, .int v2, .ref l3]) (st := []) dL_law_412 cw_RL_156 (by decide) rfl (Nat.le_of_ble_eq_true rfl) rfl (w_L_pane _ _ _ _ _ _ e31) ?_
  refine V.istore (lv' := [(5, .int r3.1), (0, .ref xSC), (1, .ref l1), (2, .ref l2), (3, .ref l3), (4, .int l4)]) dL_law_415 (by decide) rfl ?_
  refine V.aload_n dL_law_417 rfl 3 rfl ?_
  refine V.aload_n dL_law_418 rfl 1 rfl ?_
  refine V.iload dL_law_419 5 rfl ?_
  refine V.iconst (v := (1 : Int32)) dL_law_421 (by decide) ?_
  refine V.iadd dL_law_422 ?_
  obtain ⟨v4, e32, hf⟩ := bS hf
  refine V.xldS rfl dL_law_423 e32 ?_
  refine V.aload_n dL_law_424 rfl 1 rfl ?_
  refine V.iload dL_law_425 5 rfl ?_
  refine V.iconst (v := (2 : Int32)) dL_law_427 (by decide) ?_
  refine V.iadd dL_law_428 ?_
  obtain ⟨v5, e33, hf⟩ := bS hf
  refine V.xldS rfl dL_law_429 e33 ?_
  obtain ⟨q6, e34, hf⟩ := bS hf
  obtain ⟨r7, e35, hf⟩ := bS hf
  refine V.callV (As := [.int v4, .int v5]) (st := []) dL_law_430 cl_RL_159 sw_yX12_pane (by decide) rfl (Nat.le_of_ble_eq_true rfl) rfl (gO_some e34) rfl (w_X12_pane _ _ _ _ _ e35) ?_
  refine V.istore (lv' := [(6, .int r7.1), (5, .int r3.1), (0, .ref xSC), (1, .ref l1), (2, .ref l2), (3, .ref l3), (4, .int l4)]) dL_law_433 (by decide) rfl ?_
  refine V.aload_n dL_law_435 rfl 4 rfl ?_
  obtain ⟨q8, e36, hf⟩ := bS hf
  obtain ⟨r9, e37, hf⟩ := bS hf
  refine V.callV (As := []) (st := []) dL_law_436 cl_RL_148 sw_yX12_thrown (by decide) rfl (Nat.le_of_ble_eq_true rfl) rfl (gO_some e36) rfl (w_X12_thrown _ _ _ e37) ?_
  refine V.iload dL_law_439 1 rfl ?_
  refine V.icmp_eq (tgt := 446) dL_law_441 (by decide) (fun c10 => ?_) (fun c10 => ?_)
  · rw [if_pos c10] at hf
    refine V.iload dL_law_446 1 rfl ?_
    refine V.if_ne (tgt := 463) dL_law_448 (by decide) (fun c11 => ?_) (fun c11 => ?_)
    · rw [if_neg c11] at hf
      refine V.goto (tgt := 2811) dL_law_463 (by decide) ?_
      refine V.iinc (v := (l4 + 6)) (lv' := [(4, .int (l4 + 6)), (6, .int r7.1), (5, .int r3.1), (0, .ref xSC), (1, .ref l1), (2, .ref l2), (3, .ref l3)]) dL_law_2811 6 rfl rfl (Nat.le_of_ble_eq_true rfl) rfl ?_
      refine V.goto (tgt := 23) dL_law_2814 (by decide) ?_
      refine V.sub [3, 4, 5, 6, 0] rfl ?_
      exact hk23 _ _ _ _ _ _ hf
    · rw [if_pos c11] at hf
      refine V.aload_n dL_law_451 rfl 5 rfl ?_
      refine V.iconst (v := (0 : Int32)) dL_law_452 (by decide) ?_
      obtain ⟨v12, e38, hf⟩ := bS hf
      refine V.xldJ dL_law_453 e38 ?_
      refine V.iload dL_law_454 0 rfl ?_
      refine V.i2l dL_law_456 ?_
      refine V.lcmp dL_law_457 ?_
      refine V.if_eq (tgt := 463) dL_law_458 (by decide) (fun c13 => ?_) (fun c13 => ?_)
      · rw [if_pos c13] at hf
        refine V.goto (tgt := 2811) dL_law_463 (by decide) ?_
        refine V.iinc (v := (l4 + 6)) (lv' := [(4, .int (l4 + 6)), (6, .int r7.1), (5, .int r3.1), (0, .ref xSC), (1, .ref l1), (2, .ref l2), (3, .ref l3)]) dL_law_2811 6 rfl rfl (Nat.le_of_ble_eq_true rfl) rfl ?_
        refine V.goto (tgt := 23) dL_law_2814 (by decide) ?_
        refine V.sub [3, 4, 5, 6, 0] rfl ?_
        exact hk23 _ _ _ _ _ _ hf
      · rw [if_neg c13] at hf
        refine V.iconst (v := (0 : Int32)) dL_law_461 (by decide) ?_
        obtain rfl := Option.some.inj hf
        exact V.zret dL_law_462 (by first | rfl | assumption)
  · rw [if_neg c10] at hf
    refine V.iconst (v := (0 : Int32)) dL_law_444 (by decide) ?_
    obtain rfl := Option.some.inj hf
    exact V.zret dL_law_445 (by first | rfl | assumption)

set_option maxRecDepth 20000 in
theorem w_L_law_466 (L : Nat) (xs : Nat → Int32) (h : xH) {k23 : xH → Nat → Nat → Nat → Int32 → Option (Int32 × xH)} (hk23 : ∀ (h : xH) (l1 : Nat) (l2 : Nat) (l3 : Nat) (l4 : Int32) (r : Int32 × xH), k23 h l1 l2 l3 l4 = some r → V 51 yL_law cL_law 8 (some .boolean) [] (some (L, xs)) 23 [(0, .ref xSC), (1, .ref l1), (2, .ref l2), (3, .ref l3), (4, .int l4)] [] h (oIh r)) (l1 : Nat) (l2 : Nat) (l3 : Nat) (l4 : Int32) (r : Int32 × xH) (hf : f_L_law_466 L xs k23 h l1 l2 l3 l4 = some r) : V 51 yL_law cL_law 8 (some .boolean) [] (some (L, xs)) 466 [(0, .ref xSC), (1, .ref l1), (2, .ref l2), (3, .ref l3), (4, .int l4)] [] h (oIh r) := by
  unfold f_L_law_466 at hf
  refine V.aload_n dL_law_466 rfl 1 rfl ?_
  refine V.aload_n dL_law_467 rfl 0 rfl ?_
  refine V.iload dL_law_468 4 rfl ?_
  refine V.iconst (v := (1 : Int32)) dL_law_470 (by decide) ?_
  refine V.iadd dL_law_471 ?_
  obtain ⟨v1, e39, hf⟩ := bS hf
  refine V.xldS rfl dL_law_472 e39 ?_
  refine V.aload_n dL_law_473 rfl 0 rfl ?_
  refine V.iload dL_law_474 4 rfl ?_
  refine V.iconst (v := (2 : Int32)) dL_law_476 (by decide) ?_
  refine V.iadd dL_law_477 ?_
  obtain ⟨v2, e40, hf⟩ := bS hf
  refine V.xldS rfl dL_law_478 e40 ?_
  refine V.aload_n dL_law_479 rfl 3 rfl ?_
  obtain ⟨r3, e41, hf⟩ := bS hf
  refine V.callSW (As := [.ref l1, .int v1, .int v2, .ref l3]) (st := []) dL_law_480 cw_RL_160 (by decide) rfl (Nat.le_of_ble_eq_true rfl) rfl (w_L_kind _ _ _ _ _ _ e41) ?_
  refine V.istore (lv' := [(5, .int r3.1), (0, .ref xSC), (1, .ref l1), (2, .ref l2), (3, .ref l3), (4, .int l4)]) dL_law_483 (by decide) rfl ?_
  refine V.aload_n dL_law_485 rfl 3 rfl ?_
  refine V.aload_n dL_law_486 rfl 1 rfl ?_
  refine V.iload dL_law_487 5 rfl ?_
  refine V.iconst (v := (1 : Int32)) dL_law_489 (by decide) ?_
  refine V.iadd dL_law_490 ?_
  obtain ⟨v4, e42, hf⟩ := bS hf
  refine V.xldS rfl dL_law_491 e42 ?_
  refine V.aload_n dL_law_492 rfl 1 rfl ?_
  refine V.iload dL_law_493 5 rfl ?_
  refine V.iconst (v := (2 : Int32)) dL_law_495 (by decide) ?_
  refine V.iadd dL_law_496 ?_
  obtain ⟨v5, e43, hf⟩ := bS hf
  refine V.xldS rfl dL_law_497 e43 ?_
  obtain ⟨q6, e44, hf⟩ := bS hf
  obtain ⟨r7, e45, hf⟩ := bS hf
  refine V.callV (As := [.int v4, .int v5]) (st := []) dL_law_498 cl_RL_162 sw_yX12_kind (by decide) rfl (Nat.le_of_ble_eq_true rfl) rfl (gO_some e44) rfl (w_X12_kind _ _ _ _ _ e45) ?_
  refine V.istore (lv' := [(6, .int r7.1), (5, .int r3.1), (0, .ref xSC), (1, .ref l1), (2, .ref l2), (3, .ref l3), (4, .int l4)]) dL_law_501 (by decide) rfl ?_
  refine V.aload_n dL_law_503 rfl 4 rfl ?_
  obtain ⟨q8, e46, hf⟩ := bS hf
  obtain ⟨r9, e47, hf⟩ := bS hf
  refine V.callV (As := []) (st := []) dL_law_504 cl_RL_148 sw_yX12_thrown (by decide) rfl (Nat.le_of_ble_eq_true rfl) rfl (gO_some e46) rfl (w_X12_thrown _ _ _ e47) ?_
  refine V.iload dL_law_507 1 rfl ?_
  refine V.icmp_eq (tgt := 514) dL_law_509 (by decide) (fun c10 => ?_) (fun c10 => ?_)
  · rw [if_pos c10] at hf
    refine V.iload dL_law_514 1 rfl ?_
    refine V.if_ne (tgt := 531) dL_law_516 (by decide) (fun c11 => ?_) (fun c11 => ?_)
    · rw [if_neg c11] at hf
      refine V.goto (tgt := 2811) dL_law_531 (by decide) ?_
      refine V.iinc (v := (l4 + 6)) (lv' := [(4, .int (l4 + 6)), (6, .int r7.1), (5, .int r3.1), (0, .ref xSC), (1, .ref l1), (2, .ref l2), (3, .ref l3)]) dL_law_2811 6 rfl rfl (Nat.le_of_ble_eq_true rfl) rfl ?_
      refine V.goto (tgt := 23) dL_law_2814 (by decide) ?_
      refine V.sub [3, 4, 5, 6, 0] rfl ?_
      exact hk23 _ _ _ _ _ _ hf
    · rw [if_pos c11] at hf
      refine V.aload_n dL_law_519 rfl 5 rfl ?_
      refine V.iconst (v := (0 : Int32)) dL_law_520 (by decide) ?_
      obtain ⟨v12, e48, hf⟩ := bS hf
      refine V.xldJ dL_law_521 e48 ?_
      refine V.iload dL_law_522 0 rfl ?_
      refine V.i2l dL_law_524 ?_
      refine V.lcmp dL_law_525 ?_
      refine V.if_eq (tgt := 531) dL_law_526 (by decide) (fun c13 => ?_) (fun c13 => ?_)
      · rw [if_pos c13] at hf
        refine V.goto (tgt := 2811) dL_law_531 (by decide) ?_
        refine V.iinc (v := (l4 + 6)) (lv' := [(4, .int (l4 + 6)), (6, .int r7.1), (5, .int r3.1), (0, .ref xSC), (1, .ref l1), (2, .ref l2), (3, .ref l3)]) dL_law_2811 6 rfl rfl (Nat.le_of_ble_eq_true rfl) rfl ?_
        refine V.goto (tgt := 23) dL_law_2814 (by decide) ?_
        refine V.sub [3, 4, 5, 6, 0] rfl ?_
        exact hk23 _ _ _ _ _ _ hf
      · rw [if_neg c13] at hf
        refine V.iconst (v := (0 : Int32)) dL_law_529 (by decide) ?_
        obtain rfl := Option.some.inj hf
        exact V.zret dL_law_530 (by first | rfl | assumption)
  · rw [if_neg c10] at hf
    refine V.iconst (v := (0 : Int32)) dL_law_512 (by decide) ?_
    obtain rfl := Option.some.inj hf
    exact V.zret dL_law_513 (by first | rfl | assumption)

set_option maxRecDepth 20000 in
theorem w_L_law_534 (L : Nat) (xs : Nat → Int32) (h : xH) {k23 : xH → Nat → Nat → Nat → Int32 → Option (Int32 × xH)} (hk23 : ∀ (h : xH) (l1 : Nat) (l2 : Nat) (l3 : Nat) (l4 : Int32) (r : Int32 × xH), k23 h l1 l2 l3 l4 = some r → V 51 yL_law cL_law 8 (some .boolean) [] (some (L, xs)) 23 [(0, .ref xSC), (1, .ref l1), (2, .ref l2), (3, .ref l3), (4, .int l4)] [] h (oIh r)) (l1 : Nat) (l2 : Nat) (l3 : Nat) (l4 : Int32) (r : Int32 × xH) (hf : f_L_law_534 L xs k23 h l1 l2 l3 l4 = some r) : V 51 yL_law cL_law 8 (some .boolean) [] (some (L, xs)) 534 [(0, .ref xSC), (1, .ref l1), (2, .ref l2), (3, .ref l3), (4, .int l4)] [] h (oIh r) := by
  unfold f_L_law_534 at hf
  refine V.aload_n dL_law_534 rfl 1 rfl ?_
  refine V.aload_n dL_law_535 rfl 0 rfl ?_
  refine V.iload dL_law_536 4 rfl ?_
  refine V.iconst (v := (1 : Int32)) dL_law_538 (by decide) ?_
  refine V.iadd dL_law_539 ?_
  obtain ⟨v1, e49, hf⟩ := bS hf
  refine V.xldS rfl dL_law_540 e49 ?_
  refine V.aload_n dL_law_541 rfl 3 rfl ?_
  obtain ⟨r2, e50, hf⟩ := bS hf
  refine V.callSW (As := [.ref l1, .int v1, .ref l3]) (st := []) dL_law_542 cw_RL_163 (by decide) rfl (Nat.le_of_ble_eq_true rfl) rfl (w_L_next _ _ _ _ _ e50) ?_
  refine V.istore (lv' := [(5, .int r2.1), (0, .ref xSC), (1, .ref l1), (2, .ref l2), (3, .ref l3), (4, .int l4)]) dL_law_545 (by decide) rfl ?_
  refine V.aload_n dL_law_547 rfl 3 rfl ?_
  refine V.aload_n dL_law_548 rfl 1 rfl ?_
  refine V.iload dL_law_549 5 rfl ?_
  refine V.iconst (v := (1 : Int32)) dL_law_551 (by decide) ?_
  refine V.iadd dL_law_552 ?_
  obtain ⟨v3, e51, hf⟩ := bS hf
  refine V.xldS rfl dL_law_553 e51 ?_
  obtain ⟨q4, e52, hf⟩ := bS hf
  obtain ⟨r5, e53, hf⟩ := bS hf
  refine V.callV (As := [.int v3]) (st := []) dL_law_554 cl_RL_165 sw_yX12_next (by decide) rfl (Nat.le_of_ble_eq_true rfl) rfl (gO_some e52) rfl (w_X12_next _ _ _ _ e53) ?_
  refine V.istore (lv' := [(6, .int r5.1), (5, .int r2.1), (0, .ref xSC), (1, .ref l1), (2, .ref l2), (3, .ref l3), (4, .int l4)]) dL_law_557 (by decide) rfl ?_
  refine V.aload_n dL_law_559 rfl 4 rfl ?_
  obtain ⟨q6, e54, hf⟩ := bS hf
  obtain ⟨r7, e55, hf⟩ := bS hf
  refine V.callV (As := []) (st := []) dL_law_560 cl_RL_148 sw_yX12_thrown (by decide) rfl (Nat.le_of_ble_eq_true rfl) rfl (gO_some e54) rfl (w_X12_thrown _ _ _ e55) ?_
  refine V.iload dL_law_563 1 rfl ?_
  refine V.icmp_eq (tgt := 570) dL_law_565 (by decide) (fun c8 => ?_) (fun c8 => ?_)
  · rw [if_pos c8] at hf
    refine V.iload dL_law_570 1 rfl ?_
    refine V.if_ne (tgt := 587) dL_law_572 (by decide) (fun c9 => ?_) (fun c9 => ?_)
    · rw [if_neg c9] at hf
      refine V.goto (tgt := 2811) dL_law_587 (by decide) ?_
      refine V.iinc (v := (l4 + 6)) (lv' := [(4, .int (l4 + 6)), (6, .int r5.1), (5, .int r2.1), (0, .ref xSC), (1, .ref l1), (2, .ref l2), (3, .ref l3)]) dL_law_2811 6 rfl rfl (Nat.le_of_ble_eq_true rfl) rfl ?_
      refine V.goto (tgt := 23) dL_law_2814 (by decide) ?_
      refine V.sub [3, 4, 5, 6, 0] rfl ?_
      exact hk23 _ _ _ _ _ _ hf
    · rw [if_pos c9] at hf
      refine V.aload_n dL_law_575 rfl 5 rfl ?_
      refine V.iconst (v := (0 : Int32)) dL_law_576 (by decide) ?_
      obtain ⟨v10, e56, hf⟩ := bS hf
      refine V.xldJ dL_law_577 e56 ?_
      refine V.iload dL_law_578 0 rfl ?_
      refine V.i2l dL_law_580 ?_
      refine V.lcmp dL_law_581 ?_
      refine V.if_eq (tgt := 587) dL_law_582 (by decide) (fun c11 => ?_) (fun c11 => ?_)
      · rw [if_pos c11] at hf
        refine V.goto (tgt := 2811) dL_law_587 (by decide) ?_
        refine V.iinc (v := (l4 + 6)) (lv' := [(4, .int (l4 + 6)), (6, .int r5.1), (5, .int r2.1), (0, .ref xSC), (1, .ref l1), (2, .ref l2), (3, .ref l3)]) dL_law_2811 6 rfl rfl (Nat.le_of_ble_eq_true rfl) rfl ?_
        refine V.goto (tgt := 23) dL_law_2814 (by decide) ?_
        refine V.sub [3, 4, 5, 6, 0] rfl ?_
        exact hk23 _ _ _ _ _ _ hf
      · rw [if_neg c11] at hf
        refine V.iconst (v := (0 : Int32)) dL_law_585 (by decide) ?_
        obtain rfl := Option.some.inj hf
        exact V.zret dL_law_586 (by first | rfl | assumption)
  · rw [if_neg c8] at hf
    refine V.iconst (v := (0 : Int32)) dL_law_568 (by decide) ?_
    obtain rfl := Option.some.inj hf
    exact V.zret dL_law_569 (by first | rfl | assumption)

set_option maxRecDepth 20000 in
theorem w_L_law_590 (L : Nat) (xs : Nat → Int32) (h : xH) {k23 : xH → Nat → Nat → Nat → Int32 → Option (Int32 × xH)} (hk23 : ∀ (h : xH) (l1 : Nat) (l2 : Nat) (l3 : Nat) (l4 : Int32) (r : Int32 × xH), k23 h l1 l2 l3 l4 = some r → V 51 yL_law cL_law 8 (some .boolean) [] (some (L, xs)) 23 [(0, .ref xSC), (1, .ref l1), (2, .ref l2), (3, .ref l3), (4, .int l4)] [] h (oIh r)) (l1 : Nat) (l2 : Nat) (l3 : Nat) (l4 : Int32) (r : Int32 × xH) (hf : f_L_law_590 L xs k23 h l1 l2 l3 l4 = some r) : V 51 yL_law cL_law 8 (some .boolean) [] (some (L, xs)) 590 [(0, .ref xSC), (1, .ref l1), (2, .ref l2), (3, .ref l3), (4, .int l4)] [] h (oIh r) := by
  unfold f_L_law_590 at hf
  refine V.aload_n dL_law_590 rfl 1 rfl ?_
  refine V.aload_n dL_law_591 rfl 0 rfl ?_
  refine V.iload dL_law_592 4 rfl ?_
  refine V.iconst (v := (1 : Int32)) dL_law_594 (by decide) ?_
  refine V.iadd dL_law_595 ?_
  obtain ⟨v1, e57, hf⟩ := bS hf
  refine V.xldS rfl dL_law_596 e57 ?_
  refine V.aload_n dL_law_597 rfl 3 rfl ?_
  obtain ⟨r2, e58, hf⟩ := bS hf
  refine V.callSW (As := [.ref l1, .int v1, .ref l3]) (st := []) dL_law_598 cw_RL_166 (by decide) rfl (Nat.le_of_ble_eq_true rfl) rfl (w_L_hated _ _ _ _ _ e58) ?_
  refine V.istore (lv' := [(5, .int r2.1), (0, .ref xSC), (1, .ref l1), (2, .ref l2), (3, .ref l3), (4, .int l4)]) dL_law_601 (by decide) rfl ?_
  refine V.aload_n dL_law_603 rfl 3 rfl ?_
  refine V.aload_n dL_law_604 rfl 1 rfl ?_
  refine V.iload dL_law_605 5 rfl ?_
  refine V.iconst (v := (1 : Int32)) dL_law_607 (by decide) ?_
  refine V.iadd dL_law_608 ?_
  obtain ⟨v3, e59, hf⟩ := bS hf
  refine V.xldS rfl dL_law_609 e59 ?_
  obtain ⟨q4, e60, hf⟩ := bS hf
  obtain ⟨r5, e61, hf⟩ := bS hf
  refine V.callV (As := [.int v3]) (st := []) dL_law_610 cl_RL_168 sw_yX12_hated (by decide) rfl (Nat.le_of_ble_eq_true rfl) rfl (gO_some e60) rfl (w_X12_hated _ _ _ _ e61) ?_
  refine V.istore (lv' := [(6, .int r5.1), (5, .int r2.1), (0, .ref xSC), (1, .ref l1), (2, .ref l2), (3, .ref l3), (4, .int l4)]) dL_law_613 (by decide) rfl ?_
  refine V.aload_n dL_law_615 rfl 4 rfl ?_
  obtain ⟨q6, e62, hf⟩ := bS hf
  obtain ⟨r7, e63, hf⟩ := bS hf
  refine V.callV (As := []) (st := []) dL_law_616 cl_RL_148 sw_yX12_thrown (by decide) rfl (Nat.le_of_ble_eq_true rfl) rfl (gO_some e62) rfl (w_X12_thrown _ _ _ e63) ?_
  refine V.iload dL_law_619 1 rfl ?_
  refine V.icmp_eq (tgt := 626) dL_law_621 (by decide) (fun c8 => ?_) (fun c8 => ?_)
  · rw [if_pos c8] at hf
    refine V.iload dL_law_626 1 rfl ?_
    refine V.if_ne (tgt := 643) dL_law_628 (by decide) (fun c9 => ?_) (fun c9 => ?_)
    · rw [if_neg c9] at hf
      refine V.goto (tgt := 2811) dL_law_643 (by decide) ?_
      refine V.iinc (v := (l4 + 6)) (lv' := [(4, .int (l4 + 6)), (6, .int r5.1), (5, .int r2.1), (0, .ref xSC), (1, .ref l1), (2, .ref l2), (3, .ref l3)]) dL_law_2811 6 rfl rfl (Nat.le_of_ble_eq_true rfl) rfl ?_
      refine V.goto (tgt := 23) dL_law_2814 (by decide) ?_
      refine V.sub [3, 4, 5, 6, 0] rfl ?_
      exact hk23 _ _ _ _ _ _ hf
    · rw [if_pos c9] at hf
      refine V.aload_n dL_law_631 rfl 5 rfl ?_
      refine V.iconst (v := (0 : Int32)) dL_law_632 (by decide) ?_
      obtain ⟨v10, e64, hf⟩ := bS hf
      refine V.xldJ dL_law_633 e64 ?_
      refine V.iload dL_law_634 0 rfl ?_
      refine V.i2l dL_law_636 ?_
      refine V.lcmp dL_law_637 ?_
      refine V.if_eq (tgt := 643) dL_law_638 (by decide) (fun c11 => ?_) (fun c11 => ?_)
      · rw [if_pos c11] at hf
        refine V.goto (tgt := 2811) dL_law_643 (by decide) ?_
        refine V.iinc (v := (l4 + 6)) (lv' := [(4, .int (l4 + 6)), (6, .int r5.1), (5, .int r2.1), (0, .ref xSC), (1, .ref l1), (2, .ref l2), (3, .ref l3)]) dL_law_2811 6 rfl rfl (Nat.le_of_ble_eq_true rfl) rfl ?_
        refine V.goto (tgt := 23) dL_law_2814 (by decide) ?_
        refine V.sub [3, 4, 5, 6, 0] rfl ?_
        exact hk23 _ _ _ _ _ _ hf
      · rw [if_neg c11] at hf
        refine V.iconst (v := (0 : Int32)) dL_law_641 (by decide) ?_
        obtain rfl := Option.some.inj hf
        exact V.zret dL_law_642 (by first | rfl | assumption)
  · rw [if_neg c8] at hf
    refine V.iconst (v := (0 : Int32)) dL_law_624 (by decide) ?_
    obtain rfl := Option.some.inj hf
    exact V.zret dL_law_625 (by first | rfl | assumption)

set_option maxRecDepth 20000 in
theorem w_L_law_646 (L : Nat) (xs : Nat → Int32) (h : xH) {k23 : xH → Nat → Nat → Nat → Int32 → Option (Int32 × xH)} (hk23 : ∀ (h : xH) (l1 : Nat) (l2 : Nat) (l3 : Nat) (l4 : Int32) (r : Int32 × xH), k23 h l1 l2 l3 l4 = some r → V 51 yL_law cL_law 8 (some .boolean) [] (some (L, xs)) 23 [(0, .ref xSC), (1, .ref l1), (2, .ref l2), (3, .ref l3), (4, .int l4)] [] h (oIh r)) (l1 : Nat) (l2 : Nat) (l3 : Nat) (l4 : Int32) (r : Int32 × xH) (hf : f_L_law_646 L xs k23 h l1 l2 l3 l4 = some r) : V 51 yL_law cL_law 8 (some .boolean) [] (some (L, xs)) 646 [(0, .ref xSC), (1, .ref l1), (2, .ref l2), (3, .ref l3), (4, .int l4)] [] h (oIh r) := by
  unfold f_L_law_646 at hf
  refine V.aload_n dL_law_646 rfl 1 rfl ?_
  obtain ⟨q1, e65, hf⟩ := bS hf
  obtain ⟨r2, e66, hf⟩ := bS hf
  refine V.callV (As := []) (st := []) dL_law_647 cl_RL_169 sw_yX11_never (by decide) rfl (Nat.le_of_ble_eq_true rfl) rfl (gO_some e65) rfl (w_X11_never _ _ _ e66) ?_
  refine V.aload_n dL_law_650 rfl 2 rfl ?_
  obtain ⟨q3, e67, hf⟩ := bS hf
  obtain ⟨r4, e68, hf⟩ := bS hf
  refine V.callV (As := []) (st := [.int r2]) dL_law_651 cl_RL_172 sw_yX12_never (by decide) rfl (Nat.le_of_ble_eq_true rfl) rfl (gO_some e67) rfl (w_X12_never _ _ _ e68) ?_
  refine V.icmp_eq (tgt := 2811) dL_law_654 (by decide) (fun c5 => ?_) (fun c5 => ?_)
  · rw [if_pos c5] at hf
    refine V.iinc (v := (l4 + 6)) (lv' := [(4, .int (l4 + 6)), (0, .ref xSC), (1, .ref l1), (2, .ref l2), (3, .ref l3)]) dL_law_2811 4 rfl rfl (Nat.le_of_ble_eq_true rfl) rfl ?_
    refine V.goto (tgt := 23) dL_law_2814 (by decide) ?_
    refine V.sub [1, 2, 3, 4, 0] rfl ?_
    exact hk23 _ _ _ _ _ _ hf
  · rw [if_neg c5] at hf
    refine V.iconst (v := (0 : Int32)) dL_law_657 (by decide) ?_
    obtain rfl := Option.some.inj hf
    exact V.zret dL_law_658 (by first | rfl | assumption)

set_option maxRecDepth 20000 in
theorem w_L_law_659 (L : Nat) (xs : Nat → Int32) (h : xH) {k23 : xH → Nat → Nat → Nat → Int32 → Option (Int32 × xH)} (hk23 : ∀ (h : xH) (l1 : Nat) (l2 : Nat) (l3 : Nat) (l4 : Int32) (r : Int32 × xH), k23 h l1 l2 l3 l4 = some r → V 51 yL_law cL_law 8 (some .boolean) [] (some (L, xs)) 23 [(0, .ref xSC), (1, .ref l1), (2, .ref l2), (3, .ref l3), (4, .int l4)] [] h (oIh r)) (l1 : Nat) (l2 : Nat) (l3 : Nat) (l4 : Int32) (r : Int32 × xH) (hf : f_L_law_659 L xs k23 h l1 l2 l3 l4 = some r) : V 51 yL_law cL_law 8 (some .boolean) [] (some (L, xs)) 659 [(0, .ref xSC), (1, .ref l1), (2, .ref l2), (3, .ref l3), (4, .int l4)] [] h (oIh r) := by
  unfold f_L_law_659 at hf
  refine V.aload_n dL_law_659 rfl 1 rfl ?_
  refine V.aload_n dL_law_660 rfl 0 rfl ?_
  refine V.iload dL_law_661 4 rfl ?_
  refine V.iconst (v := (1 : Int32)) dL_law_663 (by decide) ?_
  refine V.iadd dL_law_664 ?_
  obtain ⟨v1, e69, hf⟩ := bS hf
  refine V.xldS rfl dL_law_665 e69 ?_
  refine V.aload_n dL_law_666 rfl 0 rfl ?_
  refine V.iload dL_law_667 4 rfl ?_
  refine V.iconst (v := (2 : Int32)) dL_law_669 (by decide) ?_
  refine V.iadd dL_law_670 ?_
  obtain ⟨v2, e70, hf⟩ := bS hf
  refine V.xldS rfl dL_law_671 e70 ?_
  refine V.aload_n dL_law_672 rfl 0 rfl ?_
  refine V.iload dL_law_673 4 rfl ?_
  refine V.iconst (v := (3 : Int32)) dL_law_675 (by decide) ?_
  refine V.iadd dL_law_676 ?_
  obtain ⟨v3, e71, hf⟩ := bS hf
  refine V.xldS rfl dL_law_677 e71 ?_
  refine V.aload_n dL_law_678 rfl 3 rfl ?_
  obtain ⟨r4, e72, hf⟩ := bS hf
  refine V.callSW (As := [.ref l1, .int v1, .int v2, .int v3, .ref l3]) (st := []) dL_law_679 cw_RL_173 (by decide) rfl (Nat.le_of_ble_eq_true rfl) rfl (w_L_hang _ _ _ _ _ _ _ e72) ?_
  refine V.istore (lv' := [(5, .int r4.1), (0, .ref xSC), (1, .ref l1), (2, .ref l2), (3, .ref l3), (4, .int l4)]) dL_law_682 (by decide) rfl ?_
  refine V.aload_n dL_law_684 rfl 3 rfl ?_
  refine V.aload_n dL_law_685 rfl 1 rfl ?_
  refine V.iload dL_law_686 5 rfl ?_
  refine V.iconst (v := (1 : Int32)) dL_law_688 (by decide) ?_
  refine V.iadd dL_law_689 ?_
  obtain ⟨v5, e73, hf⟩ := bS hf
  refine V.xldS rfl dL_law_690 e73 ?_
  refine V.aload_n dL_law_691 rfl 1 rfl ?_
  refine V.iload dL_law_692 5 rfl ?_
  refine V.iconst (v := (2 : Int32)) dL_law_694 (by decide) ?_
  refine V.iadd dL_law_695 ?_
  obtain ⟨v6, e74, hf⟩ := bS hf
  refine V.xldS rfl dL_law_696 e74 ?_
  refine V.aload_n dL_law_697 rfl 1 rfl ?_
  refine V.iload dL_law_698 5 rfl ?_
  refine V.iconst (v := (3 : Int32)) dL_law_700 (by decide) ?_
  refine V.iadd dL_law_701 ?_
  obtain ⟨v7, e75, hf⟩ := bS hf
  refine V.xldS rfl dL_law_702 e75 ?_
  obtain ⟨q8, e76, hf⟩ := bS hf
  obtain ⟨r9, e77, hf⟩ := bS hf
  refine V.callV (As := [.int v5, .int v6, .int v7]) (st := []) dL_law_703 cl_RL_176 sw_yX12_hang (by decide) rfl (Nat.le_of_ble_eq_true rfl) rfl (gO_some e76) rfl (w_X12_hang _ _ _ _ _ _ e77) ?_
  refine V.istore (lv' := [(6, .int r9.1), (5, .int r4.1), (0, .ref xSC), (1, .ref l1), (2, .ref l2), (3, .ref l3), (4, .int l4)]) dL_law_706 (by decide) rfl ?_
  refine V.aload_n dL_law_708 rfl 4 rfl ?_
  obtain ⟨q10, e78, hf⟩ := bS hf
  obtain ⟨r11, e79, hf⟩ := bS hf
  refine V.callV (As := []) (st := []) dL_law_709 cl_RL_148 sw_yX12_thrown (by decide) rfl (Nat.le_of_ble_eq_true rfl) rfl (gO_some e78) rfl (w_X12_thrown _ _ _ e79) ?_
  refine V.iload dL_law_712 1 rfl ?_
  refine V.icmp_eq (tgt := 719) dL_law_714 (by decide) (fun c12 => ?_) (fun c12 => ?_)
  · rw [if_pos c12] at hf
    refine V.iload dL_law_719 1 rfl ?_
    refine V.if_ne (tgt := 736) dL_law_721 (by decide) (fun c13 => ?_) (fun c13 => ?_)
    · rw [if_neg c13] at hf
      refine V.goto (tgt := 2811) dL_law_736 (by decide) ?_
      refine V.iinc (v := (l4 + 6)) (lv' := [(4, .int (l4 + 6)), (6, .int r9.1), (5, .int r4.1), (0, .ref xSC), (1, .ref l1), (2, .ref l2), (3, .ref l3)]) dL_law_2811 6 rfl rfl (Nat.le_of_ble_eq_true rfl) rfl ?_
      refine V.goto (tgt := 23) dL_law_2814 (by decide) ?_
      refine V.sub [3, 4, 5, 6, 0] rfl ?_
      exact hk23 _ _ _ _ _ _ hf
    · rw [if_pos c13] at hf
      refine V.aload_n dL_law_724 rfl 5 rfl ?_
      refine V.iconst (v := (0 : Int32)) dL_law_725 (by decide) ?_
      obtain ⟨v14, e80, hf⟩ := bS hf
      refine V.xldJ dL_law_726 e80 ?_
      refine V.iload dL_law_727 0 rfl ?_
      refine V.i2l dL_law_729 ?_
      refine V.lcmp dL_law_730 ?_
      refine V.if_eq (tgt := 736) dL_law_731 (by decide) (fun c15 => ?_) (fun c15 => ?_)
      · rw [if_pos c15] at hf
        refine V.goto (tgt := 2811) dL_law_736 (by decide) ?_
        refine V.iinc (v := (l4 + 6)) (lv' := [(4, .int (l4 + 6)), (6, .int r9.1), (5, .int r4.1), (0, .ref xSC), (1, .ref l1), (2, .ref l2), (3, .ref l3)]) dL_law_2811 6 rfl rfl (Nat.le_of_ble_eq_true rfl) rfl ?_
        refine V.goto (tgt := 23) dL_law_2814 (by decide) ?_
        refine V.sub [3, 4, 5, 6, 0] rfl ?_
        exact hk23 _ _ _ _ _ _ hf
      · rw [if_neg c15] at hf
        refine V.iconst (v := (0 : Int32)) dL_law_734 (by decide) ?_
        obtain rfl := Option.some.inj hf
        exact V.zret dL_law_735 (by first | rfl | assumption)
  · rw [if_neg c12] at hf
    refine V.iconst (v := (0 : Int32)) dL_law_717 (by decide) ?_
    obtain rfl := Option.some.inj hf
    exact V.zret dL_law_718 (by first | rfl | assumption)

set_option maxRecDepth 20000 in
theorem w_L_law_739 (L : Nat) (xs : Nat → Int32) (h : xH) {k23 : xH → Nat → Nat → Nat → Int32 → Option (Int32 × xH)} (hk23 : ∀ (h : xH) (l1 : Nat) (l2 : Nat) (l3 : Nat) (l4 : Int32) (r : Int32 × xH), k23 h l1 l2 l3 l4 = some r → V 51 yL_law cL_law 8 (some .boolean) [] (some (L, xs)) 23 [(0, .ref xSC), (1, .ref l1), (2, .ref l2), (3, .ref l3), (4, .int l4)] [] h (oIh r)) (l1 : Nat) (l2 : Nat) (l3 : Nat) (l4 : Int32) (r : Int32 × xH) (hf : f_L_law_739 L xs k23 h l1 l2 l3 l4 = some r) : V 51 yL_law cL_law 8 (some .boolean) [] (some (L, xs)) 739 [(0, .ref xSC), (1, .ref l1), (2, .ref l2), (3, .ref l3), (4, .int l4)] [] h (oIh r) := by
  unfold f_L_law_739 at hf
  refine V.aload_n dL_law_739 rfl 1 rfl ?_
  refine V.aload_n dL_law_740 rfl 0 rfl ?_
  refine V.iload dL_law_741 4 rfl ?_
  refine V.iconst (v := (1 : Int32)) dL_law_743 (by decide) ?_
  refine V.iadd dL_law_744 ?_
  obtain ⟨v1, e81, hf⟩ := bS hf
  refine V.xldS rfl dL_law_745 e81 ?_
  refine V.aload_n dL_law_746 rfl 0 rfl ?_
  refine V.iload dL_law_747 4 rfl ?_
  refine V.iconst (v := (2 : Int32)) dL_law_749 (by decide) ?_
  refine V.iadd dL_law_750 ?_
  obtain ⟨v2, e82, hf⟩ := bS hf
  refine V.xldS rfl dL_law_751 e82 ?_
  refine V.aload_n dL_law_752 rfl 3 rfl ?_
  obtain ⟨r3, e83, hf⟩ := bS hf
  refine V.callSW (As := [.ref l1, .int v1, .int v2, .ref l3]) (st := []) dL_law_753 cw_RL_177 (by decide) rfl (Nat.le_of_ble_eq_true rfl) rfl (w_L_of _ _ _ _ _ _ e83) ?_
  refine V.istore (lv' := [(5, .int r3.1), (0, .ref xSC), (1, .ref l1), (2, .ref l2), (3, .ref l3), (4, .int l4)]) dL_law_756 (by decide) rfl ?_
  refine V.aload_n dL_law_758 rfl 3 rfl ?_
  refine V.aload_n dL_law_759 rfl 1 rfl ?_
  refine V.iload dL_law_760 5 rfl ?_
  refine V.iconst (v := (1 : Int32)) dL_law_762 (by decide) ?_
  refine V.iadd dL_law_763 ?_
  obtain ⟨v4, e84, hf⟩ := bS hf
  refine V.xldS rfl dL_law_764 e84 ?_
  refine V.aload_n dL_law_765 rfl 1 rfl ?_
  refine V.iload dL_law_766 5 rfl ?_
  refine V.iconst (v := (2 : Int32)) dL_law_768 (by decide) ?_
  refine V.iadd dL_law_769 ?_
  obtain ⟨v5, e85, hf⟩ := bS hf
  refine V.xldS rfl dL_law_770 e85 ?_
  obtain ⟨q6, e86, hf⟩ := bS hf
  obtain ⟨r7, e87, hf⟩ := bS hf
  refine V.callV (As := [.int v4, .int v5]) (st := []) dL_law_771 cl_RL_179 sw_yX12_of (by decide) rfl (Nat.le_of_ble_eq_true rfl) rfl (gO_some e86) rfl (w_X12_of _ _ _ _ _ e87) ?_
  refine V.istore (lv' := [(6, .int r7.1), (5, .int r3.1), (0, .ref xSC), (1, .ref l1), (2, .ref l2), (3, .ref l3), (4, .int l4)]) dL_law_774 (by decide) rfl ?_
  refine V.aload_n dL_law_776 rfl 4 rfl ?_
  obtain ⟨q8, e88, hf⟩ := bS hf
  obtain ⟨r9, e89, hf⟩ := bS hf
  refine V.callV (As := []) (st := []) dL_law_777 cl_RL_148 sw_yX12_thrown (by decide) rfl (Nat.le_of_ble_eq_true rfl) rfl (gO_some e88) rfl (w_X12_thrown _ _ _ e89) ?_
  refine V.iload dL_law_780 1 rfl ?_
  refine V.icmp_eq (tgt := 787) dL_law_782 (by decide) (fun c10 => ?_) (fun c10 => ?_)
  · rw [if_pos c10] at hf
    refine V.iload dL_law_787 1 rfl ?_
    refine V.if_ne (tgt := 804) dL_law_789 (by decide) (fun c11 => ?_) (fun c11 => ?_)
    · rw [if_neg c11] at hf
      refine V.goto (tgt := 2811) dL_law_804 (by decide) ?_
      refine V.iinc (v := (l4 + 6)) (lv' := [(4, .int (l4 + 6)), (6, .int r7.1), (5, .int r3.1), (0, .ref xSC), (1, .ref l1), (2, .ref l2), (3, .ref l3)]) dL_law_2811 6 rfl rfl (Nat.le_of_ble_eq_true rfl) rfl ?_
      refine V.goto (tgt := 23) dL_law_2814 (by decide) ?_
      refine V.sub [3, 4, 5, 6, 0] rfl ?_
      exact hk23 _ _ _ _ _ _ hf
    · rw [if_pos c11] at hf
      refine V.aload_n dL_law_792 rfl 5 rfl ?_
      refine V.iconst (v := (0 : Int32)) dL_law_793 (by decide) ?_
      obtain ⟨v12, e90, hf⟩ := bS hf
      refine V.xldJ dL_law_794 e90 ?_
      refine V.iload dL_law_795 0 rfl ?_
      refine V.i2l dL_law_797 ?_
      refine V.lcmp dL_law_798 ?_
      refine V.if_eq (tgt := 804) dL_law_799 (by decide) (fun c13 => ?_) (fun c13 => ?_)
      · rw [if_pos c13] at hf
        refine V.goto (tgt := 2811) dL_law_804 (by decide) ?_
        refine V.iinc (v := (l4 + 6)) (lv' := [(4, .int (l4 + 6)), (6, .int r7.1), (5, .int r3.1), (0, .ref xSC), (1, .ref l1), (2, .ref l2), (3, .ref l3)]) dL_law_2811 6 rfl rfl (Nat.le_of_ble_eq_true rfl) rfl ?_
        refine V.goto (tgt := 23) dL_law_2814 (by decide) ?_
        refine V.sub [3, 4, 5, 6, 0] rfl ?_
        exact hk23 _ _ _ _ _ _ hf
      · rw [if_neg c13] at hf
        refine V.iconst (v := (0 : Int32)) dL_law_802 (by decide) ?_
        obtain rfl := Option.some.inj hf
        exact V.zret dL_law_803 (by first | rfl | assumption)
  · rw [if_neg c10] at hf
    refine V.iconst (v := (0 : Int32)) dL_law_785 (by decide) ?_
    obtain rfl := Option.some.inj hf
    exact V.zret dL_law_786 (by first | rfl | assumption)

set_option maxRecDepth 20000 in
theorem w_L_law_807 (L : Nat) (xs : Nat → Int32) (h : xH) {k23 : xH → Nat → Nat → Nat → Int32 → Option (Int32 × xH)} (hk23 : ∀ (h : xH) (l1 : Nat) (l2 : Nat) (l3 : Nat) (l4 : Int32) (r : Int32 × xH), k23 h l1 l2 l3 l4 = some r → V 51 yL_law cL_law 8 (some .boolean) [] (some (L, xs)) 23 [(0, .ref xSC), (1, .ref l1), (2, .ref l2), (3, .ref l3), (4, .int l4)] [] h (oIh r)) (l1 : Nat) (l2 : Nat) (l3 : Nat) (l4 : Int32) (r : Int32 × xH) (hf : f_L_law_807 L xs k23 h l1 l2 l3 l4 = some r) : V 51 yL_law cL_law 8 (some .boolean) [] (some (L, xs)) 807 [(0, .ref xSC), (1, .ref l1), (2, .ref l2), (3, .ref l3), (4, .int l4)] [] h (oIh r) := by
  unfold f_L_law_807 at hf
  refine V.aload_n dL_law_807 rfl 1 rfl ?_
  refine V.aload_n dL_law_808 rfl 0 rfl ?_
  refine V.iload dL_law_809 4 rfl ?_
  refine V.iconst (v := (1 : Int32)) dL_law_811 (by decide) ?_
  refine V.iadd dL_law_812 ?_
  obtain ⟨v1, e91, hf⟩ := bS hf
  refine V.xldS rfl dL_law_813 e91 ?_
  refine V.aload_n dL_law_814 rfl 0 rfl ?_
  refine V.iload dL_law_815 4 rfl ?_
  refine V.iconst (v := (2 : Int32)) dL_law_817 (by decide) ?_
  refine V.iadd dL_law_818 ?_
  obtain ⟨v2, e92, hf⟩ := bS hf
  refine V.xldS rfl dL_law_819 e92 ?_
  refine V.aload_n dL_law_820 rfl 3 rfl ?_
  obtain ⟨r3, e93, hf⟩ := bS hf
  refine V.callSW (As := [.ref l1, .int v1, .int v2, .ref l3]) (st := []) dL_law_821 cw_RL_180 (by decide) rfl (Nat.le_of_ble_eq_true rfl) rfl (w_L_light _ _ _ _ _ _ e93) ?_
  refine V.istore (lv' := [(5, .int r3.1), (0, .ref xSC), (1, .ref l1), (2, .ref l2), (3, .ref l3), (4, .int l4)]) dL_law_824 (by decide) rfl ?_
  refine V.aload_n dL_law_826 rfl 3 rfl ?_
  refine V.aload_n dL_law_827 rfl 1 rfl ?_
  refine V.iload dL_law_828 5 rfl ?_
  refine V.iconst (v := (1 : Int32)) dL_law_830 (by decide) ?_
  refine V.iadd dL_law_831 ?_
  obtain ⟨v4, e94, hf⟩ := bS hf
  refine V.xldS rfl dL_law_832 e94 ?_
  refine V.aload_n dL_law_833 rfl 1 rfl ?_
  refine V.iload dL_law_834 5 rfl ?_
  refine V.iconst (v := (2 : Int32)) dL_law_836 (by decide) ?_
  refine V.iadd dL_law_837 ?_
  obtain ⟨v5, e95, hf⟩ := bS hf
  refine V.xldS rfl dL_law_838 e95 ?_
  obtain ⟨q6, e96, hf⟩ := bS hf
  obtain ⟨r7, e97, hf⟩ := bS hf
  refine V.callV (As := [.int v4, .int v5]) (st := []) dL_law_839 cl_RL_182 sw_yX12_light (by decide) rfl (Nat.le_of_ble_eq_true rfl) rfl (gO_some e96) rfl (w_X12_light _ _ _ _ _ e97) ?_
  refine V.istore (lv' := [(6, .int r7.1), (5, .int r3.1), (0, .ref xSC), (1, .ref l1), (2, .ref l2), (3, .ref l3), (4, .int l4)]) dL_law_842 (by decide) rfl ?_
  refine V.aload_n dL_law_844 rfl 4 rfl ?_
  obtain ⟨q8, e98, hf⟩ := bS hf
  obtain ⟨r9, e99, hf⟩ := bS hf
  refine V.callV (As := []) (st := []) dL_law_845 cl_RL_148 sw_yX12_thrown (by decide) rfl (Nat.le_of_ble_eq_true rfl) rfl (gO_some e98) rfl (w_X12_thrown _ _ _ e99) ?_
  refine V.iload dL_law_848 1 rfl ?_
  refine V.icmp_eq (tgt := 855) dL_law_850 (by decide) (fun c10 => ?_) (fun c10 => ?_)
  · rw [if_pos c10] at hf
    refine V.iload dL_law_855 1 rfl ?_
    refine V.if_ne (tgt := 872) dL_law_857 (by decide) (fun c11 => ?_) (fun c11 => ?_)
    · rw [if_neg c11] at hf
      refine V.goto (tgt := 2811) dL_law_872 (by decide) ?_
      refine V.iinc (v := (l4 + 6)) (lv' := [(4, .int (l4 + 6)), (6, .int r7.1), (5, .int r3.1), (0, .ref xSC), (1, .ref l1), (2, .ref l2), (3, .ref l3)]) dL_law_2811 6 rfl rfl (Nat.le_of_ble_eq_true rfl) rfl ?_
      refine V.goto (tgt := 23) dL_law_2814 (by decide) ?_
      refine V.sub [3, 4, 5, 6, 0] rfl ?_
      exact hk23 _ _ _ _ _ _ hf
    · rw [if_pos c11] at hf
      refine V.aload_n dL_law_860 rfl 5 rfl ?_
      refine V.iconst (v := (0 : Int32)) dL_law_861 (by decide) ?_
      obtain ⟨v12, e100, hf⟩ := bS hf
      refine V.xldJ dL_law_862 e100 ?_
      refine V.iload dL_law_863 0 rfl ?_
      refine V.i2l dL_law_865 ?_
      refine V.lcmp dL_law_866 ?_
      refine V.if_eq (tgt := 872) dL_law_867 (by decide) (fun c13 => ?_) (fun c13 => ?_)
      · rw [if_pos c13] at hf
        refine V.goto (tgt := 2811) dL_law_872 (by decide) ?_
        refine V.iinc (v := (l4 + 6)) (lv' := [(4, .int (l4 + 6)), (6, .int r7.1), (5, .int r3.1), (0, .ref xSC), (1, .ref l1), (2, .ref l2), (3, .ref l3)]) dL_law_2811 6 rfl rfl (Nat.le_of_ble_eq_true rfl) rfl ?_
        refine V.goto (tgt := 23) dL_law_2814 (by decide) ?_
        refine V.sub [3, 4, 5, 6, 0] rfl ?_
        exact hk23 _ _ _ _ _ _ hf
      · rw [if_neg c13] at hf
        refine V.iconst (v := (0 : Int32)) dL_law_870 (by decide) ?_
        obtain rfl := Option.some.inj hf
        exact V.zret dL_law_871 (by first | rfl | assumption)
  · rw [if_neg c10] at hf
    refine V.iconst (v := (0 : Int32)) dL_law_853 (by decide) ?_
    obtain rfl := Option.some.inj hf
    exact V.zret dL_law_854 (by first | rfl | assumption)

set_option maxRecDepth 20000 in
theorem w_L_law_875 (L : Nat) (xs : Nat → Int32) (h : xH) {k23 : xH → Nat → Nat → Nat → Int32 → Option (Int32 × xH)} (hk23 : ∀ (h : xH) (l1 : Nat) (l2 : Nat) (l3 : Nat) (l4 : Int32) (r : Int32 × xH), k23 h l1 l2 l3 l4 = some r → V 51 yL_law cL_law 8 (some .boolean) [] (some (L, xs)) 23 [(0, .ref xSC), (1, .ref l1), (2, .ref l2), (3, .ref l3), (4, .int l4)] [] h (oIh r)) (l1 : Nat) (l2 : Nat) (l3 : Nat) (l4 : Int32) (r : Int32 × xH) (hf : f_L_law_875 L xs k23 h l1 l2 l3 l4 = some r) : V 51 yL_law cL_law 8 (some .boolean) [] (some (L, xs)) 875 [(0, .ref xSC), (1, .ref l1), (2, .ref l2), (3, .ref l3), (4, .int l4)] [] h (oIh r) := by
  unfold f_L_law_875 at hf
  refine V.aload_n dL_law_875 rfl 1 rfl ?_
  refine V.aload_n dL_law_876 rfl 0 rfl ?_
  refine V.iload dL_law_877 4 rfl ?_
  refine V.iconst (v := (1 : Int32)) dL_law_879 (by decide) ?_
  refine V.iadd dL_law_880 ?_
  obtain ⟨v1, e101, hf⟩ := bS hf
  refine V.xldS rfl dL_law_881 e101 ?_
  refine V.aload_n dL_law_882 rfl 0 rfl ?_
  refine V.iload dL_law_883 4 rfl ?_
  refine V.iconst (v := (2 : Int32)) dL_law_885 (by decide) ?_
  refine V.iadd dL_law_886 ?_
  obtain ⟨v2, e102, hf⟩ := bS hf
  refine V.xldS rfl dL_law_887 e102 ?_
  refine V.aload_n dL_law_888 rfl 3 rfl ?_
  obtain ⟨r3, e103, hf⟩ := bS hf
  refine V.callSW (As := [.ref l1, .int v1, .int v2, .ref l3]) (st := []) dL_law_889 cw_RL_183 (by decide) rfl (Nat.le_of_ble_eq_true rfl) rfl (w_L_by _ _ _ _ _ _ e103) ?_
  refine V.istore (lv' := [(5, .int r3.1), (0, .ref xSC), (1, .ref l1), (2, .ref l2), (3, .ref l3), (4, .int l4)]) dL_law_892 (by decide) rfl ?_
  refine V.aload_n dL_law_894 rfl 3 rfl ?_
  refine V.aload_n dL_law_895 rfl 1 rfl ?_
  refine V.iload dL_law_896 5 rfl ?_
  refine V.iconst (v := (1 : Int32)) dL_law_898 (by decide) ?_
  refine V.iadd dL_law_899 ?_
  obtain ⟨v4, e104, hf⟩ := bS hf
  refine V.xldS rfl dL_law_900 e104 ?_
  refine V.aload_n dL_law_901 rfl 1 rfl ?_
  refine V.iload dL_law_902 5 rfl ?_
  refine V.iconst (v := (2 : Int32)) dL_law_904 (by decide) ?_
  refine V.iadd dL_law_905 ?_
  obtain ⟨v5, e105, hf⟩ := bS hf
  refine V.xldS rfl dL_law_906 e105 ?_
  obtain ⟨q6, e106, hf⟩ := bS hf
  obtain ⟨r7, e107, hf⟩ := bS hf
  refine V.callV (As := [.int v4, .int v5]) (st := []) dL_law_907 cl_RL_185 sw_yX12_by (by decide) rfl (Nat.le_of_ble_eq_true rfl) rfl (gO_some e106) rfl (w_X12_by _ _ _ _ _ e107) ?_
  refine V.istore (lv' := [(6, .int r7.1), (5, .int r3.1), (0, .ref xSC), (1, .ref l1), (2, .ref l2), (3, .ref l3), (4, .int l4)]) dL_law_910 (by decide) rfl ?_
  refine V.aload_n dL_law_912 rfl 4 rfl ?_
  obtain ⟨q8, e108, hf⟩ := bS hf
  obtain ⟨r9, e109, hf⟩ := bS hf
  refine V.callV (As := []) (st := []) dL_law_913 cl_RL_148 sw_yX12_thrown (by decide) rfl (Nat.le_of_ble_eq_true rfl) rfl (gO_some e108) rfl (w_X12_thrown _ _ _ e109) ?_
  refine V.iload dL_law_916 1 rfl ?_
  refine V.icmp_eq (tgt := 923) dL_law_918 (by decide) (fun c10 => ?_) (fun c10 => ?_)
  · rw [if_pos c10] at hf
    refine V.iload dL_law_923 1 rfl ?_
    refine V.if_ne (tgt := 940) dL_law_925 (by decide) (fun c11 => ?_) (fun c11 => ?_)
    · rw [if_neg c11] at hf
      refine V.goto (tgt := 2811) dL_law_940 (by decide) ?_
      refine V.iinc (v := (l4 + 6)) (lv' := [(4, .int (l4 + 6)), (6, .int r7.1), (5, .int r3.1), (0, .ref xSC), (1, .ref l1), (2, .ref l2), (3, .ref l3)]) dL_law_2811 6 rfl rfl (Nat.le_of_ble_eq_true rfl) rfl ?_
      refine V.goto (tgt := 23) dL_law_2814 (by decide) ?_
      refine V.sub [3, 4, 5, 6, 0] rfl ?_
      exact hk23 _ _ _ _ _ _ hf
    · rw [if_pos c11] at hf
      refine V.aload_n dL_law_928 rfl 5 rfl ?_
      refine V.iconst (v := (0 : Int32)) dL_law_929 (by decide) ?_
      obtain ⟨v12, e110, hf⟩ := bS hf
      refine V.xldJ dL_law_930 e110 ?_
      refine V.iload dL_law_931 0 rfl ?_
      refine V.i2l dL_law_933 ?_
      refine V.lcmp dL_law_934 ?_
      refine V.if_eq (tgt := 940) dL_law_935 (by decide) (fun c13 => ?_) (fun c13 => ?_)
      · rw [if_pos c13] at hf
        refine V.goto (tgt := 2811) dL_law_940 (by decide) ?_
        refine V.iinc (v := (l4 + 6)) (lv' := [(4, .int (l4 + 6)), (6, .int r7.1), (5, .int r3.1), (0, .ref xSC), (1, .ref l1), (2, .ref l2), (3, .ref l3)]) dL_law_2811 6 rfl rfl (Nat.le_of_ble_eq_true rfl) rfl ?_
        refine V.goto (tgt := 23) dL_law_2814 (by decide) ?_
        refine V.sub [3, 4, 5, 6, 0] rfl ?_
        exact hk23 _ _ _ _ _ _ hf
      · rw [if_neg c13] at hf
        refine V.iconst (v := (0 : Int32)) dL_law_938 (by decide) ?_
        obtain rfl := Option.some.inj hf
        exact V.zret dL_law_939 (by first | rfl | assumption)
  · rw [if_neg c10] at hf
    refine V.iconst (v := (0 : Int32)) dL_law_921 (by decide) ?_
    obtain rfl := Option.some.inj hf
    exact V.zret dL_law_922 (by first | rfl | assumption)

set_option maxRecDepth 20000 in
theorem w_L_law_943 (L : Nat) (xs : Nat → Int32) (h : xH) {k23 : xH → Nat → Nat → Nat → Int32 → Option (Int32 × xH)} (hk23 : ∀ (h : xH) (l1 : Nat) (l2 : Nat) (l3 : Nat) (l4 : Int32) (r : Int32 × xH), k23 h l1 l2 l3 l4 = some r → V 51 yL_law cL_law 8 (some .boolean) [] (some (L, xs)) 23 [(0, .ref xSC), (1, .ref l1), (2, .ref l2), (3, .ref l3), (4, .int l4)] [] h (oIh r)) (l1 : Nat) (l2 : Nat) (l3 : Nat) (l4 : Int32) (r : Int32 × xH) (hf : f_L_law_943 L xs k23 h l1 l2 l3 l4 = some r) : V 51 yL_law cL_law 8 (some .boolean) [] (some (L, xs)) 943 [(0, .ref xSC), (1, .ref l1), (2, .ref l2), (3, .ref l3), (4, .int l4)] [] h (oIh r) := by
  unfold f_L_law_943 at hf
  refine V.aload_n dL_law_943 rfl 1 rfl ?_
  refine V.aload_n dL_law_944 rfl 0 rfl ?_
  refine V.iload dL_law_945 4 rfl ?_
  refine V.iconst (v := (1 : Int32)) dL_law_947 (by decide) ?_
  refine V.iadd dL_law_948 ?_
  obtain ⟨v1, e111, hf⟩ := bS hf
  refine V.xldS rfl dL_law_949 e111 ?_
  refine V.aload_n dL_law_950 rfl 3 rfl ?_
  obtain ⟨r2, e112, hf⟩ := bS hf
  refine V.callSW (As := [.ref l1, .int v1, .ref l3]) (st := []) dL_law_951 cw_RL_186 (by decide) rfl (Nat.le_of_ble_eq_true rfl) rfl (w_L_dark _ _ _ _ _ e112) ?_
  refine V.istore (lv' := [(5, .int r2.1), (0, .ref xSC), (1, .ref l1), (2, .ref l2), (3, .ref l3), (4, .int l4)]) dL_law_954 (by decide) rfl ?_
  refine V.aload_n dL_law_956 rfl 3 rfl ?_
  refine V.aload_n dL_law_957 rfl 1 rfl ?_
  refine V.iload dL_law_958 5 rfl ?_
  refine V.iconst (v := (1 : Int32)) dL_law_960 (by decide) ?_
  refine V.iadd dL_law_961 ?_
  obtain ⟨v3, e113, hf⟩ := bS hf
  refine V.xldS rfl dL_law_962 e113 ?_
  obtain ⟨q4, e114, hf⟩ := bS hf
  obtain ⟨r5, e115, hf⟩ := bS hf
  refine V.callV (As := [.int v3]) (st := []) dL_law_963 cl_RL_188 sw_yX12_dark (by decide) rfl (Nat.le_of_ble_eq_true rfl) rfl (gO_some e114) rfl (w_X12_dark _ _ _ _ e115) ?_
  refine V.istore (lv' := [(6, .int r5.1), (5, .int r2.1), (0, .ref xSC), (1, .ref l1), (2, .ref l2), (3, .ref l3), (4, .int l4)]) dL_law_966 (by decide) rfl ?_
  refine V.aload_n dL_law_968 rfl 4 rfl ?_
  obtain ⟨q6, e116, hf⟩ := bS hf
  obtain ⟨r7, e117, hf⟩ := bS hf
  refine V.callV (As := []) (st := []) dL_law_969 cl_RL_148 sw_yX12_thrown (by decide) rfl (Nat.le_of_ble_eq_true rfl) rfl (gO_some e116) rfl (w_X12_thrown _ _ _ e117) ?_
  refine V.iload dL_law_972 1 rfl ?_
  refine V.icmp_eq (tgt := 979) dL_law_974 (by decide) (fun c8 => ?_) (fun c8 => ?_)
  · rw [if_pos c8] at hf
    refine V.iload dL_law_979 1 rfl ?_
    refine V.if_ne (tgt := 996) dL_law_981 (by decide) (fun c9 => ?_) (fun c9 => ?_)
    · rw [if_neg c9] at hf
      refine V.goto (tgt := 2811) dL_law_996 (by decide) ?_
      refine V.iinc (v := (l4 + 6)) (lv' := [(4, .int (l4 + 6)), (6, .int r5.1), (5, .int r2.1), (0, .ref xSC), (1, .ref l1), (2, .ref l2), (3, .ref l3)]) dL_law_2811 6 rfl rfl (Nat.le_of_ble_eq_true rfl) rfl ?_
      refine V.goto (tgt := 23) dL_law_2814 (by decide) ?_
      refine V.sub [3, 4, 5, 6, 0] rfl ?_
      exact hk23 _ _ _ _ _ _ hf
    · rw [if_pos c9] at hf
      refine V.aload_n dL_law_984 rfl 5 rfl ?_
      refine V.iconst (v := (0 : Int32)) dL_law_985 (by decide) ?_
      obtain ⟨v10, e118, hf⟩ := bS hf
      refine V.xldJ dL_law_986 e118 ?_
      refine V.iload dL_law_987 0 rfl ?_
      refine V.i2l dL_law_989 ?_
      refine V.lcmp dL_law_990 ?_
      refine V.if_eq (tgt := 996) dL_law_991 (by decide) (fun c11 => ?_) (fun c11 => ?_)
      · rw [if_pos c11] at hf
        refine V.goto (tgt := 2811) dL_law_996 (by decide) ?_
        refine V.iinc (v := (l4 + 6)) (lv' := [(4, .int (l4 + 6)), (6, .int r5.1), (5, .int r2.1), (0, .ref xSC), (1, .ref l1), (2, .ref l2), (3, .ref l3)]) dL_law_2811 6 rfl rfl (Nat.le_of_ble_eq_true rfl) rfl ?_
        refine V.goto (tgt := 23) dL_law_2814 (by decide) ?_
        refine V.sub [3, 4, 5, 6, 0] rfl ?_
        exact hk23 _ _ _ _ _ _ hf
      · rw [if_neg c11] at hf
        refine V.iconst (v := (0 : Int32)) dL_law_994 (by decide) ?_
        obtain rfl := Option.some.inj hf
        exact V.zret dL_law_995 (by first | rfl | assumption)
  · rw [if_neg c8] at hf
    refine V.iconst (v := (0 : Int32)) dL_law_977 (by decide) ?_
    obtain rfl := Option.some.inj hf
    exact V.zret dL_law_978 (by first | rfl | assumption)

set_option maxRecDepth 20000 in
theorem w_L_law_999 (L : Nat) (xs : Nat → Int32) (h : xH) {k23 : xH → Nat → Nat → Nat → Int32 → Option (Int32 × xH)} (hk23 : ∀ (h : xH) (l1 : Nat) (l2 : Nat) (l3 : Nat) (l4 : Int32) (r : Int32 × xH), k23 h l1 l2 l3 l4 = some r → V 51 yL_law cL_law 8 (some .boolean) [] (some (L, xs)) 23 [(0, .ref xSC), (1, .ref l1), (2, .ref l2), (3, .ref l3), (4, .int l4)] [] h (oIh r)) (l1 : Nat) (l2 : Nat) (l3 : Nat) (l4 : Int32) (r : Int32 × xH) (hf : f_L_law_999 L xs k23 h l1 l2 l3 l4 = some r) : V 51 yL_law cL_law 8 (some .boolean) [] (some (L, xs)) 999 [(0, .ref xSC), (1, .ref l1), (2, .ref l2), (3, .ref l3), (4, .int l4)] [] h (oIh r) := by
  unfold f_L_law_999 at hf
  refine V.aload_n dL_law_999 rfl 1 rfl ?_
  obtain ⟨q1, e119, hf⟩ := bS hf
  obtain ⟨r2, e120, hf⟩ := bS hf
  refine V.callV (As := []) (st := []) dL_law_1000 cl_RL_189 sw_yX11_judge (by decide) rfl (Nat.le_of_ble_eq_true rfl) rfl (gO_some e119) rfl (w_X11_judge _ _ _ e120) ?_
  refine V.aload_n dL_law_1003 rfl 2 rfl ?_
  obtain ⟨q3, e121, hf⟩ := bS hf
  obtain ⟨r4, e122, hf⟩ := bS hf
  refine V.callV (As := []) (st := [.int (r2.1)]) dL_law_1004 cl_RL_192 sw_yX12_judge (by decide) rfl (Nat.le_of_ble_eq_true rfl) rfl (gO_some e121) rfl (w_X12_judge _ _ _ e122) ?_
  refine V.icmp_eq (tgt := 2811) dL_law_1007 (by decide) (fun c5 => ?_) (fun c5 => ?_)
  · rw [if_pos c5] at hf
    refine V.iinc (v := (l4 + 6)) (lv' := [(4, .int (l4 + 6)), (0, .ref xSC), (1, .ref l1), (2, .ref l2), (3, .ref l3)]) dL_law_2811 4 rfl rfl (Nat.le_of_ble_eq_true rfl) rfl ?_
    refine V.goto (tgt := 23) dL_law_2814 (by decide) ?_
    refine V.sub [1, 2, 3, 4, 0] rfl ?_
    exact hk23 _ _ _ _ _ _ hf
  · rw [if_neg c5] at hf
    refine V.iconst (v := (0 : Int32)) dL_law_1010 (by decide) ?_
    obtain rfl := Option.some.inj hf
    exact V.zret dL_law_1011 (by first | rfl | assumption)

set_option maxRecDepth 20000 in
theorem w_L_law_1012 (L : Nat) (xs : Nat → Int32) (h : xH) {k23 : xH → Nat → Nat → Nat → Int32 → Option (Int32 × xH)} (hk23 : ∀ (h : xH) (l1 : Nat) (l2 : Nat) (l3 : Nat) (l4 : Int32) (r : Int32 × xH), k23 h l1 l2 l3 l4 = some r → V 51 yL_law cL_law 8 (some .boolean) [] (some (L, xs)) 23 [(0, .ref xSC), (1, .ref l1), (2, .ref l2), (3, .ref l3), (4, .int l4)] [] h (oIh r)) (l1 : Nat) (l2 : Nat) (l3 : Nat) (l4 : Int32) (r : Int32 × xH) (hf : f_L_law_1012 L xs k23 h l1 l2 l3 l4 = some r) : V 51 yL_law cL_law 8 (some .boolean) [] (some (L, xs)) 1012 [(0, .ref xSC), (1, .ref l1), (2, .ref l2), (3, .ref l3), (4, .int l4)] [] h (oIh r) := by
  unfold f_L_law_1012 at hf
  refine V.aload_n dL_law_1012 rfl 1 rfl ?_
  refine V.aload_n dL_law_1013 rfl 0 rfl ?_
  refine V.iload dL_law_1014 4 rfl ?_
  refine V.iconst (v := (1 : Int32)) dL_law_1016 (by decide) ?_
  refine V.iadd dL_law_1017 ?_
  obtain ⟨v1, e123, hf⟩ := bS hf
  refine V.xldS rfl dL_law_1018 e123 ?_
  refine V.aload_n dL_law_1019 rfl 0 rfl ?_
  refine V.iload dL_law_1020 4 rfl ?_
  refine V.iconst (v := (2 : Int32)) dL_law_1022 (by decide) ?_
  refine V.iadd dL_law_1023 ?_
  obtain ⟨v2, e124, hf⟩ := bS hf
  refine V.xldS rfl dL_law_1024 e124 ?_
  refine V.aload_n dL_law_1025 rfl 3 rfl ?_
  obtain ⟨r3, e125, hf⟩ := bS hf
  refine V.callSW (As := [.ref l1, .int v1, .int v2, .ref l3]) (st := []) dL_law_1026 cw_RL_193 (by decide) rfl (Nat.le_of_ble_eq_true rfl) rfl (w_L_out _ _ _ _ _ _ e125) ?_
  refine V.istore (lv' := [(5, .int r3.1), (0, .ref xSC), (1, .ref l1), (2, .ref l2), (3, .ref l3), (4, .int l4)]) dL_law_1029 (by decide) rfl ?_
  refine V.aload_n dL_law_1031 rfl 3 rfl ?_
  refine V.aload_n dL_law_1032 rfl 1 rfl ?_
  refine V.iload dL_law_1033 5 rfl ?_
  refine V.iconst (v := (1 : Int32)) dL_law_1035 (by decide) ?_
  refine V.iadd dL_law_1036 ?_
  obtain ⟨v4, e126, hf⟩ := bS hf
  refine V.xldS rfl dL_law_1037 e126 ?_
  refine V.aload_n dL_law_1038 rfl 1 rfl ?_
  refine V.iload dL_law_1039 5 rfl ?_
  refine V.iconst (v := (2 : Int32)) dL_law_1041 (by decide) ?_
  refine V.iadd dL_law_1042 ?_
  obtain ⟨v5, e127, hf⟩ := bS hf
  refine V.xldS rfl dL_law_1043 e127 ?_
  obtain ⟨q6, e128, hf⟩ := bS hf
  obtain ⟨r7, e129, hf⟩ := bS hf
  refine V.callV (As := [.int v4, .int v5]) (st := []) dL_law_1044 cl_RL_195 sw_yX12_out (by decide) rfl (Nat.le_of_ble_eq_true rfl) rfl (gO_some e128) rfl (w_X12_out _ _ _ _ _ e129) ?_
  refine V.istore (lv' := [(6, .int r7.1), (5, .int r3.1), (0, .ref xSC), (1, .ref l1), (2, .ref l2), (3, .ref l3), (4, .int l4)]) dL_law_1047 (by decide) rfl ?_
  refine V.aload_n dL_law_1049 rfl 4 rfl ?_
  obtain ⟨q8, e130, hf⟩ := bS hf
  obtain ⟨r9, e131, hf⟩ := bS hf
  refine V.callV (As := []) (st := []) dL_law_1050 cl_RL_148 sw_yX12_thrown (by decide) rfl (Nat.le_of_ble_eq_true rfl) rfl (gO_some e130) rfl (w_X12_thrown _ _ _ e131) ?_
  refine V.iload dL_law_1053 1 rfl ?_
  refine V.icmp_eq (tgt := 1060) dL_law_1055 (by decide) (fun c10 => ?_) (fun c10 => ?_)
  · rw [if_pos c10] at hf
    refine V.iload dL_law_1060 1 rfl ?_
    refine V.if_ne (tgt := 1077) dL_law_1062 (by decide) (fun c11 => ?_) (fun c11 => ?_)
    · rw [if_neg c11] at hf
      refine V.goto (tgt := 2811) dL_law_1077 (by decide) ?_
      refine V.iinc (v := (l4 + 6)) (lv' := [(4, .int (l4 + 6)), (6, .int r7.1), (5, .int r3.1), (0, .ref xSC), (1, .ref l1), (2, .ref l2), (3, .ref l3)]) dL_law_2811 6 rfl rfl (Nat.le_of_ble_eq_true rfl) rfl ?_
      refine V.goto (tgt := 23) dL_law_2814 (by decide) ?_
      refine V.sub [3, 4, 5, 6, 0] rfl ?_
      exact hk23 _ _ _ _ _ _ hf
    · rw [if_pos c11] at hf
      refine V.aload_n dL_law_1065 rfl 5 rfl ?_
      refine V.iconst (v := (0 : Int32)) dL_law_1066 (by decide) ?_
      obtain ⟨v12, e132, hf⟩ := bS hf
      refine V.xldJ dL_law_1067 e132 ?_
      refine V.iload dL_law_1068 0 rfl ?_
      refine V.i2l dL_law_1070 ?_
      refine V.lcmp dL_law_1071 ?_
      refine V.if_eq (tgt := 1077) dL_law_1072 (by decide) (fun c13 => ?_) (fun c13 => ?_)
      · rw [if_pos c13] at hf
        refine V.goto (tgt := 2811) dL_law_1077 (by decide) ?_
        refine V.iinc (v := (l4 + 6)) (lv' := [(4, .int (l4 + 6)), (6, .int r7.1), (5, .int r3.1), (0, .ref xSC), (1, .ref l1), (2, .ref l2), (3, .ref l3)]) dL_law_2811 6 rfl rfl (Nat.le_of_ble_eq_true rfl) rfl ?_
        refine V.goto (tgt := 23) dL_law_2814 (by decide) ?_
        refine V.sub [3, 4, 5, 6, 0] rfl ?_
        exact hk23 _ _ _ _ _ _ hf
      · rw [if_neg c13] at hf
        refine V.iconst (v := (0 : Int32)) dL_law_1075 (by decide) ?_
        obtain rfl := Option.some.inj hf
        exact V.zret dL_law_1076 (by first | rfl | assumption)
  · rw [if_neg c10] at hf
    refine V.iconst (v := (0 : Int32)) dL_law_1058 (by decide) ?_
    obtain rfl := Option.some.inj hf
    exact V.zret dL_law_1059 (by first | rfl | assumption)

set_option maxRecDepth 20000 in
theorem w_L_law_1080 (L : Nat) (xs : Nat → Int32) (h : xH) {k23 : xH → Nat → Nat → Nat → Int32 → Option (Int32 × xH)} (hk23 : ∀ (h : xH) (l1 : Nat) (l2 : Nat) (l3 : Nat) (l4 : Int32) (r : Int32 × xH), k23 h l1 l2 l3 l4 = some r → V 51 yL_law cL_law 8 (some .boolean) [] (some (L, xs)) 23 [(0, .ref xSC), (1, .ref l1), (2, .ref l2), (3, .ref l3), (4, .int l4)] [] h (oIh r)) (l1 : Nat) (l2 : Nat) (l3 : Nat) (l4 : Int32) (r : Int32 × xH) (hf : f_L_law_1080 L xs k23 h l1 l2 l3 l4 = some r) : V 51 yL_law cL_law 8 (some .boolean) [] (some (L, xs)) 1080 [(0, .ref xSC), (1, .ref l1), (2, .ref l2), (3, .ref l3), (4, .int l4)] [] h (oIh r) := by
  unfold f_L_law_1080 at hf
  refine V.aload_n dL_law_1080 rfl 1 rfl ?_
  refine V.aload_n dL_law_1081 rfl 0 rfl ?_
  refine V.iload dL_law_1082 4 rfl ?_
  refine V.iconst (v := (1 : Int32)) dL_law_1084 (by decide) ?_
  refine V.iadd dL_law_1085 ?_
  obtain ⟨v1, e133, hf⟩ := bS hf
  refine V.xldS rfl dL_law_1086 e133 ?_
  refine V.aload_n dL_law_1087 rfl 3 rfl ?_
  obtain ⟨r2, e134, hf⟩ := bS hf
  refine V.callSW (As := [.ref l1, .int v1, .ref l3]) (st := []) dL_law_1088 cw_RL_196 (by decide) rfl (Nat.le_of_ble_eq_true rfl) rfl (w_L_spare _ _ _ _ _ e134) ?_
  refine V.istore (lv' := [(5, .int r2.1), (0, .ref xSC), (1, .ref l1), (2, .ref l2), (3, .ref l3), (4, .int l4)]) dL_law_1091 (by decide) rfl ?_
  refine V.aload_n dL_law_1093 rfl 3 rfl ?_
  refine V.aload_n dL_law_1094 rfl 1 rfl ?_
  refine V.iload dL_law_1095 5 rfl ?_
  refine V.iconst (v := (1 : Int32)) dL_law_1097 (by decide) ?_
  refine V.iadd dL_law_1098 ?_
  obtain ⟨v3, e135, hf⟩ := bS hf
  refine V.xldS rfl dL_law_1099 e135 ?_
  obtain ⟨q4, e136, hf⟩ := bS hf
  obtain ⟨r5, e137, hf⟩ := bS hf
  refine V.callV (As := [.int v3]) (st := []) dL_law_1100 cl_RL_198 sw_yX12_spare (by decide) rfl (Nat.le_of_ble_eq_true rfl) rfl (gO_some e136) rfl (w_X12_spare _ _ _ _ e137) ?_
  refine V.istore (lv' := [(6, .int r5.1), (5, .int r2.1), (0, .ref xSC), (1, .ref l1), (2, .ref l2), (3, .ref l3), (4, .int l4)]) dL_law_1103 (by decide) rfl ?_
  refine V.aload_n dL_law_1105 rfl 4 rfl ?_
  obtain ⟨q6, e138, hf⟩ := bS hf
  obtain ⟨r7, e139, hf⟩ := bS hf
  refine V.callV (As := []) (st := []) dL_law_1106 cl_RL_148 sw_yX12_thrown (by decide) rfl (Nat.le_of_ble_eq_true rfl) rfl (gO_some e138) rfl (w_X12_thrown _ _ _ e139) ?_
  refine V.iload dL_law_1109 1 rfl ?_
  refine V.icmp_eq (tgt := 1116) dL_law_1111 (by decide) (fun c8 => ?_) (fun c8 => ?_)
  · rw [if_pos c8] at hf
    refine V.iload dL_law_1116 1 rfl ?_
    refine V.if_ne (tgt := 1133) dL_law_1118 (by decide) (fun c9 => ?_) (fun c9 => ?_)
    · rw [if_neg c9] at hf
      refine V.goto (tgt := 2811) dL_law_1133 (by decide) ?_
      refine V.iinc (v := (l4 + 6)) (lv' := [(4, .int (l4 + 6)), (6, .int r5.1), (5, .int r2.1), (0, .ref xSC), (1, .ref l1), (2, .ref l2), (3, .ref l3)]) dL_law_2811 6 rfl rfl (Nat.le_of_ble_eq_true rfl) rfl ?_
      refine V.goto (tgt := 23) dL_law_2814 (by decide) ?_
      refine V.sub [3, 4, 5, 6, 0] rfl ?_
      exact hk23 _ _ _ _ _ _ hf
    · rw [if_pos c9] at hf
      refine V.aload_n dL_law_1121 rfl 5 rfl ?_
      refine V.iconst (v := (0 : Int32)) dL_law_1122 (by decide) ?_
      obtain ⟨v10, e140, hf⟩ := bS hf
      refine V.xldJ dL_law_1123 e140 ?_
      refine V.iload dL_law_1124 0 rfl ?_
      refine V.i2l dL_law_1126 ?_
      refine V.lcmp dL_law_1127 ?_
      refine V.if_eq (tgt := 1133) dL_law_1128 (by decide) (fun c11 => ?_) (fun c11 => ?_)
      · rw [if_pos c11] at hf
        refine V.goto (tgt := 2811) dL_law_1133 (by decide) ?_
        refine V.iinc (v := (l4 + 6)) (lv' := [(4, .int (l4 + 6)), (6, .int r5.1), (5, .int r2.1), (0, .ref xSC), (1, .ref l1), (2, .ref l2), (3, .ref l3)]) dL_law_2811 6 rfl rfl (Nat.le_of_ble_eq_true rfl) rfl ?_
        refine V.goto (tgt := 23) dL_law_2814 (by decide) ?_
        refine V.sub [3, 4, 5, 6, 0] rfl ?_
        exact hk23 _ _ _ _ _ _ hf
      · rw [if_neg c11] at hf
        refine V.iconst (v := (0 : Int32)) dL_law_1131 (by decide) ?_
        obtain rfl := Option.some.inj hf
        exact V.zret dL_law_1132 (by first | rfl | assumption)
  · rw [if_neg c8] at hf
    refine V.iconst (v := (0 : Int32)) dL_law_1114 (by decide) ?_
    obtain rfl := Option.some.inj hf
    exact V.zret dL_law_1115 (by first | rfl | assumption)

set_option maxRecDepth 20000 in
theorem w_L_law_1136 (L : Nat) (xs : Nat → Int32) (h : xH) {k23 : xH → Nat → Nat → Nat → Int32 → Option (Int32 × xH)} (hk23 : ∀ (h : xH) (l1 : Nat) (l2 : Nat) (l3 : Nat) (l4 : Int32) (r : Int32 × xH), k23 h l1 l2 l3 l4 = some r → V 51 yL_law cL_law 8 (some .boolean) [] (some (L, xs)) 23 [(0, .ref xSC), (1, .ref l1), (2, .ref l2), (3, .ref l3), (4, .int l4)] [] h (oIh r)) (l1 : Nat) (l2 : Nat) (l3 : Nat) (l4 : Int32) (r : Int32 × xH) (hf : f_L_law_1136 L xs k23 h l1 l2 l3 l4 = some r) : V 51 yL_law cL_law 8 (some .boolean) [] (some (L, xs)) 1136 [(0, .ref xSC), (1, .ref l1), (2, .ref l2), (3, .ref l3), (4, .int l4)] [] h (oIh r) := by
  unfold f_L_law_1136 at hf
  refine V.aload_n dL_law_1136 rfl 1 rfl ?_
  refine V.aload_n dL_law_1137 rfl 0 rfl ?_
  refine V.iload dL_law_1138 4 rfl ?_
  refine V.iconst (v := (1 : Int32)) dL_law_1140 (by decide) ?_
  refine V.iadd dL_law_1141 ?_
  obtain ⟨v1, e141, hf⟩ := bS hf
  refine V.xldS rfl dL_law_1142 e141 ?_
  refine V.aload_n dL_law_1143 rfl 3 rfl ?_
  obtain ⟨r2, e142, hf⟩ := bS hf
  refine V.callSW (As := [.ref l1, .int v1, .ref l3]) (st := []) dL_law_1144 cw_RL_199 (by decide) rfl (Nat.le_of_ble_eq_true rfl) rfl (w_L_angry _ _ _ _ _ e142) ?_
  refine V.istore (lv' := [(5, .int r2.1), (0, .ref xSC), (1, .ref l1), (2, .ref l2), (3, .ref l3), (4, .int l4)]) dL_law_1147 (by decide) rfl ?_
  refine V.aload_n dL_law_1149 rfl 3 rfl ?_
  refine V.aload_n dL_law_1150 rfl 1 rfl ?_
  refine V.iload dL_law_1151 5 rfl ?_
  refine V.iconst (v := (1 : Int32)) dL_law_1153 (by decide) ?_
  refine V.iadd dL_law_1154 ?_
  obtain ⟨v3, e143, hf⟩ := bS hf
  refine V.xldS rfl dL_law_1155 e143 ?_
  obtain ⟨q4, e144, hf⟩ := bS hf
  obtain ⟨r5, e145, hf⟩ := bS hf
  refine V.callV (As := [.int v3]) (st := []) dL_law_1156 cl_RL_201 sw_yX12_angry (by decide) rfl (Nat.le_of_ble_eq_true rfl) rfl (gO_some e144) rfl (w_X12_angry _ _ _ _ e145) ?_
  refine V.istore (lv' := [(6, .int r5.1), (5, .int r2.1), (0, .ref xSC), (1, .ref l1), (2, .ref l2), (3, .ref l3), (4, .int l4)]) dL_law_1159 (by decide) rfl ?_
  refine V.aload_n dL_law_1161 rfl 4 rfl ?_
  obtain ⟨q6, e146, hf⟩ := bS hf
  obtain ⟨r7, e147, hf⟩ := bS hf
  refine V.callV (As := []) (st := []) dL_law_1162 cl_RL_148 sw_yX12_thrown (by decide) rfl (Nat.le_of_ble_eq_true rfl) rfl (gO_some e146) rfl (w_X12_thrown _ _ _ e147) ?_
  refine V.iload dL_law_1165 1 rfl ?_
  refine V.icmp_eq (tgt := 1172) dL_law_1167 (by decide) (fun c8 => ?_) (fun c8 => ?_)
  · rw [if_pos c8] at hf
    refine V.iload dL_law_1172 1 rfl ?_
    refine V.if_ne (tgt := 1189) dL_law_1174 (by decide) (fun c9 => ?_) (fun c9 => ?_)
    · rw [if_neg c9] at hf
      refine V.goto (tgt := 2811) dL_law_1189 (by decide) ?_
      refine V.iinc (v := (l4 + 6)) (lv' := [(4, .int (l4 + 6)), (6, .int r5.1), (5, .int r2.1), (0, .ref xSC), (1, .ref l1), (2, .ref l2), (3, .ref l3)]) dL_law_2811 6 rfl rfl (Nat.le_of_ble_eq_true rfl) rfl ?_
      refine V.goto (tgt := 23) dL_law_2814 (by decide) ?_
      refine V.sub [3, 4, 5, 6, 0] rfl ?_
      exact hk23 _ _ _ _ _ _ hf
    · rw [if_pos c9] at hf
      refine V.aload_n dL_law_1177 rfl 5 rfl ?_
      refine V.iconst (v := (0 : Int32)) dL_law_1178 (by decide) ?_
      obtain ⟨v10, e148, hf⟩ := bS hf
      refine V.xldJ dL_law_1179 e148 ?_
      refine V.iload dL_law_1180 0 rfl ?_
      refine V.i2l dL_law_1182 ?_
      refine V.lcmp dL_law_1183 ?_
      refine V.if_eq (tgt := 1189) dL_law_1184 (by decide) (fun c11 => ?_) (fun c11 => ?_)
      · rw [if_pos c11] at hf
        refine V.goto (tgt := 2811) dL_law_1189 (by decide) ?_
        refine V.iinc (v := (l4 + 6)) (lv' := [(4, .int (l4 + 6)), (6, .int r5.1), (5, .int r2.1), (0, .ref xSC), (1, .ref l1), (2, .ref l2), (3, .ref l3)]) dL_law_2811 6 rfl rfl (Nat.le_of_ble_eq_true rfl) rfl ?_
        refine V.goto (tgt := 23) dL_law_2814 (by decide) ?_
        refine V.sub [3, 4, 5, 6, 0] rfl ?_
        exact hk23 _ _ _ _ _ _ hf
      · rw [if_neg c11] at hf
        refine V.iconst (v := (0 : Int32)) dL_law_1187 (by decide) ?_
        obtain rfl := Option.some.inj hf
        exact V.zret dL_law_1188 (by first | rfl | assumption)
  · rw [if_neg c8] at hf
    refine V.iconst (v := (0 : Int32)) dL_law_1170 (by decide) ?_
    obtain rfl := Option.some.inj hf
    exact V.zret dL_law_1171 (by first | rfl | assumption)

set_option maxRecDepth 20000 in
theorem w_L_law_1192 (L : Nat) (xs : Nat → Int32) (h : xH) {k23 : xH → Nat → Nat → Nat → Int32 → Option (Int32 × xH)} (hk23 : ∀ (h : xH) (l1 : Nat) (l2 : Nat) (l3 : Nat) (l4 : Int32) (r : Int32 × xH), k23 h l1 l2 l3 l4 = some r → V 51 yL_law cL_law 8 (some .boolean) [] (some (L, xs)) 23 [(0, .ref xSC), (1, .ref l1), (2, .ref l2), (3, .ref l3), (4, .int l4)] [] h (oIh r)) (l1 : Nat) (l2 : Nat) (l3 : Nat) (l4 : Int32) (r : Int32 × xH) (hf : f_L_law_1192 L xs k23 h l1 l2 l3 l4 = some r) : V 51 yL_law cL_law 8 (some .boolean) [] (some (L, xs)) 1192 [(0, .ref xSC), (1, .ref l1), (2, .ref l2), (3, .ref l3), (4, .int l4)] [] h (oIh r) := by
  unfold f_L_law_1192 at hf
  refine V.aload_n dL_law_1192 rfl 1 rfl ?_
  obtain ⟨q1, e149, hf⟩ := bS hf
  obtain ⟨r2, e150, hf⟩ := bS hf
  refine V.callV (As := []) (st := []) dL_law_1193 cl_RL_202 sw_yX11_oil (by decide) rfl (Nat.le_of_ble_eq_true rfl) rfl (gO_some e149) rfl (w_X11_oil _ _ _ e150) ?_
  refine V.aload_n dL_law_1196 rfl 2 rfl ?_
  obtain ⟨q3, e151, hf⟩ := bS hf
  obtain ⟨r4, e152, hf⟩ := bS hf
  refine V.callV (As := []) (st := [.int r2]) dL_law_1197 cl_RL_205 sw_yX12_oil (by decide) rfl (Nat.le_of_ble_eq_true rfl) rfl (gO_some e151) rfl (w_X12_oil _ _ _ e152) ?_
  refine V.icmp_eq (tgt := 2811) dL_law_1200 (by decide) (fun c5 => ?_) (fun c5 => ?_)
  · rw [if_pos c5] at hf
    refine V.iinc (v := (l4 + 6)) (lv' := [(4, .int (l4 + 6)), (0, .ref xSC), (1, .ref l1), (2, .ref l2), (3, .ref l3)]) dL_law_2811 4 rfl rfl (Nat.le_of_ble_eq_true rfl) rfl ?_
    refine V.goto (tgt := 23) dL_law_2814 (by decide) ?_
    refine V.sub [1, 2, 3, 4, 0] rfl ?_
    exact hk23 _ _ _ _ _ _ hf
  · rw [if_neg c5] at hf
    refine V.iconst (v := (0 : Int32)) dL_law_1203 (by decide) ?_
    obtain rfl := Option.some.inj hf
    exact V.zret dL_law_1204 (by first | rfl | assumption)

set_option maxRecDepth 20000 in
theorem w_L_law_1271 (L : Nat) (xs : Nat → Int32) (h : xH) {k23 : xH → Nat → Nat → Nat → Int32 → Option (Int32 × xH)} (hk23 : ∀ (h : xH) (l1 : Nat) (l2 : Nat) (l3 : Nat) (l4 : Int32) (r : Int32 × xH), k23 h l1 l2 l3 l4 = some r → V 51 yL_law cL_law 8 (some .boolean) [] (some (L, xs)) 23 [(0, .ref xSC), (1, .ref l1), (2, .ref l2), (3, .ref l3), (4, .int l4)] [] h (oIh r)) (l1 : Nat) (l2 : Nat) (l3 : Nat) (l4 : Int32) (s0 : Int64) (s1 : Int64) (r : Int32 × xH) (hf : f_L_law_1271 L xs k23 h l1 l2 l3 l4 s0 s1 = some r) : V 51 yL_law cL_law 8 (some .boolean) [] (some (L, xs)) 1271 [(0, .ref xSC), (1, .ref l1), (2, .ref l2), (3, .ref l3), (4, .int l4)] [.long s0, .long s1] h (oIh r) := by
  unfold f_L_law_1271 at hf
  refine V.lcmp dL_law_1271 ?_
  refine V.if_eq (tgt := 1277) dL_law_1272 (by decide) (fun c1 => ?_) (fun c1 => ?_)
  · rw [if_pos c1] at hf
    refine V.goto (tgt := 2811) dL_law_1277 (by decide) ?_
    refine V.iinc (v := (l4 + 6)) (lv' := [(4, .int (l4 + 6)), (0, .ref xSC), (1, .ref l1), (2, .ref l2), (3, .ref l3)]) dL_law_2811 4 rfl rfl (Nat.le_of_ble_eq_true rfl) rfl ?_
    refine V.goto (tgt := 23) dL_law_2814 (by decide) ?_
    refine V.sub [1, 2, 3, 4, 0] rfl ?_
    exact hk23 _ _ _ _ _ _ hf
  · rw [if_neg c1] at hf
    refine V.iconst (v := (0 : Int32)) dL_law_1275 (by decide) ?_
    obtain rfl := Option.some.inj hf
    exact V.zret dL_law_1276 (by first | rfl | assumption)

set_option maxRecDepth 20000 in
theorem w_L_law_1205 (L : Nat) (xs : Nat → Int32) (h : xH) {k23 : xH → Nat → Nat → Nat → Int32 → Option (Int32 × xH)} (hk23 : ∀ (h : xH) (l1 : Nat) (l2 : Nat) (l3 : Nat) (l4 : Int32) (r : Int32 × xH), k23 h l1 l2 l3 l4 = some r → V 51 yL_law cL_law 8 (some .boolean) [] (some (L, xs)) 23 [(0, .ref xSC), (1, .ref l1), (2, .ref l2), (3, .ref l3), (4, .int l4)] [] h (oIh r)) (l1 : Nat) (l2 : Nat) (l3 : Nat) (l4 : Int32) (r : Int32 × xH) (hf : f_L_law_1205 L xs k23 h l1 l2 l3 l4 = some r) : V 51 yL_law cL_law 8 (some .boolean) [] (some (L, xs)) 1205 [(0, .ref xSC), (1, .ref l1), (2, .ref l2), (3, .ref l3), (4, .int l4)] [] h (oIh r) := by
  unfold f_L_law_1205 at hf
  refine V.aload_n dL_law_1205 rfl 1 rfl ?_
  refine V.aload_n dL_law_1206 rfl 0 rfl ?_
  refine V.iload dL_law_1207 4 rfl ?_
  refine V.iconst (v := (1 : Int32)) dL_law_1209 (by decide) ?_
  refine V.iadd dL_law_1210 ?_
  obtain ⟨v1, e153, hf⟩ := bS hf
  refine V.xldS rfl dL_law_1211 e153 ?_
  refine V.aload_n dL_law_1212 rfl 0 rfl ?_
  refine V.iload dL_law_1213 4 rfl ?_
  refine V.iconst (v := (2 : Int32)) dL_law_1215 (by decide) ?_
  refine V.iadd dL_law_1216 ?_
  obtain ⟨v2, e154, hf⟩ := bS hf
  refine V.xldS rfl dL_law_1217 e154 ?_
  refine V.aload_n dL_law_1218 rfl 3 rfl ?_
  obtain ⟨r3, e155, hf⟩ := bS hf
  refine V.callSW (As := [.ref l1, .int v1, .int v2, .ref l3]) (st := []) dL_law_1219 cw_RL_206 (by decide) rfl (Nat.le_of_ble_eq_true rfl) rfl (w_L_lights _ _ _ _ _ _ e155) ?_
  refine V.istore (lv' := [(5, .int r3.1), (0, .ref xSC), (1, .ref l1), (2, .ref l2), (3, .ref l3), (4, .int l4)]) dL_law_1222 (by decide) rfl ?_
  refine V.aload_n dL_law_1224 rfl 3 rfl ?_
  refine V.aload_n dL_law_1225 rfl 1 rfl ?_
  refine V.iload dL_law_1226 5 rfl ?_
  refine V.iconst (v := (1 : Int32)) dL_law_1228 (by decide) ?_
  refine V.iadd dL_law_1229 ?_
  obtain ⟨v4, e156, hf⟩ := bS hf
  refine V.xldS rfl dL_law_1230 e156 ?_
  refine V.aload_n dL_law_1231 rfl 1 rfl ?_
  refine V.iload dL_law_1232 5 rfl ?_
  refine V.iconst (v := (2 : Int32)) dL_law_1234 (by decide) ?_
  refine V.iadd dL_law_1235 ?_
  obtain ⟨v5, e157, hf⟩ := bS hf
  refine V.xldS rfl dL_law_1236 e157 ?_
  obtain ⟨q6, e158, hf⟩ := bS hf
  obtain ⟨r7, e159, hf⟩ := bS hf
  refine V.callV (As := [.int v4, .int v5]) (st := []) dL_law_1237 cl_RL_208 sw_yX12_lights (by decide) rfl (Nat.le_of_ble_eq_true rfl) rfl (gO_some e158) rfl (w_X12_lights _ _ _ _ _ e159) ?_
  refine V.istore (lv' := [(6, .int r7.1), (5, .int r3.1), (0, .ref xSC), (1, .ref l1), (2, .ref l2), (3, .ref l3), (4, .int l4)]) dL_law_1240 (by decide) rfl ?_
  refine V.aload_n dL_law_1242 rfl 4 rfl ?_
  obtain ⟨q8, e160, hf⟩ := bS hf
  obtain ⟨r9, e161, hf⟩ := bS hf
  refine V.callV (As := []) (st := []) dL_law_1243 cl_RL_148 sw_yX12_thrown (by decide) rfl (Nat.le_of_ble_eq_true rfl) rfl (gO_some e160) rfl (w_X12_thrown _ _ _ e161) ?_
  refine V.iload dL_law_1246 1 rfl ?_
  refine V.icmp_eq (tgt := 1253) dL_law_1248 (by decide) (fun c10 => ?_) (fun c10 => ?_)
  · rw [if_pos c10] at hf
    refine V.iload dL_law_1253 1 rfl ?_
    refine V.if_ne (tgt := 1277) dL_law_1255 (by decide) (fun c11 => ?_) (fun c11 => ?_)
    · rw [if_neg c11] at hf
      refine V.goto (tgt := 2811) dL_law_1277 (by decide) ?_
      refine V.iinc (v := (l4 + 6)) (lv' := [(4, .int (l4 + 6)), (6, .int r7.1), (5, .int r3.1), (0, .ref xSC), (1, .ref l1), (2, .ref l2), (3, .ref l3)]) dL_law_2811 6 rfl rfl (Nat.le_of_ble_eq_true rfl) rfl ?_
      refine V.goto (tgt := 23) dL_law_2814 (by decide) ?_
      refine V.sub [3, 4, 5, 6, 0] rfl ?_
      exact hk23 _ _ _ _ _ _ hf
    · rw [if_pos c11] at hf
      refine V.aload_n dL_law_1258 rfl 5 rfl ?_
      refine V.iconst (v := (0 : Int32)) dL_law_1259 (by decide) ?_
      obtain ⟨v12, e162, hf⟩ := bS hf
      refine V.xldJ dL_law_1260 e162 ?_
      refine V.iload dL_law_1261 0 rfl ?_
      refine V.if_eq (tgt := 1270) dL_law_1263 (by decide) (fun c13 => ?_) (fun c13 => ?_)
      · rw [if_pos c13] at hf
        refine V.lconst (v := 0) dL_law_1270 (by decide) ?_
        refine V.sub [2, 3, 4, 5, 6] rfl ?_
        exact w_L_law_1271 L xs _ hk23 _ _ _ _ _ _ _ hf
      · rw [if_neg c13] at hf
        refine V.lconst (v := 1) dL_law_1266 (by decide) ?_
        refine V.goto (tgt := 1271) dL_law_1267 (by decide) ?_
        refine V.sub [2, 3, 4, 5, 6] rfl ?_
        exact w_L_law_1271 L xs _ hk23 _ _ _ _ _ _ _ hf
  · rw [if_neg c10] at hf
    refine V.iconst (v := (0 : Int32)) dL_law_1251 (by decide) ?_
    obtain rfl := Option.some.inj hf
    exact V.zret dL_law_1252 (by first | rfl | assumption)

set_option maxRecDepth 20000 in
theorem w_L_law_1280 (L : Nat) (xs : Nat → Int32) (h : xH) {k23 : xH → Nat → Nat → Nat → Int32 → Option (Int32 × xH)} (hk23 : ∀ (h : xH) (l1 : Nat) (l2 : Nat) (l3 : Nat) (l4 : Int32) (r : Int32 × xH), k23 h l1 l2 l3 l4 = some r → V 51 yL_law cL_law 8 (some .boolean) [] (some (L, xs)) 23 [(0, .ref xSC), (1, .ref l1), (2, .ref l2), (3, .ref l3), (4, .int l4)] [] h (oIh r)) (l1 : Nat) (l2 : Nat) (l3 : Nat) (l4 : Int32) (r : Int32 × xH) (hf : f_L_law_1280 L xs k23 h l1 l2 l3 l4 = some r) : V 51 yL_law cL_law 8 (some .boolean) [] (some (L, xs)) 1280 [(0, .ref xSC), (1, .ref l1), (2, .ref l2), (3, .ref l3), (4, .int l4)] [] h (oIh r) := by
  unfold f_L_law_1280 at hf
  refine V.aload_n dL_law_1280 rfl 1 rfl ?_
  refine V.aload_n dL_law_1281 rfl 0 rfl ?_
  refine V.iload dL_law_1282 4 rfl ?_
  refine V.iconst (v := (1 : Int32)) dL_law_1284 (by decide) ?_
  refine V.iadd dL_law_1285 ?_
  obtain ⟨v1, e163, hf⟩ := bS hf
  refine V.xldS rfl dL_law_1286 e163 ?_
  refine V.aload_n dL_law_1287 rfl 3 rfl ?_
  obtain ⟨r2, e164, hf⟩ := bS hf
  refine V.callSW (As := [.ref l1, .int v1, .ref l3]) (st := []) dL_law_1288 cw_RL_209 (by decide) rfl (Nat.le_of_ble_eq_true rfl) rfl (w_L_best _ _ _ _ _ e164) ?_
  refine V.istore (lv' := [(5, .int r2.1), (0, .ref xSC), (1, .ref l1), (2, .ref l2), (3, .ref l3), (4, .int l4)]) dL_law_1291 (by decide) rfl ?_
  refine V.aload_n dL_law_1293 rfl 3 rfl ?_
  refine V.aload_n dL_law_1294 rfl 1 rfl ?_
  refine V.iload dL_law_1295 5 rfl ?_
  refine V.iconst (v := (1 : Int32)) dL_law_1297 (by decide) ?_
  refine V.iadd dL_law_1298 ?_
  obtain ⟨v3, e165, hf⟩ := bS hf
  refine V.xldS rfl dL_law_1299 e165 ?_
  obtain ⟨q4, e166, hf⟩ := bS hf
  obtain ⟨r5, e167, hf⟩ := bS hf
  refine V.callV (As := [.int v3]) (st := []) dL_law_1300 cl_RL_211 sw_yX12_best (by decide) rfl (Nat.le_of_ble_eq_true rfl) rfl (gO_some e166) rfl (w_X12_best _ _ _ _ e167) ?_
  refine V.istore (lv' := [(6, .int r5.1), (5, .int r2.1), (0, .ref xSC), (1, .ref l1), (2, .ref l2), (3, .ref l3), (4, .int l4)]) dL_law_1303 (by decide) rfl ?_
  refine V.aload_n dL_law_1305 rfl 4 rfl ?_
  obtain ⟨q6, e168, hf⟩ := bS hf
  obtain ⟨r7, e169, hf⟩ := bS hf
  refine V.callV (As := []) (st := []) dL_law_1306 cl_RL_148 sw_yX12_thrown (by decide) rfl (Nat.le_of_ble_eq_true rfl) rfl (gO_some e168) rfl (w_X12_thrown _ _ _ e169) ?_
  refine V.iload dL_law_1309 1 rfl ?_
  refine V.icmp_eq (tgt := 1316) dL_law_1311 (by decide) (fun c8 => ?_) (fun c8 => ?_)
  · rw [if_pos c8] at hf
    refine V.iload dL_law_1316 1 rfl ?_
    refine V.if_ne (tgt := 1333) dL_law_1318 (by decide) (fun c9 => ?_) (fun c9 => ?_)
    · rw [if_neg c9] at hf
      refine V.goto (tgt := 2811) dL_law_1333 (by decide) ?_
      refine V.iinc (v := (l4 + 6)) (lv' := [(4, .int (l4 + 6)), (6, .int r5.1), (5, .int r2.1), (0, .ref xSC), (1, .ref l1), (2, .ref l2), (3, .ref l3)]) dL_law_2811 6 rfl rfl (Nat.le_of_ble_eq_true rfl) rfl ?_
      refine V.goto (tgt := 23) dL_law_2814 (by decide) ?_
      refine V.sub [3, 4, 5, 6, 0] rfl ?_
      exact hk23 _ _ _ _ _ _ hf
    · rw [if_pos c9] at hf
      refine V.aload_n dL_law_1321 rfl 5 rfl ?_
      refine V.iconst (v := (0 : Int32)) dL_law_1322 (by decide) ?_
      obtain ⟨v10, e170, hf⟩ := bS hf
      refine V.xldJ dL_law_1323 e170 ?_
      refine V.iload dL_law_1324 0 rfl ?_
      refine V.i2l dL_law_1326 ?_
      refine V.lcmp dL_law_1327 ?_
      refine V.if_eq (tgt := 1333) dL_law_1328 (by decide) (fun c11 => ?_) (fun c11 => ?_)
      · rw [if_pos c11] at hf
        refine V.goto (tgt := 2811) dL_law_1333 (by decide) ?_
        refine V.iinc (v := (l4 + 6)) (lv' := [(4, .int (l4 + 6)), (6, .int r5.1), (5, .int r2.1), (0, .ref xSC), (1, .ref l1), (2, .ref l2), (3, .ref l3)]) dL_law_2811 6 rfl rfl (Nat.le_of_ble_eq_true rfl) rfl ?_
        refine V.goto (tgt := 23) dL_law_2814 (by decide) ?_
        refine V.sub [3, 4, 5, 6, 0] rfl ?_
        exact hk23 _ _ _ _ _ _ hf
      · rw [if_neg c11] at hf
        refine V.iconst (v := (0 : Int32)) dL_law_1331 (by decide) ?_
        obtain rfl := Option.some.inj hf
        exact V.zret dL_law_1332 (by first | rfl | assumption)
  · rw [if_neg c8] at hf
    refine V.iconst (v := (0 : Int32)) dL_law_1314 (by decide) ?_
    obtain rfl := Option.some.inj hf
    exact V.zret dL_law_1315 (by first | rfl | assumption)

set_option maxRecDepth 20000 in
theorem w_L_law_1336 (L : Nat) (xs : Nat → Int32) (h : xH) {k23 : xH → Nat → Nat → Nat → Int32 → Option (Int32 × xH)} (hk23 : ∀ (h : xH) (l1 : Nat) (l2 : Nat) (l3 : Nat) (l4 : Int32) (r : Int32 × xH), k23 h l1 l2 l3 l4 = some r → V 51 yL_law cL_law 8 (some .boolean) [] (some (L, xs)) 23 [(0, .ref xSC), (1, .ref l1), (2, .ref l2), (3, .ref l3), (4, .int l4)] [] h (oIh r)) (l1 : Nat) (l2 : Nat) (l3 : Nat) (l4 : Int32) (r : Int32 × xH) (hf : f_L_law_1336 L xs k23 h l1 l2 l3 l4 = some r) : V 51 yL_law cL_law 8 (some .boolean) [] (some (L, xs)) 1336 [(0, .ref xSC), (1, .ref l1), (2, .ref l2), (3, .ref l3), (4, .int l4)] [] h (oIh r) := by
  unfold f_L_law_1336 at hf
  refine V.aload_n dL_law_1336 rfl 1 rfl ?_
  obtain ⟨q1, e171, hf⟩ := bS hf
  obtain ⟨r2, e172, hf⟩ := bS hf
  refine V.callV (As := []) (st := []) dL_law_1337 cl_RL_212 sw_yX11_gap (by decide) rfl (Nat.le_of_ble_eq_true rfl) rfl (gO_some e171) rfl (w_X11_gap _ _ _ e172) ?_
  refine V.aload_n dL_law_1340 rfl 2 rfl ?_
  obtain ⟨q3, e173, hf⟩ := bS hf
  obtain ⟨r4, e174, hf⟩ := bS hf
  refine V.callV (As := []) (st := [.int (r2.1)]) dL_law_1341 cl_RL_215 sw_yX12_gap (by decide) rfl (Nat.le_of_ble_eq_true rfl) rfl (gO_some e173) rfl (w_X12_gap _ _ _ e174) ?_
  refine V.icmp_eq (tgt := 2811) dL_law_1344 (by decide) (fun c5 => ?_) (fun c5 => ?_)
  · rw [if_pos c5] at hf
    refine V.iinc (v := (l4 + 6)) (lv' := [(4, .int (l4 + 6)), (0, .ref xSC), (1, .ref l1), (2, .ref l2), (3, .ref l3)]) dL_law_2811 4 rfl rfl (Nat.le_of_ble_eq_true rfl) rfl ?_
    refine V.goto (tgt := 23) dL_law_2814 (by decide) ?_
    refine V.sub [1, 2, 3, 4, 0] rfl ?_
    exact hk23 _ _ _ _ _ _ hf
  · rw [if_neg c5] at hf
    refine V.iconst (v := (0 : Int32)) dL_law_1347 (by decide) ?_
    obtain rfl := Option.some.inj hf
    exact V.zret dL_law_1348 (by first | rfl | assumption)

set_option maxRecDepth 20000 in
theorem w_L_law_1349 (L : Nat) (xs : Nat → Int32) (h : xH) {k23 : xH → Nat → Nat → Nat → Int32 → Option (Int32 × xH)} (hk23 : ∀ (h : xH) (l1 : Nat) (l2 : Nat) (l3 : Nat) (l4 : Int32) (r : Int32 × xH), k23 h l1 l2 l3 l4 = some r → V 51 yL_law cL_law 8 (some .boolean) [] (some (L, xs)) 23 [(0, .ref xSC), (1, .ref l1), (2, .ref l2), (3, .ref l3), (4, .int l4)] [] h (oIh r)) (l1 : Nat) (l2 : Nat) (l3 : Nat) (l4 : Int32) (r : Int32 × xH) (hf : f_L_law_1349 L xs k23 h l1 l2 l3 l4 = some r) : V 51 yL_law cL_law 8 (some .boolean) [] (some (L, xs)) 1349 [(0, .ref xSC), (1, .ref l1), (2, .ref l2), (3, .ref l3), (4, .int l4)] [] h (oIh r) := by
  unfold f_L_law_1349 at hf
  refine V.aload_n dL_law_1349 rfl 1 rfl ?_
  refine V.aload_n dL_law_1350 rfl 0 rfl ?_
  refine V.iload dL_law_1351 4 rfl ?_
  refine V.iconst (v := (1 : Int32)) dL_law_1353 (by decide) ?_
  refine V.iadd dL_law_1354 ?_
  obtain ⟨v1, e175, hf⟩ := bS hf
  refine V.xldS rfl dL_law_1355 e175 ?_
  refine V.aload_n dL_law_1356 rfl 0 rfl ?_
  refine V.iload dL_law_1357 4 rfl ?_
  refine V.iconst (v := (2 : Int32)) dL_law_1359 (by decide) ?_
  refine V.iadd dL_law_1360 ?_
  obtain ⟨v2, e176, hf⟩ := bS hf
  refine V.xldS rfl dL_law_1361 e176 ?_
  refine V.aload_n dL_law_1362 rfl 3 rfl ?_
  obtain ⟨r3, e177, hf⟩ := bS hf
  refine V.callSW (As := [.ref l1, .int v1, .int v2, .ref l3]) (st := []) dL_law_1363 cw_RL_216 (by decide) rfl (Nat.le_of_ble_eq_true rfl) rfl (w_L_bright _ _ _ _ _ _ e177) ?_
  refine V.istore (lv' := [(5, .int r3.1), (0, .ref xSC), (1, .ref l1), (2, .ref l2), (3, .ref l3), (4, .int l4)]) dL_law_1366 (by decide) rfl ?_
  refine V.aload_n dL_law_1368 rfl 3 rfl ?_
  refine V.aload_n dL_law_1369 rfl 1 rfl ?_
  refine V.iload dL_law_1370 5 rfl ?_
  refine V.iconst (v := (1 : Int32)) dL_law_1372 (by decide) ?_
  refine V.iadd dL_law_1373 ?_
  obtain ⟨v4, e178, hf⟩ := bS hf
  refine V.xldS rfl dL_law_1374 e178 ?_
  refine V.aload_n dL_law_1375 rfl 1 rfl ?_
  refine V.iload dL_law_1376 5 rfl ?_
  refine V.iconst (v := (2 : Int32)) dL_law_1378 (by decide) ?_
  refine V.iadd dL_law_1379 ?_
  obtain ⟨v5, e179, hf⟩ := bS hf
  refine V.xldS rfl dL_law_1380 e179 ?_
  obtain ⟨q6, e180, hf⟩ := bS hf
  obtain ⟨r7, e181, hf⟩ := bS hf
  refine V.callV (As := [.int v4, .int v5]) (st := []) dL_law_1381 cl_RL_218 sw_yX12_bright (by decide) rfl (Nat.le_of_ble_eq_true rfl) rfl (gO_some e180) rfl (w_X12_bright _ _ _ _ _ e181) ?_
  refine V.istore (lv' := [(6, .int r7.1), (5, .int r3.1), (0, .ref xSC), (1, .ref l1), (2, .ref l2), (3, .ref l3), (4, .int l4)]) dL_law_1384 (by decide) rfl ?_
  refine V.aload_n dL_law_1386 rfl 4 rfl ?_
  obtain ⟨q8, e182, hf⟩ := bS hf
  obtain ⟨r9, e183, hf⟩ := bS hf
  refine V.callV (As := []) (st := []) dL_law_1387 cl_RL_148 sw_yX12_thrown (by decide) rfl (Nat.le_of_ble_eq_true rfl) rfl (gO_some e182) rfl (w_X12_thrown _ _ _ e183) ?_
  refine V.iload dL_law_1390 1 rfl ?_
  refine V.icmp_eq (tgt := 1397) dL_law_1392 (by decide) (fun c10 => ?_) (fun c10 => ?_)
  · rw [if_pos c10] at hf
    refine V.iload dL_law_1397 1 rfl ?_
    refine V.if_ne (tgt := 1414) dL_law_1399 (by decide) (fun c11 => ?_) (fun c11 => ?_)
    · rw [if_neg c11] at hf
      refine V.goto (tgt := 2811) dL_law_1414 (by decide) ?_
      refine V.iinc (v := (l4 + 6)) (lv' := [(4, .int (l4 + 6)), (6, .int r7.1), (5, .int r3.1), (0, .ref xSC), (1, .ref l1), (2, .ref l2), (3, .ref l3)]) dL_law_2811 6 rfl rfl (Nat.le_of_ble_eq_true rfl) rfl ?_
      refine V.goto (tgt := 23) dL_law_2814 (by decide) ?_
      refine V.sub [3, 4, 5, 6, 0] rfl ?_
      exact hk23 _ _ _ _ _ _ hf
    · rw [if_pos c11] at hf
      refine V.aload_n dL_law_1402 rfl 5 rfl ?_
      refine V.iconst (v := (0 : Int32)) dL_law_1403 (by decide) ?_
      obtain ⟨v12, e184, hf⟩ := bS hf
      refine V.xldJ dL_law_1404 e184 ?_
      refine V.iload dL_law_1405 0 rfl ?_
      refine V.i2l dL_law_1407 ?_
      refine V.lcmp dL_law_1408 ?_
      refine V.if_eq (tgt := 1414) dL_law_1409 (by decide) (fun c13 => ?_) (fun c13 => ?_)
      · rw [if_pos c13] at hf
        refine V.goto (tgt := 2811) dL_law_1414 (by decide) ?_
        refine V.iinc (v := (l4 + 6)) (lv' := [(4, .int (l4 + 6)), (6, .int r7.1), (5, .int r3.1), (0, .ref xSC), (1, .ref l1), (2, .ref l2), (3, .ref l3)]) dL_law_2811 6 rfl rfl (Nat.le_of_ble_eq_true rfl) rfl ?_
        refine V.goto (tgt := 23) dL_law_2814 (by decide) ?_
        refine V.sub [3, 4, 5, 6, 0] rfl ?_
        exact hk23 _ _ _ _ _ _ hf
      · rw [if_neg c13] at hf
        refine V.iconst (v := (0 : Int32)) dL_law_1412 (by decide) ?_
        obtain rfl := Option.some.inj hf
        exact V.zret dL_law_1413 (by first | rfl | assumption)
  · rw [if_neg c10] at hf
    refine V.iconst (v := (0 : Int32)) dL_law_1395 (by decide) ?_
    obtain rfl := Option.some.inj hf
    exact V.zret dL_law_1396 (by first | rfl | assumption)

set_option maxRecDepth 20000 in
theorem w_L_law_1417 (L : Nat) (xs : Nat → Int32) (h : xH) {k23 : xH → Nat → Nat → Nat → Int32 → Option (Int32 × xH)} (hk23 : ∀ (h : xH) (l1 : Nat) (l2 : Nat) (l3 : Nat) (l4 : Int32) (r : Int32 × xH), k23 h l1 l2 l3 l4 = some r → V 51 yL_law cL_law 8 (some .boolean) [] (some (L, xs)) 23 [(0, .ref xSC), (1, .ref l1), (2, .ref l2), (3, .ref l3), (4, .int l4)] [] h (oIh r)) (l1 : Nat) (l2 : Nat) (l3 : Nat) (l4 : Int32) (r : Int32 × xH) (hf : f_L_law_1417 L xs k23 h l1 l2 l3 l4 = some r) : V 51 yL_law cL_law 8 (some .boolean) [] (some (L, xs)) 1417 [(0, .ref xSC), (1, .ref l1), (2, .ref l2), (3, .ref l3), (4, .int l4)] [] h (oIh r) := by
  unfold f_L_law_1417 at hf
  refine V.aload_n dL_law_1417 rfl 1 rfl ?_
  obtain ⟨q1, e185, hf⟩ := bS hf
  obtain ⟨r2, e186, hf⟩ := bS hf
  refine V.callV (As := []) (st := []) dL_law_1418 cl_RL_219 sw_yX11_always (by decide) rfl (Nat.le_of_ble_eq_true rfl) rfl (gO_some e185) rfl (w_X11_always _ _ _ e186) ?_
  refine V.aload_n dL_law_1421 rfl 2 rfl ?_
  obtain ⟨q3, e187, hf⟩ := bS hf
  obtain ⟨r4, e188, hf⟩ := bS hf
  refine V.callV (As := []) (st := [.int (r2.1)]) dL_law_1422 cl_RL_222 sw_yX12_always (by decide) rfl (Nat.le_of_ble_eq_true rfl) rfl (gO_some e187) rfl (w_X12_always _ _ _ e188) ?_
  refine V.icmp_eq (tgt := 2811) dL_law_1425 (by decide) (fun c5 => ?_) (fun c5 => ?_)
  · rw [if_pos c5] at hf
    refine V.iinc (v := (l4 + 6)) (lv' := [(4, .int (l4 + 6)), (0, .ref xSC), (1, .ref l1), (2, .ref l2), (3, .ref l3)]) dL_law_2811 4 rfl rfl (Nat.le_of_ble_eq_true rfl) rfl ?_
    refine V.goto (tgt := 23) dL_law_2814 (by decide) ?_
    refine V.sub [1, 2, 3, 4, 0] rfl ?_
    exact hk23 _ _ _ _ _ _ hf
  · rw [if_neg c5] at hf
    refine V.iconst (v := (0 : Int32)) dL_law_1428 (by decide) ?_
    obtain rfl := Option.some.inj hf
    exact V.zret dL_law_1429 (by first | rfl | assumption)

set_option maxRecDepth 20000 in
theorem w_L_law_1430 (L : Nat) (xs : Nat → Int32) (h : xH) {k23 : xH → Nat → Nat → Nat → Int32 → Option (Int32 × xH)} (hk23 : ∀ (h : xH) (l1 : Nat) (l2 : Nat) (l3 : Nat) (l4 : Int32) (r : Int32 × xH), k23 h l1 l2 l3 l4 = some r → V 51 yL_law cL_law 8 (some .boolean) [] (some (L, xs)) 23 [(0, .ref xSC), (1, .ref l1), (2, .ref l2), (3, .ref l3), (4, .int l4)] [] h (oIh r)) (l1 : Nat) (l2 : Nat) (l3 : Nat) (l4 : Int32) (r : Int32 × xH) (hf : f_L_law_1430 L xs k23 h l1 l2 l3 l4 = some r) : V 51 yL_law cL_law 8 (some .boolean) [] (some (L, xs)) 1430 [(0, .ref xSC), (1, .ref l1), (2, .ref l2), (3, .ref l3), (4, .int l4)] [] h (oIh r) := by
  unfold f_L_law_1430 at hf
  refine V.aload_n dL_law_1430 rfl 1 rfl ?_
  obtain ⟨q1, e189, hf⟩ := bS hf
  obtain ⟨r2, e190, hf⟩ := bS hf
  refine V.callV (As := []) (st := []) dL_law_1431 cl_RL_223 sw_yX11_ever (by decide) rfl (Nat.le_of_ble_eq_true rfl) rfl (gO_some e189) rfl (w_X11_ever _ _ _ e190) ?_
  refine V.aload_n dL_law_1434 rfl 2 rfl ?_
  obtain ⟨q3, e191, hf⟩ := bS hf
  obtain ⟨r4, e192, hf⟩ := bS hf
  refine V.callV (As := []) (st := [.int (r2.1)]) dL_law_1435 cl_RL_226 sw_yX12_ever (by decide) rfl (Nat.le_of_ble_eq_true rfl) rfl (gO_some e191) rfl (w_X12_ever _ _ _ e192) ?_
  refine V.icmp_eq (tgt := 2811) dL_law_1438 (by decide) (fun c5 => ?_) (fun c5 => ?_)
  · rw [if_pos c5] at hf
    refine V.iinc (v := (l4 + 6)) (lv' := [(4, .int (l4 + 6)), (0, .ref xSC), (1, .ref l1), (2, .ref l2), (3, .ref l3)]) dL_law_2811 4 rfl rfl (Nat.le_of_ble_eq_true rfl) rfl ?_
    refine V.goto (tgt := 23) dL_law_2814 (by decide) ?_
    refine V.sub [1, 2, 3, 4, 0] rfl ?_
    exact hk23 _ _ _ _ _ _ hf
  · rw [if_neg c5] at hf
    refine V.iconst (v := (0 : Int32)) dL_law_1441 (by decide) ?_
    obtain rfl := Option.some.inj hf
    exact V.zret dL_law_1442 (by first | rfl | assumption)

set_option maxRecDepth 20000 in
theorem w_L_law_1443 (L : Nat) (xs : Nat → Int32) (h : xH) {k23 : xH → Nat → Nat → Nat → Int32 → Option (Int32 × xH)} (hk23 : ∀ (h : xH) (l1 : Nat) (l2 : Nat) (l3 : Nat) (l4 : Int32) (r : Int32 × xH), k23 h l1 l2 l3 l4 = some r → V 51 yL_law cL_law 8 (some .boolean) [] (some (L, xs)) 23 [(0, .ref xSC), (1, .ref l1), (2, .ref l2), (3, .ref l3), (4, .int l4)] [] h (oIh r)) (l1 : Nat) (l2 : Nat) (l3 : Nat) (l4 : Int32) (r : Int32 × xH) (hf : f_L_law_1443 L xs k23 h l1 l2 l3 l4 = some r) : V 51 yL_law cL_law 8 (some .boolean) [] (some (L, xs)) 1443 [(0, .ref xSC), (1, .ref l1), (2, .ref l2), (3, .ref l3), (4, .int l4)] [] h (oIh r) := by
  unfold f_L_law_1443 at hf
  refine V.aload_n dL_law_1443 rfl 1 rfl ?_
  refine V.aload_n dL_law_1444 rfl 0 rfl ?_
  refine V.iload dL_law_1445 4 rfl ?_
  refine V.iconst (v := (1 : Int32)) dL_law_1447 (by decide) ?_
  refine V.iadd dL_law_1448 ?_
  obtain ⟨v1, e193, hf⟩ := bS hf
  refine V.xldS rfl dL_law_1449 e193 ?_
  refine V.aload_n dL_law_1450 rfl 3 rfl ?_
  obtain ⟨r2, e194, hf⟩ := bS hf
  refine V.callSW (As := [.ref l1, .int v1, .ref l3]) (st := []) dL_law_1451 cw_RL_227 (by decide) rfl (Nat.le_of_ble_eq_true rfl) rfl (w_L_barred _ _ _ _ _ e194) ?_
  refine V.istore (lv' := [(5, .int r2.1), (0, .ref xSC), (1, .ref l1), (2, .ref l2), (3, .ref l3), (4, .int l4)]) dL_law_1454 (by decide) rfl ?_
  refine V.aload_n dL_law_1456 rfl 3 rfl ?_
  refine V.aload_n dL_law_1457 rfl 1 rfl ?_
  refine V.iload dL_law_1458 5 rfl ?_
  refine V.iconst (v := (1 : Int32)) dL_law_1460 (by decide) ?_
  refine V.iadd dL_law_1461 ?_
  obtain ⟨v3, e195, hf⟩ := bS hf
  refine V.xldS rfl dL_law_1462 e195 ?_
  obtain ⟨q4, e196, hf⟩ := bS hf
  obtain ⟨r5, e197, hf⟩ := bS hf
  refine V.callV (As := [.int v3]) (st := []) dL_law_1463 cl_RL_229 sw_yX12_barred (by decide) rfl (Nat.le_of_ble_eq_true rfl) rfl (gO_some e196) rfl (w_X12_barred _ _ _ _ e197) ?_
  refine V.istore (lv' := [(6, .int r5.1), (5, .int r2.1), (0, .ref xSC), (1, .ref l1), (2, .ref l2), (3, .ref l3), (4, .int l4)]) dL_law_1466 (by decide) rfl ?_
  refine V.aload_n dL_law_1468 rfl 4 rfl ?_
  obtain ⟨q6, e198, hf⟩ := bS hf
  obtain ⟨r7, e199, hf⟩ := bS hf
  refine V.callV (As := []) (st := []) dL_law_1469 cl_RL_148 sw_yX12_thrown (by decide) rfl (Nat.le_of_ble_eq_true rfl) rfl (gO_some e198) rfl (w_X12_thrown _ _ _ e199) ?_
  refine V.iload dL_law_1472 1 rfl ?_
  refine V.icmp_eq (tgt := 1479) dL_law_1474 (by decide) (fun c8 => ?_) (fun c8 => ?_)
  · rw [if_pos c8] at hf
    refine V.iload dL_law_1479 1 rfl ?_
    refine V.if_ne (tgt := 1496) dL_law_1481 (by decide) (fun c9 => ?_) (fun c9 => ?_)
    · rw [if_neg c9] at hf
      refine V.goto (tgt := 2811) dL_law_1496 (by decide) ?_
      refine V.iinc (v := (l4 + 6)) (lv' := [(4, .int (l4 + 6)), (6, .int r5.1), (5, .int r2.1), (0, .ref xSC), (1, .ref l1), (2, .ref l2), (3, .ref l3)]) dL_law_2811 6 rfl rfl (Nat.le_of_ble_eq_true rfl) rfl ?_
      refine V.goto (tgt := 23) dL_law_2814 (by decide) ?_
      refine V.sub [3, 4, 5, 6, 0] rfl ?_
      exact hk23 _ _ _ _ _ _ hf
    · rw [if_pos c9] at hf
      refine V.aload_n dL_law_1484 rfl 5 rfl ?_
      refine V.iconst (v := (0 : Int32)) dL_law_1485 (by decide) ?_
      obtain ⟨v10, e200, hf⟩ := bS hf
      refine V.xldJ dL_law_1486 e200 ?_
      refine V.iload dL_law_1487 0 rfl ?_
      refine V.i2l dL_law_1489 ?_
      refine V.lcmp dL_law_1490 ?_
      refine V.if_eq (tgt := 1496) dL_law_1491 (by decide) (fun c11 => ?_) (fun c11 => ?_)
      · rw [if_pos c11] at hf
        refine V.goto (tgt := 2811) dL_law_1496 (by decide) ?_
        refine V.iinc (v := (l4 + 6)) (lv' := [(4, .int (l4 + 6)), (6, .int r5.1), (5, .int r2.1), (0, .ref xSC), (1, .ref l1), (2, .ref l2), (3, .ref l3)]) dL_law_2811 6 rfl rfl (Nat.le_of_ble_eq_true rfl) rfl ?_
        refine V.goto (tgt := 23) dL_law_2814 (by decide) ?_
        refine V.sub [3, 4, 5, 6, 0] rfl ?_
        exact hk23 _ _ _ _ _ _ hf
      · rw [if_neg c11] at hf
        refine V.iconst (v := (0 : Int32)) dL_law_1494 (by decide) ?_
        obtain rfl := Option.some.inj hf
        exact V.zret dL_law_1495 (by first | rfl | assumption)
  · rw [if_neg c8] at hf
    refine V.iconst (v := (0 : Int32)) dL_law_1477 (by decide) ?_
    obtain rfl := Option.some.inj hf
    exact V.zret dL_law_1478 (by first | rfl | assumption)

set_option maxRecDepth 20000 in
theorem w_L_law_1499 (L : Nat) (xs : Nat → Int32) (h : xH) {k23 : xH → Nat → Nat → Nat → Int32 → Option (Int32 × xH)} (hk23 : ∀ (h : xH) (l1 : Nat) (l2 : Nat) (l3 : Nat) (l4 : Int32) (r : Int32 × xH), k23 h l1 l2 l3 l4 = some r → V 51 yL_law cL_law 8 (some .boolean) [] (some (L, xs)) 23 [(0, .ref xSC), (1, .ref l1), (2, .ref l2), (3, .ref l3), (4, .int l4)] [] h (oIh r)) (l1 : Nat) (l2 : Nat) (l3 : Nat) (l4 : Int32) (r : Int32 × xH) (hf : f_L_law_1499 L xs k23 h l1 l2 l3 l4 = some r) : V 51 yL_law cL_law 8 (some .boolean) [] (some (L, xs)) 1499 [(0, .ref xSC), (1, .ref l1), (2, .ref l2), (3, .ref l3), (4, .int l4)] [] h (oIh r) := by
  unfold f_L_law_1499 at hf
  refine V.aload_n dL_law_1499 rfl 1 rfl ?_
  refine V.aload_n dL_law_1500 rfl 0 rfl ?_
  refine V.iload dL_law_1501 4 rfl ?_
  refine V.iconst (v := (1 : Int32)) dL_law_1503 (by decide) ?_
  refine V.iadd dL_law_1504 ?_
  obtain ⟨v1, e201, hf⟩ := bS hf
  refine V.xldS rfl dL_law_1505 e201 ?_
  refine V.aload_n dL_law_1506 rfl 3 rfl ?_
  obtain ⟨r2, e202, hf⟩ := bS hf
  refine V.callSW (As := [.ref l1, .int v1, .ref l3]) (st := []) dL_law_1507 cw_RL_230 (by decide) rfl (Nat.le_of_ble_eq_true rfl) rfl (w_L_day _ _ _ _ _ e202) ?_
  refine V.istore (lv' := [(5, .int r2.1), (0, .ref xSC), (1, .ref l1), (2, .ref l2), (3, .ref l3), (4, .int l4)]) dL_law_1510 (by decide) rfl ?_
  refine V.aload_n dL_law_1512 rfl 3 rfl ?_
  refine V.aload_n dL_law_1513 rfl 1 rfl ?_
  refine V.iload dL_law_1514 5 rfl ?_
  refine V.iconst (v := (1 : Int32)) dL_law_1516 (by decide) ?_
  refine V.iadd dL_law_1517 ?_
  obtain ⟨v3, e203, hf⟩ := bS hf
  refine V.xldS rfl dL_law_1518 e203 ?_
  obtain ⟨q4, e204, hf⟩ := bS hf
  obtain ⟨r5, e205, hf⟩ := bS hf
  refine V.callV (As := [.int v3]) (st := []) dL_law_1519 cl_RL_232 sw_yX12_day (by decide) rfl (Nat.le_of_ble_eq_true rfl) rfl (gO_some e204) rfl (w_X12_day _ _ _ _ e205) ?_
  refine V.istore (lv' := [(6, .int r5.1), (5, .int r2.1), (0, .ref xSC), (1, .ref l1), (2, .ref l2), (3, .ref l3), (4, .int l4)]) dL_law_1522 (by decide) rfl ?_
  refine V.aload_n dL_law_1524 rfl 4 rfl ?_
  obtain ⟨q6, e206, hf⟩ := bS hf
  obtain ⟨r7, e207, hf⟩ := bS hf
  refine V.callV (As := []) (st := []) dL_law_1525 cl_RL_148 sw_yX12_thrown (by decide) rfl (Nat.le_of_ble_eq_true rfl) rfl (gO_some e206) rfl (w_X12_thrown _ _ _ e207) ?_
  refine V.iload dL_law_1528 1 rfl ?_
  refine V.icmp_eq (tgt := 1535) dL_law_1530 (by decide) (fun c8 => ?_) (fun c8 => ?_)
  · rw [if_pos c8] at hf
    refine V.iload dL_law_1535 1 rfl ?_
    refine V.if_ne (tgt := 1552) dL_law_1537 (by decide) (fun c9 => ?_) (fun c9 => ?_)
    · rw [if_neg c9] at hf
      refine V.goto (tgt := 2811) dL_law_1552 (by decide) ?_
      refine V.iinc (v := (l4 + 6)) (lv' := [(4, .int (l4 + 6)), (6, .int r5.1), (5, .int r2.1), (0, .ref xSC), (1, .ref l1), (2, .ref l2), (3, .ref l3)]) dL_law_2811 6 rfl rfl (Nat.le_of_ble_eq_true rfl) rfl ?_
      refine V.goto (tgt := 23) dL_law_2814 (by decide) ?_
      refine V.sub [3, 4, 5, 6, 0] rfl ?_
      exact hk23 _ _ _ _ _ _ hf
    · rw [if_pos c9] at hf
      refine V.aload_n dL_law_1540 rfl 5 rfl ?_
      refine V.iconst (v := (0 : Int32)) dL_law_1541 (by decide) ?_
      obtain ⟨v10, e208, hf⟩ := bS hf
      refine V.xldJ dL_law_1542 e208 ?_
      refine V.iload dL_law_1543 0 rfl ?_
      refine V.i2l dL_law_1545 ?_
      refine V.lcmp dL_law_1546 ?_
      refine V.if_eq (tgt := 1552) dL_law_1547 (by decide) (fun c11 => ?_) (fun c11 => ?_)
      · rw [if_pos c11] at hf
        refine V.goto (tgt := 2811) dL_law_1552 (by decide) ?_
        refine V.iinc (v := (l4 + 6)) (lv' := [(4, .int (l4 + 6)), (6, .int r5.1), (5, .int r2.1), (0, .ref xSC), (1, .ref l1), (2, .ref l2), (3, .ref l3)]) dL_law_2811 6 rfl rfl (Nat.le_of_ble_eq_true rfl) rfl ?_
        refine V.goto (tgt := 23) dL_law_2814 (by decide) ?_
        refine V.sub [3, 4, 5, 6, 0] rfl ?_
        exact hk23 _ _ _ _ _ _ hf
      · rw [if_neg c11] at hf
        refine V.iconst (v := (0 : Int32)) dL_law_1550 (by decide) ?_
        obtain rfl := Option.some.inj hf
        exact V.zret dL_law_1551 (by first | rfl | assumption)
  · rw [if_neg c8] at hf
    refine V.iconst (v := (0 : Int32)) dL_law_1533 (by decide) ?_
    obtain rfl := Option.some.inj hf
    exact V.zret dL_law_1534 (by first | rfl | assumption)

set_option maxRecDepth 20000 in
theorem w_L_law_1555 (L : Nat) (xs : Nat → Int32) (h : xH) {k23 : xH → Nat → Nat → Nat → Int32 → Option (Int32 × xH)} (hk23 : ∀ (h : xH) (l1 : Nat) (l2 : Nat) (l3 : Nat) (l4 : Int32) (r : Int32 × xH), k23 h l1 l2 l3 l4 = some r → V 51 yL_law cL_law 8 (some .boolean) [] (some (L, xs)) 23 [(0, .ref xSC), (1, .ref l1), (2, .ref l2), (3, .ref l3), (4, .int l4)] [] h (oIh r)) (l1 : Nat) (l2 : Nat) (l3 : Nat) (l4 : Int32) (r : Int32 × xH) (hf : f_L_law_1555 L xs k23 h l1 l2 l3 l4 = some r) : V 51 yL_law cL_law 8 (some .boolean) [] (some (L, xs)) 1555 [(0, .ref xSC), (1, .ref l1), (2, .ref l2), (3, .ref l3), (4, .int l4)] [] h (oIh r) := by
  unfold f_L_law_1555 at hf
  refine V.aload_n dL_law_1555 rfl 1 rfl ?_
  refine V.aload_n dL_law_1556 rfl 0 rfl ?_
  refine V.iload dL_law_1557 4 rfl ?_
  refine V.iconst (v := (1 : Int32)) dL_law_1559 (by decide) ?_
  refine V.iadd dL_law_1560 ?_
  obtain ⟨v1, e209, hf⟩ := bS hf
  refine V.xldS rfl dL_law_1561 e209 ?_
  refine V.aload_n dL_law_1562 rfl 0 rfl ?_
  refine V.iload dL_law_1563 4 rfl ?_
  refine V.iconst (v := (2 : Int32)) dL_law_1565 (by decide) ?_
  refine V.iadd dL_law_1566 ?_
  obtain ⟨v2, e210, hf⟩ := bS hf
  refine V.xldS rfl dL_law_1567 e210 ?_
  refine V.aload_n dL_law_1568 rfl 3 rfl ?_
  obtain ⟨r3, e211, hf⟩ := bS hf
  refine V.callSW (As := [.ref l1, .int v1, .int v2, .ref l3]) (st := []) dL_law_1569 cw_RL_233 (by decide) rfl (Nat.le_of_ble_eq_true rfl) rfl (w_L_mixed _ _ _ _ _ _ e211) ?_
  refine V.istore (lv' := [(5, .int r3.1), (0, .ref xSC), (1, .ref l1), (2, .ref l2), (3, .ref l3), (4, .int l4)]) dL_law_1572 (by decide) rfl ?_
  refine V.aload_n dL_law_1574 rfl 3 rfl ?_
  refine V.aload_n dL_law_1575 rfl 1 rfl ?_
  refine V.iload dL_law_1576 5 rfl ?_
  refine V.iconst (v := (1 : Int32)) dL_law_1578 (by decide) ?_
  refine V.iadd dL_law_1579 ?_
  obtain ⟨v4, e212, hf⟩ := bS hf
  refine V.xldS rfl dL_law_1580 e212 ?_
  refine V.aload_n dL_law_1581 rfl 1 rfl ?_
  refine V.iload dL_law_1582 5 rfl ?_
  refine V.iconst (v := (2 : Int32)) dL_law_1584 (by decide) ?_
  refine V.iadd dL_law_1585 ?_
  obtain ⟨v5, e213, hf⟩ := bS hf
  refine V.xldS rfl dL_law_1586 e213 ?_
  obtain ⟨q6, e214, hf⟩ := bS hf
  obtain ⟨r7, e215, hf⟩ := bS hf
  refine V.callV (As := [.int v4, .int v5]) (st := []) dL_law_1587 cl_RL_235 sw_yX12_mixed (by decide) rfl (Nat.le_of_ble_eq_true rfl) rfl (gO_some e214) rfl (w_X12_mixed _ _ _ _ _ e215) ?_
  refine V.istore (lv' := [(6, .int r7.1), (5, .int r3.1), (0, .ref xSC), (1, .ref l1), (2, .ref l2), (3, .ref l3), (4, .int l4)]) dL_law_1590 (by decide) rfl ?_
  refine V.aload_n dL_law_1592 rfl 4 rfl ?_
  obtain ⟨q8, e216, hf⟩ := bS hf
  obtain ⟨r9, e217, hf⟩ := bS hf
  refine V.callV (As := []) (st := []) dL_law_1593 cl_RL_148 sw_yX12_thrown (by decide) rfl (Nat.le_of_ble_eq_true rfl) rfl (gO_some e216) rfl (w_X12_thrown _ _ _ e217) ?_
  refine V.iload dL_law_1596 1 rfl ?_
  refine V.icmp_eq (tgt := 1603) dL_law_1598 (by decide) (fun c10 => ?_) (fun c10 => ?_)
  · rw [if_pos c10] at hf
    refine V.iload dL_law_1603 1 rfl ?_
    refine V.if_ne (tgt := 1620) dL_law_1605 (by decide) (fun c11 => ?_) (fun c11 => ?_)
    · rw [if_neg c11] at hf
      refine V.goto (tgt := 2811) dL_law_1620 (by decide) ?_
      refine V.iinc (v := (l4 + 6)) (lv' := [(4, .int (l4 + 6)), (6, .int r7.1), (5, .int r3.1), (0, .ref xSC), (1, .ref l1), (2, .ref l2), (3, .ref l3)]) dL_law_2811 6 rfl rfl (Nat.le_of_ble_eq_true rfl) rfl ?_
      refine V.goto (tgt := 23) dL_law_2814 (by decide) ?_
      refine V.sub [3, 4, 5, 6, 0] rfl ?_
      exact hk23 _ _ _ _ _ _ hf
    · rw [if_pos c11] at hf
      refine V.aload_n dL_law_1608 rfl 5 rfl ?_
      refine V.iconst (v := (0 : Int32)) dL_law_1609 (by decide) ?_
      obtain ⟨v12, e218, hf⟩ := bS hf
      refine V.xldJ dL_law_1610 e218 ?_
      refine V.iload dL_law_1611 0 rfl ?_
      refine V.i2l dL_law_1613 ?_
      refine V.lcmp dL_law_1614 ?_
      refine V.if_eq (tgt := 1620) dL_law_1615 (by decide) (fun c13 => ?_) (fun c13 => ?_)
      · rw [if_pos c13] at hf
        refine V.goto (tgt := 2811) dL_law_1620 (by decide) ?_
        refine V.iinc (v := (l4 + 6)) (lv' := [(4, .int (l4 + 6)), (6, .int r7.1), (5, .int r3.1), (0, .ref xSC), (1, .ref l1), (2, .ref l2), (3, .ref l3)]) dL_law_2811 6 rfl rfl (Nat.le_of_ble_eq_true rfl) rfl ?_
        refine V.goto (tgt := 23) dL_law_2814 (by decide) ?_
        refine V.sub [3, 4, 5, 6, 0] rfl ?_
        exact hk23 _ _ _ _ _ _ hf
      · rw [if_neg c13] at hf
        refine V.iconst (v := (0 : Int32)) dL_law_1618 (by decide) ?_
        obtain rfl := Option.some.inj hf
        exact V.zret dL_law_1619 (by first | rfl | assumption)
  · rw [if_neg c10] at hf
    refine V.iconst (v := (0 : Int32)) dL_law_1601 (by decide) ?_
    obtain rfl := Option.some.inj hf
    exact V.zret dL_law_1602 (by first | rfl | assumption)

set_option maxRecDepth 20000 in
theorem w_L_law_1623 (L : Nat) (xs : Nat → Int32) (h : xH) {k23 : xH → Nat → Nat → Nat → Int32 → Option (Int32 × xH)} (hk23 : ∀ (h : xH) (l1 : Nat) (l2 : Nat) (l3 : Nat) (l4 : Int32) (r : Int32 × xH), k23 h l1 l2 l3 l4 = some r → V 51 yL_law cL_law 8 (some .boolean) [] (some (L, xs)) 23 [(0, .ref xSC), (1, .ref l1), (2, .ref l2), (3, .ref l3), (4, .int l4)] [] h (oIh r)) (l1 : Nat) (l2 : Nat) (l3 : Nat) (l4 : Int32) (r : Int32 × xH) (hf : f_L_law_1623 L xs k23 h l1 l2 l3 l4 = some r) : V 51 yL_law cL_law 8 (some .boolean) [] (some (L, xs)) 1623 [(0, .ref xSC), (1, .ref l1), (2, .ref l2), (3, .ref l3), (4, .int l4)] [] h (oIh r) := by
  unfold f_L_law_1623 at hf
  refine V.aload_n dL_law_1623 rfl 1 rfl ?_
  refine V.aload_n dL_law_1624 rfl 0 rfl ?_
  refine V.iload dL_law_1625 4 rfl ?_
  refine V.iconst (v := (1 : Int32)) dL_law_1627 (by decide) ?_
  refine V.iadd dL_law_1628 ?_
  obtain ⟨v1, e219, hf⟩ := bS hf
  refine V.xldS rfl dL_law_1629 e219 ?_
  refine V.aload_n dL_law_1630 rfl 0 rfl ?_
  refine V.iload dL_law_1631 4 rfl ?_
  refine V.iconst (v := (2 : Int32)) dL_law_1633 (by decide) ?_
  refine V.iadd dL_law_1634 ?_
  obtain ⟨v2, e220, hf⟩ := bS hf
  refine V.xldS rfl dL_law_1635 e220 ?_
  refine V.aload_n dL_law_1636 rfl 3 rfl ?_
  obtain ⟨r3, e221, hf⟩ := bS hf
  refine V.callSW (As := [.ref l1, .int v1, .int v2, .ref l3]) (st := []) dL_law_1637 cw_RL_236 (by decide) rfl (Nat.le_of_ble_eq_true rfl) rfl (w_L_grid _ _ _ _ _ _ e221) ?_
  refine V.istore (lv' := [(5, .int r3.1), (0, .ref xSC), (1, .ref l1), (2, .ref l2), (3, .ref l3), (4, .int l4)]) dL_law_1640 (by decide) rfl ?_
  refine V.aload_n dL_law_1642 rfl 3 rfl ?_
  refine V.aload_n dL_law_1643 rfl 1 rfl ?_
  refine V.iload dL_law_1644 5 rfl ?_
  refine V.iconst (v := (1 : Int32)) dL_law_1646 (by decide) ?_
  refine V.iadd dL_law_1647 ?_
  obtain ⟨v4, e222, hf⟩ := bS hf
  refine V.xldS rfl dL_law_1648 e222 ?_
  refine V.aload_n dL_law_1649 rfl 1 rfl ?_
  refine V.iload dL_law_1650 5 rfl ?_
  refine V.iconst (v := (2 : Int32)) dL_law_1652 (by decide) ?_
  refine V.iadd dL_law_1653 ?_
  obtain ⟨v5, e223, hf⟩ := bS hf
  refine V.xldS rfl dL_law_1654 e223 ?_
  obtain ⟨q6, e224, hf⟩ := bS hf
  obtain ⟨r7, e225, hf⟩ := bS hf
  refine V.callV (As := [.int v4, .int v5]) (st := []) dL_law_1655 cl_RL_238 sw_yX12_grid (by decide) rfl (Nat.le_of_ble_eq_true rfl) rfl (gO_some e224) rfl (w_X12_grid _ _ _ _ _ e225) ?_
  refine V.istore (lv' := [(6, .int r7.1), (5, .int r3.1), (0, .ref xSC), (1, .ref l1), (2, .ref l2), (3, .ref l3), (4, .int l4)]) dL_law_1658 (by decide) rfl ?_
  refine V.aload_n dL_law_1660 rfl 4 rfl ?_
  obtain ⟨q8, e226, hf⟩ := bS hf
  obtain ⟨r9, e227, hf⟩ := bS hf
  refine V.callV (As := []) (st := []) dL_law_1661 cl_RL_148 sw_yX12_thrown (by decide) rfl (Nat.le_of_ble_eq_true rfl) rfl (gO_some e226) rfl (w_X12_thrown _ _ _ e227) ?_
  refine V.iload dL_law_1664 1 rfl ?_
  refine V.icmp_eq (tgt := 1671) dL_law_1666 (by decide) (fun c10 => ?_) (fun c10 => ?_)
  · rw [if_pos c10] at hf
    refine V.iload dL_law_1671 1 rfl ?_
    refine V.if_ne (tgt := 1688) dL_law_1673 (by decide) (fun c11 => ?_) (fun c11 => ?_)
    · rw [if_neg c11] at hf
      refine V.goto (tgt := 2811) dL_law_1688 (by decide) ?_
      refine V.iinc (v := (l4 + 6)) (lv' := [(4, .int (l4 + 6)), (6, .int r7.1), (5, .int r3.1), (0, .ref xSC), (1, .ref l1), (2, .ref l2), (3, .ref l3)]) dL_law_2811 6 rfl rfl (Nat.le_of_ble_eq_true rfl) rfl ?_
      refine V.goto (tgt := 23) dL_law_2814 (by decide) ?_
      refine V.sub [3, 4, 5, 6, 0] rfl ?_
      exact hk23 _ _ _ _ _ _ hf
    · rw [if_pos c11] at hf
      refine V.aload_n dL_law_1676 rfl 5 rfl ?_
      refine V.iconst (v := (0 : Int32)) dL_law_1677 (by decide) ?_
      obtain ⟨v12, e228, hf⟩ := bS hf
      refine V.xldJ dL_law_1678 e228 ?_
      refine V.iload dL_law_1679 0 rfl ?_
      refine V.i2l dL_law_1681 ?_
      refine V.lcmp dL_law_1682 ?_
      refine V.if_eq (tgt := 1688) dL_law_1683 (by decide) (fun c13 => ?_) (fun c13 => ?_)
      · rw [if_pos c13] at hf
        refine V.goto (tgt := 2811) dL_law_1688 (by decide) ?_
        refine V.iinc (v := (l4 + 6)) (lv' := [(4, .int (l4 + 6)), (6, .int r7.1), (5, .int r3.1), (0, .ref xSC), (1, .ref l1), (2, .ref l2), (3, .ref l3)]) dL_law_2811 6 rfl rfl (Nat.le_of_ble_eq_true rfl) rfl ?_
        refine V.goto (tgt := 23) dL_law_2814 (by decide) ?_
        refine V.sub [3, 4, 5, 6, 0] rfl ?_
        exact hk23 _ _ _ _ _ _ hf
      · rw [if_neg c13] at hf
        refine V.iconst (v := (0 : Int32)) dL_law_1686 (by decide) ?_
        obtain rfl := Option.some.inj hf
        exact V.zret dL_law_1687 (by first | rfl | assumption)
  · rw [if_neg c10] at hf
    refine V.iconst (v := (0 : Int32)) dL_law_1669 (by decide) ?_
    obtain rfl := Option.some.inj hf
    exact V.zret dL_law_1670 (by first | rfl | assumption)

set_option maxRecDepth 20000 in
theorem w_L_law_1691 (L : Nat) (xs : Nat → Int32) (h : xH) {k23 : xH → Nat → Nat → Nat → Int32 → Option (Int32 × xH)} (hk23 : ∀ (h : xH) (l1 : Nat) (l2 : Nat) (l3 : Nat) (l4 : Int32) (r : Int32 × xH), k23 h l1 l2 l3 l4 = some r → V 51 yL_law cL_law 8 (some .boolean) [] (some (L, xs)) 23 [(0, .ref xSC), (1, .ref l1), (2, .ref l2), (3, .ref l3), (4, .int l4)] [] h (oIh r)) (l1 : Nat) (l2 : Nat) (l3 : Nat) (l4 : Int32) (r : Int32 × xH) (hf : f_L_law_1691 L xs k23 h l1 l2 l3 l4 = some r) : V 51 yL_law cL_law 8 (some .boolean) [] (some (L, xs)) 1691 [(0, .ref xSC), (1, .ref l1), (2, .ref l2), (3, .ref l3), (4, .int l4)] [] h (oIh r) := by
  unfold f_L_law_1691 at hf
  refine V.aload_n dL_law_1691 rfl 1 rfl ?_
  refine V.aload_n dL_law_1692 rfl 0 rfl ?_
  refine V.iload dL_law_1693 4 rfl ?_
  refine V.iconst (v := (1 : Int32)) dL_law_1695 (by decide) ?_
  refine V.iadd dL_law_1696 ?_
  obtain ⟨v1, e229, hf⟩ := bS hf
  refine V.xldS rfl dL_law_1697 e229 ?_
  refine V.aload_n dL_law_1698 rfl 0 rfl ?_
  refine V.iload dL_law_1699 4 rfl ?_
  refine V.iconst (v := (2 : Int32)) dL_law_1701 (by decide) ?_
  refine V.iadd dL_law_1702 ?_
  obtain ⟨v2, e230, hf⟩ := bS hf
  refine V.xldS rfl dL_law_1703 e230 ?_
  refine V.aload_n dL_law_1704 rfl 3 rfl ?_
  obtain ⟨r3, e231, hf⟩ := bS hf
  refine V.callSW (As := [.ref l1, .int v1, .int v2, .ref l3]) (st := []) dL_law_1705 cw_RL_239 (by decide) rfl (Nat.le_of_ble_eq_true rfl) rfl (w_L_hole _ _ _ _ _ _ e231) ?_
  refine V.istore (lv' := [(5, .int r3.1), (0, .ref xSC), (1, .ref l1), (2, .ref l2), (3, .ref l3), (4, .int l4)]) dL_law_1708 (by decide) rfl ?_
  refine V.aload_n dL_law_1710 rfl 3 rfl ?_
  refine V.aload_n dL_law_1711 rfl 1 rfl ?_
  refine V.iload dL_law_1712 5 rfl ?_
  refine V.iconst (v := (1 : Int32)) dL_law_1714 (by decide) ?_
  refine V.iadd dL_law_1715 ?_
  obtain ⟨v4, e232, hf⟩ := bS hf
  refine V.xldS rfl dL_law_1716 e232 ?_
  refine V.aload_n dL_law_1717 rfl 1 rfl ?_
  refine V.iload dL_law_1718 5 rfl ?_
  refine V.iconst (v := (2 : Int32)) dL_law_1720 (by decide) ?_
  refine V.iadd dL_law_1721 ?_
  obtain ⟨v5, e233, hf⟩ := bS hf
  refine V.xldS rfl dL_law_1722 e233 ?_
  obtain ⟨q6, e234, hf⟩ := bS hf
  obtain ⟨r7, e235, hf⟩ := bS hf
  refine V.callV (As := [.int v4, .int v5]) (st := []) dL_law_1723 cl_RL_241 sw_yX12_hole (by decide) rfl (Nat.le_of_ble_eq_true rfl) rfl (gO_some e234) rfl (w_X12_hole _ _ _ _ _ e235) ?_
  refine V.istore (lv' := [(6, .int r7.1), (5, .int r3.1), (0, .ref xSC), (1, .ref l1), (2, .ref l2), (3, .ref l3), (4, .int l4)]) dL_law_1726 (by decide) rfl ?_
  refine V.aload_n dL_law_1728 rfl 4 rfl ?_
  obtain ⟨q8, e236, hf⟩ := bS hf
  obtain ⟨r9, e237, hf⟩ := bS hf
  refine V.callV (As := []) (st := []) dL_law_1729 cl_RL_148 sw_yX12_thrown (by decide) rfl (Nat.le_of_ble_eq_true rfl) rfl (gO_some e236) rfl (w_X12_thrown _ _ _ e237) ?_
  refine V.iload dL_law_1732 1 rfl ?_
  refine V.icmp_eq (tgt := 1739) dL_law_1734 (by decide) (fun c10 => ?_) (fun c10 => ?_)
  · rw [if_pos c10] at hf
    refine V.iload dL_law_1739 1 rfl ?_
    refine V.if_ne (tgt := 1756) dL_law_1741 (by decide) (fun c11 => ?_) (fun c11 => ?_)
    · rw [if_neg c11] at hf
      refine V.goto (tgt := 2811) dL_law_1756 (by decide) ?_
      refine V.iinc (v := (l4 + 6)) (lv' := [(4, .int (l4 + 6)), (6, .int r7.1), (5, .int r3.1), (0, .ref xSC), (1, .ref l1), (2, .ref l2), (3, .ref l3)]) dL_law_2811 6 rfl rfl (Nat.le_of_ble_eq_true rfl) rfl ?_
      refine V.goto (tgt := 23) dL_law_2814 (by decide) ?_
      refine V.sub [3, 4, 5, 6, 0] rfl ?_
      exact hk23 _ _ _ _ _ _ hf
    · rw [if_pos c11] at hf
      refine V.aload_n dL_law_1744 rfl 5 rfl ?_
      refine V.iconst (v := (0 : Int32)) dL_law_1745 (by decide) ?_
      obtain ⟨v12, e238, hf⟩ := bS hf
      refine V.xldJ dL_law_1746 e238 ?_
      refine V.iload dL_law_1747 0 rfl ?_
      refine V.i2l dL_law_1749 ?_
      refine V.lcmp dL_law_1750 ?_
      refine V.if_eq (tgt := 1756) dL_law_1751 (by decide) (fun c13 => ?_) (fun c13 => ?_)
      · rw [if_pos c13] at hf
        refine V.goto (tgt := 2811) dL_law_1756 (by decide) ?_
        refine V.iinc (v := (l4 + 6)) (lv' := [(4, .int (l4 + 6)), (6, .int r7.1), (5, .int r3.1), (0, .ref xSC), (1, .ref l1), (2, .ref l2), (3, .ref l3)]) dL_law_2811 6 rfl rfl (Nat.le_of_ble_eq_true rfl) rfl ?_
        refine V.goto (tgt := 23) dL_law_2814 (by decide) ?_
        refine V.sub [3, 4, 5, 6, 0] rfl ?_
        exact hk23 _ _ _ _ _ _ hf
      · rw [if_neg c13] at hf
        refine V.iconst (v := (0 : Int32)) dL_law_1754 (by decide) ?_
        obtain rfl := Option.some.inj hf
        exact V.zret dL_law_1755 (by first | rfl | assumption)
  · rw [if_neg c10] at hf
    refine V.iconst (v := (0 : Int32)) dL_law_1737 (by decide) ?_
    obtain rfl := Option.some.inj hf
    exact V.zret dL_law_1738 (by first | rfl | assumption)

set_option maxRecDepth 20000 in
theorem w_L_law_1759 (L : Nat) (xs : Nat → Int32) (h : xH) {k23 : xH → Nat → Nat → Nat → Int32 → Option (Int32 × xH)} (hk23 : ∀ (h : xH) (l1 : Nat) (l2 : Nat) (l3 : Nat) (l4 : Int32) (r : Int32 × xH), k23 h l1 l2 l3 l4 = some r → V 51 yL_law cL_law 8 (some .boolean) [] (some (L, xs)) 23 [(0, .ref xSC), (1, .ref l1), (2, .ref l2), (3, .ref l3), (4, .int l4)] [] h (oIh r)) (l1 : Nat) (l2 : Nat) (l3 : Nat) (l4 : Int32) (r : Int32 × xH) (hf : f_L_law_1759 L xs k23 h l1 l2 l3 l4 = some r) : V 51 yL_law cL_law 8 (some .boolean) [] (some (L, xs)) 1759 [(0, .ref xSC), (1, .ref l1), (2, .ref l2), (3, .ref l3), (4, .int l4)] [] h (oIh r) := by
  unfold f_L_law_1759 at hf
  refine V.aload_n dL_law_1759 rfl 1 rfl ?_
  obtain ⟨q1, e239, hf⟩ := bS hf
  obtain ⟨r2, e240, hf⟩ := bS hf
  refine V.callV (As := []) (st := []) dL_law_1760 cl_RL_242 sw_yX11_which (by decide) rfl (Nat.le_of_ble_eq_true rfl) rfl (gO_some e239) rfl (w_X11_which _ _ _ e240) ?_
  refine V.aload_n dL_law_1763 rfl 2 rfl ?_
  obtain ⟨q3, e241, hf⟩ := bS hf
  obtain ⟨r4, e242, hf⟩ := bS hf
  refine V.callV (As := []) (st := [.int (r2.1)]) dL_law_1764 cl_RL_245 sw_yX12_which (by decide) rfl (Nat.le_of_ble_eq_true rfl) rfl (gO_some e241) rfl (w_X12_which _ _ _ e242) ?_
  refine V.icmp_eq (tgt := 2811) dL_law_1767 (by decide) (fun c5 => ?_) (fun c5 => ?_)
  · rw [if_pos c5] at hf
    refine V.iinc (v := (l4 + 6)) (lv' := [(4, .int (l4 + 6)), (0, .ref xSC), (1, .ref l1), (2, .ref l2), (3, .ref l3)]) dL_law_2811 4 rfl rfl (Nat.le_of_ble_eq_true rfl) rfl ?_
    refine V.goto (tgt := 23) dL_law_2814 (by decide) ?_
    refine V.sub [1, 2, 3, 4, 0] rfl ?_
    exact hk23 _ _ _ _ _ _ hf
  · rw [if_neg c5] at hf
    refine V.iconst (v := (0 : Int32)) dL_law_1770 (by decide) ?_
    obtain rfl := Option.some.inj hf
    exact V.zret dL_law_1771 (by first | rfl | assumption)

set_option maxRecDepth 20000 in
theorem w_L_law_1772 (L : Nat) (xs : Nat → Int32) (h : xH) {k23 : xH → Nat → Nat → Nat → Int32 → Option (Int32 × xH)} (hk23 : ∀ (h : xH) (l1 : Nat) (l2 : Nat) (l3 : Nat) (l4 : Int32) (r : Int32 × xH), k23 h l1 l2 l3 l4 = some r → V 51 yL_law cL_law 8 (some .boolean) [] (some (L, xs)) 23 [(0, .ref xSC), (1, .ref l1), (2, .ref l2), (3, .ref l3), (4, .int l4)] [] h (oIh r)) (l1 : Nat) (l2 : Nat) (l3 : Nat) (l4 : Int32) (r : Int32 × xH) (hf : f_L_law_1772 L xs k23 h l1 l2 l3 l4 = some r) : V 51 yL_law cL_law 8 (some .boolean) [] (some (L, xs)) 1772 [(0, .ref xSC), (1, .ref l1), (2, .ref l2), (3, .ref l3), (4, .int l4)] [] h (oIh r) := by
  unfold f_L_law_1772 at hf
  refine V.aload_n dL_law_1772 rfl 1 rfl ?_
  refine V.aload_n dL_law_1773 rfl 0 rfl ?_
  refine V.iload dL_law_1774 4 rfl ?_
  refine V.iconst (v := (1 : Int32)) dL_law_1776 (by decide) ?_
  refine V.iadd dL_law_1777 ?_
  obtain ⟨v1, e243, hf⟩ := bS hf
  refine V.xldS rfl dL_law_1778 e243 ?_
  refine V.aload_n dL_law_1779 rfl 0 rfl ?_
  refine V.iload dL_law_1780 4 rfl ?_
  refine V.iconst (v := (2 : Int32)) dL_law_1782 (by decide) ?_
  refine V.iadd dL_law_1783 ?_
  obtain ⟨v2, e244, hf⟩ := bS hf
  refine V.xldS rfl dL_law_1784 e244 ?_
  refine V.aload_n dL_law_1785 rfl 3 rfl ?_
  obtain ⟨r3, e245, hf⟩ := bS hf
  refine V.callSW (As := [.ref l1, .int v1, .int v2, .ref l3]) (st := []) dL_law_1786 cw_RL_246 (by decide) rfl (Nat.le_of_ble_eq_true rfl) rfl (w_L_walk _ _ _ _ _ _ e245) ?_
  refine V.istore (lv' := [(5, .int r3.1), (0, .ref xSC), (1, .ref l1), (2, .ref l2), (3, .ref l3), (4, .int l4)]) dL_law_1789 (by decide) rfl ?_
  refine V.aload_n dL_law_1791 rfl 3 rfl ?_
  refine V.aload_n dL_law_1792 rfl 1 rfl ?_
  refine V.iload dL_law_1793 5 rfl ?_
  refine V.iconst (v := (1 : Int32)) dL_law_1795 (by decide) ?_
  refine V.iadd dL_law_1796 ?_
  obtain ⟨v4, e246, hf⟩ := bS hf
  refine V.xldS rfl dL_law_1797 e246 ?_
  refine V.aload_n dL_law_1798 rfl 1 rfl ?_
  refine V.iload dL_law_1799 5 rfl ?_
  refine V.iconst (v := (2 : Int32)) dL_law_1801 (by decide) ?_
  refine V.iadd dL_law_1802 ?_
  obtain ⟨v5, e247, hf⟩ := bS hf
  refine V.xldS rfl dL_law_1803 e247 ?_
  obtain ⟨q6, e248, hf⟩ := bS hf
  obtain ⟨r7, e249, hf⟩ := bS hf
  refine V.callV (As := [.int v4, .int v5]) (st := []) dL_law_1804 cl_RL_248 sw_yX12_walk (by decide) rfl (Nat.le_of_ble_eq_true rfl) rfl (gO_some e248) rfl (w_X12_walk _ _ _ _ _ e249) ?_
  refine V.istore (lv' := [(6, .int r7.1), (5, .int r3.1), (0, .ref xSC), (1, .ref l1), (2, .ref l2), (3, .ref l3), (4, .int l4)]) dL_law_1807 (by decide) rfl ?_
  refine V.aload_n dL_law_1809 rfl 4 rfl ?_
  obtain ⟨q8, e250, hf⟩ := bS hf
  obtain ⟨r9, e251, hf⟩ := bS hf
  refine V.callV (As := []) (st := []) dL_law_1810 cl_RL_148 sw_yX12_thrown (by decide) rfl (Nat.le_of_ble_eq_true rfl) rfl (gO_some e250) rfl (w_X12_thrown _ _ _ e251) ?_
  refine V.iload dL_law_1813 1 rfl ?_
  refine V.icmp_eq (tgt := 1820) dL_law_1815 (by decide) (fun c10 => ?_) (fun c10 => ?_)
  · rw [if_pos c10] at hf
    refine V.iload dL_law_1820 1 rfl ?_
    refine V.if_ne (tgt := 1837) dL_law_1822 (by decide) (fun c11 => ?_) (fun c11 => ?_)
    · rw [if_neg c11] at hf
      refine V.goto (tgt := 2811) dL_law_1837 (by decide) ?_
      refine V.iinc (v := (l4 + 6)) (lv' := [(4, .int (l4 + 6)), (6, .int r7.1), (5, .int r3.1), (0, .ref xSC), (1, .ref l1), (2, .ref l2), (3, .ref l3)]) dL_law_2811 6 rfl rfl (Nat.le_of_ble_eq_true rfl) rfl ?_
      refine V.goto (tgt := 23) dL_law_2814 (by decide) ?_
      refine V.sub [3, 4, 5, 6, 0] rfl ?_
      exact hk23 _ _ _ _ _ _ hf
    · rw [if_pos c11] at hf
      refine V.aload_n dL_law_1825 rfl 5 rfl ?_
      refine V.iconst (v := (0 : Int32)) dL_law_1826 (by decide) ?_
      obtain ⟨v12, e252, hf⟩ := bS hf
      refine V.xldJ dL_law_1827 e252 ?_
      refine V.iload dL_law_1828 0 rfl ?_
      refine V.i2l dL_law_1830 ?_
      refine V.lcmp dL_law_1831 ?_
      refine V.if_eq (tgt := 1837) dL_law_1832 (by decide) (fun c13 => ?_) (fun c13 => ?_)
      · rw [if_pos c13] at hf
        refine V.goto (tgt := 2811) dL_law_1837 (by decide) ?_
        refine V.iinc (v := (l4 + 6)) (lv' := [(4, .int (l4 + 6)), (6, .int r7.1), (5, .int r3.1), (0, .ref xSC), (1, .ref l1), (2, .ref l2), (3, .ref l3)]) dL_law_2811 6 rfl rfl (Nat.le_of_ble_eq_true rfl) rfl ?_
        refine V.goto (tgt := 23) dL_law_2814 (by decide) ?_
        refine V.sub [3, 4, 5, 6, 0] rfl ?_
        exact hk23 _ _ _ _ _ _ hf
      · rw [if_neg c13] at hf
        refine V.iconst (v := (0 : Int32)) dL_law_1835 (by decide) ?_
        obtain rfl := Option.some.inj hf
        exact V.zret dL_law_1836 (by first | rfl | assumption)
  · rw [if_neg c10] at hf
    refine V.iconst (v := (0 : Int32)) dL_law_1818 (by decide) ?_
    obtain rfl := Option.some.inj hf
    exact V.zret dL_law_1819 (by first | rfl | assumption)

set_option maxRecDepth 20000 in
theorem w_L_law_1840 (L : Nat) (xs : Nat → Int32) (h : xH) {k23 : xH → Nat → Nat → Nat → Int32 → Option (Int32 × xH)} (hk23 : ∀ (h : xH) (l1 : Nat) (l2 : Nat) (l3 : Nat) (l4 : Int32) (r : Int32 × xH), k23 h l1 l2 l3 l4 = some r → V 51 yL_law cL_law 8 (some .boolean) [] (some (L, xs)) 23 [(0, .ref xSC), (1, .ref l1), (2, .ref l2), (3, .ref l3), (4, .int l4)] [] h (oIh r)) (l1 : Nat) (l2 : Nat) (l3 : Nat) (l4 : Int32) (r : Int32 × xH) (hf : f_L_law_1840 L xs k23 h l1 l2 l3 l4 = some r) : V 51 yL_law cL_law 8 (some .boolean) [] (some (L, xs)) 1840 [(0, .ref xSC), (1, .ref l1), (2, .ref l2), (3, .ref l3), (4, .int l4)] [] h (oIh r) := by
  unfold f_L_law_1840 at hf
  refine V.aload_n dL_law_1840 rfl 1 rfl ?_
  refine V.aload_n dL_law_1841 rfl 0 rfl ?_
  refine V.iload dL_law_1842 4 rfl ?_
  refine V.iconst (v := (1 : Int32)) dL_law_1844 (by decide) ?_
  refine V.iadd dL_law_1845 ?_
  obtain ⟨v1, e253, hf⟩ := bS hf
  refine V.xldS rfl dL_law_1846 e253 ?_
  refine V.aload_n dL_law_1847 rfl 0 rfl ?_
  refine V.iload dL_law_1848 4 rfl ?_
  refine V.iconst (v := (2 : Int32)) dL_law_1850 (by decide) ?_
  refine V.iadd dL_law_1851 ?_
  obtain ⟨v2, e254, hf⟩ := bS hf
  refine V.xldS rfl dL_law_1852 e254 ?_
  refine V.aload_n dL_law_1853 rfl 0 rfl ?_
  refine V.iload dL_law_1854 4 rfl ?_
  refine V.iconst (v := (3 : Int32)) dL_law_1856 (by decide) ?_
  refine V.iadd dL_law_1857 ?_
  obtain ⟨v3, e255, hf⟩ := bS hf
  refine V.xldS rfl dL_law_1858 e255 ?_
  refine V.aload_n dL_law_1859 rfl 0 rfl ?_
  refine V.iload dL_law_1860 4 rfl ?_
  refine V.iconst (v := (4 : Int32)) dL_law_1862 (by decide) ?_
  refine V.iadd dL_law_1863 ?_
  obtain ⟨v4, e256, hf⟩ := bS hf
  refine V.xldS rfl dL_law_1864 e256 ?_
  refine V.aload_n dL_law_1865 rfl 3 rfl ?_
  obtain ⟨r5, e257, hf⟩ := bS hf
  refine V.callSW (As := [.ref l1, .int v1, .int v2, .int v3, .int v4, .ref l3]) (st := []) dL_law_1866 cw_RL_249 (by decide) rfl (Nat.le_of_ble_eq_true rfl) rfl (w_L_carry _ _ _ _ _ _ _ _ e257) ?_
  refine V.istore (lv' := [(5, .int r5.1), (0, .ref xSC), (1, .ref l1), (2, .ref l2), (3, .ref l3), (4, .int l4)]) dL_law_1869 (by decide) rfl ?_
  refine V.aload_n dL_law_1871 rfl 3 rfl ?_
  refine V.aload_n dL_law_1872 rfl 1 rfl ?_
  refine V.iload dL_law_1873 5 rfl ?_
  refine V.iconst (v := (1 : Int32)) dL_law_1875 (by decide) ?_
  refine V.iadd dL_law_1876 ?_
  obtain ⟨v6, e258, hf⟩ := bS hf
  refine V.xldS rfl dL_law_1877 e258 ?_
  refine V.aload_n dL_law_1878 rfl 1 rfl ?_
  refine V.iload dL_law_1879 5 rfl ?_
  refine V.iconst (v := (2 : Int32)) dL_law_1881 (by decide) ?_
  refine V.iadd dL_law_1882 ?_
  obtain ⟨v7, e259, hf⟩ := bS hf
  refine V.xldS rfl dL_law_1883 e259 ?_
  refine V.aload_n dL_law_1884 rfl 1 rfl ?_
  refine V.iload dL_law_1885 5 rfl ?_
  refine V.iconst (v := (3 : Int32)) dL_law_1887 (by decide) ?_
  refine V.iadd dL_law_1888 ?_
  obtain ⟨v8, e260, hf⟩ := bS hf
  refine V.xldS rfl dL_law_1889 e260 ?_
  refine V.aload_n dL_law_1890 rfl 1 rfl ?_
  refine V.iload dL_law_1891 5 rfl ?_
  refine V.iconst (v := (4 : Int32)) dL_law_1893 (by decide) ?_
  refine V.iadd dL_law_1894 ?_
  obtain ⟨v9, e261, hf⟩ := bS hf
  refine V.xldS rfl dL_law_1895 e261 ?_
  obtain ⟨q10, e262, hf⟩ := bS hf
  obtain ⟨r11, e263, hf⟩ := bS hf
  refine V.callV (As := [.int v6, .int v7, .int v8, .int v9]) (st := []) dL_law_1896 cl_RL_252 sw_yX12_carry (by decide) rfl (Nat.le_of_ble_eq_true rfl) rfl (gO_some e262) rfl (w_X12_carry _ _ _ _ _ _ _ e263) ?_
  refine V.istore (lv' := [(6, .int r11.1), (5, .int r5.1), (0, .ref xSC), (1, .ref l1), (2, .ref l2), (3, .ref l3), (4, .int l4)]) dL_law_1899 (by decide) rfl ?_
  refine V.aload_n dL_law_1901 rfl 4 rfl ?_
  obtain ⟨q12, e264, hf⟩ := bS hf
  obtain ⟨r13, e265, hf⟩ := bS hf
  refine V.callV (As := []) (st := []) dL_law_1902 cl_RL_148 sw_yX12_thrown (by decide) rfl (Nat.le_of_ble_eq_true rfl) rfl (gO_some e264) rfl (w_X12_thrown _ _ _ e265) ?_
  refine V.iload dL_law_1905 1 rfl ?_
  refine V.icmp_eq (tgt := 1912) dL_law_1907 (by decide) (fun c14 => ?_) (fun c14 => ?_)
  · rw [if_pos c14] at hf
    refine V.iload dL_law_1912 1 rfl ?_
    refine V.if_ne (tgt := 1929) dL_law_1914 (by decide) (fun c15 => ?_) (fun c15 => ?_)
    · rw [if_neg c15] at hf
      refine V.goto (tgt := 2811) dL_law_1929 (by decide) ?_
      refine V.iinc (v := (l4 + 6)) (lv' := [(4, .int (l4 + 6)), (6, .int r11.1), (5, .int r5.1), (0, .ref xSC), (1, .ref l1), (2, .ref l2), (3, .ref l3)]) dL_law_2811 6 rfl rfl (Nat.le_of_ble_eq_true rfl) rfl ?_
      refine V.goto (tgt := 23) dL_law_2814 (by decide) ?_
      refine V.sub [3, 4, 5, 6, 0] rfl ?_
      exact hk23 _ _ _ _ _ _ hf
    · rw [if_pos c15] at hf
      refine V.aload_n dL_law_1917 rfl 5 rfl ?_
      refine V.iconst (v := (0 : Int32)) dL_law_1918 (by decide) ?_
      obtain ⟨v16, e266, hf⟩ := bS hf
      refine V.xldJ dL_law_1919 e266 ?_
      refine V.iload dL_law_1920 0 rfl ?_
      refine V.i2l dL_law_1922 ?_
      refine V.lcmp dL_law_1923 ?_
      refine V.if_eq (tgt := 1929) dL_law_1924 (by decide) (fun c17 => ?_) (fun c17 => ?_)
      · rw [if_pos c17] at hf
        refine V.goto (tgt := 2811) dL_law_1929 (by decide) ?_
        refine V.iinc (v := (l4 + 6)) (lv' := [(4, .int (l4 + 6)), (6, .int r11.1), (5, .int r5.1), (0, .ref xSC), (1, .ref l1), (2, .ref l2), (3, .ref l3)]) dL_law_2811 6 rfl rfl (Nat.le_of_ble_eq_true rfl) rfl ?_
        refine V.goto (tgt := 23) dL_law_2814 (by decide) ?_
        refine V.sub [3, 4, 5, 6, 0] rfl ?_
        exact hk23 _ _ _ _ _ _ hf
      · rw [if_neg c17] at hf
        refine V.iconst (v := (0 : Int32)) dL_law_1927 (by decide) ?_
        obtain rfl := Option.some.inj hf
        exact V.zret dL_law_1928 (by first | rfl | assumption)
  · rw [if_neg c14] at hf
    refine V.iconst (v := (0 : Int32)) dL_law_1910 (by decide) ?_
    obtain rfl := Option.some.inj hf
    exact V.zret dL_law_1911 (by first | rfl | assumption)

set_option maxRecDepth 20000 in
theorem w_L_law_1932 (L : Nat) (xs : Nat → Int32) (h : xH) {k23 : xH → Nat → Nat → Nat → Int32 → Option (Int32 × xH)} (hk23 : ∀ (h : xH) (l1 : Nat) (l2 : Nat) (l3 : Nat) (l4 : Int32) (r : Int32 × xH), k23 h l1 l2 l3 l4 = some r → V 51 yL_law cL_law 8 (some .boolean) [] (some (L, xs)) 23 [(0, .ref xSC), (1, .ref l1), (2, .ref l2), (3, .ref l3), (4, .int l4)] [] h (oIh r)) (l1 : Nat) (l2 : Nat) (l3 : Nat) (l4 : Int32) (r : Int32 × xH) (hf : f_L_law_1932 L xs k23 h l1 l2 l3 l4 = some r) : V 51 yL_law cL_law 8 (some .boolean) [] (some (L, xs)) 1932 [(0, .ref xSC), (1, .ref l1), (2, .ref l2), (3, .ref l3), (4, .int l4)] [] h (oIh r) := by
  unfold f_L_law_1932 at hf
  refine V.aload_n dL_law_1932 rfl 1 rfl ?_
  refine V.aload_n dL_law_1933 rfl 0 rfl ?_
  refine V.iload dL_law_1934 4 rfl ?_
  refine V.iconst (v := (1 : Int32)) dL_law_1936 (by decide) ?_
  refine V.iadd dL_law_1937 ?_
  obtain ⟨v1, e267, hf⟩ := bS hf
  refine V.xldS rfl dL_law_1938 e267 ?_
  refine V.aload_n dL_law_1939 rfl 3 rfl ?_
  obtain ⟨r2, e268, hf⟩ := bS hf
  refine V.callSW (As := [.ref l1, .int v1, .ref l3]) (st := []) dL_law_1940 cw_RL_253 (by decide) rfl (Nat.le_of_ble_eq_true rfl) rfl (w_L_cost _ _ _ _ _ e268) ?_
  refine V.istore (lv' := [(5, .int r2.1), (0, .ref xSC), (1, .ref l1), (2, .ref l2), (3, .ref l3), (4, .int l4)]) dL_law_1943 (by decide) rfl ?_
  refine V.aload_n dL_law_1945 rfl 3 rfl ?_
  refine V.aload_n dL_law_1946 rfl 1 rfl ?_
  refine V.iload dL_law_1947 5 rfl ?_
  refine V.iconst (v := (1 : Int32)) dL_law_1949 (by decide) ?_
  refine V.iadd dL_law_1950 ?_
  obtain ⟨v3, e269, hf⟩ := bS hf
  refine V.xldS rfl dL_law_1951 e269 ?_
  obtain ⟨q4, e270, hf⟩ := bS hf
  obtain ⟨r5, e271, hf⟩ := bS hf
  refine V.callV (As := [.int v3]) (st := []) dL_law_1952 cl_RL_255 sw_yX12_cost (by decide) rfl (Nat.le_of_ble_eq_true rfl) rfl (gO_some e270) rfl (w_X12_cost _ _ _ _ e271) ?_
  refine V.istore (lv' := [(6, .int r5.1), (5, .int r2.1), (0, .ref xSC), (1, .ref l1), (2, .ref l2), (3, .ref l3), (4, .int l4)]) dL_law_1955 (by decide) rfl ?_
  refine V.aload_n dL_law_1957 rfl 4 rfl ?_
  obtain ⟨q6, e272, hf⟩ := bS hf
  obtain ⟨r7, e273, hf⟩ := bS hf
  refine V.callV (As := []) (st := []) dL_law_1958 cl_RL_148 sw_yX12_thrown (by decide) rfl (Nat.le_of_ble_eq_true rfl) rfl (gO_some e272) rfl (w_X12_thrown _ _ _ e273) ?_
  refine V.iload dL_law_1961 1 rfl ?_
  refine V.icmp_eq (tgt := 1968) dL_law_1963 (by decide) (fun c8 => ?_) (fun c8 => ?_)
  · rw [if_pos c8] at hf
    refine V.iload dL_law_1968 1 rfl ?_
    refine V.if_ne (tgt := 1985) dL_law_1970 (by decide) (fun c9 => ?_) (fun c9 => ?_)
    · rw [if_neg c9] at hf
      refine V.goto (tgt := 2811) dL_law_1985 (by decide) ?_
      refine V.iinc (v := (l4 + 6)) (lv' := [(4, .int (l4 + 6)), (6, .int r5.1), (5, .int r2.1), (0, .ref xSC), (1, .ref l1), (2, .ref l2), (3, .ref l3)]) dL_law_2811 6 rfl rfl (Nat.le_of_ble_eq_true rfl) rfl ?_
      refine V.goto (tgt := 23) dL_law_2814 (by decide) ?_
      refine V.sub [3, 4, 5, 6, 0] rfl ?_
      exact hk23 _ _ _ _ _ _ hf
    · rw [if_pos c9] at hf
      refine V.aload_n dL_law_1973 rfl 5 rfl ?_
      refine V.iconst (v := (0 : Int32)) dL_law_1974 (by decide) ?_
      obtain ⟨v10, e274, hf⟩ := bS hf
      refine V.xldJ dL_law_1975 e274 ?_
      refine V.iload dL_law_1976 0 rfl ?_
      refine V.i2l dL_law_1978 ?_
      refine V.lcmp dL_law_1979 ?_
      refine V.if_eq (tgt := 1985) dL_law_1980 (by decide) (fun c11 => ?_) (fun c11 => ?_)
      · rw [if_pos c11] at hf
        refine V.goto (tgt := 2811) dL_law_1985 (by decide) ?_
        refine V.iinc (v := (l4 + 6)) (lv' := [(4, .int (l4 + 6)), (6, .int r5.1), (5, .int r2.1), (0, .ref xSC), (1, .ref l1), (2, .ref l2), (3, .ref l3)]) dL_law_2811 6 rfl rfl (Nat.le_of_ble_eq_true rfl) rfl ?_
        refine V.goto (tgt := 23) dL_law_2814 (by decide) ?_
        refine V.sub [3, 4, 5, 6, 0] rfl ?_
        exact hk23 _ _ _ _ _ _ hf
      · rw [if_neg c11] at hf
        refine V.iconst (v := (0 : Int32)) dL_law_1983 (by decide) ?_
        obtain rfl := Option.some.inj hf
        exact V.zret dL_law_1984 (by first | rfl | assumption)
  · rw [if_neg c8] at hf
    refine V.iconst (v := (0 : Int32)) dL_law_1966 (by decide) ?_
    obtain rfl := Option.some.inj hf
    exact V.zret dL_law_1967 (by first | rfl | assumption)

set_option maxRecDepth 20000 in
theorem w_L_law_2042 (L : Nat) (xs : Nat → Int32) (h : xH) {k23 : xH → Nat → Nat → Nat → Int32 → Option (Int32 × xH)} (hk23 : ∀ (h : xH) (l1 : Nat) (l2 : Nat) (l3 : Nat) (l4 : Int32) (r : Int32 × xH), k23 h l1 l2 l3 l4 = some r → V 51 yL_law cL_law 8 (some .boolean) [] (some (L, xs)) 23 [(0, .ref xSC), (1, .ref l1), (2, .ref l2), (3, .ref l3), (4, .int l4)] [] h (oIh r)) (l1 : Nat) (l2 : Nat) (l3 : Nat) (l4 : Int32) (s0 : Int64) (s1 : Int64) (r : Int32 × xH) (hf : f_L_law_2042 L xs k23 h l1 l2 l3 l4 s0 s1 = some r) : V 51 yL_law cL_law 8 (some .boolean) [] (some (L, xs)) 2042 [(0, .ref xSC), (1, .ref l1), (2, .ref l2), (3, .ref l3), (4, .int l4)] [.long s0, .long s1] h (oIh r) := by
  unfold f_L_law_2042 at hf
  refine V.lcmp dL_law_2042 ?_
  refine V.if_eq (tgt := 2048) dL_law_2043 (by decide) (fun c1 => ?_) (fun c1 => ?_)
  · rw [if_pos c1] at hf
    refine V.goto (tgt := 2811) dL_law_2048 (by decide) ?_
    refine V.iinc (v := (l4 + 6)) (lv' := [(4, .int (l4 + 6)), (0, .ref xSC), (1, .ref l1), (2, .ref l2), (3, .ref l3)]) dL_law_2811 4 rfl rfl (Nat.le_of_ble_eq_true rfl) rfl ?_
    refine V.goto (tgt := 23) dL_law_2814 (by decide) ?_
    refine V.sub [1, 2, 3, 4, 0] rfl ?_
    exact hk23 _ _ _ _ _ _ hf
  · rw [if_neg c1] at hf
    refine V.iconst (v := (0 : Int32)) dL_law_2046 (by decide) ?_
    obtain rfl := Option.some.inj hf
    exact V.zret dL_law_2047 (by first | rfl | assumption)

set_option maxRecDepth 20000 in
theorem w_L_law_1988 (L : Nat) (xs : Nat → Int32) (h : xH) {k23 : xH → Nat → Nat → Nat → Int32 → Option (Int32 × xH)} (hk23 : ∀ (h : xH) (l1 : Nat) (l2 : Nat) (l3 : Nat) (l4 : Int32) (r : Int32 × xH), k23 h l1 l2 l3 l4 = some r → V 51 yL_law cL_law 8 (some .boolean) [] (some (L, xs)) 23 [(0, .ref xSC), (1, .ref l1), (2, .ref l2), (3, .ref l3), (4, .int l4)] [] h (oIh r)) (l1 : Nat) (l2 : Nat) (l3 : Nat) (l4 : Int32) (r : Int32 × xH) (hf : f_L_law_1988 L xs k23 h l1 l2 l3 l4 = some r) : V 51 yL_law cL_law 8 (some .boolean) [] (some (L, xs)) 1988 [(0, .ref xSC), (1, .ref l1), (2, .ref l2), (3, .ref l3), (4, .int l4)] [] h (oIh r) := by
  unfold f_L_law_1988 at hf
  refine V.aload_n dL_law_1988 rfl 1 rfl ?_
  refine V.aload_n dL_law_1989 rfl 0 rfl ?_
  refine V.iload dL_law_1990 4 rfl ?_
  refine V.iconst (v := (1 : Int32)) dL_law_1992 (by decide) ?_
  refine V.iadd dL_law_1993 ?_
  obtain ⟨v1, e275, hf⟩ := bS hf
  refine V.xldS rfl dL_law_1994 e275 ?_
  refine V.aload_n dL_law_1995 rfl 3 rfl ?_
  obtain ⟨r2, e276, hf⟩ := bS hf
  refine V.callSW (As := [.ref l1, .int v1, .ref l3]) (st := []) dL_law_1996 cw_RL_256 (by decide) rfl (Nat.le_of_ble_eq_true rfl) rfl (w_L_owed _ _ _ _ _ e276) ?_
  refine V.istore (lv' := [(5, .int r2.1), (0, .ref xSC), (1, .ref l1), (2, .ref l2), (3, .ref l3), (4, .int l4)]) dL_law_1999 (by decide) rfl ?_
  refine V.aload_n dL_law_2001 rfl 3 rfl ?_
  refine V.aload_n dL_law_2002 rfl 1 rfl ?_
  refine V.iload dL_law_2003 5 rfl ?_
  refine V.iconst (v := (1 : Int32)) dL_law_2005 (by decide) ?_
  refine V.iadd dL_law_2006 ?_
  obtain ⟨v3, e277, hf⟩ := bS hf
  refine V.xldS rfl dL_law_2007 e277 ?_
  obtain ⟨q4, e278, hf⟩ := bS hf
  obtain ⟨r5, e279, hf⟩ := bS hf
  refine V.callV (As := [.int v3]) (st := []) dL_law_2008 cl_RL_258 sw_yX12_owed (by decide) rfl (Nat.le_of_ble_eq_true rfl) rfl (gO_some e278) rfl (w_X12_owed _ _ _ _ e279) ?_
  refine V.istore (lv' := [(6, .int r5.1), (5, .int r2.1), (0, .ref xSC), (1, .ref l1), (2, .ref l2), (3, .ref l3), (4, .int l4)]) dL_law_2011 (by decide) rfl ?_
  refine V.aload_n dL_law_2013 rfl 4 rfl ?_
  obtain ⟨q6, e280, hf⟩ := bS hf
  obtain ⟨r7, e281, hf⟩ := bS hf
  refine V.callV (As := []) (st := []) dL_law_2014 cl_RL_148 sw_yX12_thrown (by decide) rfl (Nat.le_of_ble_eq_true rfl) rfl (gO_some e280) rfl (w_X12_thrown _ _ _ e281) ?_
  refine V.iload dL_law_2017 1 rfl ?_
  refine V.icmp_eq (tgt := 2024) dL_law_2019 (by decide) (fun c8 => ?_) (fun c8 => ?_)
  · rw [if_pos c8] at hf
    refine V.iload dL_law_2024 1 rfl ?_
    refine V.if_ne (tgt := 2048) dL_law_2026 (by decide) (fun c9 => ?_) (fun c9 => ?_)
    · rw [if_neg c9] at hf
      refine V.goto (tgt := 2811) dL_law_2048 (by decide) ?_
      refine V.iinc (v := (l4 + 6)) (lv' := [(4, .int (l4 + 6)), (6, .int r5.1), (5, .int r2.1), (0, .ref xSC), (1, .ref l1), (2, .ref l2), (3, .ref l3)]) dL_law_2811 6 rfl rfl (Nat.le_of_ble_eq_true rfl) rfl ?_
      refine V.goto (tgt := 23) dL_law_2814 (by decide) ?_
      refine V.sub [3, 4, 5, 6, 0] rfl ?_
      exact hk23 _ _ _ _ _ _ hf
    · rw [if_pos c9] at hf
      refine V.aload_n dL_law_2029 rfl 5 rfl ?_
      refine V.iconst (v := (0 : Int32)) dL_law_2030 (by decide) ?_
      obtain ⟨v10, e282, hf⟩ := bS hf
      refine V.xldJ dL_law_2031 e282 ?_
      refine V.iload dL_law_2032 0 rfl ?_
      refine V.if_eq (tgt := 2041) dL_law_2034 (by decide) (fun c11 => ?_) (fun c11 => ?_)
      · rw [if_pos c11] at hf
        refine V.lconst (v := 0) dL_law_2041 (by decide) ?_
        refine V.sub [2, 3, 4, 5, 6] rfl ?_
        exact w_L_law_2042 L xs _ hk23 _ _ _ _ _ _ _ hf
      · rw [if_neg c11] at hf
        refine V.lconst (v := 1) dL_law_2037 (by decide) ?_
        refine V.goto (tgt := 2042) dL_law_2038 (by decide) ?_
        refine V.sub [2, 3, 4, 5, 6] rfl ?_
        exact w_L_law_2042 L xs _ hk23 _ _ _ _ _ _ _ hf
  · rw [if_neg c8] at hf
    refine V.iconst (v := (0 : Int32)) dL_law_2022 (by decide) ?_
    obtain rfl := Option.some.inj hf
    exact V.zret dL_law_2023 (by first | rfl | assumption)

set_option maxRecDepth 20000 in
theorem w_L_law_2051 (L : Nat) (xs : Nat → Int32) (h : xH) {k23 : xH → Nat → Nat → Nat → Int32 → Option (Int32 × xH)} (hk23 : ∀ (h : xH) (l1 : Nat) (l2 : Nat) (l3 : Nat) (l4 : Int32) (r : Int32 × xH), k23 h l1 l2 l3 l4 = some r → V 51 yL_law cL_law 8 (some .boolean) [] (some (L, xs)) 23 [(0, .ref xSC), (1, .ref l1), (2, .ref l2), (3, .ref l3), (4, .int l4)] [] h (oIh r)) (l1 : Nat) (l2 : Nat) (l3 : Nat) (l4 : Int32) (r : Int32 × xH) (hf : f_L_law_2051 L xs k23 h l1 l2 l3 l4 = some r) : V 51 yL_law cL_law 8 (some .boolean) [] (some (L, xs)) 2051 [(0, .ref xSC), (1, .ref l1), (2, .ref l2), (3, .ref l3), (4, .int l4)] [] h (oIh r) := by
  unfold f_L_law_2051 at hf
  refine V.aload_n dL_law_2051 rfl 1 rfl ?_
  obtain ⟨q1, e283, hf⟩ := bS hf
  obtain ⟨r2, e284, hf⟩ := bS hf
  refine V.callV (As := []) (st := []) dL_law_2052 cl_RL_259 sw_yX11_upper (by decide) rfl (Nat.le_of_ble_eq_true rfl) rfl (gO_some e283) rfl (w_X11_upper _ _ _ e284) ?_
  refine V.aload_n dL_law_2055 rfl 2 rfl ?_
  obtain ⟨q3, e285, hf⟩ := bS hf
  obtain ⟨r4, e286, hf⟩ := bS hf
  refine V.callV (As := []) (st := [.long r2]) dL_law_2056 cl_RL_263 sw_yX12_upper (by decide) rfl (Nat.le_of_ble_eq_true rfl) rfl (gO_some e285) rfl (w_X12_upper _ _ _ e286) ?_
  refine V.lcmp dL_law_2059 ?_
  refine V.if_eq (tgt := 2811) dL_law_2060 (by decide) (fun c5 => ?_) (fun c5 => ?_)
  · rw [if_pos c5] at hf
    refine V.iinc (v := (l4 + 6)) (lv' := [(4, .int (l4 + 6)), (0, .ref xSC), (1, .ref l1), (2, .ref l2), (3, .ref l3)]) dL_law_2811 4 rfl rfl (Nat.le_of_ble_eq_true rfl) rfl ?_
    refine V.goto (tgt := 23) dL_law_2814 (by decide) ?_
    refine V.sub [1, 2, 3, 4, 0] rfl ?_
    exact hk23 _ _ _ _ _ _ hf
  · rw [if_neg c5] at hf
    refine V.iconst (v := (0 : Int32)) dL_law_2063 (by decide) ?_
    obtain rfl := Option.some.inj hf
    exact V.zret dL_law_2064 (by first | rfl | assumption)

set_option maxRecDepth 20000 in
theorem w_L_law_2065 (L : Nat) (xs : Nat → Int32) (h : xH) {k23 : xH → Nat → Nat → Nat → Int32 → Option (Int32 × xH)} (hk23 : ∀ (h : xH) (l1 : Nat) (l2 : Nat) (l3 : Nat) (l4 : Int32) (r : Int32 × xH), k23 h l1 l2 l3 l4 = some r → V 51 yL_law cL_law 8 (some .boolean) [] (some (L, xs)) 23 [(0, .ref xSC), (1, .ref l1), (2, .ref l2), (3, .ref l3), (4, .int l4)] [] h (oIh r)) (l1 : Nat) (l2 : Nat) (l3 : Nat) (l4 : Int32) (r : Int32 × xH) (hf : f_L_law_2065 L xs k23 h l1 l2 l3 l4 = some r) : V 51 yL_law cL_law 8 (some .boolean) [] (some (L, xs)) 2065 [(0, .ref xSC), (1, .ref l1), (2, .ref l2), (3, .ref l3), (4, .int l4)] [] h (oIh r) := by
  unfold f_L_law_2065 at hf
  refine V.aload_n dL_law_2065 rfl 1 rfl ?_
  obtain ⟨q1, e287, hf⟩ := bS hf
  obtain ⟨r2, e288, hf⟩ := bS hf
  refine V.callV (As := []) (st := []) dL_law_2066 cl_RL_264 sw_yX11_lower (by decide) rfl (Nat.le_of_ble_eq_true rfl) rfl (gO_some e287) rfl (w_X11_lower _ _ _ e288) ?_
  refine V.aload_n dL_law_2069 rfl 2 rfl ?_
  obtain ⟨q3, e289, hf⟩ := bS hf
  obtain ⟨r4, e290, hf⟩ := bS hf
  refine V.callV (As := []) (st := [.long r2]) dL_law_2070 cl_RL_267 sw_yX12_lower (by decide) rfl (Nat.le_of_ble_eq_true rfl) rfl (gO_some e289) rfl (w_X12_lower _ _ _ e290) ?_
  refine V.lcmp dL_law_2073 ?_
  refine V.if_eq (tgt := 2811) dL_law_2074 (by decide) (fun c5 => ?_) (fun c5 => ?_)
  · rw [if_pos c5] at hf
    refine V.iinc (v := (l4 + 6)) (lv' := [(4, .int (l4 + 6)), (0, .ref xSC), (1, .ref l1), (2, .ref l2), (3, .ref l3)]) dL_law_2811 4 rfl rfl (Nat.le_of_ble_eq_true rfl) rfl ?_
    refine V.goto (tgt := 23) dL_law_2814 (by decide) ?_
    refine V.sub [1, 2, 3, 4, 0] rfl ?_
    exact hk23 _ _ _ _ _ _ hf
  · rw [if_neg c5] at hf
    refine V.iconst (v := (0 : Int32)) dL_law_2077 (by decide) ?_
    obtain rfl := Option.some.inj hf
    exact V.zret dL_law_2078 (by first | rfl | assumption)

set_option maxRecDepth 20000 in
theorem w_L_law_2079 (L : Nat) (xs : Nat → Int32) (h : xH) {k23 : xH → Nat → Nat → Nat → Int32 → Option (Int32 × xH)} (hk23 : ∀ (h : xH) (l1 : Nat) (l2 : Nat) (l3 : Nat) (l4 : Int32) (r : Int32 × xH), k23 h l1 l2 l3 l4 = some r → V 51 yL_law cL_law 8 (some .boolean) [] (some (L, xs)) 23 [(0, .ref xSC), (1, .ref l1), (2, .ref l2), (3, .ref l3), (4, .int l4)] [] h (oIh r)) (l1 : Nat) (l2 : Nat) (l3 : Nat) (l4 : Int32) (r : Int32 × xH) (hf : f_L_law_2079 L xs k23 h l1 l2 l3 l4 = some r) : V 51 yL_law cL_law 8 (some .boolean) [] (some (L, xs)) 2079 [(0, .ref xSC), (1, .ref l1), (2, .ref l2), (3, .ref l3), (4, .int l4)] [] h (oIh r) := by
  unfold f_L_law_2079 at hf
  refine V.aload_n dL_law_2079 rfl 1 rfl ?_
  refine V.aload_n dL_law_2080 rfl 0 rfl ?_
  refine V.iload dL_law_2081 4 rfl ?_
  refine V.iconst (v := (1 : Int32)) dL_law_2083 (by decide) ?_
  refine V.iadd dL_law_2084 ?_
  obtain ⟨v1, e291, hf⟩ := bS hf
  refine V.xldS rfl dL_law_2085 e291 ?_
  refine V.aload_n dL_law_2086 rfl 3 rfl ?_
  obtain ⟨r2, e292, hf⟩ := bS hf
  refine V.callSW (As := [.ref l1, .int v1, .ref l3]) (st := []) dL_law_2087 cw_RL_268 (by decide) rfl (Nat.le_of_ble_eq_true rfl) rfl (w_L_sooner _ _ _ _ _ e292) ?_
  refine V.istore (lv' := [(5, .int r2.1), (0, .ref xSC), (1, .ref l1), (2, .ref l2), (3, .ref l3), (4, .int l4)]) dL_law_2090 (by decide) rfl ?_
  refine V.aload_n dL_law_2092 rfl 3 rfl ?_
  refine V.aload_n dL_law_2093 rfl 1 rfl ?_
  refine V.iload dL_law_2094 5 rfl ?_
  refine V.iconst (v := (1 : Int32)) dL_law_2096 (by decide) ?_
  refine V.iadd dL_law_2097 ?_
  obtain ⟨v3, e293, hf⟩ := bS hf
  refine V.xldS rfl dL_law_2098 e293 ?_
  obtain ⟨q4, e294, hf⟩ := bS hf
  obtain ⟨r5, e295, hf⟩ := bS hf
  refine V.callV (As := [.int v3]) (st := []) dL_law_2099 cl_RL_270 sw_yX12_sooner (by decide) rfl (Nat.le_of_ble_eq_true rfl) rfl (gO_some e294) rfl (w_X12_sooner _ _ _ _ e295) ?_
  refine V.istore (lv' := [(6, .int r5.1), (5, .int r2.1), (0, .ref xSC), (1, .ref l1), (2, .ref l2), (3, .ref l3), (4, .int l4)]) dL_law_2102 (by decide) rfl ?_
  refine V.aload_n dL_law_2104 rfl 4 rfl ?_
  obtain ⟨q6, e296, hf⟩ := bS hf
  obtain ⟨r7, e297, hf⟩ := bS hf
  refine V.callV (As := []) (st := []) dL_law_2105 cl_RL_148 sw_yX12_thrown (by decide) rfl (Nat.le_of_ble_eq_true rfl) rfl (gO_some e296) rfl (w_X12_thrown _ _ _ e297) ?_
  refine V.iload dL_law_2108 1 rfl ?_
  refine V.icmp_eq (tgt := 2115) dL_law_2110 (by decide) (fun c8 => ?_) (fun c8 => ?_)
  · rw [if_pos c8] at hf
    refine V.iload dL_law_2115 1 rfl ?_
    refine V.if_ne (tgt := 2132) dL_law_2117 (by decide) (fun c9 => ?_) (fun c9 => ?_)
    · rw [if_neg c9] at hf
      refine V.goto (tgt := 2811) dL_law_2132 (by decide) ?_
      refine V.iinc (v := (l4 + 6)) (lv' := [(4, .int (l4 + 6)), (6, .int r5.1), (5, .int r2.1), (0, .ref xSC), (1, .ref l1), (2, .ref l2), (3, .ref l3)]) dL_law_2811 6 rfl rfl (Nat.le_of_ble_eq_true rfl) rfl ?_
      refine V.goto (tgt := 23) dL_law_2814 (by decide) ?_
      refine V.sub [3, 4, 5, 6, 0] rfl ?_
      exact hk23 _ _ _ _ _ _ hf
    · rw [if_pos c9] at hf
      refine V.aload_n dL_law_2120 rfl 5 rfl ?_
      refine V.iconst (v := (0 : Int32)) dL_law_2121 (by decide) ?_
      obtain ⟨v10, e298, hf⟩ := bS hf
      refine V.xldJ dL_law_2122 e298 ?_
      refine V.iload dL_law_2123 0 rfl ?_
      refine V.i2l dL_law_2125 ?_
      refine V.lcmp dL_law_2126 ?_
      refine V.if_eq (tgt := 2132) dL_law_2127 (by decide) (fun c11 => ?_) (fun c11 => ?_)
      · rw [if_pos c11] at hf
        refine V.goto (tgt := 2811) dL_law_2132 (by decide) ?_
        refine V.iinc (v := (l4 + 6)) (lv' := [(4, .int (l4 + 6)), (6, .int r5.1), (5, .int r2.1), (0, .ref xSC), (1, .ref l1), (2, .ref l2), (3, .ref l3)]) dL_law_2811 6 rfl rfl (Nat.le_of_ble_eq_true rfl) rfl ?_
        refine V.goto (tgt := 23) dL_law_2814 (by decide) ?_
        refine V.sub [3, 4, 5, 6, 0] rfl ?_
        exact hk23 _ _ _ _ _ _ hf
      · rw [if_neg c11] at hf
        refine V.iconst (v := (0 : Int32)) dL_law_2130 (by decide) ?_
        obtain rfl := Option.some.inj hf
        exact V.zret dL_law_2131 (by first | rfl | assumption)
  · rw [if_neg c8] at hf
    refine V.iconst (v := (0 : Int32)) dL_law_2113 (by decide) ?_
    obtain rfl := Option.some.inj hf
    exact V.zret dL_law_2114 (by first | rfl | assumption)

set_option maxRecDepth 20000 in
theorem w_L_law_2135 (L : Nat) (xs : Nat → Int32) (h : xH) {k23 : xH → Nat → Nat → Nat → Int32 → Option (Int32 × xH)} (hk23 : ∀ (h : xH) (l1 : Nat) (l2 : Nat) (l3 : Nat) (l4 : Int32) (r : Int32 × xH), k23 h l1 l2 l3 l4 = some r → V 51 yL_law cL_law 8 (some .boolean) [] (some (L, xs)) 23 [(0, .ref xSC), (1, .ref l1), (2, .ref l2), (3, .ref l3), (4, .int l4)] [] h (oIh r)) (l1 : Nat) (l2 : Nat) (l3 : Nat) (l4 : Int32) (r : Int32 × xH) (hf : f_L_law_2135 L xs k23 h l1 l2 l3 l4 = some r) : V 51 yL_law cL_law 8 (some .boolean) [] (some (L, xs)) 2135 [(0, .ref xSC), (1, .ref l1), (2, .ref l2), (3, .ref l3), (4, .int l4)] [] h (oIh r) := by
  unfold f_L_law_2135 at hf
  refine V.aload_n dL_law_2135 rfl 1 rfl ?_
  refine V.aload_n dL_law_2136 rfl 0 rfl ?_
  refine V.iload dL_law_2137 4 rfl ?_
  refine V.iconst (v := (1 : Int32)) dL_law_2139 (by decide) ?_
  refine V.iadd dL_law_2140 ?_
  obtain ⟨v1, e299, hf⟩ := bS hf
  refine V.xldS rfl dL_law_2141 e299 ?_
  refine V.aload_n dL_law_2142 rfl 0 rfl ?_
  refine V.iload dL_law_2143 4 rfl ?_
  refine V.iconst (v := (2 : Int32)) dL_law_2145 (by decide) ?_
  refine V.iadd dL_law_2146 ?_
  obtain ⟨v2, e300, hf⟩ := bS hf
  refine V.xldS rfl dL_law_2147 e300 ?_
  refine V.aload_n dL_law_2148 rfl 3 rfl ?_
  obtain ⟨r3, e301, hf⟩ := bS hf
  refine V.callSW (As := [.ref l1, .int v1, .int v2, .ref l3]) (st := []) dL_law_2149 cw_RL_271 (by decide) rfl (Nat.le_of_ble_eq_true rfl) rfl (w_L_round _ _ _ _ _ _ e301) ?_
  refine V.istore (lv' := [(5, .int r3.1), (0, .ref xSC), (1, .ref l1), (2, .ref l2), (3, .ref l3), (4, .int l4)]) dL_law_2152 (by decide) rfl ?_
  refine V.aload_n dL_law_2154 rfl 3 rfl ?_
  refine V.aload_n dL_law_2155 rfl 1 rfl ?_
  refine V.iload dL_law_2156 5 rfl ?_
  refine V.iconst (v := (1 : Int32)) dL_law_2158 (by decide) ?_
  refine V.iadd dL_law_2159 ?_
  obtain ⟨v4, e302, hf⟩ := bS hf
  refine V.xldS rfl dL_law_2160 e302 ?_
  refine V.aload_n dL_law_2161 rfl 1 rfl ?_
  refine V.iload dL_law_2162 5 rfl ?_
  refine V.iconst (v := (2 : Int32)) dL_law_2164 (by decide) ?_
  refine V.iadd dL_law_2165 ?_
  obtain ⟨v5, e303, hf⟩ := bS hf
  refine V.xldS rfl dL_law_2166 e303 ?_
  obtain ⟨q6, e304, hf⟩ := bS hf
  obtain ⟨r7, e305, hf⟩ := bS hf
  refine V.callV (As := [.int v4, .int v5]) (st := []) dL_law_2167 cl_RL_273 sw_yX12_round (by decide) rfl (Nat.le_of_ble_eq_true rfl) rfl (gO_some e304) rfl (w_X12_round _ _ _ _ _ e305) ?_
  refine V.istore (lv' := [(6, .int r7.1), (5, .int r3.1), (0, .ref xSC), (1, .ref l1), (2, .ref l2), (3, .ref l3), (4, .int l4)]) dL_law_2170 (by decide) rfl ?_
  refine V.aload_n dL_law_2172 rfl 4 rfl ?_
  obtain ⟨q8, e306, hf⟩ := bS hf
  obtain ⟨r9, e307, hf⟩ := bS hf
  refine V.callV (As := []) (st := []) dL_law_2173 cl_RL_148 sw_yX12_thrown (by decide) rfl (Nat.le_of_ble_eq_true rfl) rfl (gO_some e306) rfl (w_X12_thrown _ _ _ e307) ?_
  refine V.iload dL_law_2176 1 rfl ?_
  refine V.icmp_eq (tgt := 2183) dL_law_2178 (by decide) (fun c10 => ?_) (fun c10 => ?_)
  · rw [if_pos c10] at hf
    refine V.iload dL_law_2183 1 rfl ?_
    refine V.if_ne (tgt := 2200) dL_law_2185 (by decide) (fun c11 => ?_) (fun c11 => ?_)
    · rw [if_neg c11] at hf
      refine V.goto (tgt := 2811) dL_law_2200 (by decide) ?_
      refine V.iinc (v := (l4 + 6)) (lv' := [(4, .int (l4 + 6)), (6, .int r7.1), (5, .int r3.1), (0, .ref xSC), (1, .ref l1), (2, .ref l2), (3, .ref l3)]) dL_law_2811 6 rfl rfl (Nat.le_of_ble_eq_true rfl) rfl ?_
      refine V.goto (tgt := 23) dL_law_2814 (by decide) ?_
      refine V.sub [3, 4, 5, 6, 0] rfl ?_
      exact hk23 _ _ _ _ _ _ hf
    · rw [if_pos c11] at hf
      refine V.aload_n dL_law_2188 rfl 5 rfl ?_
      refine V.iconst (v := (0 : Int32)) dL_law_2189 (by decide) ?_
      obtain ⟨v12, e308, hf⟩ := bS hf
      refine V.xldJ dL_law_2190 e308 ?_
      refine V.iload dL_law_2191 0 rfl ?_
      refine V.i2l dL_law_2193 ?_
      refine V.lcmp dL_law_2194 ?_
      refine V.if_eq (tgt := 2200) dL_law_2195 (by decide) (fun c13 => ?_) (fun c13 => ?_)
      · rw [if_pos c13] at hf
        refine V.goto (tgt := 2811) dL_law_2200 (by decide) ?_
        refine V.iinc (v := (l4 + 6)) (lv' := [(4, .int (l4 + 6)), (6, .int r7.1), (5, .int r3.1), (0, .ref xSC), (1, .ref l1), (2, .ref l2), (3, .ref l3)]) dL_law_2811 6 rfl rfl (Nat.le_of_ble_eq_true rfl) rfl ?_
        refine V.goto (tgt := 23) dL_law_2814 (by decide) ?_
        refine V.sub [3, 4, 5, 6, 0] rfl ?_
        exact hk23 _ _ _ _ _ _ hf
      · rw [if_neg c13] at hf
        refine V.iconst (v := (0 : Int32)) dL_law_2198 (by decide) ?_
        obtain rfl := Option.some.inj hf
        exact V.zret dL_law_2199 (by first | rfl | assumption)
  · rw [if_neg c10] at hf
    refine V.iconst (v := (0 : Int32)) dL_law_2181 (by decide) ?_
    obtain rfl := Option.some.inj hf
    exact V.zret dL_law_2182 (by first | rfl | assumption)

set_option maxRecDepth 20000 in
theorem w_L_law_2263 (L : Nat) (xs : Nat → Int32) (h : xH) {k23 : xH → Nat → Nat → Nat → Int32 → Option (Int32 × xH)} (hk23 : ∀ (h : xH) (l1 : Nat) (l2 : Nat) (l3 : Nat) (l4 : Int32) (r : Int32 × xH), k23 h l1 l2 l3 l4 = some r → V 51 yL_law cL_law 8 (some .boolean) [] (some (L, xs)) 23 [(0, .ref xSC), (1, .ref l1), (2, .ref l2), (3, .ref l3), (4, .int l4)] [] h (oIh r)) (l1 : Nat) (l2 : Nat) (l3 : Nat) (l4 : Int32) (l5 : Int32) (s0 : Int32) (s1 : Int32) (s2 : Nat) (r : Int32 × xH) (hf : f_L_law_2263 L xs k23 h l1 l2 l3 l4 l5 s0 s1 s2 = some r) : V 51 yL_law cL_law 8 (some .boolean) [] (some (L, xs)) 2263 [(0, .ref xSC), (1, .ref l1), (2, .ref l2), (3, .ref l3), (4, .int l4), (5, .int l5)] [.int s0, .int s1, .ref s2] h (oIh r) := by
  unfold f_L_law_2263 at hf
  refine V.aload_n dL_law_2263 rfl 0 rfl ?_
  refine V.iload dL_law_2264 4 rfl ?_
  refine V.iconst (v := (3 : Int32)) dL_law_2266 (by decide) ?_
  refine V.iadd dL_law_2267 ?_
  obtain ⟨v1, e309, hf⟩ := bS hf
  refine V.xldS rfl dL_law_2268 e309 ?_
  refine V.aload_n dL_law_2269 rfl 0 rfl ?_
  refine V.iload dL_law_2270 4 rfl ?_
  refine V.iconst (v := (4 : Int32)) dL_law_2272 (by decide) ?_
  refine V.iadd dL_law_2273 ?_
  obtain ⟨v2, e310, hf⟩ := bS hf
  refine V.xldS rfl dL_law_2274 e310 ?_
  obtain ⟨q3, e311, hf⟩ := bS hf
  obtain ⟨r4, e312, hf⟩ := bS hf
  refine V.callV (As := [.int s1, .int s0, .int v1, .int v2]) (st := []) dL_law_2275 cl_RL_277 sw_yX12_rule (by decide) rfl (Nat.le_of_ble_eq_true rfl) rfl (gO_some e311) rfl (w_X12_rule _ _ _ _ _ _ _ e312) ?_
  refine V.istore (lv' := [(6, .int r4.1), (0, .ref xSC), (1, .ref l1), (2, .ref l2), (3, .ref l3), (4, .int l4), (5, .int l5)]) dL_law_2278 (by decide) rfl ?_
  refine V.aload_n dL_law_2280 rfl 3 rfl ?_
  obtain ⟨q5, e313, hf⟩ := bS hf
  obtain ⟨r6, e314, hf⟩ := bS hf
  refine V.callV (As := []) (st := []) dL_law_2281 cl_RL_148 sw_yX12_thrown (by decide) rfl (Nat.le_of_ble_eq_true rfl) rfl (gO_some e313) rfl (w_X12_thrown _ _ _ e314) ?_
  refine V.iload dL_law_2284 6 rfl ?_
  refine V.icmp_eq (tgt := 2291) dL_law_2286 (by decide) (fun c7 => ?_) (fun c7 => ?_)
  · rw [if_pos c7] at hf
    refine V.iload dL_law_2291 6 rfl ?_
    refine V.if_ne (tgt := 2308) dL_law_2293 (by decide) (fun c8 => ?_) (fun c8 => ?_)
    · rw [if_neg c8] at hf
      refine V.goto (tgt := 2811) dL_law_2308 (by decide) ?_
      refine V.iinc (v := (l4 + 6)) (lv' := [(4, .int (l4 + 6)), (6, .int r4.1), (0, .ref xSC), (1, .ref l1), (2, .ref l2), (3, .ref l3), (5, .int l5)]) dL_law_2811 5 rfl rfl (Nat.le_of_ble_eq_true rfl) rfl ?_
      refine V.goto (tgt := 23) dL_law_2814 (by decide) ?_
      refine V.sub [2, 3, 4, 5, 0] rfl ?_
      exact hk23 _ _ _ _ _ _ hf
    · rw [if_pos c8] at hf
      refine V.aload_n dL_law_2296 rfl 4 rfl ?_
      refine V.iconst (v := (0 : Int32)) dL_law_2297 (by decide) ?_
      obtain ⟨v9, e315, hf⟩ := bS hf
      refine V.xldJ dL_law_2298 e315 ?_
      refine V.iload dL_law_2299 0 rfl ?_
      refine V.i2l dL_law_2301 ?_
      refine V.lcmp dL_law_2302 ?_
      refine V.if_eq (tgt := 2308) dL_law_2303 (by decide) (fun c10 => ?_) (fun c10 => ?_)
      · rw [if_pos c10] at hf
        refine V.goto (tgt := 2811) dL_law_2308 (by decide) ?_
        refine V.iinc (v := (l4 + 6)) (lv' := [(4, .int (l4 + 6)), (6, .int r4.1), (0, .ref xSC), (1, .ref l1), (2, .ref l2), (3, .ref l3), (5, .int l5)]) dL_law_2811 5 rfl rfl (Nat.le_of_ble_eq_true rfl) rfl ?_
        refine V.goto (tgt := 23) dL_law_2814 (by decide) ?_
        refine V.sub [2, 3, 4, 5, 0] rfl ?_
        exact hk23 _ _ _ _ _ _ hf
      · rw [if_neg c10] at hf
        refine V.iconst (v := (0 : Int32)) dL_law_2306 (by decide) ?_
        obtain rfl := Option.some.inj hf
        exact V.zret dL_law_2307 (by first | rfl | assumption)
  · rw [if_neg c7] at hf
    refine V.iconst (v := (0 : Int32)) dL_law_2289 (by decide) ?_
    obtain rfl := Option.some.inj hf
    exact V.zret dL_law_2290 (by first | rfl | assumption)

set_option maxRecDepth 20000 in
theorem w_L_law_2224 (L : Nat) (xs : Nat → Int32) (h : xH) {k23 : xH → Nat → Nat → Nat → Int32 → Option (Int32 × xH)} (hk23 : ∀ (h : xH) (l1 : Nat) (l2 : Nat) (l3 : Nat) (l4 : Int32) (r : Int32 × xH), k23 h l1 l2 l3 l4 = some r → V 51 yL_law cL_law 8 (some .boolean) [] (some (L, xs)) 23 [(0, .ref xSC), (1, .ref l1), (2, .ref l2), (3, .ref l3), (4, .int l4)] [] h (oIh r)) (l1 : Nat) (l2 : Nat) (l3 : Nat) (l4 : Int32) (s0 : Int32) (s1 : Int32) (s2 : Nat) (r : Int32 × xH) (hf : f_L_law_2224 L xs k23 h l1 l2 l3 l4 s0 s1 s2 = some r) : V 51 yL_law cL_law 8 (some .boolean) [] (some (L, xs)) 2224 [(0, .ref xSC), (1, .ref l1), (2, .ref l2), (3, .ref l3), (4, .int l4)] [.int s0, .int s1, .ref s2] h (oIh r) := by
  unfold f_L_law_2224 at hf
  refine V.aload_n dL_law_2224 rfl 0 rfl ?_
  refine V.iload dL_law_2225 4 rfl ?_
  refine V.iconst (v := (3 : Int32)) dL_law_2227 (by decide) ?_
  refine V.iadd dL_law_2228 ?_
  obtain ⟨v1, e316, hf⟩ := bS hf
  refine V.xldS rfl dL_law_2229 e316 ?_
  refine V.aload_n dL_law_2230 rfl 0 rfl ?_
  refine V.iload dL_law_2231 4 rfl ?_
  refine V.iconst (v := (4 : Int32)) dL_law_2233 (by decide) ?_
  refine V.iadd dL_law_2234 ?_
  obtain ⟨v2, e317, hf⟩ := bS hf
  refine V.xldS rfl dL_law_2235 e317 ?_
  refine V.aload_n dL_law_2236 rfl 3 rfl ?_
  obtain ⟨r3, e318, hf⟩ := bS hf
  refine V.callSW (As := [.ref s2, .int s1, .int s0, .int v1, .int v2, .ref l3]) (st := []) dL_law_2237 cw_RL_274 (by decide) rfl (Nat.le_of_ble_eq_true rfl) rfl (w_L_rule _ _ _ _ _ _ _ _ e318) ?_
  refine V.istore (lv' := [(5, .int r3.1), (0, .ref xSC), (1, .ref l1), (2, .ref l2), (3, .ref l3), (4, .int l4)]) dL_law_2240 (by decide) rfl ?_
  refine V.aload_n dL_law_2242 rfl 3 rfl ?_
  refine V.aload_n dL_law_2243 rfl 1 rfl ?_
  refine V.iload dL_law_2244 5 rfl ?_
  refine V.iconst (v := (1 : Int32)) dL_law_2246 (by decide) ?_
  refine V.iadd dL_law_2247 ?_
  obtain ⟨v4, e319, hf⟩ := bS hf
  refine V.xldS rfl dL_law_2248 e319 ?_
  refine V.aload_n dL_law_2249 rfl 1 rfl ?_
  refine V.iload dL_law_2250 5 rfl ?_
  refine V.iconst (v := (2 : Int32)) dL_law_2252 (by decide) ?_
  refine V.iadd dL_law_2253 ?_
  obtain ⟨v5, e320, hf⟩ := bS hf
  refine V.xldS rfl dL_law_2254 e320 ?_
  refine V.if_eq (tgt := 2262) dL_law_2255 (by decide) (fun c6 => ?_) (fun c6 => ?_)
  · rw [if_pos c6] at hf
    refine V.iconst (v := (0 : Int32)) dL_law_2262 (by decide) ?_
    refine V.sub [1, 2, 3, 4, 5, 0] rfl ?_
    exact w_L_law_2263 L xs _ hk23 _ _ _ _ _ _ _ _ _ hf
  · rw [if_neg c6] at hf
    refine V.iconst (v := (1 : Int32)) dL_law_2258 (by decide) ?_
    refine V.goto (tgt := 2263) dL_law_2259 (by decide) ?_
    refine V.sub [1, 2, 3, 4, 5, 0] rfl ?_
    exact w_L_law_2263 L xs _ hk23 _ _ _ _ _ _ _ _ _ hf

set_option maxRecDepth 20000 in
theorem w_L_law_2203 (L : Nat) (xs : Nat → Int32) (h : xH) {k23 : xH → Nat → Nat → Nat → Int32 → Option (Int32 × xH)} (hk23 : ∀ (h : xH) (l1 : Nat) (l2 : Nat) (l3 : Nat) (l4 : Int32) (r : Int32 × xH), k23 h l1 l2 l3 l4 = some r → V 51 yL_law cL_law 8 (some .boolean) [] (some (L, xs)) 23 [(0, .ref xSC), (1, .ref l1), (2, .ref l2), (3, .ref l3), (4, .int l4)] [] h (oIh r)) (l1 : Nat) (l2 : Nat) (l3 : Nat) (l4 : Int32) (r : Int32 × xH) (hf : f_L_law_2203 L xs k23 h l1 l2 l3 l4 = some r) : V 51 yL_law cL_law 8 (some .boolean) [] (some (L, xs)) 2203 [(0, .ref xSC), (1, .ref l1), (2, .ref l2), (3, .ref l3), (4, .int l4)] [] h (oIh r) := by
  unfold f_L_law_2203 at hf
  refine V.aload_n dL_law_2203 rfl 1 rfl ?_
  refine V.aload_n dL_law_2204 rfl 0 rfl ?_
  refine V.iload dL_law_2205 4 rfl ?_
  refine V.iconst (v := (1 : Int32)) dL_law_2207 (by decide) ?_
  refine V.iadd dL_law_2208 ?_
  obtain ⟨v1, e321, hf⟩ := bS hf
  refine V.xldS rfl dL_law_2209 e321 ?_
  refine V.aload_n dL_law_2210 rfl 0 rfl ?_
  refine V.iload dL_law_2211 4 rfl ?_
  refine V.iconst (v := (2 : Int32)) dL_law_2213 (by decide) ?_
  refine V.iadd dL_law_2214 ?_
  obtain ⟨v2, e322, hf⟩ := bS hf
  refine V.xldS rfl dL_law_2215 e322 ?_
  refine V.if_eq (tgt := 2223) dL_law_2216 (by decide) (fun c3 => ?_) (fun c3 => ?_)
  · rw [if_pos c3] at hf
    refine V.iconst (v := (0 : Int32)) dL_law_2223 (by decide) ?_
    exact w_L_law_2224 L xs _ hk23 _ _ _ _ _ _ _ _ hf
  · rw [if_neg c3] at hf
    refine V.iconst (v := (1 : Int32)) dL_law_2219 (by decide) ?_
    refine V.goto (tgt := 2224) dL_law_2220 (by decide) ?_
    exact w_L_law_2224 L xs _ hk23 _ _ _ _ _ _ _ _ hf

set_option maxRecDepth 20000 in
theorem w_L_law_2365 (L : Nat) (xs : Nat → Int32) (h : xH) {k23 : xH → Nat → Nat → Nat → Int32 → Option (Int32 × xH)} (hk23 : ∀ (h : xH) (l1 : Nat) (l2 : Nat) (l3 : Nat) (l4 : Int32) (r : Int32 × xH), k23 h l1 l2 l3 l4 = some r → V 51 yL_law cL_law 8 (some .boolean) [] (some (L, xs)) 23 [(0, .ref xSC), (1, .ref l1), (2, .ref l2), (3, .ref l3), (4, .int l4)] [] h (oIh r)) (l1 : Nat) (l2 : Nat) (l3 : Nat) (l4 : Int32) (l5 : Int32) (s0 : Int32) (s1 : Int32) (s2 : Nat) (r : Int32 × xH) (hf : f_L_law_2365 L xs k23 h l1 l2 l3 l4 l5 s0 s1 s2 = some r) : V 51 yL_law cL_law 8 (some .boolean) [] (some (L, xs)) 2365 [(0, .ref xSC), (1, .ref l1), (2, .ref l2), (3, .ref l3), (4, .int l4), (5, .int l5)] [.int s0, .int s1, .ref s2] h (oIh r) := by
  unfold f_L_law_2365 at hf
  refine V.aload_n dL_law_2365 rfl 0 rfl ?_
  refine V.iload dL_law_2366 4 rfl ?_
  refine V.iconst (v := (3 : Int32)) dL_law_2368 (by decide) ?_
  refine V.iadd dL_law_2369 ?_
  obtain ⟨v1, e323, hf⟩ := bS hf
  refine V.xldS rfl dL_law_2370 e323 ?_
  obtain ⟨q2, e324, hf⟩ := bS hf
  obtain ⟨r3, e325, hf⟩ := bS hf
  refine V.callV (As := [.int s1, .int s0, .int v1]) (st := []) dL_law_2371 cl_RL_281 sw_yX12_look (by decide) rfl (Nat.le_of_ble_eq_true rfl) rfl (gO_some e324) rfl (w_X12_look _ _ _ _ _ _ e325) ?_
  refine V.istore (lv' := [(6, .int r3.1), (0, .ref xSC), (1, .ref l1), (2, .ref l2), (3, .ref l3), (4, .int l4), (5, .int l5)]) dL_law_2374 (by decide) rfl ?_
  refine V.aload_n dL_law_2376 rfl 3 rfl ?_
  obtain ⟨q4, e326, hf⟩ := bS hf
  obtain ⟨r5, e327, hf⟩ := bS hf
  refine V.callV (As := []) (st := []) dL_law_2377 cl_RL_148 sw_yX12_thrown (by decide) rfl (Nat.le_of_ble_eq_true rfl) rfl (gO_some e326) rfl (w_X12_thrown _ _ _ e327) ?_
  refine V.iload dL_law_2380 6 rfl ?_
  refine V.icmp_eq (tgt := 2387) dL_law_2382 (by decide) (fun c6 => ?_) (fun c6 => ?_)
  · rw [if_pos c6] at hf
    refine V.iload dL_law_2387 6 rfl ?_
    refine V.if_ne (tgt := 2404) dL_law_2389 (by decide) (fun c7 => ?_) (fun c7 => ?_)
    · rw [if_neg c7] at hf
      refine V.goto (tgt := 2811) dL_law_2404 (by decide) ?_
      refine V.iinc (v := (l4 + 6)) (lv' := [(4, .int (l4 + 6)), (6, .int r3.1), (0, .ref xSC), (1, .ref l1), (2, .ref l2), (3, .ref l3), (5, .int l5)]) dL_law_2811 5 rfl rfl (Nat.le_of_ble_eq_true rfl) rfl ?_
      refine V.goto (tgt := 23) dL_law_2814 (by decide) ?_
      refine V.sub [2, 3, 4, 5, 0] rfl ?_
      exact hk23 _ _ _ _ _ _ hf
    · rw [if_pos c7] at hf
      refine V.aload_n dL_law_2392 rfl 4 rfl ?_
      refine V.iconst (v := (0 : Int32)) dL_law_2393 (by decide) ?_
      obtain ⟨v8, e328, hf⟩ := bS hf
      refine V.xldJ dL_law_2394 e328 ?_
      refine V.iload dL_law_2395 0 rfl ?_
      refine V.i2l dL_law_2397 ?_
      refine V.lcmp dL_law_2398 ?_
      refine V.if_eq (tgt := 2404) dL_law_2399 (by decide) (fun c9 => ?_) (fun c9 => ?_)
      · rw [if_pos c9] at hf
        refine V.goto (tgt := 2811) dL_law_2404 (by decide) ?_
        refine V.iinc (v := (l4 + 6)) (lv' := [(4, .int (l4 + 6)), (6, .int r3.1), (0, .ref xSC), (1, .ref l1), (2, .ref l2), (3, .ref l3), (5, .int l5)]) dL_law_2811 5 rfl rfl (Nat.le_of_ble_eq_true rfl) rfl ?_
        refine V.goto (tgt := 23) dL_law_2814 (by decide) ?_
        refine V.sub [2, 3, 4, 5, 0] rfl ?_
        exact hk23 _ _ _ _ _ _ hf
      · rw [if_neg c9] at hf
        refine V.iconst (v := (0 : Int32)) dL_law_2402 (by decide) ?_
        obtain rfl := Option.some.inj hf
        exact V.zret dL_law_2403 (by first | rfl | assumption)
  · rw [if_neg c6] at hf
    refine V.iconst (v := (0 : Int32)) dL_law_2385 (by decide) ?_
    obtain rfl := Option.some.inj hf
    exact V.zret dL_law_2386 (by first | rfl | assumption)

set_option maxRecDepth 20000 in
theorem w_L_law_2332 (L : Nat) (xs : Nat → Int32) (h : xH) {k23 : xH → Nat → Nat → Nat → Int32 → Option (Int32 × xH)} (hk23 : ∀ (h : xH) (l1 : Nat) (l2 : Nat) (l3 : Nat) (l4 : Int32) (r : Int32 × xH), k23 h l1 l2 l3 l4 = some r → V 51 yL_law cL_law 8 (some .boolean) [] (some (L, xs)) 23 [(0, .ref xSC), (1, .ref l1), (2, .ref l2), (3, .ref l3), (4, .int l4)] [] h (oIh r)) (l1 : Nat) (l2 : Nat) (l3 : Nat) (l4 : Int32) (s0 : Int32) (s1 : Int32) (s2 : Nat) (r : Int32 × xH) (hf : f_L_law_2332 L xs k23 h l1 l2 l3 l4 s0 s1 s2 = some r) : V 51 yL_law cL_law 8 (some .boolean) [] (some (L, xs)) 2332 [(0, .ref xSC), (1, .ref l1), (2, .ref l2), (3, .ref l3), (4, .int l4)] [.int s0, .int s1, .ref s2] h (oIh r) := by
  unfold f_L_law_2332 at hf
  refine V.aload_n dL_law_2332 rfl 0 rfl ?_
  refine V.iload dL_law_2333 4 rfl ?_
  refine V.iconst (v := (3 : Int32)) dL_law_2335 (by decide) ?_
  refine V.iadd dL_law_2336 ?_
  obtain ⟨v1, e329, hf⟩ := bS hf
  refine V.xldS rfl dL_law_2337 e329 ?_
  refine V.aload_n dL_law_2338 rfl 3 rfl ?_
  obtain ⟨r2, e330, hf⟩ := bS hf
  refine V.callSW (As := [.ref s2, .int s1, .int s0, .int v1, .ref l3]) (st := []) dL_law_2339 cw_RL_278 (by decide) rfl (Nat.le_of_ble_eq_true rfl) rfl (w_L_look _ _ _ _ _ _ _ e330) ?_
  refine V.istore (lv' := [(5, .int r2.1), (0, .ref xSC), (1, .ref l1), (2, .ref l2), (3, .ref l3), (4, .int l4)]) dL_law_2342 (by decide) rfl ?_
  refine V.aload_n dL_law_2344 rfl 3 rfl ?_
  refine V.aload_n dL_law_2345 rfl 1 rfl ?_
  refine V.iload dL_law_2346 5 rfl ?_
  refine V.iconst (v := (1 : Int32)) dL_law_2348 (by decide) ?_
  refine V.iadd dL_law_2349 ?_
  obtain ⟨v3, e331, hf⟩ := bS hf
  refine V.xldS rfl dL_law_2350 e331 ?_
  refine V.aload_n dL_law_2351 rfl 1 rfl ?_
  refine V.iload dL_law_2352 5 rfl ?_
  refine V.iconst (v := (2 : Int32)) dL_law_2354 (by decide) ?_
  refine V.iadd dL_law_2355 ?_
  obtain ⟨v4, e332, hf⟩ := bS hf
  refine V.xldS rfl dL_law_2356 e332 ?_
  refine V.if_eq (tgt := 2364) dL_law_2357 (by decide) (fun c5 => ?_) (fun c5 => ?_)
  · rw [if_pos c5] at hf
    refine V.iconst (v := (0 : Int32)) dL_law_2364 (by decide) ?_
    refine V.sub [1, 2, 3, 4, 5, 0] rfl ?_
    exact w_L_law_2365 L xs _ hk23 _ _ _ _ _ _ _ _ _ hf
  · rw [if_neg c5] at hf
    refine V.iconst (v := (1 : Int32)) dL_law_2360 (by decide) ?_
    refine V.goto (tgt := 2365) dL_law_2361 (by decide) ?_
    refine V.sub [1, 2, 3, 4, 5, 0] rfl ?_
    exact w_L_law_2365 L xs _ hk23 _ _ _ _ _ _ _ _ _ hf

set_option maxRecDepth 20000 in
theorem w_L_law_2311 (L : Nat) (xs : Nat → Int32) (h : xH) {k23 : xH → Nat → Nat → Nat → Int32 → Option (Int32 × xH)} (hk23 : ∀ (h : xH) (l1 : Nat) (l2 : Nat) (l3 : Nat) (l4 : Int32) (r : Int32 × xH), k23 h l1 l2 l3 l4 = some r → V 51 yL_law cL_law 8 (some .boolean) [] (some (L, xs)) 23 [(0, .ref xSC), (1, .ref l1), (2, .ref l2), (3, .ref l3), (4, .int l4)] [] h (oIh r)) (l1 : Nat) (l2 : Nat) (l3 : Nat) (l4 : Int32) (r : Int32 × xH) (hf : f_L_law_2311 L xs k23 h l1 l2 l3 l4 = some r) : V 51 yL_law cL_law 8 (some .boolean) [] (some (L, xs)) 2311 [(0, .ref xSC), (1, .ref l1), (2, .ref l2), (3, .ref l3), (4, .int l4)] [] h (oIh r) := by
  unfold f_L_law_2311 at hf
  refine V.aload_n dL_law_2311 rfl 1 rfl ?_
  refine V.aload_n dL_law_2312 rfl 0 rfl ?_
  refine V.iload dL_law_2313 4 rfl ?_
  refine V.iconst (v := (1 : Int32)) dL_law_2315 (by decide) ?_
  refine V.iadd dL_law_2316 ?_
  obtain ⟨v1, e333, hf⟩ := bS hf
  refine V.xldS rfl dL_law_2317 e333 ?_
  refine V.aload_n dL_law_2318 rfl 0 rfl ?_
  refine V.iload dL_law_2319 4 rfl ?_
  refine V.iconst (v := (2 : Int32)) dL_law_2321 (by decide) ?_
  refine V.iadd dL_law_2322 ?_
  obtain ⟨v2, e334, hf⟩ := bS hf
  refine V.xldS rfl dL_law_2323 e334 ?_
  refine V.if_eq (tgt := 2331) dL_law_2324 (by decide) (fun c3 => ?_) (fun c3 => ?_)
  · rw [if_pos c3] at hf
    refine V.iconst (v := (0 : Int32)) dL_law_2331 (by decide) ?_
    exact w_L_law_2332 L xs _ hk23 _ _ _ _ _ _ _ _ hf
  · rw [if_neg c3] at hf
    refine V.iconst (v := (1 : Int32)) dL_law_2327 (by decide) ?_
    refine V.goto (tgt := 2332) dL_law_2328 (by decide) ?_
    exact w_L_law_2332 L xs _ hk23 _ _ _ _ _ _ _ _ hf

set_option maxRecDepth 20000 in
theorem w_L_law_2407 (L : Nat) (xs : Nat → Int32) (h : xH) {k23 : xH → Nat → Nat → Nat → Int32 → Option (Int32 × xH)} (hk23 : ∀ (h : xH) (l1 : Nat) (l2 : Nat) (l3 : Nat) (l4 : Int32) (r : Int32 × xH), k23 h l1 l2 l3 l4 = some r → V 51 yL_law cL_law 8 (some .boolean) [] (some (L, xs)) 23 [(0, .ref xSC), (1, .ref l1), (2, .ref l2), (3, .ref l3), (4, .int l4)] [] h (oIh r)) (l1 : Nat) (l2 : Nat) (l3 : Nat) (l4 : Int32) (r : Int32 × xH) (hf : f_L_law_2407 L xs k23 h l1 l2 l3 l4 = some r) : V 51 yL_law cL_law 8 (some .boolean) [] (some (L, xs)) 2407 [(0, .ref xSC), (1, .ref l1), (2, .ref l2), (3, .ref l3), (4, .int l4)] [] h (oIh r) := by
  unfold f_L_law_2407 at hf
  refine V.aload_n dL_law_2407 rfl 1 rfl ?_
  refine V.aload_n dL_law_2408 rfl 0 rfl ?_
  refine V.iload dL_law_2409 4 rfl ?_
  refine V.iconst (v := (1 : Int32)) dL_law_2411 (by decide) ?_
  refine V.iadd dL_law_2412 ?_
  obtain ⟨v1, e335, hf⟩ := bS hf
  refine V.xldS rfl dL_law_2413 e335 ?_
  refine V.aload_n dL_law_2414 rfl 0 rfl ?_
  refine V.iload dL_law_2415 4 rfl ?_
  refine V.iconst (v := (2 : Int32)) dL_law_2417 (by decide) ?_
  refine V.iadd dL_law_2418 ?_
  obtain ⟨v2, e336, hf⟩ := bS hf
  refine V.xldS rfl dL_law_2419 e336 ?_
  refine V.aload_n dL_law_2420 rfl 0 rfl ?_
  refine V.iload dL_law_2421 4 rfl ?_
  refine V.iconst (v := (3 : Int32)) dL_law_2423 (by decide) ?_
  refine V.iadd dL_law_2424 ?_
  obtain ⟨v3, e337, hf⟩ := bS hf
  refine V.xldS rfl dL_law_2425 e337 ?_
  refine V.aload_n dL_law_2426 rfl 3 rfl ?_
  obtain ⟨r4, e338, hf⟩ := bS hf
  refine V.callSW (As := [.ref l1, .int v1, .int v2, .int v3, .ref l3]) (st := []) dL_law_2427 cw_RL_282 (by decide) rfl (Nat.le_of_ble_eq_true rfl) rfl (w_L_night _ _ _ _ _ _ _ e338) ?_
  refine V.istore (lv' := [(5, .int r4.1), (0, .ref xSC), (1, .ref l1), (2, .ref l2), (3, .ref l3), (4, .int l4)]) dL_law_2430 (by decide) rfl ?_
  refine V.aload_n dL_law_2432 rfl 3 rfl ?_
  refine V.aload_n dL_law_2433 rfl 1 rfl ?_
  refine V.iload dL_law_2434 5 rfl ?_
  refine V.iconst (v := (1 : Int32)) dL_law_2436 (by decide) ?_
  refine V.iadd dL_law_2437 ?_
  obtain ⟨v5, e339, hf⟩ := bS hf
  refine V.xldS rfl dL_law_2438 e339 ?_
  refine V.aload_n dL_law_2439 rfl 1 rfl ?_
  refine V.iload dL_law_2440 5 rfl ?_
  refine V.iconst (v := (2 : Int32)) dL_law_2442 (by decide) ?_
  refine V.iadd dL_law_2443 ?_
  obtain ⟨v6, e340, hf⟩ := bS hf
  refine V.xldS rfl dL_law_2444 e340 ?_
  refine V.aload_n dL_law_2445 rfl 1 rfl ?_
  refine V.iload dL_law_2446 5 rfl ?_
  refine V.iconst (v := (3 : Int32)) dL_law_2448 (by decide) ?_
  refine V.iadd dL_law_2449 ?_
  obtain ⟨v7, e341, hf⟩ := bS hf
  refine V.xldS rfl dL_law_2450 e341 ?_
  obtain ⟨q8, e342, hf⟩ := bS hf
  obtain ⟨r9, e343, hf⟩ := bS hf
  refine V.callV (As := [.int v5, .int v6, .int v7]) (st := []) dL_law_2451 cl_RL_284 sw_yX12_night (by decide) rfl (Nat.le_of_ble_eq_true rfl) rfl (gO_some e342) rfl (w_X12_night _ _ _ _ _ _ e343) ?_
  refine V.istore (lv' := [(6, .int r9.1), (5, .int r4.1), (0, .ref xSC), (1, .ref l1), (2, .ref l2), (3, .ref l3), (4, .int l4)]) dL_law_2454 (by decide) rfl ?_
  refine V.aload_n dL_law_2456 rfl 4 rfl ?_
  obtain ⟨q10, e344, hf⟩ := bS hf
  obtain ⟨r11, e345, hf⟩ := bS hf
  refine V.callV (As := []) (st := []) dL_law_2457 cl_RL_148 sw_yX12_thrown (by decide) rfl (Nat.le_of_ble_eq_true rfl) rfl (gO_some e344) rfl (w_X12_thrown _ _ _ e345) ?_
  refine V.iload dL_law_2460 1 rfl ?_
  refine V.icmp_eq (tgt := 2467) dL_law_2462 (by decide) (fun c12 => ?_) (fun c12 => ?_)
  · rw [if_pos c12] at hf
    refine V.iload dL_law_2467 1 rfl ?_
    refine V.if_ne (tgt := 2484) dL_law_2469 (by decide) (fun c13 => ?_) (fun c13 => ?_)
    · rw [if_neg c13] at hf
      refine V.goto (tgt := 2811) dL_law_2484 (by decide) ?_
      refine V.iinc (v := (l4 + 6)) (lv' := [(4, .int (l4 + 6)), (6, .int r9.1), (5, .int r4.1), (0, .ref xSC), (1, .ref l1), (2, .ref l2), (3, .ref l3)]) dL_law_2811 6 rfl rfl (Nat.le_of_ble_eq_true rfl) rfl ?_
      refine V.goto (tgt := 23) dL_law_2814 (by decide) ?_
      refine V.sub [3, 4, 5, 6, 0] rfl ?_
      exact hk23 _ _ _ _ _ _ hf
    · rw [if_pos c13] at hf
      refine V.aload_n dL_law_2472 rfl 5 rfl ?_
      refine V.iconst (v := (0 : Int32)) dL_law_2473 (by decide) ?_
      obtain ⟨v14, e346, hf⟩ := bS hf
      refine V.xldJ dL_law_2474 e346 ?_
      refine V.iload dL_law_2475 0 rfl ?_
      refine V.i2l dL_law_2477 ?_
      refine V.lcmp dL_law_2478 ?_
      refine V.if_eq (tgt := 2484) dL_law_2479 (by decide) (fun c15 => ?_) (fun c15 => ?_)
      · rw [if_pos c15] at hf
        refine V.goto (tgt := 2811) dL_law_2484 (by decide) ?_
        refine V.iinc (v := (l4 + 6)) (lv' := [(4, .int (l4 + 6)), (6, .int r9.1), (5, .int r4.1), (0, .ref xSC), (1, .ref l1), (2, .ref l2), (3, .ref l3)]) dL_law_2811 6 rfl rfl (Nat.le_of_ble_eq_true rfl) rfl ?_
        refine V.goto (tgt := 23) dL_law_2814 (by decide) ?_
        refine V.sub [3, 4, 5, 6, 0] rfl ?_
        exact hk23 _ _ _ _ _ _ hf
      · rw [if_neg c15] at hf
        refine V.iconst (v := (0 : Int32)) dL_law_2482 (by decide) ?_
        obtain rfl := Option.some.inj hf
        exact V.zret dL_law_2483 (by first | rfl | assumption)
  · rw [if_neg c12] at hf
    refine V.iconst (v := (0 : Int32)) dL_law_2465 (by decide) ?_
    obtain rfl := Option.some.inj hf
    exact V.zret dL_law_2466 (by first | rfl | assumption)

set_option maxRecDepth 20000 in
theorem w_L_law_2487 (L : Nat) (xs : Nat → Int32) (h : xH) {k23 : xH → Nat → Nat → Nat → Int32 → Option (Int32 × xH)} (hk23 : ∀ (h : xH) (l1 : Nat) (l2 : Nat) (l3 : Nat) (l4 : Int32) (r : Int32 × xH), k23 h l1 l2 l3 l4 = some r → V 51 yL_law cL_law 8 (some .boolean) [] (some (L, xs)) 23 [(0, .ref xSC), (1, .ref l1), (2, .ref l2), (3, .ref l3), (4, .int l4)] [] h (oIh r)) (l1 : Nat) (l2 : Nat) (l3 : Nat) (l4 : Int32) (r : Int32 × xH) (hf : f_L_law_2487 L xs k23 h l1 l2 l3 l4 = some r) : V 51 yL_law cL_law 8 (some .boolean) [] (some (L, xs)) 2487 [(0, .ref xSC), (1, .ref l1), (2, .ref l2), (3, .ref l3), (4, .int l4)] [] h (oIh r) := by
  unfold f_L_law_2487 at hf
  refine V.aload_n dL_law_2487 rfl 1 rfl ?_
  refine V.aload_n dL_law_2488 rfl 0 rfl ?_
  refine V.iload dL_law_2489 4 rfl ?_
  refine V.iconst (v := (1 : Int32)) dL_law_2491 (by decide) ?_
  refine V.iadd dL_law_2492 ?_
  obtain ⟨v1, e347, hf⟩ := bS hf
  refine V.xldS rfl dL_law_2493 e347 ?_
  refine V.aload_n dL_law_2494 rfl 0 rfl ?_
  refine V.iload dL_law_2495 4 rfl ?_
  refine V.iconst (v := (2 : Int32)) dL_law_2497 (by decide) ?_
  refine V.iadd dL_law_2498 ?_
  obtain ⟨v2, e348, hf⟩ := bS hf
  refine V.xldS rfl dL_law_2499 e348 ?_
  refine V.aload_n dL_law_2500 rfl 0 rfl ?_
  refine V.iload dL_law_2501 4 rfl ?_
  refine V.iconst (v := (3 : Int32)) dL_law_2503 (by decide) ?_
  refine V.iadd dL_law_2504 ?_
  obtain ⟨v3, e349, hf⟩ := bS hf
  refine V.xldS rfl dL_law_2505 e349 ?_
  obtain ⟨r4, e350, hf⟩ := bS hf
  refine V.callSW (As := [.ref l1, .int v1, .int v2, .int v3]) (st := []) dL_law_2506 cw_RL_285 (by decide) rfl (Nat.le_of_ble_eq_true rfl) rfl (w_L_tray _ _ _ _ _ _ e350) ?_
  refine V.istore (lv' := [(5, .int r4.1), (0, .ref xSC), (1, .ref l1), (2, .ref l2), (3, .ref l3), (4, .int l4)]) dL_law_2509 (by decide) rfl ?_
  refine V.aload_n dL_law_2511 rfl 3 rfl ?_
  refine V.aload_n dL_law_2512 rfl 1 rfl ?_
  refine V.iload dL_law_2513 5 rfl ?_
  refine V.iconst (v := (1 : Int32)) dL_law_2515 (by decide) ?_
  refine V.iadd dL_law_2516 ?_
  obtain ⟨v5, e351, hf⟩ := bS hf
  refine V.xldS rfl dL_law_2517 e351 ?_
  refine V.aload_n dL_law_2518 rfl 1 rfl ?_
  refine V.iload dL_law_2519 5 rfl ?_
  refine V.iconst (v := (2 : Int32)) dL_law_2521 (by decide) ?_
  refine V.iadd dL_law_2522 ?_
  obtain ⟨v6, e352, hf⟩ := bS hf
  refine V.xldS rfl dL_law_2523 e352 ?_
  refine V.aload_n dL_law_2524 rfl 1 rfl ?_
  refine V.iload dL_law_2525 5 rfl ?_
  refine V.iconst (v := (3 : Int32)) dL_law_2527 (by decide) ?_
  refine V.iadd dL_law_2528 ?_
  obtain ⟨v7, e353, hf⟩ := bS hf
  refine V.xldS rfl dL_law_2529 e353 ?_
  obtain ⟨q8, e354, hf⟩ := bS hf
  obtain ⟨r9, e355, hf⟩ := bS hf
  refine V.callV (As := [.int v5, .int v6, .int v7]) (st := []) dL_law_2530 cl_RL_288 sw_yX12_tray (by decide) rfl (Nat.le_of_ble_eq_true rfl) rfl (gO_some e354) rfl (w_X12_tray _ _ _ _ _ _ e355) ?_
  refine V.aload_n dL_law_2533 rfl 3 rfl ?_
  obtain ⟨q10, e356, hf⟩ := bS hf
  obtain ⟨r11, e357, hf⟩ := bS hf
  refine V.callV (As := []) (st := []) dL_law_2534 cl_RL_148 sw_yX12_thrown (by decide) rfl (Nat.le_of_ble_eq_true rfl) rfl (gO_some e356) rfl (w_X12_thrown _ _ _ e357) ?_
  refine V.iload dL_law_2537 0 rfl ?_
  refine V.icmp_eq (tgt := 2544) dL_law_2539 (by decide) (fun c12 => ?_) (fun c12 => ?_)
  · rw [if_pos c12] at hf
    refine V.goto (tgt := 2811) dL_law_2544 (by decide) ?_
    refine V.iinc (v := (l4 + 6)) (lv' := [(4, .int (l4 + 6)), (5, .int r4.1), (0, .ref xSC), (1, .ref l1), (2, .ref l2), (3, .ref l3)]) dL_law_2811 5 rfl rfl (Nat.le_of_ble_eq_true rfl) rfl ?_
    refine V.goto (tgt := 23) dL_law_2814 (by decide) ?_
    refine V.sub [2, 3, 4, 5, 0] rfl ?_
    exact hk23 _ _ _ _ _ _ hf
  · rw [if_neg c12] at hf
    refine V.iconst (v := (0 : Int32)) dL_law_2542 (by decide) ?_
    obtain rfl := Option.some.inj hf
    exact V.zret dL_law_2543 (by first | rfl | assumption)

set_option maxRecDepth 20000 in
theorem w_L_law_2547 (L : Nat) (xs : Nat → Int32) (h : xH) {k23 : xH → Nat → Nat → Nat → Int32 → Option (Int32 × xH)} (hk23 : ∀ (h : xH) (l1 : Nat) (l2 : Nat) (l3 : Nat) (l4 : Int32) (r : Int32 × xH), k23 h l1 l2 l3 l4 = some r → V 51 yL_law cL_law 8 (some .boolean) [] (some (L, xs)) 23 [(0, .ref xSC), (1, .ref l1), (2, .ref l2), (3, .ref l3), (4, .int l4)] [] h (oIh r)) (l1 : Nat) (l2 : Nat) (l3 : Nat) (l4 : Int32) (r : Int32 × xH) (hf : f_L_law_2547 L xs k23 h l1 l2 l3 l4 = some r) : V 51 yL_law cL_law 8 (some .boolean) [] (some (L, xs)) 2547 [(0, .ref xSC), (1, .ref l1), (2, .ref l2), (3, .ref l3), (4, .int l4)] [] h (oIh r) := by
  unfold f_L_law_2547 at hf
  refine V.aload_n dL_law_2547 rfl 1 rfl ?_
  refine V.aload_n dL_law_2548 rfl 0 rfl ?_
  refine V.iload dL_law_2549 4 rfl ?_
  refine V.iconst (v := (1 : Int32)) dL_law_2551 (by decide) ?_
  refine V.iadd dL_law_2552 ?_
  obtain ⟨v1, e358, hf⟩ := bS hf
  refine V.xldS rfl dL_law_2553 e358 ?_
  refine V.aload_n dL_law_2554 rfl 0 rfl ?_
  refine V.iload dL_law_2555 4 rfl ?_
  refine V.iconst (v := (2 : Int32)) dL_law_2557 (by decide) ?_
  refine V.iadd dL_law_2558 ?_
  obtain ⟨v2, e359, hf⟩ := bS hf
  refine V.xldS rfl dL_law_2559 e359 ?_
  refine V.aload_n dL_law_2560 rfl 0 rfl ?_
  refine V.iload dL_law_2561 4 rfl ?_
  refine V.iconst (v := (3 : Int32)) dL_law_2563 (by decide) ?_
  refine V.iadd dL_law_2564 ?_
  obtain ⟨v3, e360, hf⟩ := bS hf
  refine V.xldS rfl dL_law_2565 e360 ?_
  refine V.i2l dL_law_2566 ?_
  refine V.bipush (v := (32 : Int32)) dL_law_2567 (by decide) ?_
  refine V.lshl dL_law_2569 ?_
  refine V.aload_n dL_law_2570 rfl 0 rfl ?_
  refine V.iload dL_law_2571 4 rfl ?_
  refine V.iconst (v := (4 : Int32)) dL_law_2573 (by decide) ?_
  refine V.iadd dL_law_2574 ?_
  obtain ⟨v4, e361, hf⟩ := bS hf
  refine V.xldS rfl dL_law_2575 e361 ?_
  refine V.i2l dL_law_2576 ?_
  refine V.ldc2 (v := (4294967295 : Int64)) dL_law_2577 cj_RL_289 ?_
  refine V.land dL_law_2580 ?_
  refine V.lor dL_law_2581 ?_
  refine V.aload_n dL_law_2582 rfl 3 rfl ?_
  obtain ⟨r5, e362, hf⟩ := bS hf
  refine V.callSW (As := [.ref l1, .int v1, .int v2, .long (((Int32.toInt64 v3) <<< (Int32.toInt64 (32 : Int32) &&& 63)) ||| ((Int32.toInt64 v4) &&& (4294967295 : Int64))), .ref l3]) (st := []) dL_law_2583 cw_RL_291 (by decide) rfl (Nat.le_of_ble_eq_true rfl) rfl (w_L_write _ _ _ _ _ _ _ e362) ?_
  refine V.istore (lv' := [(5, .int r5.1), (0, .ref xSC), (1, .ref l1), (2, .ref l2), (3, .ref l3), (4, .int l4)]) dL_law_2586 (by decide) rfl ?_
  refine V.aload_n dL_law_2588 rfl 3 rfl ?_
  refine V.aload_n dL_law_2589 rfl 1 rfl ?_
  refine V.iload dL_law_2590 5 rfl ?_
  refine V.iconst (v := (1 : Int32)) dL_law_2592 (by decide) ?_
  refine V.iadd dL_law_2593 ?_
  obtain ⟨v6, e363, hf⟩ := bS hf
  refine V.xldS rfl dL_law_2594 e363 ?_
  refine V.aload_n dL_law_2595 rfl 1 rfl ?_
  refine V.iload dL_law_2596 5 rfl ?_
  refine V.iconst (v := (2 : Int32)) dL_law_2598 (by decide) ?_
  refine V.iadd dL_law_2599 ?_
  obtain ⟨v7, e364, hf⟩ := bS hf
  refine V.xldS rfl dL_law_2600 e364 ?_
  refine V.aload_n dL_law_2601 rfl 1 rfl ?_
  refine V.iload dL_law_2602 5 rfl ?_
  refine V.iconst (v := (3 : Int32)) dL_law_2604 (by decide) ?_
  refine V.iadd dL_law_2605 ?_
  obtain ⟨v8, e365, hf⟩ := bS hf
  refine V.xldS rfl dL_law_2606 e365 ?_
  refine V.i2l dL_law_2607 ?_
  refine V.bipush (v := (32 : Int32)) dL_law_2608 (by decide) ?_
  refine V.lshl dL_law_2610 ?_
  refine V.aload_n dL_law_2611 rfl 1 rfl ?_
  refine V.iload dL_law_2612 5 rfl ?_
  refine V.iconst (v := (4 : Int32)) dL_law_2614 (by decide) ?_
  refine V.iadd dL_law_2615 ?_
  obtain ⟨v9, e366, hf⟩ := bS hf
  refine V.xldS rfl dL_law_2616 e366 ?_
  refine V.i2l dL_law_2617 ?_
  refine V.ldc2 (v := (4294967295 : Int64)) dL_law_2618 cj_RL_289 ?_
  refine V.land dL_law_2621 ?_
  refine V.lor dL_law_2622 ?_
  obtain ⟨q10, e367, hf⟩ := bS hf
  obtain ⟨r11, e368, hf⟩ := bS hf
  refine V.callV (As := [.int v6, .int v7, .long (((Int32.toInt64 v8) <<< (Int32.toInt64 (32 : Int32) &&& 63)) ||| ((Int32.toInt64 v9) &&& (4294967295 : Int64)))]) (st := []) dL_law_2623 cl_RL_294 sw_yX12_write (by decide) rfl (Nat.le_of_ble_eq_true rfl) rfl (gO_some e367) rfl (w_X12_write _ _ _ _ _ _ e368) ?_
  refine V.lstore (lv' := [(6, .long r11.1), (5, .int r5.1), (0, .ref xSC), (1, .ref l1), (2, .ref l2), (3, .ref l3), (4, .int l4)]) dL_law_2626 (by decide) rfl ?_
  refine V.aload_n dL_law_2628 rfl 4 rfl ?_
  obtain ⟨q12, e369, hf⟩ := bS hf
  obtain ⟨r13, e370, hf⟩ := bS hf
  refine V.callV (As := []) (st := []) dL_law_2629 cl_RL_148 sw_yX12_thrown (by decide) rfl (Nat.le_of_ble_eq_true rfl) rfl (gO_some e369) rfl (w_X12_thrown _ _ _ e370) ?_
  refine V.iload dL_law_2632 1 rfl ?_
  refine V.icmp_eq (tgt := 2639) dL_law_2634 (by decide) (fun c14 => ?_) (fun c14 => ?_)
  · rw [if_pos c14] at hf
    refine V.iload dL_law_2639 1 rfl ?_
    refine V.if_ne (tgt := 2655) dL_law_2641 (by decide) (fun c15 => ?_) (fun c15 => ?_)
    · rw [if_neg c15] at hf
      refine V.goto (tgt := 2811) dL_law_2655 (by decide) ?_
      refine V.iinc (v := (l4 + 6)) (lv' := [(4, .int (l4 + 6)), (6, .long r11.1), (5, .int r5.1), (0, .ref xSC), (1, .ref l1), (2, .ref l2), (3, .ref l3)]) dL_law_2811 6 rfl rfl (Nat.le_of_ble_eq_true rfl) rfl ?_
      refine V.goto (tgt := 23) dL_law_2814 (by decide) ?_
      refine V.sub [3, 4, 5, 6, 0] rfl ?_
      exact hk23 _ _ _ _ _ _ hf
    · rw [if_pos c15] at hf
      refine V.aload_n dL_law_2644 rfl 5 rfl ?_
      refine V.iconst (v := (0 : Int32)) dL_law_2645 (by decide) ?_
      obtain ⟨v16, e371, hf⟩ := bS hf
      refine V.xldJ dL_law_2646 e371 ?_
      refine V.lload dL_law_2647 0 rfl ?_
      refine V.lcmp dL_law_2649 ?_
      refine V.if_eq (tgt := 2655) dL_law_2650 (by decide) (fun c17 => ?_) (fun c17 => ?_)
      · rw [if_pos c17] at hf
        refine V.goto (tgt := 2811) dL_law_2655 (by decide) ?_
        refine V.iinc (v := (l4 + 6)) (lv' := [(4, .int (l4 + 6)), (6, .long r11.1), (5, .int r5.1), (0, .ref xSC), (1, .ref l1), (2, .ref l2), (3, .ref l3)]) dL_law_2811 6 rfl rfl (Nat.le_of_ble_eq_true rfl) rfl ?_
        refine V.goto (tgt := 23) dL_law_2814 (by decide) ?_
        refine V.sub [3, 4, 5, 6, 0] rfl ?_
        exact hk23 _ _ _ _ _ _ hf
      · rw [if_neg c17] at hf
        refine V.iconst (v := (0 : Int32)) dL_law_2653 (by decide) ?_
        obtain rfl := Option.some.inj hf
        exact V.zret dL_law_2654 (by first | rfl | assumption)
  · rw [if_neg c14] at hf
    refine V.iconst (v := (0 : Int32)) dL_law_2637 (by decide) ?_
    obtain rfl := Option.some.inj hf
    exact V.zret dL_law_2638 (by first | rfl | assumption)

set_option maxRecDepth 20000 in
theorem w_L_law_2658 (L : Nat) (xs : Nat → Int32) (h : xH) {k23 : xH → Nat → Nat → Nat → Int32 → Option (Int32 × xH)} (hk23 : ∀ (h : xH) (l1 : Nat) (l2 : Nat) (l3 : Nat) (l4 : Int32) (r : Int32 × xH), k23 h l1 l2 l3 l4 = some r → V 51 yL_law cL_law 8 (some .boolean) [] (some (L, xs)) 23 [(0, .ref xSC), (1, .ref l1), (2, .ref l2), (3, .ref l3), (4, .int l4)] [] h (oIh r)) (l1 : Nat) (l2 : Nat) (l3 : Nat) (l4 : Int32) (r : Int32 × xH) (hf : f_L_law_2658 L xs k23 h l1 l2 l3 l4 = some r) : V 51 yL_law cL_law 8 (some .boolean) [] (some (L, xs)) 2658 [(0, .ref xSC), (1, .ref l1), (2, .ref l2), (3, .ref l3), (4, .int l4)] [] h (oIh r) := by
  unfold f_L_law_2658 at hf
  refine V.aload_n dL_law_2658 rfl 1 rfl ?_
  refine V.aload_n dL_law_2659 rfl 0 rfl ?_
  refine V.iload dL_law_2660 4 rfl ?_
  refine V.iconst (v := (1 : Int32)) dL_law_2662 (by decide) ?_
  refine V.iadd dL_law_2663 ?_
  obtain ⟨v1, e372, hf⟩ := bS hf
  refine V.xldS rfl dL_law_2664 e372 ?_
  refine V.aload_n dL_law_2665 rfl 3 rfl ?_
  obtain ⟨r2, e373, hf⟩ := bS hf
  refine V.callSW (As := [.ref l1, .int v1, .ref l3]) (st := []) dL_law_2666 cw_RL_295 (by decide) rfl (Nat.le_of_ble_eq_true rfl) rfl (w_L_pour _ _ _ _ _ e373) ?_
  refine V.istore (lv' := [(5, .int r2.1), (0, .ref xSC), (1, .ref l1), (2, .ref l2), (3, .ref l3), (4, .int l4)]) dL_law_2669 (by decide) rfl ?_
  refine V.aload_n dL_law_2671 rfl 3 rfl ?_
  refine V.aload_n dL_law_2672 rfl 1 rfl ?_
  refine V.iload dL_law_2673 5 rfl ?_
  refine V.iconst (v := (1 : Int32)) dL_law_2675 (by decide) ?_
  refine V.iadd dL_law_2676 ?_
  obtain ⟨v3, e374, hf⟩ := bS hf
  refine V.xldS rfl dL_law_2677 e374 ?_
  obtain ⟨q4, e375, hf⟩ := bS hf
  obtain ⟨r5, e376, hf⟩ := bS hf
  refine V.callV (As := [.int v3]) (st := []) dL_law_2678 cl_RL_297 sw_yX12_pour (by decide) rfl (Nat.le_of_ble_eq_true rfl) rfl (gO_some e375) rfl (w_X12_pour _ _ _ _ e376) ?_
  refine V.istore (lv' := [(6, .int r5.1), (5, .int r2.1), (0, .ref xSC), (1, .ref l1), (2, .ref l2), (3, .ref l3), (4, .int l4)]) dL_law_2681 (by decide) rfl ?_
  refine V.aload_n dL_law_2683 rfl 4 rfl ?_
  obtain ⟨q6, e377, hf⟩ := bS hf
  obtain ⟨r7, e378, hf⟩ := bS hf
  refine V.callV (As := []) (st := []) dL_law_2684 cl_RL_148 sw_yX12_thrown (by decide) rfl (Nat.le_of_ble_eq_true rfl) rfl (gO_some e377) rfl (w_X12_thrown _ _ _ e378) ?_
  refine V.iload dL_law_2687 1 rfl ?_
  refine V.icmp_eq (tgt := 2694) dL_law_2689 (by decide) (fun c8 => ?_) (fun c8 => ?_)
  · rw [if_pos c8] at hf
    refine V.iload dL_law_2694 1 rfl ?_
    refine V.if_ne (tgt := 2711) dL_law_2696 (by decide) (fun c9 => ?_) (fun c9 => ?_)
    · rw [if_neg c9] at hf
      refine V.goto (tgt := 2811) dL_law_2711 (by decide) ?_
      refine V.iinc (v := (l4 + 6)) (lv' := [(4, .int (l4 + 6)), (6, .int r5.1), (5, .int r2.1), (0, .ref xSC), (1, .ref l1), (2, .ref l2), (3, .ref l3)]) dL_law_2811 6 rfl rfl (Nat.le_of_ble_eq_true rfl) rfl ?_
      refine V.goto (tgt := 23) dL_law_2814 (by decide) ?_
      refine V.sub [3, 4, 5, 6, 0] rfl ?_
      exact hk23 _ _ _ _ _ _ hf
    · rw [if_pos c9] at hf
      refine V.aload_n dL_law_2699 rfl 5 rfl ?_
      refine V.iconst (v := (0 : Int32)) dL_law_2700 (by decide) ?_
      obtain ⟨v10, e379, hf⟩ := bS hf
      refine V.xldJ dL_law_2701 e379 ?_
      refine V.iload dL_law_2702 0 rfl ?_
      refine V.i2l dL_law_2704 ?_
      refine V.lcmp dL_law_2705 ?_
      refine V.if_eq (tgt := 2711) dL_law_2706 (by decide) (fun c11 => ?_) (fun c11 => ?_)
      · rw [if_pos c11] at hf
        refine V.goto (tgt := 2811) dL_law_2711 (by decide) ?_
        refine V.iinc (v := (l4 + 6)) (lv' := [(4, .int (l4 + 6)), (6, .int r5.1), (5, .int r2.1), (0, .ref xSC), (1, .ref l1), (2, .ref l2), (3, .ref l3)]) dL_law_2811 6 rfl rfl (Nat.le_of_ble_eq_true rfl) rfl ?_
        refine V.goto (tgt := 23) dL_law_2814 (by decide) ?_
        refine V.sub [3, 4, 5, 6, 0] rfl ?_
        exact hk23 _ _ _ _ _ _ hf
      · rw [if_neg c11] at hf
        refine V.iconst (v := (0 : Int32)) dL_law_2709 (by decide) ?_
        obtain rfl := Option.some.inj hf
        exact V.zret dL_law_2710 (by first | rfl | assumption)
  · rw [if_neg c8] at hf
    refine V.iconst (v := (0 : Int32)) dL_law_2692 (by decide) ?_
    obtain rfl := Option.some.inj hf
    exact V.zret dL_law_2693 (by first | rfl | assumption)

set_option maxRecDepth 20000 in
theorem w_L_law_2714 (L : Nat) (xs : Nat → Int32) (h : xH) {k23 : xH → Nat → Nat → Nat → Int32 → Option (Int32 × xH)} (hk23 : ∀ (h : xH) (l1 : Nat) (l2 : Nat) (l3 : Nat) (l4 : Int32) (r : Int32 × xH), k23 h l1 l2 l3 l4 = some r → V 51 yL_law cL_law 8 (some .boolean) [] (some (L, xs)) 23 [(0, .ref xSC), (1, .ref l1), (2, .ref l2), (3, .ref l3), (4, .int l4)] [] h (oIh r)) (l1 : Nat) (l2 : Nat) (l3 : Nat) (l4 : Int32) (r : Int32 × xH) (hf : f_L_law_2714 L xs k23 h l1 l2 l3 l4 = some r) : V 51 yL_law cL_law 8 (some .boolean) [] (some (L, xs)) 2714 [(0, .ref xSC), (1, .ref l1), (2, .ref l2), (3, .ref l3), (4, .int l4)] [] h (oIh r) := by
  unfold f_L_law_2714 at hf
  refine V.aload_n dL_law_2714 rfl 1 rfl ?_
  refine V.aload_n dL_law_2715 rfl 0 rfl ?_
  refine V.iload dL_law_2716 4 rfl ?_
  refine V.iconst (v := (1 : Int32)) dL_law_2718 (by decide) ?_
  refine V.iadd dL_law_2719 ?_
  obtain ⟨v1, e380, hf⟩ := bS hf
  refine V.xldS rfl dL_law_2720 e380 ?_
  obtain ⟨r2, e381, hf⟩ := bS hf
  refine V.callSW (As := [.ref l1, .int v1]) (st := []) dL_law_2721 cw_RL_298 (by decide) rfl (Nat.le_of_ble_eq_true rfl) rfl (w_L_image _ _ _ _ e381) ?_
  refine V.istore (lv' := [(5, .int r2.1), (0, .ref xSC), (1, .ref l1), (2, .ref l2), (3, .ref l3), (4, .int l4)]) dL_law_2724 (by decide) rfl ?_
  refine V.aload_n dL_law_2726 rfl 3 rfl ?_
  refine V.aload_n dL_law_2727 rfl 1 rfl ?_
  refine V.iload dL_law_2728 5 rfl ?_
  refine V.iconst (v := (1 : Int32)) dL_law_2730 (by decide) ?_
  refine V.iadd dL_law_2731 ?_
  obtain ⟨v3, e382, hf⟩ := bS hf
  refine V.xldS rfl dL_law_2732 e382 ?_
  obtain ⟨q4, e383, hf⟩ := bS hf
  obtain ⟨r5, e384, hf⟩ := bS hf
  refine V.callV (As := [.int v3]) (st := []) dL_law_2733 cl_RL_301 sw_yX12_image (by decide) rfl (Nat.le_of_ble_eq_true rfl) rfl (gO_some e383) rfl (w_X12_image _ _ _ _ e384) ?_
  refine V.aload_n dL_law_2736 rfl 3 rfl ?_
  obtain ⟨q6, e385, hf⟩ := bS hf
  obtain ⟨r7, e386, hf⟩ := bS hf
  refine V.callV (As := []) (st := []) dL_law_2737 cl_RL_148 sw_yX12_thrown (by decide) rfl (Nat.le_of_ble_eq_true rfl) rfl (gO_some e385) rfl (w_X12_thrown _ _ _ e386) ?_
  refine V.iload dL_law_2740 0 rfl ?_
  refine V.icmp_eq (tgt := 2747) dL_law_2742 (by decide) (fun c8 => ?_) (fun c8 => ?_)
  · rw [if_pos c8] at hf
    refine V.goto (tgt := 2811) dL_law_2747 (by decide) ?_
    refine V.iinc (v := (l4 + 6)) (lv' := [(4, .int (l4 + 6)), (5, .int r2.1), (0, .ref xSC), (1, .ref l1), (2, .ref l2), (3, .ref l3)]) dL_law_2811 5 rfl rfl (Nat.le_of_ble_eq_true rfl) rfl ?_
    refine V.goto (tgt := 23) dL_law_2814 (by decide) ?_
    refine V.sub [2, 3, 4, 5, 0] rfl ?_
    exact hk23 _ _ _ _ _ _ hf
  · rw [if_neg c8] at hf
    refine V.iconst (v := (0 : Int32)) dL_law_2745 (by decide) ?_
    obtain rfl := Option.some.inj hf
    exact V.zret dL_law_2746 (by first | rfl | assumption)

set_option maxRecDepth 20000 in
theorem w_L_law_2750 (L : Nat) (xs : Nat → Int32) (h : xH) {k23 : xH → Nat → Nat → Nat → Int32 → Option (Int32 × xH)} (hk23 : ∀ (h : xH) (l1 : Nat) (l2 : Nat) (l3 : Nat) (l4 : Int32) (r : Int32 × xH), k23 h l1 l2 l3 l4 = some r → V 51 yL_law cL_law 8 (some .boolean) [] (some (L, xs)) 23 [(0, .ref xSC), (1, .ref l1), (2, .ref l2), (3, .ref l3), (4, .int l4)] [] h (oIh r)) (l1 : Nat) (l2 : Nat) (l3 : Nat) (l4 : Int32) (r : Int32 × xH) (hf : f_L_law_2750 L xs k23 h l1 l2 l3 l4 = some r) : V 51 yL_law cL_law 8 (some .boolean) [] (some (L, xs)) 2750 [(0, .ref xSC), (1, .ref l1), (2, .ref l2), (3, .ref l3), (4, .int l4)] [] h (oIh r) := by
  unfold f_L_law_2750 at hf
  refine V.aload_n dL_law_2750 rfl 1 rfl ?_
  refine V.aload_n dL_law_2751 rfl 0 rfl ?_
  refine V.iload dL_law_2752 4 rfl ?_
  refine V.iconst (v := (1 : Int32)) dL_law_2754 (by decide) ?_
  refine V.iadd dL_law_2755 ?_
  obtain ⟨v1, e387, hf⟩ := bS hf
  refine V.xldS rfl dL_law_2756 e387 ?_
  obtain ⟨r2, e388, hf⟩ := bS hf
  refine V.callSW (As := [.ref l1, .int v1]) (st := []) dL_law_2757 cw_RL_302 (by decide) rfl (Nat.le_of_ble_eq_true rfl) rfl (w_L_restore _ _ _ _ e388) ?_
  refine V.istore (lv' := [(5, .int r2.1), (0, .ref xSC), (1, .ref l1), (2, .ref l2), (3, .ref l3), (4, .int l4)]) dL_law_2760 (by decide) rfl ?_
  refine V.aload_n dL_law_2762 rfl 3 rfl ?_
  refine V.aload_n dL_law_2763 rfl 1 rfl ?_
  refine V.iload dL_law_2764 5 rfl ?_
  refine V.iconst (v := (1 : Int32)) dL_law_2766 (by decide) ?_
  refine V.iadd dL_law_2767 ?_
  obtain ⟨v3, e389, hf⟩ := bS hf
  refine V.xldS rfl dL_law_2768 e389 ?_
  obtain ⟨q4, e390, hf⟩ := bS hf
  obtain ⟨r5, e391, hf⟩ := bS hf
  refine V.callV (As := [.int v3]) (st := []) dL_law_2769 cl_RL_304 sw_yX12_restore (by decide) rfl (Nat.le_of_ble_eq_true rfl) rfl (gO_some e390) rfl (w_X12_restore _ _ _ _ e391) ?_
  refine V.aload_n dL_law_2772 rfl 3 rfl ?_
  obtain ⟨q6, e392, hf⟩ := bS hf
  obtain ⟨r7, e393, hf⟩ := bS hf
  refine V.callV (As := []) (st := []) dL_law_2773 cl_RL_148 sw_yX12_thrown (by decide) rfl (Nat.le_of_ble_eq_true rfl) rfl (gO_some e392) rfl (w_X12_thrown _ _ _ e393) ?_
  refine V.iload dL_law_2776 0 rfl ?_
  refine V.icmp_eq (tgt := 2783) dL_law_2778 (by decide) (fun c8 => ?_) (fun c8 => ?_)
  · rw [if_pos c8] at hf
    refine V.goto (tgt := 2811) dL_law_2783 (by decide) ?_
    refine V.iinc (v := (l4 + 6)) (lv' := [(4, .int (l4 + 6)), (5, .int r2.1), (0, .ref xSC), (1, .ref l1), (2, .ref l2), (3, .ref l3)]) dL_law_2811 5 rfl rfl (Nat.le_of_ble_eq_true rfl) rfl ?_
    refine V.goto (tgt := 23) dL_law_2814 (by decide) ?_
    refine V.sub [2, 3, 4, 5, 0] rfl ?_
    exact hk23 _ _ _ _ _ _ hf
  · rw [if_neg c8] at hf
    refine V.iconst (v := (0 : Int32)) dL_law_2781 (by decide) ?_
    obtain rfl := Option.some.inj hf
    exact V.zret dL_law_2782 (by first | rfl | assumption)

set_option maxRecDepth 20000 in
theorem w_L_law_2786 (L : Nat) (xs : Nat → Int32) (h : xH) {k23 : xH → Nat → Nat → Nat → Int32 → Option (Int32 × xH)} (hk23 : ∀ (h : xH) (l1 : Nat) (l2 : Nat) (l3 : Nat) (l4 : Int32) (r : Int32 × xH), k23 h l1 l2 l3 l4 = some r → V 51 yL_law cL_law 8 (some .boolean) [] (some (L, xs)) 23 [(0, .ref xSC), (1, .ref l1), (2, .ref l2), (3, .ref l3), (4, .int l4)] [] h (oIh r)) (l1 : Nat) (l2 : Nat) (l3 : Nat) (l4 : Int32) (r : Int32 × xH) (hf : f_L_law_2786 L xs k23 h l1 l2 l3 l4 = some r) : V 51 yL_law cL_law 8 (some .boolean) [] (some (L, xs)) 2786 [(0, .ref xSC), (1, .ref l1), (2, .ref l2), (3, .ref l3), (4, .int l4)] [] h (oIh r) := by
  unfold f_L_law_2786 at hf
  refine V.aload_n dL_law_2786 rfl 1 rfl ?_
  refine V.aload_n dL_law_2787 rfl 0 rfl ?_
  refine V.iload dL_law_2788 4 rfl ?_
  refine V.iconst (v := (1 : Int32)) dL_law_2790 (by decide) ?_
  refine V.iadd dL_law_2791 ?_
  obtain ⟨v1, e394, hf⟩ := bS hf
  refine V.xldS rfl dL_law_2792 e394 ?_
  obtain ⟨q2, e395, hf⟩ := bS hf
  obtain ⟨r3, e396, hf⟩ := bS hf
  refine V.callV (As := [.int v1]) (st := []) dL_law_2793 cl_RL_305 sw_yX11_count (by decide) rfl (Nat.le_of_ble_eq_true rfl) rfl (gO_some e395) rfl (w_X11_count _ _ _ _ e396) ?_
  refine V.aload_n dL_law_2796 rfl 2 rfl ?_
  refine V.aload_n dL_law_2797 rfl 0 rfl ?_
  refine V.iload dL_law_2798 4 rfl ?_
  refine V.iconst (v := (1 : Int32)) dL_law_2800 (by decide) ?_
  refine V.iadd dL_law_2801 ?_
  obtain ⟨v4, e397, hf⟩ := bS hf
  refine V.xldS rfl dL_law_2802 e397 ?_
  obtain ⟨q5, e398, hf⟩ := bS hf
  obtain ⟨r6, e399, hf⟩ := bS hf
  refine V.callV (As := [.int v4]) (st := [.int r3]) dL_law_2803 cl_RL_308 sw_yX12_count (by decide) rfl (Nat.le_of_ble_eq_true rfl) rfl (gO_some e398) rfl (w_X12_count _ _ _ _ e399) ?_
  refine V.icmp_eq (tgt := 2811) dL_law_2806 (by decide) (fun c7 => ?_) (fun c7 => ?_)
  · rw [if_pos c7] at hf
    refine V.iinc (v := (l4 + 6)) (lv' := [(4, .int (l4 + 6)), (0, .ref xSC), (1, .ref l1), (2, .ref l2), (3, .ref l3)]) dL_law_2811 4 rfl rfl (Nat.le_of_ble_eq_true rfl) rfl ?_
    refine V.goto (tgt := 23) dL_law_2814 (by decide) ?_
    refine V.sub [1, 2, 3, 4, 0] rfl ?_
    exact hk23 _ _ _ _ _ _ hf
  · rw [if_neg c7] at hf
    refine V.iconst (v := (0 : Int32)) dL_law_2809 (by decide) ?_
    obtain rfl := Option.some.inj hf
    exact V.zret dL_law_2810 (by first | rfl | assumption)

set_option maxRecDepth 20000 in
theorem w_L_law_23 (L : Nat) (xs : Nat → Int32) : ∀ (n : Nat) (h : xH) (l1 : Nat) (l2 : Nat) (l3 : Nat) (l4 : Int32) (r : Int32 × xH), f_L_law_23 L xs n h l1 l2 l3 l4 = some r → V 51 yL_law cL_law 8 (some .boolean) [] (some (L, xs)) 23 [(0, .ref xSC), (1, .ref l1), (2, .ref l2), (3, .ref l3), (4, .int l4)] [] h (oIh r) := by
  intro n
  induction n with
  | zero => intro h l1 l2 l3 l4 r hf; cases hf
  | succ n ih =>
    intro h l1 l2 l3 l4 r hf
    rw [f_L_law_23] at hf
    refine V.iload dL_law_23 4 rfl ?_
    refine V.aload_n dL_law_25 rfl 0 rfl ?_
    refine V.slen rfl dL_law_26 rfl ?_
    refine V.bipush (v := (6 : Int32)) dL_law_27 (by decide) ?_
    refine V.isub dL_law_29 ?_
    refine V.icmp_gt (tgt := 2817) dL_law_30 (by decide) (fun c1 => ?_) (fun c1 => ?_)
    · rw [if_pos c1] at hf
      refine V.iconst (v := (1 : Int32)) dL_law_2817 (by decide) ?_
      obtain rfl := Option.some.inj hf
      exact V.zret dL_law_2818 (by first | rfl | assumption)
    · rw [if_neg c1] at hf
      refine V.aload_n dL_law_33 rfl 0 rfl ?_
      refine V.iload dL_law_34 4 rfl ?_
      obtain ⟨v2, e400, hf⟩ := bS hf
      refine V.xldS rfl dL_law_36 e400 ?_
      refine V.bipush (v := (63 : Int32)) dL_law_37 (by decide) ?_
      refine V.iand dL_law_39 ?_
      by_cases c3 : Int32.toInt (v2 &&& (63 : Int32)) < 0 ∨ 46 < Int32.toInt (v2 &&& (63 : Int32))
      · rw [if_pos c3] at hf
        refine V.tableOut (tgt := 2811) dL_law_40 c3 (by decide) ?_
        refine V.iinc (v := (l4 + 6)) (lv' := [(4, .int (l4 + 6)), (0, .ref xSC), (1, .ref l1), (2, .ref l2), (3, .ref l3)]) dL_law_2811 4 rfl rfl (Nat.le_of_ble_eq_true rfl) rfl ?_
        refine V.goto (tgt := 23) dL_law_2814 (by decide) ?_
        refine V.sub [1, 2, 3, 4, 0] rfl ?_
        exact ih _ _ _ _ _ _ hf
      · rw [if_neg c3] at hf
        by_cases c4 : (v2 &&& (63 : Int32)) = 0
        · rw [if_pos c4] at hf
          refine V.tableIn (off := 204) (tgt := 244) dL_law_40 (by rw [c4]; decide) (by rw [c4]; decide) (by rw [c4]; rfl) (by decide) ?_
          exact w_L_law_244 L xs _ ih _ _ _ _ _ hf
        · rw [if_neg c4] at hf
          by_cases c5 : (v2 &&& (63 : Int32)) = 1
          · rw [if_pos c5] at hf
            refine V.tableIn (off := 277) (tgt := 317) dL_law_40 (by rw [c5]; decide) (by rw [c5]; decide) (by rw [c5]; rfl) (by decide) ?_
            exact w_L_law_317 L xs _ ih _ _ _ _ _ hf
          · rw [if_neg c5] at hf
            by_cases c6 : (v2 &&& (63 : Int32)) = 2
            · rw [if_pos c6] at hf
              refine V.tableIn (off := 333) (tgt := 373) dL_law_40 (by rw [c6]; decide) (by rw [c6]; decide) (by rw [c6]; rfl) (by decide) ?_
              exact w_L_law_373 L xs _ ih _ _ _ _ _ hf
            · rw [if_neg c6] at hf
              by_cases c7 : (v2 &&& (63 : Int32)) = 3
              · rw [if_pos c7] at hf
                refine V.tableIn (off := 358) (tgt := 398) dL_law_40 (by rw [c7]; decide) (by rw [c7]; decide) (by rw [c7]; rfl) (by decide) ?_
                exact w_L_law_398 L xs _ ih _ _ _ _ _ hf
              · rw [if_neg c7] at hf
                by_cases c8 : (v2 &&& (63 : Int32)) = 4
                · rw [if_pos c8] at hf
                  refine V.tableIn (off := 426) (tgt := 466) dL_law_40 (by rw [c8]; decide) (by rw [c8]; decide) (by rw [c8]; rfl) (by decide) ?_
                  exact w_L_law_466 L xs _ ih _ _ _ _ _ hf
                · rw [if_neg c8] at hf
                  by_cases c9 : (v2 &&& (63 : Int32)) = 5
                  · rw [if_pos c9] at hf
                    refine V.tableIn (off := 494) (tgt := 534) dL_law_40 (by rw [c9]; decide) (by rw [c9]; decide) (by rw [c9]; rfl) (by decide) ?_
                    exact w_L_law_534 L xs _ ih _ _ _ _ _ hf
                  · rw [if_neg c9] at hf
                    by_cases c10 : (v2 &&& (63 : Int32)) = 6
                    · rw [if_pos c10] at hf
                      refine V.tableIn (off := 550) (tgt := 590) dL_law_40 (by rw [c10]; decide) (by rw [c10]; decide) (by rw [c10]; rfl) (by decide) ?_
                      exact w_L_law_590 L xs _ ih _ _ _ _ _ hf
                    · rw [if_neg c10] at hf
                      by_cases c11 : (v2 &&& (63 : Int32)) = 7
                      · rw [if_pos c11] at hf
                        refine V.tableIn (off := 606) (tgt := 646) dL_law_40 (by rw [c11]; decide) (by rw [c11]; decide) (by rw [c11]; rfl) (by decide) ?_
                        exact w_L_law_646 L xs _ ih _ _ _ _ _ hf
                      · rw [if_neg c11] at hf
                        by_cases c12 : (v2 &&& (63 : Int32)) = 8
                        · rw [if_pos c12] at hf
                          refine V.tableIn (off := 619) (tgt := 659) dL_law_40 (by rw [c12]; decide) (by rw [c12]; decide) (by rw [c12]; rfl) (by decide) ?_
                          exact w_L_law_659 L xs _ ih _ _ _ _ _ hf
                        · rw [if_neg c12] at hf
                          by_cases c13 : (v2 &&& (63 : Int32)) = 9
                          · rw [if_pos c13] at hf
                            refine V.tableIn (off := 699) (tgt := 739) dL_law_40 (by rw [c13]; decide) (by rw [c13]; decide) (by rw [c13]; rfl) (by decide) ?_
                            exact w_L_law_739 L xs _ ih _ _ _ _ _ hf
                          · rw [if_neg c13] at hf
                            by_cases c14 : (v2 &&& (63 : Int32)) = 10
                            · rw [if_pos c14] at hf
                              refine V.tableIn (off := 767) (tgt := 807) dL_law_40 (by rw [c14]; decide) (by rw [c14]; decide) (by rw [c14]; rfl) (by decide) ?_
                              exact w_L_law_807 L xs _ ih _ _ _ _ _ hf
                            · rw [if_neg c14] at hf
                              by_cases c15 : (v2 &&& (63 : Int32)) = 11
                              · rw [if_pos c15] at hf
                                refine V.tableIn (off := 835) (tgt := 875) dL_law_40 (by rw [c15]; decide) (by rw [c15]; decide) (by rw [c15]; rfl) (by decide) ?_
                                exact w_L_law_875 L xs _ ih _ _ _ _ _ hf
                              · rw [if_neg c15] at hf
                                by_cases c16 : (v2 &&& (63 : Int32)) = 12
                                · rw [if_pos c16] at hf
                                  refine V.tableIn (off := 903) (tgt := 943) dL_law_40 (by rw [c16]; decide) (by rw [c16]; decide) (by rw [c16]; rfl) (by decide) ?_
                                  exact w_L_law_943 L xs _ ih _ _ _ _ _ hf
                                · rw [if_neg c16] at hf
                                  by_cases c17 : (v2 &&& (63 : Int32)) = 13
                                  · rw [if_pos c17] at hf
                                    refine V.tableIn (off := 959) (tgt := 999) dL_law_40 (by rw [c17]; decide) (by rw [c17]; decide) (by rw [c17]; rfl) (by decide) ?_
                                    exact w_L_law_999 L xs _ ih _ _ _ _ _ hf
                                  · rw [if_neg c17] at hf
                                    by_cases c18 : (v2 &&& (63 : Int32)) = 14
                                    · rw [if_pos c18] at hf
                                      refine V.tableIn (off := 972) (tgt := 1012) dL_law_40 (by rw [c18]; decide) (by rw [c18]; decide) (by rw [c18]; rfl) (by decide) ?_
                                      exact w_L_law_1012 L xs _ ih _ _ _ _ _ hf
                                    · rw [if_neg c18] at hf
                                      by_cases c19 : (v2 &&& (63 : Int32)) = 15
                                      · rw [if_pos c19] at hf
                                        refine V.tableIn (off := 1040) (tgt := 1080) dL_law_40 (by rw [c19]; decide) (by rw [c19]; decide) (by rw [c19]; rfl) (by decide) ?_
                                        exact w_L_law_1080 L xs _ ih _ _ _ _ _ hf
                                      · rw [if_neg c19] at hf
                                        by_cases c20 : (v2 &&& (63 : Int32)) = 16
                                        · rw [if_pos c20] at hf
                                          refine V.tableIn (off := 1096) (tgt := 1136) dL_law_40 (by rw [c20]; decide) (by rw [c20]; decide) (by rw [c20]; rfl) (by decide) ?_
                                          exact w_L_law_1136 L xs _ ih _ _ _ _ _ hf
                                        · rw [if_neg c20] at hf
                                          by_cases c21 : (v2 &&& (63 : Int32)) = 17
                                          · rw [if_pos c21] at hf
                                            refine V.tableIn (off := 1152) (tgt := 1192) dL_law_40 (by rw [c21]; decide) (by rw [c21]; decide) (by rw [c21]; rfl) (by decide) ?_
                                            exact w_L_law_1192 L xs _ ih _ _ _ _ _ hf
                                          · rw [if_neg c21] at hf
                                            by_cases c22 : (v2 &&& (63 : Int32)) = 18
                                            · rw [if_pos c22] at hf
                                              refine V.tableIn (off := 1165) (tgt := 1205) dL_law_40 (by rw [c22]; decide) (by rw [c22]; decide) (by rw [c22]; rfl) (by decide) ?_
                                              exact w_L_law_1205 L xs _ ih _ _ _ _ _ hf
                                            · rw [if_neg c22] at hf
                                              by_cases c23 : (v2 &&& (63 : Int32)) = 19
                                              · rw [if_pos c23] at hf
                                                refine V.tableIn (off := 1240) (tgt := 1280) dL_law_40 (by rw [c23]; decide) (by rw [c23]; decide) (by rw [c23]; rfl) (by decide) ?_
                                                exact w_L_law_1280 L xs _ ih _ _ _ _ _ hf
                                              · rw [if_neg c23] at hf
                                                by_cases c24 : (v2 &&& (63 : Int32)) = 20
                                                · rw [if_pos c24] at hf
                                                  refine V.tableIn (off := 1296) (tgt := 1336) dL_law_40 (by rw [c24]; decide) (by rw [c24]; decide) (by rw [c24]; rfl) (by decide) ?_
                                                  exact w_L_law_1336 L xs _ ih _ _ _ _ _ hf
                                                · rw [if_neg c24] at hf
                                                  by_cases c25 : (v2 &&& (63 : Int32)) = 21
                                                  · rw [if_pos c25] at hf
                                                    refine V.tableIn (off := 1309) (tgt := 1349) dL_law_40 (by rw [c25]; decide) (by rw [c25]; decide) (by rw [c25]; rfl) (by decide) ?_
                                                    exact w_L_law_1349 L xs _ ih _ _ _ _ _ hf
                                                  · rw [if_neg c25] at hf
                                                    by_cases c26 : (v2 &&& (63 : Int32)) = 22
                                                    · rw [if_pos c26] at hf
                                                      refine V.tableIn (off := 1377) (tgt := 1417) dL_law_40 (by rw [c26]; decide) (by rw [c26]; decide) (by rw [c26]; rfl) (by decide) ?_
                                                      exact w_L_law_1417 L xs _ ih _ _ _ _ _ hf
                                                    · rw [if_neg c26] at hf
                                                      by_cases c27 : (v2 &&& (63 : Int32)) = 23
                                                      · rw [if_pos c27] at hf
                                                        refine V.tableIn (off := 1390) (tgt := 1430) dL_law_40 (by rw [c27]; decide) (by rw [c27]; decide) (by rw [c27]; rfl) (by decide) ?_
                                                        exact w_L_law_1430 L xs _ ih _ _ _ _ _ hf
                                                      · rw [if_neg c27] at hf
                                                        by_cases c28 : (v2 &&& (63 : Int32)) = 24
                                                        · rw [if_pos c28] at hf
                                                          refine V.tableIn (off := 1403) (tgt := 1443) dL_law_40 (by rw [c28]; decide) (by rw [c28]; decide) (by rw [c28]; rfl) (by decide) ?_
                                                          exact w_L_law_1443 L xs _ ih _ _ _ _ _ hf
                                                        · rw [if_neg c28] at hf
                                                          by_cases c29 : (v2 &&& (63 : Int32)) = 25
                                                          · rw [if_pos c29] at hf
                                                            refine V.tableIn (off := 1459) (tgt := 1499) dL_law_40 (by rw [c29]; decide) (by rw [c29]; decide) (by rw [c29]; rfl) (by decide) ?_
                                                            exact w_L_law_1499 L xs _ ih _ _ _ _ _ hf
                                                          · rw [if_neg c29] at hf
                                                            by_cases c30 : (v2 &&& (63 : Int32)) = 26
                                                            · rw [if_pos c30] at hf
                                                              refine V.tableIn (off := 1515) (tgt := 1555) dL_law_40 (by rw [c30]; decide) (by rw [c30]; decide) (by rw [c30]; rfl) (by decide) ?_
                                                              exact w_L_law_1555 L xs _ ih _ _ _ _ _ hf
                                                            · rw [if_neg c30] at hf
                                                              by_cases c31 : (v2 &&& (63 : Int32)) = 27
                                                              · rw [if_pos c31] at hf
                                                                refine V.tableIn (off := 1583) (tgt := 1623) dL_law_40 (by rw [c31]; decide) (by rw [c31]; decide) (by rw [c31]; rfl) (by decide) ?_
                                                                exact w_L_law_1623 L xs _ ih _ _ _ _ _ hf
                                                              · rw [if_neg c31] at hf
                                                                by_cases c32 : (v2 &&& (63 : Int32)) = 28
                                                                · rw [if_pos c32] at hf
                                                                  refine V.tableIn (off := 1651) (tgt := 1691) dL_law_40 (by rw [c32]; decide) (by rw [c32]; decide) (by rw [c32]; rfl) (by decide) ?_
                                                                  exact w_L_law_1691 L xs _ ih _ _ _ _ _ hf
                                                                · rw [if_neg c32] at hf
                                                                  by_cases c33 : (v2 &&& (63 : Int32)) = 29
                                                                  · rw [if_pos c33] at hf
                                                                    refine V.tableIn (off := 1719) (tgt := 1759) dL_law_40 (by rw [c33]; decide) (by rw [c33]; decide) (by rw [c33]; rfl) (by decide) ?_
                                                                    exact w_L_law_1759 L xs _ ih _ _ _ _ _ hf
                                                                  · rw [if_neg c33] at hf
                                                                    by_cases c34 : (v2 &&& (63 : Int32)) = 30
                                                                    · rw [if_pos c34] at hf
                                                                      refine V.tableIn (off := 1732) (tgt := 1772) dL_law_40 (by rw [c34]; decide) (by rw [c34]; decide) (by rw [c34]; rfl) (by decide) ?_
                                                                      exact w_L_law_1772 L xs _ ih _ _ _ _ _ hf
                                                                    · rw [if_neg c34] at hf
                                                                      by_cases c35 : (v2 &&& (63 : Int32)) = 31
                                                                      · rw [if_pos c35] at hf
                                                                        refine V.tableIn (off := 1800) (tgt := 1840) dL_law_40 (by rw [c35]; decide) (by rw [c35]; decide) (by rw [c35]; rfl) (by decide) ?_
                                                                        exact w_L_law_1840 L xs _ ih _ _ _ _ _ hf
                                                                      · rw [if_neg c35] at hf
                                                                        by_cases c36 : (v2 &&& (63 : Int32)) = 32
                                                                        · rw [if_pos c36] at hf
                                                                          refine V.tableIn (off := 1892) (tgt := 1932) dL_law_40 (by rw [c36]; decide) (by rw [c36]; decide) (by rw [c36]; rfl) (by decide) ?_
                                                                          exact w_L_law_1932 L xs _ ih _ _ _ _ _ hf
                                                                        · rw [if_neg c36] at hf
                                                                          by_cases c37 : (v2 &&& (63 : Int32)) = 33
                                                                          · rw [if_pos c37] at hf
                                                                            refine V.tableIn (off := 1948) (tgt := 1988) dL_law_40 (by rw [c37]; decide) (by rw [c37]; decide) (by rw [c37]; rfl) (by decide) ?_
                                                                            exact w_L_law_1988 L xs _ ih _ _ _ _ _ hf
                                                                          · rw [if_neg c37] at hf
                                                                            by_cases c38 : (v2 &&& (63 : Int32)) = 34
                                                                            · rw [if_pos c38] at hf
                                                                              refine V.tableIn (off := 2011) (tgt := 2051) dL_law_40 (by rw [c38]; decide) (by rw [c38]; decide) (by rw [c38]; rfl) (by decide) ?_
                                                                              exact w_L_law_2051 L xs _ ih _ _ _ _ _ hf
                                                                            · rw [if_neg c38] at hf
                                                                              by_cases c39 : (v2 &&& (63 : Int32)) = 35
                                                                              · rw [if_pos c39] at hf
                                                                                refine V.tableIn (off := 2025) (tgt := 2065) dL_law_40 (by rw [c39]; decide) (by rw [c39]; decide) (by rw [c39]; rfl) (by decide) ?_
                                                                                exact w_L_law_2065 L xs _ ih _ _ _ _ _ hf
                                                                              · rw [if_neg c39] at hf
                                                                                by_cases c40 : (v2 &&& (63 : Int32)) = 36
                                                                                · rw [if_pos c40] at hf
                                                                                  refine V.tableIn (off := 2039) (tgt := 2079) dL_law_40 (by rw [c40]; decide) (by rw [c40]; decide) (by rw [c40]; rfl) (by decide) ?_
                                                                                  exact w_L_law_2079 L xs _ ih _ _ _ _ _ hf
                                                                                · rw [if_neg c40] at hf
                                                                                  by_cases c41 : (v2 &&& (63 : Int32)) = 37
                                                                                  · rw [if_pos c41] at hf
                                                                                    refine V.tableIn (off := 2095) (tgt := 2135) dL_law_40 (by rw [c41]; decide) (by rw [c41]; decide) (by rw [c41]; rfl) (by decide) ?_
                                                                                    exact w_L_law_2135 L xs _ ih _ _ _ _ _ hf
                                                                                  · rw [if_neg c41] at hf
                                                                                    by_cases c42 : (v2 &&& (63 : Int32)) = 38
                                                                                    · rw [if_pos c42] at hf
                                                                                      refine V.tableIn (off := 2163) (tgt := 2203) dL_law_40 (by rw [c42]; decide) (by rw [c42]; decide) (by rw [c42]; rfl) (by decide) ?_
                                                                                      exact w_L_law_2203 L xs _ ih _ _ _ _ _ hf
                                                                                    · rw [if_neg c42] at hf
                                                                                      by_cases c43 : (v2 &&& (63 : Int32)) = 39
                                                                                      · rw [if_pos c43] at hf
                                                                                        refine V.tableIn (off := 2271) (tgt := 2311) dL_law_40 (by rw [c43]; decide) (by rw [c43]; decide) (by rw [c43]; rfl) (by decide) ?_
                                                                                        exact w_L_law_2311 L xs _ ih _ _ _ _ _ hf
                                                                                      · rw [if_neg c43] at hf
                                                                                        by_cases c44 : (v2 &&& (63 : Int32)) = 40
                                                                                        · rw [if_pos c44] at hf
                                                                                          refine V.tableIn (off := 2367) (tgt := 2407) dL_law_40 (by rw [c44]; decide) (by rw [c44]; decide) (by rw [c44]; rfl) (by decide) ?_
                                                                                          exact w_L_law_2407 L xs _ ih _ _ _ _ _ hf
                                                                                        · rw [if_neg c44] at hf
                                                                                          by_cases c45 : (v2 &&& (63 : Int32)) = 41
                                                                                          · rw [if_pos c45] at hf
                                                                                            refine V.tableIn (off := 2447) (tgt := 2487) dL_law_40 (by rw [c45]; decide) (by rw [c45]; decide) (by rw [c45]; rfl) (by decide) ?_
                                                                                            exact w_L_law_2487 L xs _ ih _ _ _ _ _ hf
                                                                                          · rw [if_neg c45] at hf
                                                                                            by_cases c46 : (v2 &&& (63 : Int32)) = 42
                                                                                            · rw [if_pos c46] at hf
                                                                                              refine V.tableIn (off := 2507) (tgt := 2547) dL_law_40 (by rw [c46]; decide) (by rw [c46]; decide) (by rw [c46]; rfl) (by decide) ?_
                                                                                              exact w_L_law_2547 L xs _ ih _ _ _ _ _ hf
                                                                                            · rw [if_neg c46] at hf
                                                                                              by_cases c47 : (v2 &&& (63 : Int32)) = 43
                                                                                              · rw [if_pos c47] at hf
                                                                                                refine V.tableIn (off := 2618) (tgt := 2658) dL_law_40 (by rw [c47]; decide) (by rw [c47]; decide) (by rw [c47]; rfl) (by decide) ?_
                                                                                                exact w_L_law_2658 L xs _ ih _ _ _ _ _ hf
                                                                                              · rw [if_neg c47] at hf
                                                                                                by_cases c48 : (v2 &&& (63 : Int32)) = 44
                                                                                                · rw [if_pos c48] at hf
                                                                                                  refine V.tableIn (off := 2674) (tgt := 2714) dL_law_40 (by rw [c48]; decide) (by rw [c48]; decide) (by rw [c48]; rfl) (by decide) ?_
                                                                                                  exact w_L_law_2714 L xs _ ih _ _ _ _ _ hf
                                                                                                · rw [if_neg c48] at hf
                                                                                                  by_cases c49 : (v2 &&& (63 : Int32)) = 45
                                                                                                  · rw [if_pos c49] at hf
                                                                                                    refine V.tableIn (off := 2710) (tgt := 2750) dL_law_40 (by rw [c49]; decide) (by rw [c49]; decide) (by rw [c49]; rfl) (by decide) ?_
                                                                                                    exact w_L_law_2750 L xs _ ih _ _ _ _ _ hf
                                                                                                  · rw [if_neg c49] at hf
                                                                                                    by_cases c50 : (v2 &&& (63 : Int32)) = 46
                                                                                                    · rw [if_pos c50] at hf
                                                                                                      refine V.tableIn (off := 2746) (tgt := 2786) dL_law_40 (by rw [c50]; decide) (by rw [c50]; decide) (by rw [c50]; rfl) (by decide) ?_
                                                                                                      exact w_L_law_2786 L xs _ ih _ _ _ _ _ hf
                                                                                                    · rw [if_neg c50] at hf
                                                                                                      cases hf

set_option maxRecDepth 20000 in
theorem w_L_law (L : Nat) (xs : Nat → Int32) (h : xH) (r : Int32 × xH) (hf : f_L_law L xs h = some r) : V 51 yL_law cL_law 8 (some .boolean) [] (some (L, xs)) 0 [(0, .ref xSC)] [] h (oIh r) := by
  unfold f_L_law at hf
  obtain ⟨h1, e401, hf⟩ := bS hf
  refine V.xmkO dL_law_0 nc_RL_8 e401 ?_
  refine V.dup dL_law_3 rfl ?_
  obtain ⟨r2, e402, hf⟩ := bS hf
  refine V.callI (As := []) (st := [.ref (h.1.length)]) dL_law_4 cl_RL_133 sw_yX11_init rfl (by decide) rfl (Nat.le_of_ble_eq_true rfl) rfl (w_X11_init _ _ _ e402) ?_
  refine V.astore_n (lv' := [(1, .ref h.1.length), (0, .ref xSC)]) dL_law_7 rfl (by decide) rfl ?_
  obtain ⟨h3, e403, hf⟩ := bS hf
  refine V.xmkO dL_law_8 nc_RL_134 e403 ?_
  refine V.dup dL_law_11 rfl ?_
  obtain ⟨r4, e404, hf⟩ := bS hf
  refine V.callI (As := []) (st := [.ref (r2.1.length)]) dL_law_12 cl_RL_136 sw_yX12_init rfl (by decide) rfl (Nat.le_of_ble_eq_true rfl) rfl (w_X12_init _ _ _ e404) ?_
  refine V.astore_n (lv' := [(2, .ref r2.1.length), (1, .ref h.1.length), (0, .ref xSC)]) dL_law_15 rfl (by decide) rfl ?_
  refine V.iconst (v := (1 : Int32)) dL_law_16 (by decide) ?_
  obtain ⟨h5, e405, hf⟩ := bS hf
  refine V.xmkJ dL_law_17 aw_long e405 ?_
  refine V.astore_n (lv' := [(3, .ref r4.1.length), (2, .ref r2.1.length), (1, .ref h.1.length), (0, .ref xSC)]) dL_law_19 rfl (by decide) rfl ?_
  refine V.iconst (v := (0 : Int32)) dL_law_20 (by decide) ?_
  refine V.istore (lv' := [(4, .int (0 : Int32)), (3, .ref r4.1.length), (2, .ref r2.1.length), (1, .ref h.1.length), (0, .ref xSC)]) dL_law_21 (by decide) rfl ?_
  refine V.sub [4, 3, 2, 1, 0] rfl ?_
  exact w_L_law_23 L xs _ _ _ _ _ _ _ hf

