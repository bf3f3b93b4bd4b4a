theorem popL_sum {z w1 w2 w3 w4 w5 w6 w7 w8 : Nat} (hz : z = w1 + 256 * (w2 + 256 * (w3 + 256 * (w4 + 256 * (w5 + 256 * (w6 + 256 * (w7 + 256 * (w8 + 256 * 0)))))))) (h1 : w1 ≤ 8) (h2 : w2 ≤ 8) (h3 : w3 ≤ 8) (h4 : w4 ≤ 8) (h5 : w5 ≤ 8) (h6 : w6 ≤ 8) (h7 : w7 ≤ 8) (h8 : w8 ≤ 8) : (z + z / 256 + (z + z / 256) / 65536 + (z + z / 256 + (z + z / 256) / 65536) / 4294967296) % 128 = w1 + (w2 + (w3 + (w4 + (w5 + (w6 + (w7 + (w8 + 0))))))) := by
  have d1 : z / 256 = w2 + 256 * (w3 + 256 * (w4 + 256 * (w5 + 256 * (w6 + 256 * (w7 + 256 * w8))))) := dv_of (r := w1) (by clear h1 h2 h3 h4 h5 h6 h7 h8; omega) (by clear hz; omega)
  rw [d1]
  clear d1
  have d2 : (z + (w2 + 256 * (w3 + 256 * (w4 + 256 * (w5 + 256 * (w6 + 256 * (w7 + 256 * w8))))))) / 65536 = (w3 + w4) + 256 * ((w4 + w5) + 256 * ((w5 + w6) + 256 * ((w6 + w7) + 256 * ((w7 + w8) + 256 * w8)))) := dv_of (r := (w1 + w2) + 256 * (w2 + w3)) (by clear h1 h2 h3 h4 h5 h6 h7 h8; omega) (by clear hz; omega)
  rw [d2]
  clear d2
  have d3 : (z + (w2 + 256 * (w3 + 256 * (w4 + 256 * (w5 + 256 * (w6 + 256 * (w7 + 256 * w8)))))) + ((w3 + w4) + 256 * ((w4 + w5) + 256 * ((w5 + w6) + 256 * ((w6 + w7) + 256 * ((w7 + w8) + 256 * w8)))))) / 4294967296 = (w5 + w6 + (w7 + w8)) + 256 * ((w6 + w7 + w8) + 256 * ((w7 + w8) + 256 * w8)) := dv_of (r := (w1 + w2 + (w3 + w4)) + 256 * ((w2 + w3 + (w4 + w5)) + 256 * ((w3 + w4 + (w5 + w6)) + 256 * (w4 + w5 + (w6 + w7))))) (by clear h1 h2 h3 h4 h5 h6 h7 h8; omega) (by clear hz; omega)
  rw [d3]
  clear d3
  have d4 : (z + (w2 + 256 * (w3 + 256 * (w4 + 256 * (w5 + 256 * (w6 + 256 * (w7 + 256 * w8)))))) + ((w3 + w4) + 256 * ((w4 + w5) + 256 * ((w5 + w6) + 256 * ((w6 + w7) + 256 * ((w7 + w8) + 256 * w8))))) + ((w5 + w6 + (w7 + w8)) + 256 * ((w6 + w7 + w8) + 256 * ((w7 + w8) + 256 * w8)))) = (w1 + (w2 + (w3 + (w4 + (w5 + (w6 + (w7 + (w8 + 0)))))))) + 128 * (2 * ((w2 + w3 + (w4 + w5) + (w6 + w7 + w8)) + 256 * ((w3 + w4 + (w5 + w6) + (w7 + w8)) + 256 * ((w4 + w5 + (w6 + w7) + w8) + 256 * ((w5 + w6 + (w7 + w8)) + 256 * ((w6 + w7 + w8) + 256 * ((w7 + w8) + 256 * w8))))))) := by clear h1 h2 h3 h4 h5 h6 h7 h8; omega
  rw [d4, Nat.add_mul_mod_self_left]
  exact Nat.mod_eq_of_lt (by clear d4 hz; omega)
theorem bitCountL_spec (h : xH) {n : Nat} (hn : n < 2 ^ 64) : f_J13_bitCount_95d88 h (lN n) = some (nI (pc n)) := by
  have hl : ∀ a ∈ [n % 256, n / 256 % 256, n / 65536 % 256, n / 16777216 % 256, n / 4294967296 % 256, n / 1099511627776 % 256, n / 281474976710656 % 256, n / 72057594037927936], a < 256 := by
    intro a ha
    simp only [List.mem_cons, List.not_mem_nil, or_false] at ha
    omega
  have hb : n = byt [n % 256, n / 256 % 256, n / 65536 % 256, n / 16777216 % 256, n / 4294967296 % 256, n / 1099511627776 % 256, n / 281474976710656 % 256, n / 72057594037927936] := by
    show n = n % 256 + 256 * (n / 256 % 256 + 256 * (n / 65536 % 256 + 256 * (n / 16777216 % 256 + 256 * (n / 4294967296 % 256 + 256 * (n / 1099511627776 % 256 + 256 * (n / 281474976710656 % 256 + 256 * (n / 72057594037927936 + 256 * 0)))))))
    omega
  obtain ⟨q1, q2, q3, q4⟩ := pop_steps _ hl n 6148914691236517205 3689348814741910323 1085102592571150095 hb (by simp only [List.map_cons, List.map_nil, byt]) (by simp only [List.map_cons, List.map_nil, byt]) (by simp only [List.map_cons, List.map_nil, byt])
  have q5 := byt_pc _ hl
  rw [← hb] at q5
  have q6 : pc n = _ := (pc_eq (k := 64) (by decide) hn).trans q5
  have p1 := (by2_lt ⟨n % 256, by omega⟩)
  have p2 := (by2_lt ⟨n / 256 % 256, by omega⟩)
  have p3 := (by2_lt ⟨n / 65536 % 256, by omega⟩)
  have p4 := (by2_lt ⟨n / 16777216 % 256, by omega⟩)
  have p5 := (by2_lt ⟨n / 4294967296 % 256, by omega⟩)
  have p6 := (by2_lt ⟨n / 1099511627776 % 256, by omega⟩)
  have p7 := (by2_lt ⟨n / 281474976710656 % 256, by omega⟩)
  have p8 := (by2_lt ⟨n / 72057594037927936, by omega⟩)
  simp only [List.map_cons, List.map_nil, List.sum_cons, List.sum_nil] at q6
  simp only [List.map_cons, List.map_nil] at q2 q3 q4
  simp only at p1 p2 p3 p4 p5 p6 p7 p8
  have e1 : UInt64.toInt64 (Int64.toUInt64 (lN n) >>> (Int64.toUInt64 (Int32.toInt64 (1 : Int32)) &&& Int64.toUInt64 63)) = lN (n / 2) := wb_shr (k := 1) hn (by decide)
  have e2 : lN (n / 2) &&& (6148914691236517205 : Int64) = lN (n / 2 &&& 6148914691236517205) := fb_andL _ _
  have e3 : lN n - lN (n / 2 &&& 6148914691236517205) = lN (n - (n / 2 &&& 6148914691236517205)) := lN_sub q1
  unfold f_J13_bitCount_95d88
  rw [e1, e2, e3]
  generalize hx : n - (n / 2 &&& 6148914691236517205) = x at *
  have hx2 : x < 2 ^ 64 := by omega
  have e4 : UInt64.toInt64 (Int64.toUInt64 (lN x) >>> (Int64.toUInt64 (Int32.toInt64 (2 : Int32)) &&& Int64.toUInt64 63)) = lN (x / 4) := wb_shr (k := 2) hx2 (by decide)
  have e5 : lN (x / 4) &&& (3689348814741910323 : Int64) = lN (x / 4 &&& 3689348814741910323) := fb_andL _ _
  have e6 : lN x &&& (3689348814741910323 : Int64) = lN (x &&& 3689348814741910323) := fb_andL _ _
  rw [e4, e5, e6, lN_add]
  have m2 : x / 4 &&& 3689348814741910323 < 2 ^ 62 := n_and_ltr (by decide)
  have m3 : x &&& 3689348814741910323 < 2 ^ 62 := n_and_ltr (by decide)
  generalize hy : (x &&& 3689348814741910323) + (x / 4 &&& 3689348814741910323) = y at *
  have hy2 : y < 2 ^ 64 := by omega
  have e7 : UInt64.toInt64 (Int64.toUInt64 (lN y) >>> (Int64.toUInt64 (Int32.toInt64 (4 : Int32)) &&& Int64.toUInt64 63)) = lN (y / 16) := wb_shr (k := 4) hy2 (by decide)
  have e8 : lN (y + y / 16) &&& (1085102592571150095 : Int64) = lN (y + y / 16 &&& 1085102592571150095) := fb_andL _ _
  rw [e7, lN_add, e8]
  have q2' : (y + y / 16) &&& 1085102592571150095 = byt [by3 (n % 256), by3 (n / 256 % 256), by3 (n / 65536 % 256), by3 (n / 16777216 % 256), by3 (n / 4294967296 % 256), by3 (n / 1099511627776 % 256), by3 (n / 281474976710656 % 256), by3 (n / 72057594037927936)] := q2
  rw [q2']
  have q7 : byt [by3 (n % 256), by3 (n / 256 % 256), by3 (n / 65536 % 256), by3 (n / 16777216 % 256), by3 (n / 4294967296 % 256), by3 (n / 1099511627776 % 256), by3 (n / 281474976710656 % 256), by3 (n / 72057594037927936)] = by3 (n % 256) + 256 * (by3 (n / 256 % 256) + 256 * (by3 (n / 65536 % 256) + 256 * (by3 (n / 16777216 % 256) + 256 * (by3 (n / 4294967296 % 256) + 256 * (by3 (n / 1099511627776 % 256) + 256 * (by3 (n / 281474976710656 % 256) + 256 * (by3 (n / 72057594037927936) + 256 * 0))))))) := rfl
  generalize by3 (n % 256) = w1 at *
  generalize by3 (n / 256 % 256) = w2 at *
  generalize by3 (n / 65536 % 256) = w3 at *
  generalize by3 (n / 16777216 % 256) = w4 at *
  generalize by3 (n / 4294967296 % 256) = w5 at *
  generalize by3 (n / 1099511627776 % 256) = w6 at *
  generalize by3 (n / 281474976710656 % 256) = w7 at *
  generalize by3 (n / 72057594037927936) = w8 at *
  generalize byt [w1, w2, w3, w4, w5, w6, w7, w8] = z at *
  have hw1 : w1 ≤ 8 := by omega
  have hw2 : w2 ≤ 8 := by omega
  have hw3 : w3 ≤ 8 := by omega
  have hw4 : w4 ≤ 8 := by omega
  have hw5 : w5 ≤ 8 := by omega
  have hw6 : w6 ≤ 8 := by omega
  have hw7 : w7 ≤ 8 := by omega
  have hw8 : w8 ≤ 8 := by omega
  clear p1 p2 p3 p4 p5 p6 p7 p8 q1 q2 q2' q3 q4 q5 hl hb hx hy e1 e2 e3 e4 e5 e6 e7 e8 m2 m3
  have hz : z < 2 ^ 60 := by omega
  have e9 : UInt64.toInt64 (Int64.toUInt64 (lN z) >>> (Int64.toUInt64 (Int32.toInt64 (8 : Int32)) &&& Int64.toUInt64 63)) = lN (z / 256) := wb_shr (k := 8) (by omega) (by decide)
  rw [e9, lN_add]
  have e10 : UInt64.toInt64 (Int64.toUInt64 (lN (z + z / 256)) >>> (Int64.toUInt64 (Int32.toInt64 (16 : Int32)) &&& Int64.toUInt64 63)) = lN ((z + z / 256) / 65536) := wb_shr (k := 16) (by omega) (by decide)
  rw [e10, lN_add]
  have e11 : UInt64.toInt64 (Int64.toUInt64 (lN (z + z / 256 + (z + z / 256) / 65536)) >>> (Int64.toUInt64 (Int32.toInt64 (32 : Int32)) &&& Int64.toUInt64 63)) = lN ((z + z / 256 + (z + z / 256) / 65536) / 4294967296) := wb_shr (k := 32) (by omega) (by decide)
  rw [e11, lN_add, lN_i]
  have e12 : ∀ v, nI v &&& (127 : Int32) = nI (v % 128) := fun v => fa_mask v 7
  rw [e12, q6]
  congr 2
  exact popL_sum q7 hw1 hw2 hw3 hw4 hw5 hw6 hw7 hw8
