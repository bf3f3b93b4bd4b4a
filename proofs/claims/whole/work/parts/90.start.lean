/-! ===== the world at the law's entry ===== -/
def st_F (own : String) (k n : Nat) (bs : List Int32) : List Cond :=
  [.exactly (.string own k) "java/lang/String", .eq (.field (.string own k) "java/lang/String" "coder" "B") (.int 0), .arrayOf (.field (.string own k) "java/lang/String" "value" "[B") .byte, .eq (.length (.field (.string own k) "java/lang/String" "value" "[B")) (.int (Int32.ofNat n))] ++
  (List.range n).map (fun j => .eq (.elem (.field (.string own k) "java/lang/String" "value" "[B") (.int (Int32.ofNat j))) (.int (bs.getD j 0)))
abbrev st_G : Cond := Cond.and given_1 narrow_1
theorem st_r {wl : List Cond} (ps : List Nat) (hp : wl = ps.filterMap (fun i => (flatC st_G)[i]?)) {args : Array Value} {s : State} (hg : st_G.before args s = true) : ∀ w ∈ wl, w.before args s = true := by
  intro w hw
  rw [hp] at hw
  obtain ⟨i, -, hi⟩ := List.mem_filterMap.mp hw
  exact flat_of_before _ hg w (List.mem_of_getElem? hi)
theorem sw_0 {args : Array Value} {s : State} (hg : st_G.before args s = true) : ∀ w ∈ st_F "LitNextDoor$Reader" 76 (xLen.getD 0 0) (xByt.getD 0 []), w.before args s = true := st_r [132, 133, 134, 135, 136, 137, 138, 139, 140] (by decide +kernel) hg
theorem sw_1 {args : Array Value} {s : State} (hg : st_G.before args s = true) : ∀ w ∈ st_F "LitNextDoor$Reader" 85 (xLen.getD 1 0) (xByt.getD 1 []), w.before args s = true := st_r [141, 142, 143, 144, 145, 146, 147, 148] (by decide +kernel) hg
theorem sw_2 {args : Array Value} {s : State} (hg : st_G.before args s = true) : ∀ w ∈ st_F "LitNextDoor$Reader" 179 (xLen.getD 2 0) (xByt.getD 2 []), w.before args s = true := st_r [149, 150, 151, 152, 153, 154] (by decide +kernel) hg
theorem sw_3 {args : Array Value} {s : State} (hg : st_G.before args s = true) : ∀ w ∈ st_F "LitNextDoor$Reader" 203 (xLen.getD 3 0) (xByt.getD 3 []), w.before args s = true := st_r [155, 156, 157, 158, 159, 160, 161, 162] (by decide +kernel) hg
theorem sw_4 {args : Array Value} {s : State} (hg : st_G.before args s = true) : ∀ w ∈ st_F "LitNextDoor$Reader" 143 (xLen.getD 4 0) (xByt.getD 4 []), w.before args s = true := st_r [163, 164, 165, 166, 167, 168, 169, 170] (by decide +kernel) hg
theorem sw_5 {args : Array Value} {s : State} (hg : st_G.before args s = true) : ∀ w ∈ st_F "LitNextDoor$Reader" 90 (xLen.getD 5 0) (xByt.getD 5 []), w.before args s = true := st_r [171, 172, 173, 174, 175, 176, 177, 178] (by decide +kernel) hg
theorem sw_6 {args : Array Value} {s : State} (hg : st_G.before args s = true) : ∀ w ∈ st_F "LitNextDoor$Reader" 162 (xLen.getD 6 0) (xByt.getD 6 []), w.before args s = true := st_r [179, 180, 181, 182, 183, 184, 185, 186, 187, 188] (by decide +kernel) hg
theorem sw_7 {args : Array Value} {s : State} (hg : st_G.before args s = true) : ∀ w ∈ st_F "LitNextDoor$Reader" 164 (xLen.getD 7 0) (xByt.getD 7 []), w.before args s = true := st_r [189, 190, 191, 192, 193, 194, 195] (by decide +kernel) hg
theorem sw_8 {args : Array Value} {s : State} (hg : st_G.before args s = true) : ∀ w ∈ st_F "LitNextDoor$Reader" 95 (xLen.getD 8 0) (xByt.getD 8 []), w.before args s = true := st_r [196, 197, 198, 199, 200, 201, 202, 203] (by decide +kernel) hg
theorem sw_9 {args : Array Value} {s : State} (hg : st_G.before args s = true) : ∀ w ∈ st_F "LitNextDoor$Reader" 172 (xLen.getD 9 0) (xByt.getD 9 []), w.before args s = true := st_r [204, 205, 206, 207, 208, 209, 210, 211, 212] (by decide +kernel) hg
theorem sw_10 {args : Array Value} {s : State} (hg : st_G.before args s = true) : ∀ w ∈ st_F "LitNextDoor$Reader" 174 (xLen.getD 10 0) (xByt.getD 10 []), w.before args s = true := st_r [213, 214, 215, 216, 217, 218, 219, 220] (by decide +kernel) hg
theorem sw_11 {args : Array Value} {s : State} (hg : st_G.before args s = true) : ∀ w ∈ st_F "LitNextDoor$Reader" 177 (xLen.getD 11 0) (xByt.getD 11 []), w.before args s = true := st_r [221, 222, 223, 224, 225, 226, 227, 228] (by decide +kernel) hg
theorem sw_12 {args : Array Value} {s : State} (hg : st_G.before args s = true) : ∀ w ∈ st_F "LitNextDoor$Reader" 100 (xLen.getD 12 0) (xByt.getD 12 []), w.before args s = true := st_r [229, 230, 231, 232, 233, 234, 235, 236] (by decide +kernel) hg
theorem sw_13 {args : Array Value} {s : State} (hg : st_G.before args s = true) : ∀ w ∈ st_F "LitNextDoor$Reader" 187 (xLen.getD 13 0) (xByt.getD 13 []), w.before args s = true := st_r [237, 238, 239, 240, 241, 242, 243, 244, 245] (by decide +kernel) hg
theorem sw_14 {args : Array Value} {s : State} (hg : st_G.before args s = true) : ∀ w ∈ st_F "LitNextDoor$Reader" 105 (xLen.getD 14 0) (xByt.getD 14 []), w.before args s = true := st_r [246, 247, 248, 249, 250, 251, 252, 253, 254] (by decide +kernel) hg
theorem sw_15 {args : Array Value} {s : State} (hg : st_G.before args s = true) : ∀ w ∈ st_F "LitNextDoor$Reader" 192 (xLen.getD 15 0) (xByt.getD 15 []), w.before args s = true := st_r [255, 256, 257, 258, 259, 260, 261] (by decide +kernel) hg
theorem sw_16 {args : Array Value} {s : State} (hg : st_G.before args s = true) : ∀ w ∈ st_F "LitNextDoor$Reader" 110 (xLen.getD 16 0) (xByt.getD 16 []), w.before args s = true := st_r [262, 263, 264, 265, 266, 267, 268, 269, 270] (by decide +kernel) hg
theorem sw_17 {args : Array Value} {s : State} (hg : st_G.before args s = true) : ∀ w ∈ st_F "LitNextDoor$Reader" 115 (xLen.getD 17 0) (xByt.getD 17 []), w.before args s = true := st_r [271, 272, 273, 274, 275, 276, 277, 278] (by decide +kernel) hg
theorem sw_18 {args : Array Value} {s : State} (hg : st_G.before args s = true) : ∀ w ∈ st_F "LitNextDoor" 108 (xLen.getD 18 0) (xByt.getD 18 []), w.before args s = true := st_r [111, 112, 113, 114, 115, 116, 117, 118, 119, 120, 121, 122, 123, 124, 125, 126, 127, 128, 129, 130, 131] (by decide +kernel) hg
theorem sw_19 {args : Array Value} {s : State} (hg : st_G.before args s = true) : ∀ w ∈ st_F "LitNextDoor" 137 (xLen.getD 19 0) (xByt.getD 19 []), w.before args s = true := st_r [279, 280, 281, 282, 283, 284, 285, 286, 287, 288, 289, 290, 291, 292, 293, 294] (by decide +kernel) hg
theorem sw_20 {args : Array Value} {s : State} (hg : st_G.before args s = true) : ∀ w ∈ st_F "LitNextDoor" 343 (xLen.getD 20 0) (xByt.getD 20 []), w.before args s = true := st_r [295, 296, 297, 298, 299, 300, 301, 302, 303, 304, 305, 306, 307, 308, 309, 310] (by decide +kernel) hg
theorem sw_21 {args : Array Value} {s : State} (hg : st_G.before args s = true) : ∀ w ∈ st_F "LitNextDoor" 421 (xLen.getD 21 0) (xByt.getD 21 []), w.before args s = true := st_r [311, 312, 313, 314, 315, 316, 317, 318, 319, 320, 321, 322, 323, 324, 325, 326] (by decide +kernel) hg
theorem sw_22 {args : Array Value} {s : State} (hg : st_G.before args s = true) : ∀ w ∈ st_F "LitNextDoor" 419 (xLen.getD 22 0) (xByt.getD 22 []), w.before args s = true := st_r [327, 328, 329, 330, 331, 332, 333, 334, 335, 336, 337, 338, 339, 340, 341, 342] (by decide +kernel) hg
theorem sw_23 {args : Array Value} {s : State} (hg : st_G.before args s = true) : ∀ w ∈ st_F "LitNextDoor" 169 (xLen.getD 23 0) (xByt.getD 23 []), w.before args s = true := st_r [343, 344, 345, 346, 347, 348, 349, 350, 351, 352, 353, 354, 355, 356, 357, 358, 359, 360, 361] (by decide +kernel) hg
theorem sw_24 {args : Array Value} {s : State} (hg : st_G.before args s = true) : ∀ w ∈ st_F "LitNextDoor" 423 (xLen.getD 24 0) (xByt.getD 24 []), w.before args s = true := st_r [362, 363, 364, 365, 366, 367, 368, 369, 370, 371, 372, 373, 374, 375, 376, 377] (by decide +kernel) hg
theorem sw_25 {args : Array Value} {s : State} (hg : st_G.before args s = true) : ∀ w ∈ st_F "LitNextDoor" 425 (xLen.getD 25 0) (xByt.getD 25 []), w.before args s = true := st_r [378, 379, 380, 381, 382, 383, 384, 385, 386, 387, 388, 389, 390, 391, 392, 393, 394, 395, 396, 397, 398] (by decide +kernel) hg
theorem sw_26 {args : Array Value} {s : State} (hg : st_G.before args s = true) : ∀ w ∈ st_F "LitNextDoor" 251 (xLen.getD 26 0) (xByt.getD 26 []), w.before args s = true := st_r [399, 400, 401, 402, 403, 404, 405, 406, 407, 408, 409, 410, 411, 412, 413, 414, 415, 416, 417, 418, 419] (by decide +kernel) hg
theorem sw_27 {args : Array Value} {s : State} (hg : st_G.before args s = true) : ∀ w ∈ st_F "LitNextDoor" 266 (xLen.getD 27 0) (xByt.getD 27 []), w.before args s = true := st_r [420, 421, 422, 423, 424, 425, 426, 427, 428, 429, 430, 431, 432, 433, 434, 435] (by decide +kernel) hg
theorem sw_28 {args : Array Value} {s : State} (hg : st_G.before args s = true) : ∀ w ∈ st_F "LitNextDoor" 271 (xLen.getD 28 0) (xByt.getD 28 []), w.before args s = true := st_r [436, 437, 438, 439, 440, 441, 442, 443, 444, 445, 446, 447, 448, 449, 450, 451] (by decide +kernel) hg
theorem sw_29 {args : Array Value} {s : State} (hg : st_G.before args s = true) : ∀ w ∈ st_F "LitNextDoor" 285 (xLen.getD 29 0) (xByt.getD 29 []), w.before args s = true := st_r [452, 453, 454, 455, 456, 457, 458, 459, 460, 461, 462, 463, 464, 465, 466, 467, 468, 469, 470] (by decide +kernel) hg
theorem sw_30 {args : Array Value} {s : State} (hg : st_G.before args s = true) : ∀ w ∈ st_F "LitNextDoor" 287 (xLen.getD 30 0) (xByt.getD 30 []), w.before args s = true := st_r [471, 472, 473, 474, 475, 476, 477, 478, 479, 480, 481, 482, 483, 484, 485, 486, 487, 488, 489, 490, 491, 492, 493, 494, 495, 496, 497, 498, 499, 500, 501, 502, 503, 504, 505, 506, 507, 508, 509, 510, 511] (by decide +kernel) hg
theorem sw_31 {args : Array Value} {s : State} (hg : st_G.before args s = true) : ∀ w ∈ st_F "LitNextDoor" 429 (xLen.getD 31 0) (xByt.getD 31 []), w.before args s = true := st_r [512, 513, 514, 515, 516, 517, 518, 519, 520, 521, 522, 523, 524, 525, 526, 527] (by decide +kernel) hg
theorem sw_32 {args : Array Value} {s : State} (hg : st_G.before args s = true) : ∀ w ∈ st_F "LitNextDoor" 431 (xLen.getD 32 0) (xByt.getD 32 []), w.before args s = true := st_r [528, 529, 530, 531, 532, 533, 534, 535, 536, 537, 538, 539, 540, 541, 542, 543, 544, 545, 546, 547, 548, 549, 550] (by decide +kernel) hg
theorem sw_33 {args : Array Value} {s : State} (hg : st_G.before args s = true) : ∀ w ∈ st_F "LitNextDoor" 322 (xLen.getD 33 0) (xByt.getD 33 []), w.before args s = true := st_r [551, 552, 553, 554, 555, 556, 557, 558, 559, 560, 561, 562, 563, 564, 565, 566, 567, 568, 569, 570, 571, 572, 573, 574, 575, 576, 577, 578] (by decide +kernel) hg
theorem sw_34 {args : Array Value} {s : State} (hg : st_G.before args s = true) : ∀ w ∈ st_F "LitNextDoor" 325 (xLen.getD 34 0) (xByt.getD 34 []), w.before args s = true := st_r [579, 580, 581, 582, 583, 584, 585, 586, 587, 588, 589, 590, 591, 592, 593, 594, 595, 596, 597, 598, 599, 600] (by decide +kernel) hg
theorem sw_35 {args : Array Value} {s : State} (hg : st_G.before args s = true) : ∀ w ∈ st_F "LitNextDoor" 335 (xLen.getD 35 0) (xByt.getD 35 []), w.before args s = true := st_r [601, 602, 603, 604, 605, 606, 607, 608, 609, 610, 611, 612, 613, 614, 615, 616, 617, 618, 619, 620, 621, 622] (by decide +kernel) hg
theorem sw_36 {args : Array Value} {s : State} (hg : st_G.before args s = true) : ∀ w ∈ st_F "LitNextDoor" 341 (xLen.getD 36 0) (xByt.getD 36 []), w.before args s = true := st_r [623, 624, 625, 626, 627, 628, 629, 630, 631, 632, 633, 634, 635, 636, 637, 638, 639, 640, 641, 642, 643, 644] (by decide +kernel) hg
theorem sw_37 {args : Array Value} {s : State} (hg : st_G.before args s = true) : ∀ w ∈ st_F "LitNextDoor" 427 (xLen.getD 37 0) (xByt.getD 37 []), w.before args s = true := st_r [645, 646, 647, 648, 649, 650, 651, 652, 653, 654, 655, 656, 657, 658, 659, 660, 661, 662, 663, 664, 665, 666, 667] (by decide +kernel) hg
theorem sw_38 {args : Array Value} {s : State} (hg : st_G.before args s = true) : ∀ w ∈ st_F "LitNextDoor" 360 (xLen.getD 38 0) (xByt.getD 38 []), w.before args s = true := st_r [668, 669, 670, 671, 672, 673, 674, 675, 676, 677, 678, 679, 680, 681, 682, 683] (by decide +kernel) hg
theorem sw_39 {args : Array Value} {s : State} (hg : st_G.before args s = true) : ∀ w ∈ st_F "LitNextDoor" 375 (xLen.getD 39 0) (xByt.getD 39 []), w.before args s = true := st_r [684, 685, 686, 687, 688, 689, 690, 691, 692, 693, 694, 695, 696, 697, 698, 699] (by decide +kernel) hg
theorem sw_40 {args : Array Value} {s : State} (hg : st_G.before args s = true) : ∀ w ∈ st_F "LitNextDoor" 381 (xLen.getD 40 0) (xByt.getD 40 []), w.before args s = true := st_r [700, 701, 702, 703, 704, 705, 706, 707, 708, 709, 710, 711, 712, 713, 714] (by decide +kernel) hg
theorem sw_41 {args : Array Value} {s : State} (hg : st_G.before args s = true) : ∀ w ∈ st_F "LitNextDoor" 385 (xLen.getD 41 0) (xByt.getD 41 []), w.before args s = true := st_r [715, 716, 717, 718, 719, 720, 721, 722, 723, 724, 725, 726, 727, 728, 729, 730, 731] (by decide +kernel) hg
theorem sw_42 {args : Array Value} {s : State} (hg : st_G.before args s = true) : ∀ w ∈ st_F "LitNextDoor" 390 (xLen.getD 42 0) (xByt.getD 42 []), w.before args s = true := st_r [732, 733, 734, 735, 736, 737, 738, 739, 740, 741, 742, 743, 744, 745, 746, 747, 748, 749, 750, 751, 752, 753] (by decide +kernel) hg
theorem sw_43 {args : Array Value} {s : State} (hg : st_G.before args s = true) : ∀ w ∈ st_F "LitNextDoor" 392 (xLen.getD 43 0) (xByt.getD 43 []), w.before args s = true := st_r [754, 755, 756, 757, 758, 759, 760, 761, 762, 763, 764, 765, 766, 767, 768, 769, 770, 771, 772, 773, 774, 775, 776, 777, 778] (by decide +kernel) hg
theorem sw_44 {args : Array Value} {s : State} (hg : st_G.before args s = true) : ∀ w ∈ st_F "LitNextDoor" 399 (xLen.getD 44 0) (xByt.getD 44 []), w.before args s = true := st_r [779, 780, 781, 782, 783, 784, 785, 786, 787, 788, 789, 790, 791, 792, 793, 794] (by decide +kernel) hg
theorem sw_45 {args : Array Value} {s : State} (hg : st_G.before args s = true) : ∀ w ∈ st_F "LitNextDoor" 433 (xLen.getD 45 0) (xByt.getD 45 []), w.before args s = true := st_r [795, 796, 797, 798, 799, 800, 801, 802, 803, 804, 805, 806, 807, 808, 809, 810, 811] (by decide +kernel) hg
theorem sw_46 {args : Array Value} {s : State} (hg : st_G.before args s = true) : ∀ w ∈ st_F "LitNextDoor" 410 (xLen.getD 46 0) (xByt.getD 46 []), w.before args s = true := st_r [812, 813, 814, 815, 816, 817, 818, 819, 820, 821, 822, 823, 824, 825, 826, 827, 828, 829, 830, 831, 832] (by decide +kernel) hg
theorem st_one {args : Array Value} {s : State} {A : Nat → Prop} (hA : ∀ a : Nat, a < s.heap.size → ¬ A a) {own : String} {k n : Nat} {bs : List Int32} (hn : n < 2 ^ 31) (h : ∀ w ∈ st_F own k n bs, w.before args s = true) :
    ∃ q : Nat × Nat, vk_S 1 [n] [bs] (fun _ => q.1) (fun _ => q.2) A s s.heap ∧ (Term.string own k).eval args s none [] s = some (.ref q.1) := by
  have hm : ∀ w ∈ [Cond.exactly (.string own k) "java/lang/String", .eq (.field (.string own k) "java/lang/String" "coder" "B") (.int 0), .arrayOf (.field (.string own k) "java/lang/String" "value" "[B") .byte, .eq (.length (.field (.string own k) "java/lang/String" "value" "[B")) (.int (Int32.ofNat n))], w.before args s = true := fun w hw => h w (List.mem_append_left _ hw)
  have hz : ∀ i : Nat, i < 1 → i = 0 := fun i hi => by omega
  obtain ⟨adK, adV, h1, h2⟩ := vk_Sof (args := args) (s := s) (N := 1) (tm := fun _ => .string own k) (len := [n]) (byt := [bs]) (A := A) (fun i hi => by rw [hz i hi]; exact hn) (fun i hi => hm _ (by simp)) (fun i hi => hm _ (by simp)) (fun i hi => hm _ (by simp)) (fun i hi => by rw [hz i hi]; exact hm _ (by simp))
    (fun i hi j hj => by
      rw [hz i hi] at hj ⊢
      exact h _ (List.mem_append_right _ (List.mem_map.mpr ⟨j, List.mem_range.mpr hj, rfl⟩)))
    (fun i j hi hj hij => absurd ((hz i hi).trans (hz j hj).symm) hij) hA
  refine ⟨(adK 0, adV 0), ⟨fun i hi => ?_, fun i j hi hj _ => (hz i hi).trans (hz j hj).symm⟩, h2 0 (by decide)⟩
  rw [hz i hi]
  exact h1.1 0 (by decide)
def st_M : Nat → String × Nat
  | 0 => ("LitNextDoor$Reader", 76)
  | 1 => ("LitNextDoor$Reader", 85)
  | 2 => ("LitNextDoor$Reader", 179)
  | 3 => ("LitNextDoor$Reader", 203)
  | 4 => ("LitNextDoor$Reader", 143)
  | 5 => ("LitNextDoor$Reader", 90)
  | 6 => ("LitNextDoor$Reader", 162)
  | 7 => ("LitNextDoor$Reader", 164)
  | 8 => ("LitNextDoor$Reader", 95)
  | 9 => ("LitNextDoor$Reader", 172)
  | 10 => ("LitNextDoor$Reader", 174)
  | 11 => ("LitNextDoor$Reader", 177)
  | 12 => ("LitNextDoor$Reader", 100)
  | 13 => ("LitNextDoor$Reader", 187)
  | 14 => ("LitNextDoor$Reader", 105)
  | 15 => ("LitNextDoor$Reader", 192)
  | 16 => ("LitNextDoor$Reader", 110)
  | 17 => ("LitNextDoor$Reader", 115)
  | 18 => ("LitNextDoor", 108)
  | 19 => ("LitNextDoor", 137)
  | 20 => ("LitNextDoor", 343)
  | 21 => ("LitNextDoor", 421)
  | 22 => ("LitNextDoor", 419)
  | 23 => ("LitNextDoor", 169)
  | 24 => ("LitNextDoor", 423)
  | 25 => ("LitNextDoor", 425)
  | 26 => ("LitNextDoor", 251)
  | 27 => ("LitNextDoor", 266)
  | 28 => ("LitNextDoor", 271)
  | 29 => ("LitNextDoor", 285)
  | 30 => ("LitNextDoor", 287)
  | 31 => ("LitNextDoor", 429)
  | 32 => ("LitNextDoor", 431)
  | 33 => ("LitNextDoor", 322)
  | 34 => ("LitNextDoor", 325)
  | 35 => ("LitNextDoor", 335)
  | 36 => ("LitNextDoor", 341)
  | 37 => ("LitNextDoor", 427)
  | 38 => ("LitNextDoor", 360)
  | 39 => ("LitNextDoor", 375)
  | 40 => ("LitNextDoor", 381)
  | 41 => ("LitNextDoor", 385)
  | 42 => ("LitNextDoor", 390)
  | 43 => ("LitNextDoor", 392)
  | 44 => ("LitNextDoor", 399)
  | 45 => ("LitNextDoor", 433)
  | 46 => ("LitNextDoor", 410)
  | _ => ("", 0)
theorem st_all {args : Array Value} {s : State} {A : Nat → Prop} (hg : st_G.before args s = true) (hA : ∀ a : Nat, a < s.heap.size → ¬ A a) : ∀ i : Nat, i < 47 → ∃ q : Nat × Nat, vk_S 1 [xLen.getD i 0] [xByt.getD i []] (fun _ => q.1) (fun _ => q.2) A s s.heap ∧ (Term.string (st_M i).1 (st_M i).2).eval args s none [] s = some (.ref q.1) := by
  intro i hi
  match i, hi with
  | 0, _ => exact st_one hA (by decide +kernel) (sw_0 hg)
  | 1, _ => exact st_one hA (by decide +kernel) (sw_1 hg)
  | 2, _ => exact st_one hA (by decide +kernel) (sw_2 hg)
  | 3, _ => exact st_one hA (by decide +kernel) (sw_3 hg)
  | 4, _ => exact st_one hA (by decide +kernel) (sw_4 hg)
  | 5, _ => exact st_one hA (by decide +kernel) (sw_5 hg)
  | 6, _ => exact st_one hA (by decide +kernel) (sw_6 hg)
  | 7, _ => exact st_one hA (by decide +kernel) (sw_7 hg)
  | 8, _ => exact st_one hA (by decide +kernel) (sw_8 hg)
  | 9, _ => exact st_one hA (by decide +kernel) (sw_9 hg)
  | 10, _ => exact st_one hA (by decide +kernel) (sw_10 hg)
  | 11, _ => exact st_one hA (by decide +kernel) (sw_11 hg)
  | 12, _ => exact st_one hA (by decide +kernel) (sw_12 hg)
  | 13, _ => exact st_one hA (by decide +kernel) (sw_13 hg)
  | 14, _ => exact st_one hA (by decide +kernel) (sw_14 hg)
  | 15, _ => exact st_one hA (by decide +kernel) (sw_15 hg)
  | 16, _ => exact st_one hA (by decide +kernel) (sw_16 hg)
  | 17, _ => exact st_one hA (by decide +kernel) (sw_17 hg)
  | 18, _ => exact st_one hA (by decide +kernel) (sw_18 hg)
  | 19, _ => exact st_one hA (by decide +kernel) (sw_19 hg)
  | 20, _ => exact st_one hA (by decide +kernel) (sw_20 hg)
  | 21, _ => exact st_one hA (by decide +kernel) (sw_21 hg)
  | 22, _ => exact st_one hA (by decide +kernel) (sw_22 hg)
  | 23, _ => exact st_one hA (by decide +kernel) (sw_23 hg)
  | 24, _ => exact st_one hA (by decide +kernel) (sw_24 hg)
  | 25, _ => exact st_one hA (by decide +kernel) (sw_25 hg)
  | 26, _ => exact st_one hA (by decide +kernel) (sw_26 hg)
  | 27, _ => exact st_one hA (by decide +kernel) (sw_27 hg)
  | 28, _ => exact st_one hA (by decide +kernel) (sw_28 hg)
  | 29, _ => exact st_one hA (by decide +kernel) (sw_29 hg)
  | 30, _ => exact st_one hA (by decide +kernel) (sw_30 hg)
  | 31, _ => exact st_one hA (by decide +kernel) (sw_31 hg)
  | 32, _ => exact st_one hA (by decide +kernel) (sw_32 hg)
  | 33, _ => exact st_one hA (by decide +kernel) (sw_33 hg)
  | 34, _ => exact st_one hA (by decide +kernel) (sw_34 hg)
  | 35, _ => exact st_one hA (by decide +kernel) (sw_35 hg)
  | 36, _ => exact st_one hA (by decide +kernel) (sw_36 hg)
  | 37, _ => exact st_one hA (by decide +kernel) (sw_37 hg)
  | 38, _ => exact st_one hA (by decide +kernel) (sw_38 hg)
  | 39, _ => exact st_one hA (by decide +kernel) (sw_39 hg)
  | 40, _ => exact st_one hA (by decide +kernel) (sw_40 hg)
  | 41, _ => exact st_one hA (by decide +kernel) (sw_41 hg)
  | 42, _ => exact st_one hA (by decide +kernel) (sw_42 hg)
  | 43, _ => exact st_one hA (by decide +kernel) (sw_43 hg)
  | 44, _ => exact st_one hA (by decide +kernel) (sw_44 hg)
  | 45, _ => exact st_one hA (by decide +kernel) (sw_45 hg)
  | 46, _ => exact st_one hA (by decide +kernel) (sw_46 hg)
  | i + 47, h => omega
def st_E : List (String × Nat × Nat) := [("LitNextDoorModel", 182, 0), ("LitNextDoorModel", 194, 1), ("LitNextDoorModel", 152, 2), ("LitNextDoorModel", 154, 3), ("LitNextDoorModel", 165, 4), ("LitNextDoorModel", 187, 5), ("LitNextDoorModel", 169, 6), ("LitNextDoorModel", 171, 7), ("LitNextDoorModel", 199, 8), ("LitNextDoorModel", 173, 9), ("LitNextDoorModel", 175, 10), ("LitNextDoorModel", 178, 11), ("LitNextDoorModel", 204, 12), ("LitNextDoorModel", 167, 13), ("LitNextDoorModel", 209, 14), ("LitNextDoorModel", 180, 15), ("LitNextDoorModel", 214, 16), ("LitNextDoorModel", 192, 17)]
def st_EC : List Cond := [.eq (.string "LitNextDoor$Reader" 76) (.string "LitNextDoorModel" 182), .eq (.string "LitNextDoor$Reader" 85) (.string "LitNextDoorModel" 194), .eq (.string "LitNextDoor$Reader" 179) (.string "LitNextDoorModel" 152), .eq (.string "LitNextDoor$Reader" 203) (.string "LitNextDoorModel" 154), .eq (.string "LitNextDoor$Reader" 143) (.string "LitNextDoorModel" 165), .eq (.string "LitNextDoor$Reader" 90) (.string "LitNextDoorModel" 187), .eq (.string "LitNextDoor$Reader" 162) (.string "LitNextDoorModel" 169), .eq (.string "LitNextDoor$Reader" 164) (.string "LitNextDoorModel" 171), .eq (.string "LitNextDoor$Reader" 95) (.string "LitNextDoorModel" 199), .eq (.string "LitNextDoor$Reader" 172) (.string "LitNextDoorModel" 173), .eq (.string "LitNextDoor$Reader" 174) (.string "LitNextDoorModel" 175), .eq (.string "LitNextDoor$Reader" 177) (.string "LitNextDoorModel" 178), .eq (.string "LitNextDoor$Reader" 100) (.string "LitNextDoorModel" 204), .eq (.string "LitNextDoor$Reader" 187) (.string "LitNextDoorModel" 167), .eq (.string "LitNextDoor$Reader" 105) (.string "LitNextDoorModel" 209), .eq (.string "LitNextDoor$Reader" 192) (.string "LitNextDoorModel" 180), .eq (.string "LitNextDoor$Reader" 110) (.string "LitNextDoorModel" 214), .eq (.string "LitNextDoor$Reader" 115) (.string "LitNextDoorModel" 192)]
theorem st_eqs {args : Array Value} {s : State} (hg : st_G.before args s = true) : ∀ w ∈ st_EC, w.before args s = true := st_r [842, 888, 895, 904, 913, 851, 862, 870, 922, 932, 941, 950, 959, 969, 979, 987, 997, 879] (by decide +kernel) hg
def st_NC : List Cond := [.not (.castable "java/lang/IllegalArgumentException" "java/util/NoSuchElementException"), .not (.castable "java/lang/IllegalArgumentException" "java/lang/IllegalStateException"), .not (.castable "java/lang/IllegalArgumentException" "java/lang/IndexOutOfBoundsException"), .not (.castable "java/util/NoSuchElementException" "java/lang/IllegalArgumentException"), .not (.castable "java/util/NoSuchElementException" "java/lang/IllegalStateException"), .not (.castable "java/util/NoSuchElementException" "java/lang/IndexOutOfBoundsException"), .not (.castable "java/lang/IllegalStateException" "java/lang/IllegalArgumentException"), .not (.castable "java/lang/IllegalStateException" "java/util/NoSuchElementException"), .not (.castable "java/lang/IllegalStateException" "java/lang/IndexOutOfBoundsException"), .not (.castable "java/lang/IndexOutOfBoundsException" "java/lang/IllegalArgumentException"), .not (.castable "java/lang/IndexOutOfBoundsException" "java/util/NoSuchElementException"), .not (.castable "java/lang/IndexOutOfBoundsException" "java/lang/IllegalStateException")]
theorem st_ncs {args : Array Value} {s : State} (hg : st_G.before args s = true) : ∀ w ∈ st_NC, w.before args s = true := st_r [38, 54, 70, 23, 56, 72, 24, 40, 73, 25, 41, 57] (by decide +kernel) hg
def st_SS : List Cond := [.isRef (.static "java/lang/Throwable" "UNASSIGNED_STACK" "[Ljava/lang/StackTraceElement;"), .isRef (.static "java/lang/Throwable" "SUPPRESSED_SENTINEL" "Ljava/util/List;"), .isRef (.static "jdk/internal/util/Preconditions" "SIOOBE_FORMATTER" "Ljava/util/function/BiFunction;"), .eq (.static "java/lang/String" "COMPACT_STRINGS" "Z") (.int 1)]
theorem st_sts {args : Array Value} {s : State} (hg : st_G.before args s = true) : ∀ w ∈ st_SS, w.before args s = true := st_r [4, 5, 7, 6] (by decide +kernel) hg
theorem tl_r {wl big : List Cond} (hb : ∀ w ∈ big, w ∈ lw_tbl) (ps : List Nat) (hp : wl = ps.filterMap (fun i => big[i]?)) : ∀ w ∈ wl, w ∈ lw_tbl := by
  intro w hw
  refine hb w ?_
  rw [hp] at hw
  obtain ⟨i, -, hi⟩ := List.mem_filterMap.mp hw
  exact List.mem_of_getElem? hi
def tl_1L : List Cond := [Cond.methodLinkNest "LitNextDoor" 65 ⟨"LitNextDoor$Cover", "<init>", "()V"⟩ "LitNextDoor", Cond.methodLinkNest "LitNextDoor" 72 ⟨"LitNextDoor$Kindled", "<init>", "()V"⟩ "LitNextDoor", Cond.methodLinkNest "LitNextDoor$Kindled" 11 ⟨"LitNextDoor$Balance", "<init>", "()V"⟩ "LitNextDoor", Cond.arrayOver (.object "LitNextDoor$House"), Cond.arrayOver (.object "LitNextDoor$Lamps"), Cond.initialized "java/lang/Throwable", Cond.initialized "jdk/internal/util/Preconditions", Cond.initialized "java/lang/String"]
theorem tl_1 : ∀ w ∈ tl_1L, w ∈ lw_tbl := tl_r tin_1 [183, 208, 214, 160, 161, 13, 21, 19] rfl
def tl_2L : List Cond := [Cond.methodLinkNest "LitNextDoor" 79 ⟨"LitNextDoor$Mixture", "<init>", "()V"⟩ "LitNextDoor", Cond.methodLinkNest "LitNextDoor$Mixture" 31 ⟨"LitNextDoor$Balance", "<init>", "()V"⟩ "LitNextDoor", Cond.methodLinkNest "LitNextDoor" 86 ⟨"LitNextDoor$Carrier", "<init>", "()V"⟩ "LitNextDoor", Cond.methodLinkNest "LitNextDoor" 93 ⟨"LitNextDoor$Tenants", "<init>", "()V"⟩ "LitNextDoor"]
theorem tl_2 : ∀ w ∈ tl_2L, w ∈ lw_tbl := tl_r tin_2 [21, 26, 63, 101] rfl
def tl_3L : List Cond := [Cond.stringRef "LitNextDoor$Reader" 76 "rooms", Cond.stringRef "LitNextDoor" 108 "not so many bytes", Cond.castable "[I" "java/lang/Cloneable", Cond.castable "java/lang/IllegalArgumentException" "java/lang/IllegalArgumentException", Cond.declares ⟨"java/lang/RuntimeException", "<init>", "()V"⟩, Cond.declares ⟨"java/lang/RuntimeException", "<init>", "(Ljava/lang/String;)V"⟩, Cond.declares ⟨"java/lang/Exception", "<init>", "()V"⟩, Cond.declares ⟨"java/lang/Exception", "<init>", "(Ljava/lang/String;)V"⟩, Cond.declares ⟨"java/lang/Throwable", "<init>", "()V"⟩, Cond.declares ⟨"java/lang/Throwable", "<init>", "(Ljava/lang/String;)V"⟩, Cond.laysStatic "java/lang/Throwable" "UNASSIGNED_STACK" "[Ljava/lang/StackTraceElement;", Cond.laysStatic "java/lang/Throwable" "SUPPRESSED_SENTINEL" "Ljava/util/List;", Cond.laysStatic "java/lang/String" "COMPACT_STRINGS" "Z"]
theorem tl_3 : ∀ w ∈ tl_3L, w ∈ lw_tbl := tl_r tin_3 [217, 132, 60, 92, 93, 94, 95, 96, 97, 98, 117, 119, 231] rfl
def tl_4L : List Cond := [Cond.stringRef "LitNextDoor$Reader" 85 "pane", Cond.stringRef "LitNextDoor$Reader" 179 "to", Cond.stringRef "LitNextDoor$Reader" 203 "lets", Cond.stringRef "LitNextDoor$Reader" 143 "both", Cond.stringRef "LitNextDoor$Reader" 90 "lamp", Cond.stringRef "LitNextDoor$Reader" 162 "bright", Cond.stringRef "LitNextDoor$Reader" 164 "oil", Cond.stringRef "LitNextDoor$Reader" 95 "want", Cond.stringRef "LitNextDoor$Reader" 172 "least", Cond.stringRef "LitNextDoor$Reader" 174 "most", Cond.stringRef "LitNextDoor$Reader" 177 "from", Cond.stringRef "LitNextDoor$Reader" 100 "hole", Cond.stringRef "LitNextDoor$Reader" 187 "costs", Cond.stringRef "LitNextDoor$Reader" 105 "burns", Cond.stringRef "LitNextDoor$Reader" 192 "for", Cond.stringRef "LitNextDoor$Reader" 110 "hates", Cond.stringRef "LitNextDoor$Reader" 115 "dear", Cond.stringRef "LitNextDoor" 137 "no such pane", Cond.stringRef "LitNextDoor" 343 "no such what", Cond.stringRef "LitNextDoor" 421 "no such kind", Cond.stringRef "LitNextDoor" 419 "no such room", Cond.stringRef "LitNextDoor" 169 "hours beyond 23", Cond.stringRef "LitNextDoor" 423 "no such hour", Cond.castable "java/util/NoSuchElementException" "java/util/NoSuchElementException", Cond.laysStatic "jdk/internal/util/Preconditions" "SIOOBE_FORMATTER" "Ljava/util/function/BiFunction;"]
theorem tl_4 : ∀ w ∈ tl_4L, w ∈ lw_tbl := tl_r tin_4 [50, 63, 68, 69, 81, 86, 87, 88, 93, 94, 96, 97, 102, 103, 108, 109, 114, 156, 166, 178, 190, 209, 231, 149, 7] rfl
def tl_5L : List Cond := [Cond.stringRef "LitNextDoor" 425 "a set with others", Cond.stringRef "LitNextDoor" 251 "more than 8 rooms", Cond.stringRef "LitNextDoor" 266 "no such grid", Cond.stringRef "LitNextDoor" 271 "no such hole", Cond.stringRef "LitNextDoor" 285 "one lamp or two", Cond.stringRef "LitNextDoor" 287 "the second hour is ahead of the first"]
theorem tl_5 : ∀ w ∈ tl_5L, w ∈ lw_tbl := tl_r tin_5 [42, 146, 196, 204, 219, 220] rfl
def tl_6L : List Cond := [Cond.stringRef "LitNextDoor" 429 "no such tray", Cond.stringRef "LitNextDoor" 431 "the tray is missing", Cond.stringRef "LitNextDoor" 322 "fewer numbers than rooms", Cond.stringRef "LitNextDoor" 325 "more than 10 rooms", Cond.stringRef "LitNextDoor" 335 "too large a number", Cond.stringRef "LitNextDoor" 341 "more than 12 rooms", Cond.stringRef "LitNextDoor" 427 "no such row or ring", Cond.stringRef "LitNextDoor" 360 "no such rule", Cond.stringRef "LitNextDoor" 375 "no such fail", Cond.methodLinkNest "LitNextDoor$Tenants" 71 ⟨"LitNextDoor", "factorial", "(I)J"⟩ "LitNextDoor", Cond.castable "java/lang/IllegalStateException" "java/lang/IllegalStateException", Cond.castable "java/lang/IndexOutOfBoundsException" "java/lang/IndexOutOfBoundsException"]
theorem tl_6 : ∀ w ∈ tl_6L, w ∈ lw_tbl := tl_r tin_6 [78, 88, 104, 111, 118, 131, 210, 211, 239, 55, 81, 97] rfl
def tl_7L : List Cond := [Cond.stringRef "LitNextDoorModel" 182 "rooms", Cond.stringRef "LitNextDoorModel" 187 "lamp", Cond.stringRef "LitNextDoorModel" 169 "bright", Cond.stringRef "LitNextDoor" 381 "no such row", Cond.stringRef "LitNextDoor" 385 "no such place", Cond.stringRef "LitNextDoor" 390 "it ends within two", Cond.stringRef "LitNextDoor" 392 "more lamps than rooms", Cond.stringRef "LitNextDoor" 399 "no such lamp", Cond.stringRef "LitNextDoor" 433 "no such image", Cond.stringRef "LitNextDoor" 410 "no image was made"]
theorem tl_7 : ∀ w ∈ tl_7L, w ∈ lw_tbl := tl_r tin_7 [207, 230, 239, 8, 20, 35, 36, 37, 48, 61] rfl
def tl_8L : List Cond := [Cond.stringRef "LitNextDoorModel" 194 "pane", Cond.stringRef "LitNextDoorModel" 152 "to", Cond.stringRef "LitNextDoorModel" 154 "lets", Cond.stringRef "LitNextDoorModel" 165 "both", Cond.stringRef "LitNextDoorModel" 171 "oil", Cond.stringRef "LitNextDoorModel" 199 "want", Cond.stringRef "LitNextDoorModel" 173 "least", Cond.stringRef "LitNextDoorModel" 175 "most", Cond.stringRef "LitNextDoorModel" 178 "from", Cond.stringRef "LitNextDoorModel" 204 "hole", Cond.stringRef "LitNextDoorModel" 167 "costs", Cond.stringRef "LitNextDoorModel" 209 "burns", Cond.stringRef "LitNextDoorModel" 180 "for", Cond.stringRef "LitNextDoorModel" 214 "hates", Cond.stringRef "LitNextDoorModel" 192 "dear"]
theorem tl_8 : ∀ w ∈ tl_8L, w ∈ lw_tbl := tl_r tin_8 [10, 23, 24, 25, 8, 26, 31, 32, 34, 35, 40, 41, 46, 47, 9] rfl
theorem st_strs : ∀ q ∈ xStrs, Cond.stringRef q.1 q.2.1 (xTx.getD q.2.2 "") ∈ lw_tbl := by
  intro q hq
  obtain ⟨k, hk⟩ := List.getElem?_of_mem hq
  match k, hk with
  | 0, hk => cases hk; exact (tl_3 _ (List.mem_of_getElem? (i := 0) rfl))
  | 1, hk => cases hk; exact (tl_7 _ (List.mem_of_getElem? (i := 0) rfl))
  | 2, hk => cases hk; exact (tl_4 _ (List.mem_of_getElem? (i := 0) rfl))
  | 3, hk => cases hk; exact (tl_8 _ (List.mem_of_getElem? (i := 0) rfl))
  | 4, hk => cases hk; exact (tl_4 _ (List.mem_of_getElem? (i := 1) rfl))
  | 5, hk => cases hk; exact (tl_8 _ (List.mem_of_getElem? (i := 1) rfl))
  | 6, hk => cases hk; exact (tl_4 _ (List.mem_of_getElem? (i := 2) rfl))
  | 7, hk => cases hk; exact (tl_8 _ (List.mem_of_getElem? (i := 2) rfl))
  | 8, hk => cases hk; exact (tl_4 _ (List.mem_of_getElem? (i := 3) rfl))
  | 9, hk => cases hk; exact (tl_8 _ (List.mem_of_getElem? (i := 3) rfl))
  | 10, hk => cases hk; exact (tl_4 _ (List.mem_of_getElem? (i := 4) rfl))
  | 11, hk => cases hk; exact (tl_7 _ (List.mem_of_getElem? (i := 1) rfl))
  | 12, hk => cases hk; exact (tl_4 _ (List.mem_of_getElem? (i := 5) rfl))
  | 13, hk => cases hk; exact (tl_7 _ (List.mem_of_getElem? (i := 2) rfl))
  | 14, hk => cases hk; exact (tl_4 _ (List.mem_of_getElem? (i := 6) rfl))
  | 15, hk => cases hk; exact (tl_8 _ (List.mem_of_getElem? (i := 4) rfl))
  | 16, hk => cases hk; exact (tl_4 _ (List.mem_of_getElem? (i := 7) rfl))
  | 17, hk => cases hk; exact (tl_8 _ (List.mem_of_getElem? (i := 5) rfl))
  | 18, hk => cases hk; exact (tl_4 _ (List.mem_of_getElem? (i := 8) rfl))
  | 19, hk => cases hk; exact (tl_8 _ (List.mem_of_getElem? (i := 6) rfl))
  | 20, hk => cases hk; exact (tl_4 _ (List.mem_of_getElem? (i := 9) rfl))
  | 21, hk => cases hk; exact (tl_8 _ (List.mem_of_getElem? (i := 7) rfl))
  | 22, hk => cases hk; exact (tl_4 _ (List.mem_of_getElem? (i := 10) rfl))
  | 23, hk => cases hk; exact (tl_8 _ (List.mem_of_getElem? (i := 8) rfl))
  | 24, hk => cases hk; exact (tl_4 _ (List.mem_of_getElem? (i := 11) rfl))
  | 25, hk => cases hk; exact (tl_8 _ (List.mem_of_getElem? (i := 9) rfl))
  | 26, hk => cases hk; exact (tl_4 _ (List.mem_of_getElem? (i := 12) rfl))
  | 27, hk => cases hk; exact (tl_8 _ (List.mem_of_getElem? (i := 10) rfl))
  | 28, hk => cases hk; exact (tl_4 _ (List.mem_of_getElem? (i := 13) rfl))
  | 29, hk => cases hk; exact (tl_8 _ (List.mem_of_getElem? (i := 11) rfl))
  | 30, hk => cases hk; exact (tl_4 _ (List.mem_of_getElem? (i := 14) rfl))
  | 31, hk => cases hk; exact (tl_8 _ (List.mem_of_getElem? (i := 12) rfl))
  | 32, hk => cases hk; exact (tl_4 _ (List.mem_of_getElem? (i := 15) rfl))
  | 33, hk => cases hk; exact (tl_8 _ (List.mem_of_getElem? (i := 13) rfl))
  | 34, hk => cases hk; exact (tl_4 _ (List.mem_of_getElem? (i := 16) rfl))
  | 35, hk => cases hk; exact (tl_8 _ (List.mem_of_getElem? (i := 14) rfl))
  | 36, hk => cases hk; exact (tl_3 _ (List.mem_of_getElem? (i := 1) rfl))
  | 37, hk => cases hk; exact (tl_4 _ (List.mem_of_getElem? (i := 17) rfl))
  | 38, hk => cases hk; exact (tl_4 _ (List.mem_of_getElem? (i := 18) rfl))
  | 39, hk => cases hk; exact (tl_4 _ (List.mem_of_getElem? (i := 19) rfl))
  | 40, hk => cases hk; exact (tl_4 _ (List.mem_of_getElem? (i := 20) rfl))
  | 41, hk => cases hk; exact (tl_4 _ (List.mem_of_getElem? (i := 21) rfl))
  | 42, hk => cases hk; exact (tl_4 _ (List.mem_of_getElem? (i := 22) rfl))
  | 43, hk => cases hk; exact (tl_5 _ (List.mem_of_getElem? (i := 0) rfl))
  | 44, hk => cases hk; exact (tl_5 _ (List.mem_of_getElem? (i := 1) rfl))
  | 45, hk => cases hk; exact (tl_5 _ (List.mem_of_getElem? (i := 2) rfl))
  | 46, hk => cases hk; exact (tl_5 _ (List.mem_of_getElem? (i := 3) rfl))
  | 47, hk => cases hk; exact (tl_5 _ (List.mem_of_getElem? (i := 4) rfl))
  | 48, hk => cases hk; exact (tl_5 _ (List.mem_of_getElem? (i := 5) rfl))
  | 49, hk => cases hk; exact (tl_6 _ (List.mem_of_getElem? (i := 0) rfl))
  | 50, hk => cases hk; exact (tl_6 _ (List.mem_of_getElem? (i := 1) rfl))
  | 51, hk => cases hk; exact (tl_6 _ (List.mem_of_getElem? (i := 2) rfl))
  | 52, hk => cases hk; exact (tl_6 _ (List.mem_of_getElem? (i := 3) rfl))
  | 53, hk => cases hk; exact (tl_6 _ (List.mem_of_getElem? (i := 4) rfl))
  | 54, hk => cases hk; exact (tl_6 _ (List.mem_of_getElem? (i := 5) rfl))
  | 55, hk => cases hk; exact (tl_6 _ (List.mem_of_getElem? (i := 6) rfl))
  | 56, hk => cases hk; exact (tl_6 _ (List.mem_of_getElem? (i := 7) rfl))
  | 57, hk => cases hk; exact (tl_6 _ (List.mem_of_getElem? (i := 8) rfl))
  | 58, hk => cases hk; exact (tl_7 _ (List.mem_of_getElem? (i := 3) rfl))
  | 59, hk => cases hk; exact (tl_7 _ (List.mem_of_getElem? (i := 4) rfl))
  | 60, hk => cases hk; exact (tl_7 _ (List.mem_of_getElem? (i := 5) rfl))
  | 61, hk => cases hk; exact (tl_7 _ (List.mem_of_getElem? (i := 6) rfl))
  | 62, hk => cases hk; exact (tl_7 _ (List.mem_of_getElem? (i := 7) rfl))
  | 63, hk => cases hk; exact (tl_7 _ (List.mem_of_getElem? (i := 8) rfl))
  | 64, hk => cases hk; exact (tl_7 _ (List.mem_of_getElem? (i := 9) rfl))
  | k + 65, hk => cases hk
theorem st_nw : ∀ w ∈ xNw, w ∈ lw_tbl := by
  intro w hw
  obtain ⟨k, hk⟩ := List.getElem?_of_mem hw
  match k, hk with
  | 0, hk => cases hk; exact (tl_1 _ (List.mem_of_getElem? (i := 0) rfl))
  | 1, hk => cases hk; exact (tl_1 _ (List.mem_of_getElem? (i := 1) rfl))
  | 2, hk => cases hk; exact (tl_1 _ (List.mem_of_getElem? (i := 2) rfl))
  | 3, hk => cases hk; exact (tl_2 _ (List.mem_of_getElem? (i := 0) rfl))
  | 4, hk => cases hk; exact (tl_2 _ (List.mem_of_getElem? (i := 1) rfl))
  | 5, hk => cases hk; exact (tl_2 _ (List.mem_of_getElem? (i := 2) rfl))
  | 6, hk => cases hk; exact (tl_2 _ (List.mem_of_getElem? (i := 3) rfl))
  | 7, hk => cases hk; exact (tl_6 _ (List.mem_of_getElem? (i := 9) rfl))
  | 8, hk => cases hk; exact (tl_3 _ (List.mem_of_getElem? (i := 2) rfl))
  | 9, hk => cases hk; exact (tl_3 _ (List.mem_of_getElem? (i := 3) rfl))
  | 10, hk => cases hk; exact (tl_4 _ (List.mem_of_getElem? (i := 23) rfl))
  | 11, hk => cases hk; exact (tl_6 _ (List.mem_of_getElem? (i := 10) rfl))
  | 12, hk => cases hk; exact (tl_6 _ (List.mem_of_getElem? (i := 11) rfl))
  | 13, hk => cases hk; exact (tl_3 _ (List.mem_of_getElem? (i := 4) rfl))
  | 14, hk => cases hk; exact (tl_3 _ (List.mem_of_getElem? (i := 5) rfl))
  | 15, hk => cases hk; exact (tl_3 _ (List.mem_of_getElem? (i := 6) rfl))
  | 16, hk => cases hk; exact (tl_3 _ (List.mem_of_getElem? (i := 7) rfl))
  | 17, hk => cases hk; exact (tl_3 _ (List.mem_of_getElem? (i := 8) rfl))
  | 18, hk => cases hk; exact (tl_3 _ (List.mem_of_getElem? (i := 9) rfl))
  | k + 19, hk => cases hk
theorem st_nc_mem : ∀ a ∈ xExc, ∀ b ∈ xExc, a ≠ b → Cond.not (.castable a b) ∈ st_NC := by decide +kernel
theorem st_eqr {args : Array Value} {s : State} {a b : Term} {y : Nat} (h : (Cond.eq a b).before args s = true) (ha : a.eval args s none [] s = some (.ref y)) : b.eval args s none [] s = some (.ref y) := by
  simp only [Cond.before, Cond.holds, Cond.value, ha] at h
  cases hb : b.eval args s none [] s with
  | none => simp [hb] at h
  | some z =>
    rw [hb] at h
    cases z <;> simp at h
    rw [h]
def st_ad (b sio : Nat) (f : Nat → Nat × Nat) (k : Nat) : Nat := if k = xSC then b else if k = 1000004000 then sio else if (k - xS0) % 2 = 0 then (f ((k - xS0) / 2)).1 else (f ((k - xS0) / 2)).2
theorem st_ad0 (b sio : Nat) (f : Nat → Nat × Nat) {i : Nat} (hi : i < 47) : st_ad b sio f (xS0 + 2 * i) = (f i).1 := by
  unfold st_ad
  rw [if_neg (by unfold xSC xS0; omega), if_neg (by unfold xS0; omega), if_pos (by omega)]
  congr 2
  omega
theorem st_ad1 (b sio : Nat) (f : Nat → Nat × Nat) {i : Nat} (hi : i < 47) : st_ad b sio f (xS0 + 2 * i + 1) = (f i).2 := by
  unfold st_ad
  rw [if_neg (by unfold xSC xS0; omega), if_neg (by unfold xS0; omega), if_neg (by omega)]
  congr 2
  omega
theorem st_OW {b : Nat} {s : State} {A : Nat → Prop} (hts : ∀ w ∈ lw_tbl, w.before #[Value.ref b] s = true) (hg : st_G.before #[Value.ref b] s = true) (hA : ∀ a : Nat, a < s.heap.size → ¬ A a) : ∃ ad : Nat → Nat, ad xSC = b ∧ xOW ad A s s.heap := by
  have h0 : ∀ i : Nat, ∃ q : Nat × Nat, i < 47 → vk_S 1 [xLen.getD i 0] [xByt.getD i []] (fun _ => q.1) (fun _ => q.2) A s s.heap ∧ (Term.string (st_M i).1 (st_M i).2).eval #[Value.ref b] s none [] s = some (.ref q.1) := by
    intro i
    by_cases hi : i < 47
    · obtain ⟨q, h1⟩ := st_all (args := #[Value.ref b]) hg hA i hi
      exact ⟨q, fun _ => h1⟩
    · exact ⟨(0, 0), fun h => absurd h hi⟩
  obtain ⟨f, hf⟩ : ∃ f : Nat → Nat × Nat, ∀ i, i < 47 → vk_S 1 [xLen.getD i 0] [xByt.getD i []] (fun _ => (f i).1) (fun _ => (f i).2) A s s.heap ∧ (Term.string (st_M i).1 (st_M i).2).eval #[Value.ref b] s none [] s = some (.ref (f i).1) :=
    ⟨fun i => (h0 i).choose, fun i => (h0 i).choose_spec⟩
  have hss := st_sts (args := #[Value.ref b]) hg
  have z1 : vx_Zq Bundle.tN "UNASSIGNED_STACK" Bundle.steD A s s.heap := vx_Zqof (hts _ (tl_3 _ (List.mem_of_getElem? (i := 10) rfl))) (hts _ (tl_1 _ (List.mem_of_getElem? (i := 5) rfl))) (hss _ (List.mem_of_getElem? (i := 0) rfl)) hA
  have z2 : vx_Zq Bundle.tN "SUPPRESSED_SENTINEL" Bundle.listD A s s.heap := vx_Zqof (hts _ (tl_3 _ (List.mem_of_getElem? (i := 11) rfl))) (hts _ (tl_1 _ (List.mem_of_getElem? (i := 5) rfl))) (hss _ (List.mem_of_getElem? (i := 1) rfl)) hA
  have z3 : va_Zq "jdk/internal/util/Preconditions" "SIOOBE_FORMATTER" "Ljava/util/function/BiFunction;" A s s.heap := va_Zqof (hts _ (tl_4 _ (List.mem_of_getElem? (i := 24) rfl))) (hts _ (tl_1 _ (List.mem_of_getElem? (i := 6) rfl))) (hss _ (List.mem_of_getElem? (i := 2) rfl)) hA
  obtain ⟨sio, z3⟩ : ∃ sio : Nat, va_Z "jdk/internal/util/Preconditions" "SIOOBE_FORMATTER" "Ljava/util/function/BiFunction;" .null A s s.heap ∨ va_Z "jdk/internal/util/Preconditions" "SIOOBE_FORMATTER" "Ljava/util/function/BiFunction;" (.ref sio) A s s.heap := by
    rcases z3 with z | ⟨t, z⟩
    · exact ⟨0, Or.inl z⟩
    · exact ⟨t, Or.inr z⟩
  have z4 : va_Z "java/lang/String" "COMPACT_STRINGS" "Z" (.int 1) A s s.heap := by
    refine va_Zof (hts _ (tl_3 _ (List.mem_of_getElem? (i := 12) rfl))) (hts _ (tl_1 _ (List.mem_of_getElem? (i := 7) rfl))) ?_ hA
    have h9 := hss _ (List.mem_of_getElem? (i := 3) rfl)
    simp only [Cond.before, Cond.holds, Cond.value] at h9
    cases hb : (Term.static "java/lang/String" "COMPACT_STRINGS" "Z").eval #[Value.ref b] s none [] s with
    | none => simp [hb] at h9
    | some z =>
      rw [hb] at h9
      cases z <;> simp [Term.eval] at h9
      rw [h9]
  refine ⟨st_ad b sio f, by simp [st_ad], fun i hi => ?_, fun q hq => ?_, z1, z2, ?_, z4, fun w hw => ?_, ?_, ?_, fun a ha b9 hb9 hab => ?_⟩
  · rw [st_ad0 b sio f hi, st_ad1 b sio f hi]
    exact (hf i hi).1
  · have hsr := hts _ (st_strs q hq)
    obtain ⟨k, hk⟩ := List.getElem?_of_mem hq
    have key : q.2.2 < 47 ∧ (Term.string q.1 q.2.1).eval #[Value.ref b] s none [] s = some (.ref (f q.2.2).1) := by
      have heq := st_eqs (args := #[Value.ref b]) hg
      match k, hk with
      | 0, hk => cases hk; exact ⟨by decide, (hf 0 (by decide)).2⟩
      | 1, hk => cases hk; exact ⟨by decide, st_eqr (heq _ (List.mem_of_getElem? (i := 0) rfl)) (hf 0 (by decide)).2⟩
      | 2, hk => cases hk; exact ⟨by decide, (hf 1 (by decide)).2⟩
      | 3, hk => cases hk; exact ⟨by decide, st_eqr (heq _ (List.mem_of_getElem? (i := 1) rfl)) (hf 1 (by decide)).2⟩
      | 4, hk => cases hk; exact ⟨by decide, (hf 2 (by decide)).2⟩
      | 5, hk => cases hk; exact ⟨by decide, st_eqr (heq _ (List.mem_of_getElem? (i := 2) rfl)) (hf 2 (by decide)).2⟩
      | 6, hk => cases hk; exact ⟨by decide, (hf 3 (by decide)).2⟩
      | 7, hk => cases hk; exact ⟨by decide, st_eqr (heq _ (List.mem_of_getElem? (i := 3) rfl)) (hf 3 (by decide)).2⟩
      | 8, hk => cases hk; exact ⟨by decide, (hf 4 (by decide)).2⟩
      | 9, hk => cases hk; exact ⟨by decide, st_eqr (heq _ (List.mem_of_getElem? (i := 4) rfl)) (hf 4 (by decide)).2⟩
      | 10, hk => cases hk; exact ⟨by decide, (hf 5 (by decide)).2⟩
      | 11, hk => cases hk; exact ⟨by decide, st_eqr (heq _ (List.mem_of_getElem? (i := 5) rfl)) (hf 5 (by decide)).2⟩
      | 12, hk => cases hk; exact ⟨by decide, (hf 6 (by decide)).2⟩
      | 13, hk => cases hk; exact ⟨by decide, st_eqr (heq _ (List.mem_of_getElem? (i := 6) rfl)) (hf 6 (by decide)).2⟩
      | 14, hk => cases hk; exact ⟨by decide, (hf 7 (by decide)).2⟩
      | 15, hk => cases hk; exact ⟨by decide, st_eqr (heq _ (List.mem_of_getElem? (i := 7) rfl)) (hf 7 (by decide)).2⟩
      | 16, hk => cases hk; exact ⟨by decide, (hf 8 (by decide)).2⟩
      | 17, hk => cases hk; exact ⟨by decide, st_eqr (heq _ (List.mem_of_getElem? (i := 8) rfl)) (hf 8 (by decide)).2⟩
      | 18, hk => cases hk; exact ⟨by decide, (hf 9 (by decide)).2⟩
      | 19, hk => cases hk; exact ⟨by decide, st_eqr (heq _ (List.mem_of_getElem? (i := 9) rfl)) (hf 9 (by decide)).2⟩
      | 20, hk => cases hk; exact ⟨by decide, (hf 10 (by decide)).2⟩
      | 21, hk => cases hk; exact ⟨by decide, st_eqr (heq _ (List.mem_of_getElem? (i := 10) rfl)) (hf 10 (by decide)).2⟩
      | 22, hk => cases hk; exact ⟨by decide, (hf 11 (by decide)).2⟩
      | 23, hk => cases hk; exact ⟨by decide, st_eqr (heq _ (List.mem_of_getElem? (i := 11) rfl)) (hf 11 (by decide)).2⟩
      | 24, hk => cases hk; exact ⟨by decide, (hf 12 (by decide)).2⟩
      | 25, hk => cases hk; exact ⟨by decide, st_eqr (heq _ (List.mem_of_getElem? (i := 12) rfl)) (hf 12 (by decide)).2⟩
      | 26, hk => cases hk; exact ⟨by decide, (hf 13 (by decide)).2⟩
      | 27, hk => cases hk; exact ⟨by decide, st_eqr (heq _ (List.mem_of_getElem? (i := 13) rfl)) (hf 13 (by decide)).2⟩
      | 28, hk => cases hk; exact ⟨by decide, (hf 14 (by decide)).2⟩
      | 29, hk => cases hk; exact ⟨by decide, st_eqr (heq _ (List.mem_of_getElem? (i := 14) rfl)) (hf 14 (by decide)).2⟩
      | 30, hk => cases hk; exact ⟨by decide, (hf 15 (by decide)).2⟩
      | 31, hk => cases hk; exact ⟨by decide, st_eqr (heq _ (List.mem_of_getElem? (i := 15) rfl)) (hf 15 (by decide)).2⟩
      | 32, hk => cases hk; exact ⟨by decide, (hf 16 (by decide)).2⟩
      | 33, hk => cases hk; exact ⟨by decide, st_eqr (heq _ (List.mem_of_getElem? (i := 16) rfl)) (hf 16 (by decide)).2⟩
      | 34, hk => cases hk; exact ⟨by decide, (hf 17 (by decide)).2⟩
      | 35, hk => cases hk; exact ⟨by decide, st_eqr (heq _ (List.mem_of_getElem? (i := 17) rfl)) (hf 17 (by decide)).2⟩
      | 36, hk => cases hk; exact ⟨by decide, (hf 18 (by decide)).2⟩
      | 37, hk => cases hk; exact ⟨by decide, (hf 19 (by decide)).2⟩
      | 38, hk => cases hk; exact ⟨by decide, (hf 20 (by decide)).2⟩
      | 39, hk => cases hk; exact ⟨by decide, (hf 21 (by decide)).2⟩
      | 40, hk => cases hk; exact ⟨by decide, (hf 22 (by decide)).2⟩
      | 41, hk => cases hk; exact ⟨by decide, (hf 23 (by decide)).2⟩
      | 42, hk => cases hk; exact ⟨by decide, (hf 24 (by decide)).2⟩
      | 43, hk => cases hk; exact ⟨by decide, (hf 25 (by decide)).2⟩
      | 44, hk => cases hk; exact ⟨by decide, (hf 26 (by decide)).2⟩
      | 45, hk => cases hk; exact ⟨by decide, (hf 27 (by decide)).2⟩
      | 46, hk => cases hk; exact ⟨by decide, (hf 28 (by decide)).2⟩
      | 47, hk => cases hk; exact ⟨by decide, (hf 29 (by decide)).2⟩
      | 48, hk => cases hk; exact ⟨by decide, (hf 30 (by decide)).2⟩
      | 49, hk => cases hk; exact ⟨by decide, (hf 31 (by decide)).2⟩
      | 50, hk => cases hk; exact ⟨by decide, (hf 32 (by decide)).2⟩
      | 51, hk => cases hk; exact ⟨by decide, (hf 33 (by decide)).2⟩
      | 52, hk => cases hk; exact ⟨by decide, (hf 34 (by decide)).2⟩
      | 53, hk => cases hk; exact ⟨by decide, (hf 35 (by decide)).2⟩
      | 54, hk => cases hk; exact ⟨by decide, (hf 36 (by decide)).2⟩
      | 55, hk => cases hk; exact ⟨by decide, (hf 37 (by decide)).2⟩
      | 56, hk => cases hk; exact ⟨by decide, (hf 38 (by decide)).2⟩
      | 57, hk => cases hk; exact ⟨by decide, (hf 39 (by decide)).2⟩
      | 58, hk => cases hk; exact ⟨by decide, (hf 40 (by decide)).2⟩
      | 59, hk => cases hk; exact ⟨by decide, (hf 41 (by decide)).2⟩
      | 60, hk => cases hk; exact ⟨by decide, (hf 42 (by decide)).2⟩
      | 61, hk => cases hk; exact ⟨by decide, (hf 43 (by decide)).2⟩
      | 62, hk => cases hk; exact ⟨by decide, (hf 44 (by decide)).2⟩
      | 63, hk => cases hk; exact ⟨by decide, (hf 45 (by decide)).2⟩
      | 64, hk => cases hk; exact ⟨by decide, (hf 46 (by decide)).2⟩
      | k + 65, hk => cases hk
    rw [st_ad0 b sio f key.1]
    exact vk_R.of hsr key.2
  · rw [show st_ad b sio f 1000004000 = sio from by simp [st_ad, xSC]]
    exact z3
  · have h1 := hts w (st_nw w hw)
    have h2 := xNw_kind w hw
    cases w <;> first | (cases h2; done) | exact va_Nw.of rfl h1
  · exact va_AO.of (hts _ (tl_1 _ (List.mem_of_getElem? (i := 3) rfl)))
  · exact va_AO.of (hts _ (tl_1 _ (List.mem_of_getElem? (i := 4) rfl)))
  · have hnc := st_ncs (args := #[Value.ref b]) hg
    exact va_Nc.of (hnc _ (st_nc_mem a ha b9 hb9 hab))
theorem st_K {b : Nat} {s : State} (hts : ∀ w ∈ lw_tbl, w.before #[Value.ref b] s = true) : ∃ D : va_G, va_K D vwCl [] s := by
  obtain ⟨c0, i0, h0⟩ := u_known (C := RX0) (T := TX0) (N := 5) (n := 5) hts (fun w hw => (xT_good (wsin_0 w hw)).1) (hts (.instantiable RX0 5) (xT_good (wi_1_3 _ (List.mem_of_getElem? (i := 24) rfl))).1)
  obtain ⟨c1, i1, h1⟩ := u_known (C := RX1) (T := TX1) (N := 10) (n := 10) hts (fun w hw => (xT_good (wsin_1 w hw)).1) (hts (.instantiable RX1 10) (xT_good (wi_2_3 _ (List.mem_of_getElem? (i := 17) rfl))).1)
  obtain ⟨c2, i2, h2⟩ := u_known (C := RX2) (T := TX2) (N := 6) (n := 6) hts (fun w hw => (xT_good (wsin_2 w hw)).1) (hts (.instantiable RX2 6) (xT_good (wi_1_3 _ (List.mem_of_getElem? (i := 20) rfl))).1)
  obtain ⟨c3, i3, h3⟩ := u_known (C := RX3) (T := TX3) (N := 16) (n := 16) hts (fun w hw => (xT_good (wsin_3 w hw)).1) (hts (.instantiable RX3 16) (xT_good (wi_1_3 _ (List.mem_of_getElem? (i := 14) rfl))).1)
  obtain ⟨c4, i4, h4⟩ := u_known (C := RX4) (T := TX4) (N := 8) (n := 8) hts (fun w hw => (xT_good (wsin_4 w hw)).1) (hts (.instantiable RX4 8) (xT_good (wi_1_3 _ (List.mem_of_getElem? (i := 22) rfl))).1)
  obtain ⟨c5, i5, h5⟩ := u_known (C := RX5) (T := TX5) (N := 2) (n := 2) hts (fun w hw => (xT_good (wsin_5 w hw)).1) (hts (.instantiable RX5 2) (xT_good (wi_1_3 _ (List.mem_of_getElem? (i := 16) rfl))).1)
  obtain ⟨c6, i6, h6⟩ := u_known (C := RX6) (T := TX6) (N := 10) (n := 10) hts (fun w hw => (xT_good (wsin_6 w hw)).1) (hts (.instantiable RX6 10) (xT_good (wi_2_3 _ (List.mem_of_getElem? (i := 15) rfl))).1)
  obtain ⟨c7, i7, h7⟩ := u_known (C := RX7) (T := TX7) (N := 11) (n := 11) hts (fun w hw => (xT_good (wsin_7 w hw)).1) (hts (.instantiable RX7 11) (xT_good (wi_3_2 _ (List.mem_of_getElem? (i := 35) rfl))).1)
  obtain ⟨c8, i8, h8⟩ := u_known (C := RX8) (T := TX8) (N := 8) (n := 8) hts (fun w hw => (xT_good (wsin_8 w hw)).1) (hts (.instantiable RX8 8) (xT_good (wi_6_3 _ (List.mem_of_getElem? (i := 16) rfl))).1)
  obtain ⟨c9, i9, h9⟩ := u_known (C := RX9) (T := TX9) (N := 5) (n := 5) hts (fun w hw => (xT_good (wsin_9 w hw)).1) (hts (.instantiable RX9 5) (xT_good (wi_2_3 _ (List.mem_of_getElem? (i := 19) rfl))).1)
  obtain ⟨c10, i10, h10⟩ := u_known (C := RX10) (T := TX10) (N := 3) (n := 3) hts (fun w hw => (xT_good (wsin_10 w hw)).1) (hts (.instantiable RX10 3) (xT_good (wi_1_3 _ (List.mem_of_getElem? (i := 18) rfl))).1)
  obtain ⟨c11, i11, h11⟩ := u_known (C := RX11) (T := TX11) (N := 18) (n := 18) hts (fun w hw => (xT_good (wsin_11 w hw)).1) (hts (.instantiable RX11 18) (xT_good (wi_1_3 _ (List.mem_of_getElem? (i := 26) rfl))).1)
  obtain ⟨c12, i12, h12⟩ := u_known (C := RX12) (T := TX12) (N := 32) (n := 32) hts (fun w hw => (xT_good (wsin_12 w hw)).1) (hts (.instantiable RX12 32) (xT_good (wi_7_3 _ (List.mem_of_getElem? (i := 30) rfl))).1)
  refine ⟨(fun k => [c0, c1, c2, c3, c4, c5, c6, c7, c8, c9, c10, c11, c12].getD k 0, fun k => [i0, i1, i2, i3, i4, i5, i6, i7, i8, i9, i10, i11, i12].getD k (fun _ => 0)), fun k q hq => ?_, fun k q h => by simp at h⟩
  match k, hq with
  | 0, hq => cases hq; exact h0
  | 1, hq => cases hq; exact h1
  | 2, hq => cases hq; exact h2
  | 3, hq => cases hq; exact h3
  | 4, hq => cases hq; exact h4
  | 5, hq => cases hq; exact h5
  | 6, hq => cases hq; exact h6
  | 7, hq => cases hq; exact h7
  | 8, hq => cases hq; exact h8
  | 9, hq => cases hq; exact h9
  | 10, hq => cases hq; exact h10
  | 11, hq => cases hq; exact h11
  | 12, hq => cases hq; exact h12
  | k + 13, hq => simp [vwCl] at hq
