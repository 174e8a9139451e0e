/-! ===== the start: the premises, by their paths ===== -/
def pn : Nat → Cond → Nat → Cond
  | 0, T, _ => T
  | f + 1, .and x y, n => pn f (if n % 2 = 1 then y else x) (n / 2)
  | _ + 1, T, _ => T
theorem pn_b {args : Array Value} {s : State} : ∀ (f : Nat) (T : Cond) (n : Nat), T.before args s = true → (pn f T n).before args s = true := by
  intro f
  induction f with
  | zero => intro T n h; unfold pn; exact h
  | succ f ih =>
    intro T n h
    cases T with
    | and x y =>
      rw [Cond.before_and, Bool.and_eq_true] at h
      show (pn f (if n % 2 = 1 then y else x) (n / 2)).before args s = true
      refine ih _ _ ?_
      split
      · exact h.2
      · exact h.1
    | _ => exact h
def pq (n : Nat) (w : Cond) : Bool := decide (pn 12 narrow_1 n = w)
theorem pq_b {args : Array Value} {s : State} {n : Nat} {w : Cond} (hg : (Jvm.Cond.and given_1 narrow_1).before args s = true) (h : pq n w = true) : w.before args s = true := by
  rw [← of_decide_eq_true h]
  rw [Cond.before_and, Bool.and_eq_true] at hg
  exact pn_b _ _ _ hg.2
def fvS (o : String) (k : Nat) : Term := .field (.string o k) "java/lang/String" "value" "[B"
def ptS : List ((Nat × Nat) × List Nat) := [((3, 3), [112, 368, 880, 240, 496, 1008, 8, 264, 136, 392, 904, 72, 328, 200, 456, 968, 40, 296, 168, 424, 936, 104, 360, 872, 232, 488, 1000, 24, 280, 152, 408, 920, 88, 344, 856, 216, 472, 984, 56, 312, 184, 440, 952, 120, 376, 888, 248, 504, 1016, 4, 260, 132, 388, 900, 68, 324, 196, 452, 964, 36, 292, 164, 420, 932, 100, 356, 868, 228, 484, 996, 20, 276, 148, 404, 916, 84, 340, 852, 212]),
  ((3, 74), [468, 980, 52, 308, 180, 436, 948, 116]),
  ((3, 83), [372, 884, 244, 500, 1012, 12, 268, 140]),
  ((3, 84), [396, 908, 76, 332, 844, 204, 460]),
  ((3, 85), [972, 44, 300, 172, 428, 940, 108, 364, 876, 236, 492, 1004, 28, 284, 156, 412, 924, 92, 348]),
  ((3, 122), [860, 220, 476, 988, 60, 316, 188, 444, 956, 124, 380, 892, 252, 508, 1020, 2, 258, 130, 386, 898, 66, 322, 194, 450, 962, 34, 290, 162, 418, 930]),
  ((3, 123), [98, 354, 866, 226, 482, 994, 18, 274, 146]),
  ((3, 124), [402, 914, 82, 338, 850, 210, 466, 978, 50, 306]),
  ((3, 125), [178, 434, 946, 114, 370, 882, 242, 498]),
  ((3, 126), [1010, 10, 266, 138, 394, 906]),
  ((3, 135), [74, 330, 842, 202, 458, 970, 42]),
  ((3, 140), [298, 170, 426, 938, 106, 362, 874, 234, 490, 1002, 26, 282, 154, 410, 922, 90, 346]),
  ((3, 185), [858, 218, 474, 986, 58, 314]),
  ((3, 190), [186, 442, 954, 122, 378, 890, 250, 506]),
  ((3, 191), [1018, 6, 262, 134, 390, 902, 70, 326, 198, 454]),
  ((3, 192), [966, 38, 294, 166, 422, 934, 102, 358]),
  ((3, 193), [870, 230, 486, 998, 22, 278, 150, 406]),
  ((3, 206), [918, 86, 342, 854, 214, 470, 982, 54, 310]),
  ((3, 211), [182, 438, 950, 118, 374, 886, 246, 502, 1014, 14, 270, 142, 398, 910, 78, 334, 846, 206, 462, 974, 46, 302, 174, 430, 942, 110, 366]),
  ((3, 216), [878, 238, 494, 1006, 30, 286, 158, 414, 926, 94]),
  ((6, 131), [350, 862, 222, 478, 990, 62, 318, 190, 446, 958, 126, 382, 894, 254, 510, 1022, 1, 257, 129, 385, 897, 65, 321, 193, 449, 961, 33, 289, 161]),
  ((8, 1), [417, 929, 97, 353, 865, 225, 481, 993]),
  ((8, 19), [17, 273, 145, 401, 913, 81, 337, 849]),
  ((8, 35), [465, 977, 49, 305, 177, 433, 945, 113]),
  ((8, 36), [881, 241, 497, 1009, 9, 265, 137]),
  ((8, 37), [905, 73, 329, 841, 201, 457, 969, 41, 297]),
  ((8, 38), [169, 425, 937, 105, 361, 873, 233, 489]),
  ((8, 39), [25, 281, 153, 409, 921, 89, 345, 857]),
  ((8, 40), [473, 985, 57, 313, 185, 441, 953]),
  ((8, 49), [121, 377, 889, 249, 505, 1017, 5, 261, 133]),
  ((8, 62), [389, 901, 69, 325, 197, 453, 965, 37]),
  ((8, 63), [293, 165, 421, 933, 101, 357, 869]),
  ((8, 64), [229, 485, 997, 21, 277, 149, 405, 917, 85]),
  ((8, 65), [341, 853, 213, 469, 981, 53, 309, 181, 437]),
  ((8, 66), [949, 117, 373, 885, 245, 501, 1013, 13]),
  ((8, 67), [269, 141, 397, 909, 77, 333, 845, 205, 461, 973]),
  ((8, 68), [45, 301, 173, 429, 941, 109, 365, 877, 237]),
  ((8, 69), [493, 1005, 29, 285, 157, 413, 925, 93, 349, 861, 221]),
  ((8, 70), [477, 989, 61, 317, 189, 445, 957, 125, 381]),
  ((8, 71), [893, 253, 509, 1021, 3, 259, 131]),
  ((8, 72), [387, 899, 67, 323, 195, 451, 963]),
  ((8, 89), [291, 163, 419, 931, 99, 355, 867, 227, 483]),
  ((8, 90), [995, 19, 275, 147, 403, 915, 83, 339, 851]),
  ((8, 91), [211, 467, 979, 51, 307, 179, 435, 947, 115, 371, 883]),
  ((8, 92), [243, 499, 1011, 11, 267, 139, 395, 907, 75, 331]),
  ((8, 93), [843, 203, 459, 971, 43, 299, 171, 427, 939]),
  ((8, 94), [363, 875, 235, 491, 1003, 27, 283, 155, 411, 923]),
  ((8, 95), [347, 859, 219, 475, 987, 59, 315, 187]),
  ((8, 96), [955, 123, 379, 891, 251, 507]),
  ((8, 136), [7, 263, 135, 391, 903, 71]),
  ((8, 141), [199, 455, 967, 39, 295, 167, 423, 935]),
  ((8, 142), [359, 871, 231, 487, 999, 23, 279, 151, 407, 919]),
  ((8, 151), [343, 855, 215, 471, 983, 55, 311, 183, 439]),
  ((8, 156), [119, 375, 887, 247, 503, 1015, 15, 271]),
  ((8, 157), [143, 399, 911, 79, 335, 847, 207, 463, 975]),
  ((8, 158), [47, 303, 175, 431, 943, 111, 367, 879, 239]),
  ((8, 159), [495, 1007, 31, 287, 159, 415, 927, 95, 351, 863]),
  ((8, 164), [223, 479, 991, 63, 319, 191, 447]),
  ((8, 165), [959, 127, 383, 895, 255, 511])]
def ckS (i : Nat) : Bool := match sS[i]?, ptS[i]? with
  | some (o, k, tx, bs), some (ti, ps) => wq ti.1 ti.2 (.stringRef o k tx) && (pq (ps.getD 0 0) (.exactly (.string o k) "java/lang/String") && (pq (ps.getD 1 0) (.eq (.field (.string o k) "java/lang/String" "coder" "B") (.int 0)) && (pq (ps.getD 2 0) (.arrayOf (fvS o k) .byte) && (pq (ps.getD 3 0) (.eq (.length (fvS o k)) (.int (Int32.ofNat bs.length))) && (decide (bs.length < 2 ^ 31) && (List.range bs.length).all fun j => pq (ps.getD (4 + j) 0) (.eq (.elem (fvS o k) (.int (Int32.ofNat j))) (.int (bs.getD j 0))))))))
  | _, _ => false
theorem ck_0 : ∀ i, i < 10 → ckS (0 + i) = true := by decide +kernel
theorem ck_10 : ∀ i, i < 10 → ckS (10 + i) = true := by decide +kernel
theorem ck_20 : ∀ i, i < 10 → ckS (20 + i) = true := by decide +kernel
theorem ck_30 : ∀ i, i < 10 → ckS (30 + i) = true := by decide +kernel
theorem ck_40 : ∀ i, i < 10 → ckS (40 + i) = true := by decide +kernel
theorem ck_50 : ∀ i, i < 9 → ckS (50 + i) = true := by decide +kernel
theorem ck_all (i : Nat) (hi : i < 59) : ckS i = true := by
  rcases Nat.lt_or_ge i 10 with h | h
  · have := ck_0 i h; rwa [Nat.zero_add] at this
  rcases Nat.lt_or_ge i 20 with h | h
  · have := ck_10 (i - 10) (by omega); rwa [show 10 + (i - 10) = i by omega] at this
  rcases Nat.lt_or_ge i 30 with h | h
  · have := ck_20 (i - 20) (by omega); rwa [show 20 + (i - 20) = i by omega] at this
  rcases Nat.lt_or_ge i 40 with h | h
  · have := ck_30 (i - 30) (by omega); rwa [show 30 + (i - 30) = i by omega] at this
  rcases Nat.lt_or_ge i 50 with h | h
  · have := ck_40 (i - 40) (by omega); rwa [show 40 + (i - 40) = i by omega] at this
  · have := ck_50 (i - 50) (by omega); rwa [show 50 + (i - 50) = i by omega] at this
theorem wq_tbl {t i : Nat} {w : Cond} (h : wq t i w = true) : w ∈ lw_tbl := tb_in t w (List.mem_of_getElem? (of_decide_eq_true h))
/-- a text at the start -/
theorem text_at {args : Array Value} {s : State} {A : Nat → Prop} (hts : ∀ w ∈ lw_tbl, w.before args s = true) (hg : (Jvm.Cond.and given_1 narrow_1).before args s = true) (hA : ∀ a : Nat, a < s.heap.size → ¬ A a) {i : Nat} {o tx : String} {k : Nat} {bs : List Int32} (hi : sS[i]? = some (o, k, tx, bs)) :
    ∃ q : Nat × Nat, vk_R o k tx q.1 s ∧ va_O "java/lang/String" q.1 A s s.heap ∧ va_OF "java/lang/String" "coder" "B" (.int 0) q.1 A s s.heap ∧ va_OF "java/lang/String" "value" "[B" (.ref q.2) q.1 A s s.heap ∧ va_T .byte q.2 bs.length (fun j => .int (bs.getD j 0)) A s s.heap := by
  have hlt : i < 59 := (List.getElem?_eq_some_iff.mp hi).1
  have hc := ck_all i hlt
  unfold ckS at hc
  rw [hi] at hc
  cases hp : ptS[i]? with
  | none =>
    rw [hp] at hc
    cases hc
  | some z =>
    obtain ⟨ti, ps⟩ := z
    rw [hp] at hc
    dsimp only at hc
    simp only [Bool.and_eq_true] at hc
    obtain ⟨g0, g1, g2, g3, g4, g5, g6⟩ := hc
    have hex := pq_b hg g1
    obtain ⟨a, c, cA, kA, q1, q2, q3, q4, q5, q6, -⟩ := Cond.exactly_spec (args := args) (first := s) (o := none) (s := s) (idx := []) (t := .string o k) (cls := "java/lang/String") hex
    obtain ⟨t, ht, hT⟩ := va_Tof (f := fun j => .int (bs.getD j 0)) (A := A) (of_decide_eq_true g5) (pq_b hg g3) (va_eqt (pq_b hg g4)) (fun j hj => va_eqt (pq_b hg (List.all_eq_true.mp g6 j (List.mem_range.mpr hj)))) hA
    exact ⟨(a, t), vk_R.of (hts _ (wq_tbl g0)) q1, va_Oof hex q1 hA, vk_OFof q1 (va_eqt (pq_b hg g2)) hA, vk_OFof q1 ht hA, hT⟩
def roT : Term := .static "PrayerWay" "ROOM" "[I"
theorem ro_a : pq 384 (.arrayOf roT .int) = true := by decide +kernel
theorem ro_l : pq 896 (.eq (.length roT) (.int (Int32.ofNat 13))) = true := by decide +kernel
def roP : List Nat := [64, 320, 192, 448, 960, 32, 288, 160, 416, 928, 96, 352, 864]
theorem ro_e : ∀ j, j < 13 → pq (roP.getD j 0) (.eq (.elem roT (.int (Int32.ofNat j))) (.int (roomL.getD j 0))) = true := by decide +kernel
theorem cs_e : pq 224 (.eq (.static "java/lang/String" "COMPACT_STRINGS" "Z") (.int 1)) = true := by decide +kernel
theorem si_r : pq 480 (.isRef (.static "jdk/internal/util/Preconditions" "SIOOBE_FORMATTER" "Ljava/util/function/BiFunction;")) = true := by decide +kernel
theorem un_r : pq 144 (.isRef (.static Bundle.tN "UNASSIGNED_STACK" Bundle.steD)) = true := by decide +kernel
theorem su_r : pq 400 (.isRef (.static Bundle.tN "SUPPRESSED_SENTINEL" Bundle.listD)) = true := by decide +kernel
theorem tl_ro : (.laysStatic "PrayerWay" "ROOM" "[I" : Cond) ∈ lw_tbl := wq_tbl (t := 1) (i := 41) (by decide +kernel)
theorem tl_cs : (.laysStatic "java/lang/String" "COMPACT_STRINGS" "Z" : Cond) ∈ lw_tbl := wq_tbl (t := 3) (i := 17) (by decide +kernel)
theorem tl_si : (.laysStatic "jdk/internal/util/Preconditions" "SIOOBE_FORMATTER" "Ljava/util/function/BiFunction;" : Cond) ∈ lw_tbl := wq_tbl (t := 3) (i := 33) (by decide +kernel)
theorem tl_un : (.laysStatic Bundle.tN "UNASSIGNED_STACK" Bundle.steD : Cond) ∈ lw_tbl := wq_tbl (t := 6) (i := 119) (by decide +kernel)
theorem tl_su : (.laysStatic Bundle.tN "SUPPRESSED_SENTINEL" Bundle.listD : Cond) ∈ lw_tbl := wq_tbl (t := 6) (i := 121) (by decide +kernel)
theorem ti_pw : (.initialized "PrayerWay" : Cond) ∈ lw_tbl := wq_tbl (t := 1) (i := 1) (by decide +kernel)
theorem ti_st : (.initialized "java/lang/String" : Cond) ∈ lw_tbl := wq_tbl (t := 1) (i := 14) (by decide +kernel)
theorem ti_pc : (.initialized "jdk/internal/util/Preconditions" : Cond) ∈ lw_tbl := wq_tbl (t := 1) (i := 16) (by decide +kernel)
theorem ti_th : (.initialized Bundle.tN : Cond) ∈ lw_tbl := wq_tbl (t := 1) (i := 22) (by decide +kernel)
theorem ta_o : (.arrayOver (.object "PrayerWay$State") : Cond) ∈ lw_tbl := wq_tbl (t := 1) (i := 178) (by decide +kernel)
theorem tn_c : (.castable "java/util/NoSuchElementException" "java/util/NoSuchElementException" : Cond) ∈ lw_tbl := wq_tbl (t := 6) (i := 94) (by decide +kernel)
theorem tn_r : (.declares (Bundle.initS "java/lang/RuntimeException") : Cond) ∈ lw_tbl := wq_tbl (t := 6) (i := 96) (by decide +kernel)
theorem tn_e : (.declares (Bundle.initS "java/lang/Exception") : Cond) ∈ lw_tbl := wq_tbl (t := 6) (i := 98) (by decide +kernel)
theorem tn_t : (.declares (Bundle.initS Bundle.tN) : Cond) ∈ lw_tbl := wq_tbl (t := 6) (i := 100) (by decide +kernel)
theorem ts_X0 : (.instantiable RX0 12 : Cond) ∈ lw_tbl := wq_tbl (t := 2) (i := 44) (by decide +kernel)
theorem ts_X1 : (.instantiable RX1 19 : Cond) ∈ lw_tbl := wq_tbl (t := 1) (i := 35) (by decide +kernel)
theorem ts_X3 : (.instantiable RX3 5 : Cond) ∈ lw_tbl := wq_tbl (t := 1) (i := 172) (by decide +kernel)
theorem ts_X4 : (.instantiable RX4 9 : Cond) ∈ lw_tbl := wq_tbl (t := 1) (i := 199) (by decide +kernel)
theorem ts_X5 : (.instantiable RX5 2 : Cond) ∈ lw_tbl := wq_tbl (t := 2) (i := 137) (by decide +kernel)
theorem ts_X6 : (.instantiable RX6 5 : Cond) ∈ lw_tbl := wq_tbl (t := 2) (i := 112) (by decide +kernel)
theorem ts_X7 : (.instantiable RX7 5 : Cond) ∈ lw_tbl := wq_tbl (t := 1) (i := 43) (by decide +kernel)
theorem ts_X8 : (.instantiable RX8 10 : Cond) ∈ lw_tbl := wq_tbl (t := 1) (i := 205) (by decide +kernel)
theorem ts_X9 : (.instantiable RX9 4 : Cond) ∈ lw_tbl := wq_tbl (t := 2) (i := 93) (by decide +kernel)
theorem ts_X10 : (.instantiable RX10 13 : Cond) ∈ lw_tbl := wq_tbl (t := 1) (i := 27) (by decide +kernel)
theorem ts_X11 : (.instantiable RX11 45 : Cond) ∈ lw_tbl := wq_tbl (t := 7) (i := 46) (by decide +kernel)
theorem ts_X12 : (.instantiable RX12 35 : Cond) ∈ lw_tbl := wq_tbl (t := 6) (i := 158) (by decide +kernel)
theorem BIG_tbl {w : Cond} (h : w ∈ BIG) : w ∈ lw_tbl := (BIG_good w h).1
theorem K_start {args : Array Value} {s : State} (hts : ∀ w ∈ lw_tbl, w.before args s = true) : ∃ (dC : Nat → ClassId) (dI : Nat → Nat → Nat), va_K (dC, dI) vwCl [] s := by
  obtain ⟨b0, j0, h0⟩ := u_known (C := RX0) (T := TX0) (N := 12) (n := 12) hts (fun w h => BIG_tbl (inX0 w h)) (hts _ ts_X0)
  obtain ⟨b1, j1, h1⟩ := u_known (C := RX1) (T := TX1) (N := 19) (n := 19) hts (fun w h => BIG_tbl (inX1 w h)) (hts _ ts_X1)
  obtain ⟨b2, j2, h2⟩ := u_known (C := RX3) (T := TX3) (N := 5) (n := 5) hts (fun w h => BIG_tbl (inX3 w h)) (hts _ ts_X3)
  obtain ⟨b3, j3, h3⟩ := u_known (C := RX4) (T := TX4) (N := 9) (n := 9) hts (fun w h => BIG_tbl (inX4 w h)) (hts _ ts_X4)
  obtain ⟨b4, j4, h4⟩ := u_known (C := RX5) (T := TX5) (N := 2) (n := 2) hts (fun w h => BIG_tbl (inX5 w h)) (hts _ ts_X5)
  obtain ⟨b5, j5, h5⟩ := u_known (C := RX6) (T := TX6) (N := 5) (n := 5) hts (fun w h => BIG_tbl (inX6 w h)) (hts _ ts_X6)
  obtain ⟨b6, j6, h6⟩ := u_known (C := RX7) (T := TX7) (N := 5) (n := 5) hts (fun w h => BIG_tbl (inX7 w h)) (hts _ ts_X7)
  obtain ⟨b7, j7, h7⟩ := u_known (C := RX8) (T := TX8) (N := 10) (n := 10) hts (fun w h => BIG_tbl (inX8 w h)) (hts _ ts_X8)
  obtain ⟨b8, j8, h8⟩ := u_known (C := RX9) (T := TX9) (N := 4) (n := 4) hts (fun w h => BIG_tbl (inX9 w h)) (hts _ ts_X9)
  obtain ⟨b9, j9, h9⟩ := u_known (C := RX10) (T := TX10) (N := 13) (n := 13) hts (fun w h => BIG_tbl (inX10 w h)) (hts _ ts_X10)
  obtain ⟨b10, j10, h10⟩ := u_known (C := RX11) (T := TX11) (N := 45) (n := 45) hts (fun w h => BIG_tbl (inX11 w h)) (hts _ ts_X11)
  obtain ⟨b11, j11, h11⟩ := u_known (C := RX12) (T := TX12) (N := 35) (n := 35) hts (fun w h => BIG_tbl (inX12 w h)) (hts _ ts_X12)
  refine ⟨fun k => [b0, b1, b2, b3, b4, b5, b6, b7, b8, b9, b10, b11].getD k b0, fun k => [j0, j1, j2, j3, j4, j5, j6, j7, j8, j9, j10, j11].getD k j0, ?_, fun k q h => by simp at h⟩
  intro k q hq
  match k, hq with
  | 0, hq => cases hq; exact h0
  | 1, hq => cases hq; exact h1
  | 2, hq => cases hq; exact h2
  | 3, hq => cases hq; exact h3
  | 4, hq => cases hq; exact h4
  | 5, hq => cases hq; exact h5
  | 6, hq => cases hq; exact h6
  | 7, hq => cases hq; exact h7
  | 8, hq => cases hq; exact h8
  | 9, hq => cases hq; exact h9
  | 10, hq => cases hq; exact h10
  | 11, hq => cases hq; exact h11
  | k + 12, hq => simp [vwCl] at hq
