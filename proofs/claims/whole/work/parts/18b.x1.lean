/-! ===== each operation by its place, 1 ===== -/
theorem x0_0 : mOps 0 0 = o_ic 1 0 := rfl
theorem x0_1 : mOps 0 1 = o_ist 2 2 := rfl
theorem x0_2 : mOps 0 2 = o_al 3 0 := rfl
theorem x0_3 : mOps 0 3 = o_aln 4 := rfl
theorem x0_4 : mOps 0 4 = o_ist 5 3 := rfl
theorem x0_5 : mOps 0 5 = o_il 6 2 := rfl
theorem x0_6 : mOps 0 6 = o_il 7 3 := rfl
theorem x0_7 : mOps 0 7 = o_ge 10 20 := rfl
theorem x0_10 : mOps 0 10 = o_al 11 0 := rfl
theorem x0_11 : mOps 0 11 = o_il 12 2 := rfl
theorem x0_12 : mOps 0 12 = o_il 13 1 := rfl
theorem x0_13 : mOps 0 13 = o_ias 14 := rfl
theorem x0_14 : mOps 0 14 = o_inc 17 2 1 := rfl
theorem x0_17 : mOps 0 17 = o_back 5 [] := rfl
theorem x0_20 : mOps 0 20 = o_rv := rfl
theorem x1_0 : mOps 1 0 = o_al 1 0 := rfl
theorem x1_1 : mOps 1 1 = o_obj 4 := rfl
theorem x1_4 : mOps 1 4 = o_al 5 0 := rfl
theorem x1_5 : mOps 1 5 = o_ic 6 0 := rfl
theorem x1_6 : mOps 1 6 = o_pI 9 2 0 := rfl
theorem x1_9 : mOps 1 9 = o_al 10 0 := rfl
theorem x1_10 : mOps 1 10 = o_ic 11 (-1) := rfl
theorem x1_11 : mOps 1 11 = o_pI 14 2 1 := rfl
theorem x1_14 : mOps 1 14 = o_rv := rfl
theorem x2_0 : mOps 2 0 = o_al 1 0 := rfl
theorem x2_1 : mOps 2 1 = o_gI 4 2 0 := rfl
theorem x2_4 : mOps 2 4 = o_ne0 7 11 := rfl
theorem x2_7 : mOps 2 7 = o_ic 8 1 := rfl
theorem x2_8 : mOps 2 8 = o_goto 12 := rfl
theorem x2_11 : mOps 2 11 = o_ic 12 0 := rfl
theorem x2_12 : mOps 2 12 = o_rz := rfl
theorem x3_0 : mOps 3 0 = o_al 1 0 := rfl
theorem x3_1 : mOps 3 1 = o_il 2 1 := rfl
theorem x3_2 : mOps 3 2 = o_pI 5 2 0 := rfl
theorem x3_5 : mOps 3 5 = o_al 6 0 := rfl
theorem x3_6 : mOps 3 6 = o_il 7 2 := rfl
theorem x3_7 : mOps 3 7 = o_pI 10 2 1 := rfl
theorem x3_10 : mOps 3 10 = o_rv := rfl
theorem x4_0 : mOps 4 0 = o_al 1 0 := rfl
theorem x4_1 : mOps 4 1 = o_obj 4 := rfl
theorem x4_4 : mOps 4 4 = o_rv := rfl
theorem x5_0 : mOps 5 0 = o_al 1 0 := rfl
theorem x5_1 : mOps 5 1 = o_gI 4 6 4 := rfl
theorem x5_4 : mOps 5 4 = o_ne0 7 14 := rfl
theorem x5_7 : mOps 5 7 = o_al 8 0 := rfl
theorem x5_8 : mOps 5 8 = o_gI 11 6 5 := rfl
theorem x5_11 : mOps 5 11 = o_ic 12 1 := rfl
theorem x5_12 : mOps 5 12 = o_ii 13 (fun x y => x + y) := rfl
theorem x5_13 : mOps 5 13 = o_ri := rfl
theorem x5_14 : mOps 5 14 = o_al 15 0 := rfl
theorem x5_15 : mOps 5 15 = o_gI 18 6 5 := rfl
theorem x5_18 : mOps 5 18 = o_ne0 21 25 := rfl
theorem x5_21 : mOps 5 21 = o_ic 22 1 := rfl
theorem x5_22 : mOps 5 22 = o_goto 26 := rfl
theorem x5_25 : mOps 5 25 = o_ic 26 0 := rfl
theorem x5_26 : mOps 5 26 = o_ri := rfl
theorem x6_0 : mOps 6 0 = o_al 1 0 := rfl
theorem x6_1 : mOps 6 1 = o_al 2 1 := rfl
theorem x6_2 : mOps 6 2 = o_gI 5 6 0 := rfl
theorem x6_5 : mOps 6 5 = o_pI 8 6 0 := rfl
theorem x6_8 : mOps 6 8 = o_al 9 0 := rfl
theorem x6_9 : mOps 6 9 = o_al 10 1 := rfl
theorem x6_10 : mOps 6 10 = o_gI 13 6 1 := rfl
theorem x6_13 : mOps 6 13 = o_pI 16 6 1 := rfl
theorem x6_16 : mOps 6 16 = o_al 17 0 := rfl
theorem x6_17 : mOps 6 17 = o_al 18 1 := rfl
theorem x6_18 : mOps 6 18 = o_gI 21 6 2 := rfl
theorem x6_21 : mOps 6 21 = o_pI 24 6 2 := rfl
theorem x6_24 : mOps 6 24 = o_al 25 0 := rfl
theorem x6_25 : mOps 6 25 = o_al 26 1 := rfl
theorem x6_26 : mOps 6 26 = o_gI 29 6 3 := rfl
theorem x6_29 : mOps 6 29 = o_pI 32 6 3 := rfl
theorem x6_32 : mOps 6 32 = o_al 33 0 := rfl
theorem x6_33 : mOps 6 33 = o_al 34 1 := rfl
theorem x6_34 : mOps 6 34 = o_gI 37 6 4 := rfl
theorem x6_37 : mOps 6 37 = o_pI 40 6 4 := rfl
theorem x6_40 : mOps 6 40 = o_al 41 0 := rfl
theorem x6_41 : mOps 6 41 = o_al 42 1 := rfl
theorem x6_42 : mOps 6 42 = o_gI 45 6 5 := rfl
theorem x6_45 : mOps 6 45 = o_pI 48 6 5 := rfl
theorem x6_48 : mOps 6 48 = o_al 49 0 := rfl
theorem x6_49 : mOps 6 49 = o_al 50 1 := rfl
theorem x6_50 : mOps 6 50 = o_gI 53 6 6 := rfl
theorem x6_53 : mOps 6 53 = o_pI 56 6 6 := rfl
theorem x6_56 : mOps 6 56 = o_rv := rfl
theorem x7_0 : mOps 7 0 = o_al 1 0 := rfl
theorem x7_1 : mOps 7 1 = o_obj 4 := rfl
theorem x7_4 : mOps 7 4 = o_al 5 0 := rfl
theorem x7_5 : mOps 7 5 = o_ic 7 30 := rfl
theorem x7_7 : mOps 7 7 = o_nwa 9 20 := rfl
theorem x7_9 : mOps 7 9 = o_pP 12 1 2 := rfl
theorem x7_12 : mOps 7 12 = o_al 13 0 := rfl
theorem x7_13 : mOps 7 13 = o_ic 14 (-1) := rfl
theorem x7_14 : mOps 7 14 = o_pI 17 1 3 := rfl
theorem x7_17 : mOps 7 17 = o_al 18 0 := rfl
theorem x7_18 : mOps 7 18 = o_il 19 1 := rfl
theorem x7_19 : mOps 7 19 = o_pI 22 1 0 := rfl
theorem x7_22 : mOps 7 22 = o_al 23 0 := rfl
theorem x7_23 : mOps 7 23 = o_ic 25 30 := rfl
theorem x7_25 : mOps 7 25 = o_il 26 1 := rfl
theorem x7_26 : mOps 7 26 = o_ii 27 (fun x y => x * y) := rfl
theorem x7_27 : mOps 7 27 = o_ic 28 3 := rfl
theorem x7_28 : mOps 7 28 = o_ii 29 (fun x y => x * y) := rfl
theorem x7_29 : mOps 7 29 = o_nwa 31 20 := rfl
theorem x7_31 : mOps 7 31 = o_pP 34 1 1 := rfl
theorem x7_34 : mOps 7 34 = o_al 35 0 := rfl
theorem x7_35 : mOps 7 35 = o_gP 38 1 1 := rfl
theorem x7_38 : mOps 7 38 = o_ic 40 (-2) := rfl
theorem x7_40 : mOps 7 40 = o_cS 43 0 2 := rfl
theorem x7_43 : mOps 7 43 = o_rv := rfl
theorem x8_0 : mOps 8 0 = o_al 1 0 := rfl
theorem x8_1 : mOps 8 1 = o_gP 4 1 1 := rfl
theorem x8_4 : mOps 8 4 = o_il 5 1 := rfl
theorem x8_5 : mOps 8 5 = o_al 6 0 := rfl
theorem x8_6 : mOps 8 6 = o_gI 9 1 0 := rfl
theorem x8_9 : mOps 8 9 = o_ii 10 (fun x y => x * y) := rfl
theorem x8_10 : mOps 8 10 = o_il 11 2 := rfl
theorem x8_11 : mOps 8 11 = o_ii 12 (fun x y => x + y) := rfl
theorem x8_12 : mOps 8 12 = o_ic 13 3 := rfl
theorem x8_13 : mOps 8 13 = o_ii 14 (fun x y => x * y) := rfl
theorem x8_14 : mOps 8 14 = o_il 15 3 := rfl
theorem x8_15 : mOps 8 15 = o_ii 16 (fun x y => x + y) := rfl
theorem x8_16 : mOps 8 16 = o_ial 17 := rfl
theorem x8_17 : mOps 8 17 = o_ic 19 (-2) := rfl
theorem x8_19 : mOps 8 19 = o_eq 22 26 := rfl
theorem x8_22 : mOps 8 22 = o_ic 23 1 := rfl
theorem x8_23 : mOps 8 23 = o_goto 27 := rfl
theorem x8_26 : mOps 8 26 = o_ic 27 0 := rfl
theorem x8_27 : mOps 8 27 = o_rz := rfl
theorem x9_0 : mOps 9 0 = o_al 1 0 := rfl
theorem x9_1 : mOps 9 1 = o_gP 4 1 1 := rfl
theorem x9_4 : mOps 9 4 = o_il 5 1 := rfl
theorem x9_5 : mOps 9 5 = o_al 6 0 := rfl
theorem x9_6 : mOps 9 6 = o_gI 9 1 0 := rfl
theorem x9_9 : mOps 9 9 = o_ii 10 (fun x y => x * y) := rfl
theorem x9_10 : mOps 9 10 = o_il 11 2 := rfl
theorem x9_11 : mOps 9 11 = o_ii 12 (fun x y => x + y) := rfl
theorem x9_12 : mOps 9 12 = o_ic 13 3 := rfl
theorem x9_13 : mOps 9 13 = o_ii 14 (fun x y => x * y) := rfl
theorem x9_14 : mOps 9 14 = o_il 15 3 := rfl
theorem x9_15 : mOps 9 15 = o_ii 16 (fun x y => x + y) := rfl
theorem x9_16 : mOps 9 16 = o_ial 17 := rfl
theorem x9_17 : mOps 9 17 = o_ri := rfl
theorem x10_0 : mOps 10 0 = o_al 1 0 := rfl
theorem x10_1 : mOps 10 1 = o_gP 4 1 2 := rfl
theorem x10_4 : mOps 10 4 = o_il 5 1 := rfl
theorem x10_5 : mOps 10 5 = o_ial 6 := rfl
theorem x10_6 : mOps 10 6 = o_ri := rfl
theorem x11_0 : mOps 11 0 = o_al 1 0 := rfl
theorem x11_1 : mOps 11 1 = o_gP 4 1 1 := rfl
theorem x11_4 : mOps 11 4 = o_il 5 1 := rfl
theorem x11_5 : mOps 11 5 = o_al 6 0 := rfl
theorem x11_6 : mOps 11 6 = o_gI 9 1 0 := rfl
theorem x11_9 : mOps 11 9 = o_ii 10 (fun x y => x * y) := rfl
theorem x11_10 : mOps 11 10 = o_il 11 2 := rfl
theorem x11_11 : mOps 11 11 = o_ii 12 (fun x y => x + y) := rfl
theorem x11_12 : mOps 11 12 = o_ic 13 3 := rfl
theorem x11_13 : mOps 11 13 = o_ii 14 (fun x y => x * y) := rfl
theorem x11_14 : mOps 11 14 = o_il 15 3 := rfl
theorem x11_15 : mOps 11 15 = o_ii 16 (fun x y => x + y) := rfl
theorem x11_16 : mOps 11 16 = o_il 18 4 := rfl
theorem x11_18 : mOps 11 18 = o_ias 19 := rfl
theorem x11_19 : mOps 11 19 = o_il 20 3 := rfl
theorem x11_20 : mOps 11 20 = o_ne0 23 31 := rfl
theorem x11_23 : mOps 11 23 = o_al 24 0 := rfl
theorem x11_24 : mOps 11 24 = o_gP 27 1 2 := rfl
theorem x11_27 : mOps 11 27 = o_il 28 1 := rfl
theorem x11_28 : mOps 11 28 = o_il 30 5 := rfl
theorem x11_30 : mOps 11 30 = o_ias 31 := rfl
theorem x11_31 : mOps 11 31 = o_il 32 1 := rfl
theorem x11_32 : mOps 11 32 = o_al 33 0 := rfl
theorem x11_33 : mOps 11 33 = o_gI 36 1 3 := rfl
theorem x11_36 : mOps 11 36 = o_le 39 44 := rfl
theorem x11_39 : mOps 11 39 = o_al 40 0 := rfl
theorem x11_40 : mOps 11 40 = o_il 41 1 := rfl
theorem x11_41 : mOps 11 41 = o_pI 44 1 3 := rfl
theorem x11_44 : mOps 11 44 = o_rv := rfl
theorem x12_0 : mOps 12 0 = o_ic 1 0 := rfl
theorem x12_1 : mOps 12 1 = o_ist 3 4 := rfl
theorem x12_3 : mOps 12 3 = o_ic 4 0 := rfl
theorem x12_4 : mOps 12 4 = o_ist 6 5 := rfl
theorem x12_6 : mOps 12 6 = o_il 8 5 := rfl
theorem x12_8 : mOps 12 8 = o_al 9 0 := rfl
theorem x12_9 : mOps 12 9 = o_gI 12 1 0 := rfl
theorem x12_12 : mOps 12 12 = o_ge 15 42 := rfl
theorem x12_15 : mOps 12 15 = o_al 16 0 := rfl
theorem x12_16 : mOps 12 16 = o_il 17 1 := rfl
theorem x12_17 : mOps 12 17 = o_il 19 5 := rfl
theorem x12_19 : mOps 12 19 = o_il 20 2 := rfl
theorem x12_20 : mOps 12 20 = o_cV 23 9 3 1 := rfl
theorem x12_23 : mOps 12 23 = o_il 24 3 := rfl
theorem x12_24 : mOps 12 24 = o_ne 27 36 := rfl
theorem x12_27 : mOps 12 27 = o_il 29 4 := rfl
theorem x12_29 : mOps 12 29 = o_ic 30 1 := rfl
theorem x12_30 : mOps 12 30 = o_il 32 5 := rfl
theorem x12_32 : mOps 12 32 = o_ii 33 (fun x y => x <<< (y &&& 31)) := rfl
theorem x12_33 : mOps 12 33 = o_ii 34 (fun x y => x ||| y) := rfl
theorem x12_34 : mOps 12 34 = o_ist 36 4 := rfl
theorem x12_36 : mOps 12 36 = o_inc 39 5 1 := rfl
theorem x12_39 : mOps 12 39 = o_back 6 [] := rfl
theorem x12_42 : mOps 12 42 = o_il 44 4 := rfl
theorem x12_44 : mOps 12 44 = o_ri := rfl
theorem x13_0 : mOps 13 0 = o_al 1 0 := rfl
theorem x13_1 : mOps 13 1 = o_gI 4 1 3 := rfl
theorem x13_4 : mOps 13 4 = o_ic 5 1 := rfl
theorem x13_5 : mOps 13 5 = o_ii 6 (fun x y => x + y) := rfl
theorem x13_6 : mOps 13 6 = o_al 7 0 := rfl
theorem x13_7 : mOps 13 7 = o_gI 10 1 0 := rfl
theorem x13_10 : mOps 13 10 = o_ii 11 (fun x y => x * y) := rfl
theorem x13_11 : mOps 13 11 = o_ic 12 3 := rfl
theorem x13_12 : mOps 13 12 = o_ii 13 (fun x y => x * y) := rfl
theorem x13_13 : mOps 13 13 = o_ist 14 1 := rfl
theorem x13_14 : mOps 13 14 = o_ic 15 0 := rfl
theorem x13_15 : mOps 13 15 = o_ist 16 2 := rfl
theorem x13_16 : mOps 13 16 = o_il 17 2 := rfl
theorem x13_17 : mOps 13 17 = o_il 18 1 := rfl
theorem x13_18 : mOps 13 18 = o_ge 21 35 := rfl
theorem x13_21 : mOps 13 21 = o_al 22 0 := rfl
theorem x13_22 : mOps 13 22 = o_gP 25 1 1 := rfl
theorem x13_25 : mOps 13 25 = o_il 26 2 := rfl
theorem x13_26 : mOps 13 26 = o_ic 28 (-2) := rfl
theorem x13_28 : mOps 13 28 = o_ias 29 := rfl
theorem x13_29 : mOps 13 29 = o_inc 32 2 1 := rfl
theorem x13_32 : mOps 13 32 = o_back 16 [] := rfl
theorem x13_35 : mOps 13 35 = o_al 36 0 := rfl
theorem x13_36 : mOps 13 36 = o_ic 37 (-1) := rfl
theorem x13_37 : mOps 13 37 = o_pI 40 1 3 := rfl
theorem x13_40 : mOps 13 40 = o_rv := rfl
theorem x14_0 : mOps 14 0 = o_ic 1 0 := rfl
theorem x14_1 : mOps 14 1 = o_ist 2 3 := rfl
theorem x14_2 : mOps 14 2 = o_ic 3 0 := rfl
theorem x14_3 : mOps 14 3 = o_ist 5 4 := rfl
theorem x14_5 : mOps 14 5 = o_il 7 4 := rfl
theorem x14_7 : mOps 14 7 = o_al 8 0 := rfl
theorem x14_8 : mOps 14 8 = o_gI 11 1 0 := rfl
theorem x14_11 : mOps 14 11 = o_ge 14 38 := rfl
theorem x14_14 : mOps 14 14 = o_al 15 0 := rfl
theorem x14_15 : mOps 14 15 = o_il 16 1 := rfl
theorem x14_16 : mOps 14 16 = o_il 18 4 := rfl
theorem x14_18 : mOps 14 18 = o_il 19 2 := rfl
theorem x14_19 : mOps 14 19 = o_cV 22 8 3 1 := rfl
theorem x14_22 : mOps 14 22 = o_eq0 25 32 := rfl
theorem x14_25 : mOps 14 25 = o_il 26 3 := rfl
theorem x14_26 : mOps 14 26 = o_ic 27 1 := rfl
theorem x14_27 : mOps 14 27 = o_il 29 4 := rfl
theorem x14_29 : mOps 14 29 = o_ii 30 (fun x y => x <<< (y &&& 31)) := rfl
theorem x14_30 : mOps 14 30 = o_ii 31 (fun x y => x ||| y) := rfl
theorem x14_31 : mOps 14 31 = o_ist 32 3 := rfl
theorem x14_32 : mOps 14 32 = o_inc 35 4 1 := rfl
theorem x14_35 : mOps 14 35 = o_back 5 [] := rfl
theorem x14_38 : mOps 14 38 = o_il 39 3 := rfl
theorem x14_39 : mOps 14 39 = o_ri := rfl
theorem x15_0 : mOps 15 0 = o_al 1 0 := rfl
theorem x15_1 : mOps 15 1 = o_obj 4 := rfl
theorem x15_4 : mOps 15 4 = o_al 5 0 := rfl
theorem x15_5 : mOps 15 5 = o_ic 7 41 := rfl
theorem x15_7 : mOps 15 7 = o_nwa 9 20 := rfl
theorem x15_9 : mOps 15 9 = o_pP 12 3 0 := rfl
theorem x15_12 : mOps 15 12 = o_al 13 0 := rfl
theorem x15_13 : mOps 15 13 = o_ic 15 41 := rfl
theorem x15_15 : mOps 15 15 = o_nwa 17 20 := rfl
theorem x15_17 : mOps 15 17 = o_pP 20 3 1 := rfl
theorem x15_20 : mOps 15 20 = o_al 21 0 := rfl
theorem x15_21 : mOps 15 21 = o_ic 23 41 := rfl
theorem x15_23 : mOps 15 23 = o_nwa 25 20 := rfl
theorem x15_25 : mOps 15 25 = o_pP 28 3 2 := rfl
theorem x15_28 : mOps 15 28 = o_rv := rfl
theorem x16_0 : mOps 16 0 = o_al 1 0 := rfl
theorem x16_1 : mOps 16 1 = o_gP 4 3 0 := rfl
theorem x16_4 : mOps 16 4 = o_il 5 1 := rfl
theorem x16_5 : mOps 16 5 = o_il 6 2 := rfl
theorem x16_6 : mOps 16 6 = o_ias 7 := rfl
theorem x16_7 : mOps 16 7 = o_al 8 0 := rfl
theorem x16_8 : mOps 16 8 = o_gP 11 3 1 := rfl
theorem x16_11 : mOps 16 11 = o_il 12 1 := rfl
theorem x16_12 : mOps 16 12 = o_il 13 3 := rfl
theorem x16_13 : mOps 16 13 = o_ias 14 := rfl
theorem x16_14 : mOps 16 14 = o_al 15 0 := rfl
theorem x16_15 : mOps 16 15 = o_gP 18 3 2 := rfl
theorem x16_18 : mOps 16 18 = o_il 19 1 := rfl
theorem x16_19 : mOps 16 19 = o_il 21 4 := rfl
theorem x16_21 : mOps 16 21 = o_ias 22 := rfl
theorem x16_22 : mOps 16 22 = o_rv := rfl
theorem x17_0 : mOps 17 0 = o_al 1 0 := rfl
theorem x17_1 : mOps 17 1 = o_gP 4 3 0 := rfl
theorem x17_4 : mOps 17 4 = o_il 5 1 := rfl
theorem x17_5 : mOps 17 5 = o_ial 6 := rfl
theorem x17_6 : mOps 17 6 = o_eq0 9 13 := rfl
theorem x17_9 : mOps 17 9 = o_ic 10 1 := rfl
theorem x17_10 : mOps 17 10 = o_goto 14 := rfl
theorem x17_13 : mOps 17 13 = o_ic 14 0 := rfl
theorem x17_14 : mOps 17 14 = o_rz := rfl
theorem x18_0 : mOps 18 0 = o_al 1 0 := rfl
theorem x18_1 : mOps 18 1 = o_obj 4 := rfl
theorem x18_4 : mOps 18 4 = o_al 5 0 := rfl
theorem x18_5 : mOps 18 5 = o_ic 8 1200 := rfl
theorem x18_8 : mOps 18 8 = o_nwa 10 20 := rfl
theorem x18_10 : mOps 18 10 = o_pP 13 4 0 := rfl
theorem x18_13 : mOps 18 13 = o_rv := rfl
theorem x19_0 : mOps 19 0 = o_al 1 0 := rfl
theorem x19_1 : mOps 19 1 = o_gI 4 4 1 := rfl
theorem x19_4 : mOps 19 4 = o_ic 7 200 := rfl
theorem x19_7 : mOps 19 7 = o_ge 10 18 := rfl
theorem x19_10 : mOps 19 10 = o_al 11 0 := rfl
theorem x19_11 : mOps 19 11 = o_al 12 1 := rfl
theorem x19_12 : mOps 19 12 = o_cV 15 20 1 4 := rfl
theorem x19_15 : mOps 19 15 = o_eq0 18 19 := rfl
theorem x19_18 : mOps 19 18 = o_rv := rfl
theorem x19_19 : mOps 19 19 = o_al 20 0 := rfl
theorem x19_20 : mOps 19 20 = o_gI 23 4 1 := rfl
theorem x19_23 : mOps 19 23 = o_ic 25 6 := rfl
theorem x19_25 : mOps 19 25 = o_ii 26 (fun x y => x * y) := rfl
theorem x19_26 : mOps 19 26 = o_ist 27 3 := rfl
theorem x19_27 : mOps 19 27 = o_al 28 0 := rfl
theorem x19_28 : mOps 19 28 = o_gP 31 4 0 := rfl
theorem x19_31 : mOps 19 31 = o_il 32 3 := rfl
theorem x19_32 : mOps 19 32 = o_ic 33 0 := rfl
theorem x19_33 : mOps 19 33 = o_ii 34 (fun x y => x + y) := rfl
theorem x19_34 : mOps 19 34 = o_al 35 1 := rfl
theorem x19_35 : mOps 19 35 = o_gI 38 6 0 := rfl
theorem x19_38 : mOps 19 38 = o_ias 39 := rfl
theorem x19_39 : mOps 19 39 = o_al 40 0 := rfl
theorem x19_40 : mOps 19 40 = o_gP 43 4 0 := rfl
theorem x19_43 : mOps 19 43 = o_il 44 3 := rfl
theorem x19_44 : mOps 19 44 = o_ic 45 1 := rfl
theorem x19_45 : mOps 19 45 = o_ii 46 (fun x y => x + y) := rfl
theorem x19_46 : mOps 19 46 = o_al 47 1 := rfl
theorem x19_47 : mOps 19 47 = o_gI 50 6 2 := rfl
theorem x19_50 : mOps 19 50 = o_ias 51 := rfl
theorem x19_51 : mOps 19 51 = o_al 52 0 := rfl
theorem x19_52 : mOps 19 52 = o_gP 55 4 0 := rfl
theorem x19_55 : mOps 19 55 = o_il 56 3 := rfl
theorem x19_56 : mOps 19 56 = o_ic 57 2 := rfl
theorem x19_57 : mOps 19 57 = o_ii 58 (fun x y => x + y) := rfl
theorem x19_58 : mOps 19 58 = o_al 59 1 := rfl
theorem x19_59 : mOps 19 59 = o_gI 62 6 3 := rfl
theorem x19_62 : mOps 19 62 = o_ias 63 := rfl
theorem x19_63 : mOps 19 63 = o_al 64 0 := rfl
theorem x19_64 : mOps 19 64 = o_gP 67 4 0 := rfl
theorem x19_67 : mOps 19 67 = o_il 68 3 := rfl
theorem x19_68 : mOps 19 68 = o_ic 69 3 := rfl
theorem x19_69 : mOps 19 69 = o_ii 70 (fun x y => x + y) := rfl
theorem x19_70 : mOps 19 70 = o_al 71 1 := rfl
theorem x19_71 : mOps 19 71 = o_gI 74 6 4 := rfl
theorem x19_74 : mOps 19 74 = o_ias 75 := rfl
theorem x19_75 : mOps 19 75 = o_al 76 0 := rfl
theorem x19_76 : mOps 19 76 = o_gP 79 4 0 := rfl
theorem x19_79 : mOps 19 79 = o_il 80 3 := rfl
theorem x19_80 : mOps 19 80 = o_ic 81 4 := rfl
theorem x19_81 : mOps 19 81 = o_ii 82 (fun x y => x + y) := rfl
theorem x19_82 : mOps 19 82 = o_al 83 1 := rfl
theorem x19_83 : mOps 19 83 = o_gI 86 6 1 := rfl
theorem x19_86 : mOps 19 86 = o_ias 87 := rfl
theorem x19_87 : mOps 19 87 = o_al 88 0 := rfl
theorem x19_88 : mOps 19 88 = o_gP 91 4 0 := rfl
theorem x19_91 : mOps 19 91 = o_il 92 3 := rfl
theorem x19_92 : mOps 19 92 = o_ic 93 5 := rfl
theorem x19_93 : mOps 19 93 = o_ii 94 (fun x y => x + y) := rfl
theorem x19_94 : mOps 19 94 = o_il 95 2 := rfl
theorem x19_95 : mOps 19 95 = o_ias 96 := rfl
theorem x19_96 : mOps 19 96 = o_al 97 0 := rfl
theorem x19_97 : mOps 19 97 = o_dup 98 := rfl
theorem x19_98 : mOps 19 98 = o_gI 101 4 1 := rfl
theorem x19_101 : mOps 19 101 = o_ic 102 1 := rfl
theorem x19_102 : mOps 19 102 = o_ii 103 (fun x y => x + y) := rfl
theorem x19_103 : mOps 19 103 = o_pI 106 4 1 := rfl
theorem x19_106 : mOps 19 106 = o_rv := rfl
theorem x20_0 : mOps 20 0 = o_ic 1 0 := rfl
theorem x20_1 : mOps 20 1 = o_ist 2 2 := rfl
theorem x20_2 : mOps 20 2 = o_il 3 2 := rfl
theorem x20_3 : mOps 20 3 = o_al 4 0 := rfl
theorem x20_4 : mOps 20 4 = o_gI 7 4 1 := rfl
theorem x20_7 : mOps 20 7 = o_ge 10 80 := rfl
theorem x20_10 : mOps 20 10 = o_al 11 0 := rfl
theorem x20_11 : mOps 20 11 = o_il 12 2 := rfl
theorem x20_12 : mOps 20 12 = o_ic 13 0 := rfl
theorem x20_13 : mOps 20 13 = o_cV 16 21 2 4 := rfl
theorem x20_16 : mOps 20 16 = o_al 17 1 := rfl
theorem x20_17 : mOps 20 17 = o_gI 20 6 0 := rfl
theorem x20_20 : mOps 20 20 = o_ne 23 40 := rfl
theorem x20_23 : mOps 20 23 = o_al 24 0 := rfl
theorem x20_24 : mOps 20 24 = o_il 25 2 := rfl
theorem x20_25 : mOps 20 25 = o_ic 26 1 := rfl
theorem x20_26 : mOps 20 26 = o_cV 29 21 2 4 := rfl
theorem x20_29 : mOps 20 29 = o_al 30 1 := rfl
theorem x20_30 : mOps 20 30 = o_gI 33 6 2 := rfl
theorem x20_33 : mOps 20 33 = o_ne 36 40 := rfl
theorem x20_36 : mOps 20 36 = o_ic 37 1 := rfl
theorem x20_37 : mOps 20 37 = o_goto 41 := rfl
theorem x20_40 : mOps 20 40 = o_ic 41 0 := rfl
theorem x20_41 : mOps 20 41 = o_ist 42 3 := rfl
theorem x20_42 : mOps 20 42 = o_il 43 3 := rfl
theorem x20_43 : mOps 20 43 = o_eq0 46 74 := rfl
theorem x20_46 : mOps 20 46 = o_al 47 0 := rfl
theorem x20_47 : mOps 20 47 = o_il 48 2 := rfl
theorem x20_48 : mOps 20 48 = o_ic 49 2 := rfl
theorem x20_49 : mOps 20 49 = o_cV 52 21 2 4 := rfl
theorem x20_52 : mOps 20 52 = o_al 53 1 := rfl
theorem x20_53 : mOps 20 53 = o_gI 56 6 3 := rfl
theorem x20_56 : mOps 20 56 = o_ne 59 74 := rfl
theorem x20_59 : mOps 20 59 = o_al 60 0 := rfl
theorem x20_60 : mOps 20 60 = o_il 61 2 := rfl
theorem x20_61 : mOps 20 61 = o_ic 62 3 := rfl
theorem x20_62 : mOps 20 62 = o_cV 65 21 2 4 := rfl
theorem x20_65 : mOps 20 65 = o_al 66 1 := rfl
theorem x20_66 : mOps 20 66 = o_gI 69 6 4 := rfl
theorem x20_69 : mOps 20 69 = o_ne 72 74 := rfl
theorem x20_72 : mOps 20 72 = o_ic 73 1 := rfl
theorem x20_73 : mOps 20 73 = o_rz := rfl
theorem x20_74 : mOps 20 74 = o_inc 77 2 1 := rfl
theorem x20_77 : mOps 20 77 = o_back 2 [3] := rfl
theorem x20_80 : mOps 20 80 = o_ic 81 0 := rfl
theorem x20_81 : mOps 20 81 = o_rz := rfl
theorem x21_0 : mOps 21 0 = o_al 1 0 := rfl
theorem x21_1 : mOps 21 1 = o_gP 4 4 0 := rfl
theorem x21_4 : mOps 21 4 = o_il 5 1 := rfl
theorem x21_5 : mOps 21 5 = o_ic 7 6 := rfl
theorem x21_7 : mOps 21 7 = o_ii 8 (fun x y => x * y) := rfl
theorem x21_8 : mOps 21 8 = o_il 9 2 := rfl
theorem x21_9 : mOps 21 9 = o_ii 10 (fun x y => x + y) := rfl
theorem x21_10 : mOps 21 10 = o_ial 11 := rfl
theorem x21_11 : mOps 21 11 = o_ri := rfl
theorem x22_0 : mOps 22 0 = o_al 1 0 := rfl
theorem x22_1 : mOps 22 1 = o_obj 4 := rfl
theorem x22_4 : mOps 22 4 = o_al 5 0 := rfl
theorem x22_5 : mOps 22 5 = o_ic 7 60 := rfl
theorem x22_7 : mOps 22 7 = o_nwa 9 20 := rfl
theorem x22_9 : mOps 22 9 = o_pP 12 10 0 := rfl
theorem x22_12 : mOps 22 12 = o_al 13 0 := rfl
theorem x22_13 : mOps 22 13 = o_ic 15 60 := rfl
theorem x22_15 : mOps 22 15 = o_nwa 17 20 := rfl
theorem x22_17 : mOps 22 17 = o_pP 20 10 1 := rfl
theorem x22_20 : mOps 22 20 = o_al 21 0 := rfl
theorem x22_21 : mOps 22 21 = o_ic 23 60 := rfl
theorem x22_23 : mOps 22 23 = o_nwa 25 20 := rfl
theorem x22_25 : mOps 22 25 = o_pP 28 10 2 := rfl
theorem x22_28 : mOps 22 28 = o_rv := rfl
theorem x23_0 : mOps 23 0 = o_ic 1 0 := rfl
theorem x23_1 : mOps 23 1 = o_ist 2 2 := rfl
theorem x23_2 : mOps 23 2 = o_il 3 2 := rfl
theorem x23_3 : mOps 23 3 = o_al 4 0 := rfl
theorem x23_4 : mOps 23 4 = o_gI 7 10 3 := rfl
theorem x23_7 : mOps 23 7 = o_ge 10 28 := rfl
theorem x23_10 : mOps 23 10 = o_al 11 0 := rfl
theorem x23_11 : mOps 23 11 = o_gP 14 10 0 := rfl
theorem x23_14 : mOps 23 14 = o_il 15 2 := rfl
theorem x23_15 : mOps 23 15 = o_ial 16 := rfl
theorem x23_16 : mOps 23 16 = o_il 17 1 := rfl
theorem x23_17 : mOps 23 17 = o_ne 20 22 := rfl
theorem x23_20 : mOps 23 20 = o_il 21 2 := rfl
theorem x23_21 : mOps 23 21 = o_ri := rfl
theorem x23_22 : mOps 23 22 = o_inc 25 2 1 := rfl
theorem x23_25 : mOps 23 25 = o_back 2 [] := rfl
theorem x23_28 : mOps 23 28 = o_ic 29 (-1) := rfl
theorem x23_29 : mOps 23 29 = o_ri := rfl
theorem x24_0 : mOps 24 0 = o_al 1 0 := rfl
theorem x24_1 : mOps 24 1 = o_gI 4 10 3 := rfl
theorem x24_4 : mOps 24 4 = o_ic 6 60 := rfl
theorem x24_6 : mOps 24 6 = o_lt 9 11 := rfl
theorem x24_9 : mOps 24 9 = o_ic 10 0 := rfl
theorem x24_10 : mOps 24 10 = o_rz := rfl
theorem x24_11 : mOps 24 11 = o_al 12 0 := rfl
theorem x24_12 : mOps 24 12 = o_gP 15 10 0 := rfl
theorem x24_15 : mOps 24 15 = o_al 16 0 := rfl
theorem x24_16 : mOps 24 16 = o_gI 19 10 3 := rfl
theorem x24_19 : mOps 24 19 = o_il 20 1 := rfl
theorem x24_20 : mOps 24 20 = o_ias 21 := rfl
theorem x24_21 : mOps 24 21 = o_al 22 0 := rfl
theorem x24_22 : mOps 24 22 = o_gP 25 10 1 := rfl
theorem x24_25 : mOps 24 25 = o_al 26 0 := rfl
theorem x24_26 : mOps 24 26 = o_gI 29 10 3 := rfl
theorem x24_29 : mOps 24 29 = o_il 30 2 := rfl
theorem x24_30 : mOps 24 30 = o_ias 31 := rfl
theorem x24_31 : mOps 24 31 = o_al 32 0 := rfl
theorem x24_32 : mOps 24 32 = o_gP 35 10 2 := rfl
theorem x24_35 : mOps 24 35 = o_al 36 0 := rfl
theorem x24_36 : mOps 24 36 = o_gI 39 10 3 := rfl
theorem x24_39 : mOps 24 39 = o_il 40 3 := rfl
theorem x24_40 : mOps 24 40 = o_ias 41 := rfl
theorem x24_41 : mOps 24 41 = o_al 42 0 := rfl
theorem x24_42 : mOps 24 42 = o_dup 43 := rfl
theorem x24_43 : mOps 24 43 = o_gI 46 10 3 := rfl
theorem x24_46 : mOps 24 46 = o_ic 47 1 := rfl
theorem x24_47 : mOps 24 47 = o_ii 48 (fun x y => x + y) := rfl
theorem x24_48 : mOps 24 48 = o_pI 51 10 3 := rfl
theorem x24_51 : mOps 24 51 = o_ic 52 1 := rfl
theorem x24_52 : mOps 24 52 = o_rz := rfl
theorem x25_0 : mOps 25 0 = o_il 1 1 := rfl
theorem x25_1 : mOps 25 1 = o_lt0 4 12 := rfl
theorem x25_4 : mOps 25 4 = o_il 5 1 := rfl
theorem x25_5 : mOps 25 5 = o_al 6 0 := rfl
theorem x25_6 : mOps 25 6 = o_gI 9 10 3 := rfl
theorem x25_9 : mOps 25 9 = o_lt 12 13 := rfl
theorem x25_12 : mOps 25 12 = o_rv := rfl
theorem x25_13 : mOps 25 13 = o_al 14 0 := rfl
theorem x25_14 : mOps 25 14 = o_dup 15 := rfl
theorem x25_15 : mOps 25 15 = o_gI 18 10 3 := rfl
theorem x25_18 : mOps 25 18 = o_ic 19 1 := rfl
theorem x25_19 : mOps 25 19 = o_ii 20 (fun x y => x - y) := rfl
theorem x25_20 : mOps 25 20 = o_pI 23 10 3 := rfl
theorem x25_23 : mOps 25 23 = o_al 24 0 := rfl
theorem x25_24 : mOps 25 24 = o_gP 27 10 0 := rfl
theorem x25_27 : mOps 25 27 = o_il 28 1 := rfl
theorem x25_28 : mOps 25 28 = o_al 29 0 := rfl
theorem x25_29 : mOps 25 29 = o_gP 32 10 0 := rfl
theorem x25_32 : mOps 25 32 = o_al 33 0 := rfl
theorem x25_33 : mOps 25 33 = o_gI 36 10 3 := rfl
theorem x25_36 : mOps 25 36 = o_ial 37 := rfl
theorem x25_37 : mOps 25 37 = o_ias 38 := rfl
theorem x25_38 : mOps 25 38 = o_al 39 0 := rfl
theorem x25_39 : mOps 25 39 = o_gP 42 10 1 := rfl
theorem x25_42 : mOps 25 42 = o_il 43 1 := rfl
theorem x25_43 : mOps 25 43 = o_al 44 0 := rfl
theorem x25_44 : mOps 25 44 = o_gP 47 10 1 := rfl
theorem x25_47 : mOps 25 47 = o_al 48 0 := rfl
theorem x25_48 : mOps 25 48 = o_gI 51 10 3 := rfl
theorem x25_51 : mOps 25 51 = o_ial 52 := rfl
theorem x25_52 : mOps 25 52 = o_ias 53 := rfl
theorem x25_53 : mOps 25 53 = o_al 54 0 := rfl
theorem x25_54 : mOps 25 54 = o_gP 57 10 2 := rfl
theorem x25_57 : mOps 25 57 = o_il 58 1 := rfl
theorem x25_58 : mOps 25 58 = o_al 59 0 := rfl
theorem x25_59 : mOps 25 59 = o_gP 62 10 2 := rfl
theorem x25_62 : mOps 25 62 = o_al 63 0 := rfl
theorem x25_63 : mOps 25 63 = o_gI 66 10 3 := rfl
theorem x25_66 : mOps 25 66 = o_ial 67 := rfl
theorem x25_67 : mOps 25 67 = o_ias 68 := rfl
theorem x25_68 : mOps 25 68 = o_rv := rfl
theorem x26_0 : mOps 26 0 = o_al 1 0 := rfl
theorem x26_1 : mOps 26 1 = o_obj 4 := rfl
theorem x26_4 : mOps 26 4 = o_al 5 0 := rfl
theorem x26_5 : mOps 26 5 = o_ic 7 41 := rfl
theorem x26_7 : mOps 26 7 = o_nwa 9 20 := rfl
theorem x26_9 : mOps 26 9 = o_pP 12 9 3 := rfl
theorem x26_12 : mOps 26 12 = o_al 13 0 := rfl
theorem x26_13 : mOps 26 13 = o_ic 14 1 := rfl
theorem x26_14 : mOps 26 14 = o_ic 16 10 := rfl
theorem x26_16 : mOps 26 16 = o_il 17 1 := rfl
theorem x26_17 : mOps 26 17 = o_min 20 := rfl
theorem x26_20 : mOps 26 20 = o_max 23 := rfl
theorem x26_23 : mOps 26 23 = o_pI 26 9 0 := rfl
theorem x26_26 : mOps 26 26 = o_al 27 0 := rfl
theorem x26_27 : mOps 26 27 = o_il 28 2 := rfl
theorem x26_28 : mOps 26 28 = o_pI 31 9 1 := rfl
theorem x26_31 : mOps 26 31 = o_al 32 0 := rfl
theorem x26_32 : mOps 26 32 = o_ic 34 41 := rfl
theorem x26_34 : mOps 26 34 = o_al 35 0 := rfl
theorem x26_35 : mOps 26 35 = o_gI 38 9 0 := rfl
theorem x26_38 : mOps 26 38 = o_mna 42 := rfl
theorem x26_42 : mOps 26 42 = o_pP 45 9 2 := rfl
theorem x26_45 : mOps 26 45 = o_ic 46 1 := rfl
theorem x26_46 : mOps 26 46 = o_ist 47 3 := rfl
theorem x26_47 : mOps 26 47 = o_il 48 3 := rfl
theorem x26_48 : mOps 26 48 = o_ic 50 40 := rfl
theorem x26_50 : mOps 26 50 = o_gt 53 79 := rfl
theorem x26_53 : mOps 26 53 = o_al 54 0 := rfl
theorem x26_54 : mOps 26 54 = o_gP 57 9 2 := rfl
theorem x26_57 : mOps 26 57 = o_il 58 3 := rfl
theorem x26_58 : mOps 26 58 = o_aal 59 := rfl
theorem x26_59 : mOps 26 59 = o_ic 60 1 := rfl
theorem x26_60 : mOps 26 60 = o_cS 63 0 2 := rfl
theorem x26_63 : mOps 26 63 = o_al 64 0 := rfl
theorem x26_64 : mOps 26 64 = o_gP 67 9 3 := rfl
theorem x26_67 : mOps 26 67 = o_il 68 3 := rfl
theorem x26_68 : mOps 26 68 = o_al 69 0 := rfl
theorem x26_69 : mOps 26 69 = o_gI 72 9 0 := rfl
theorem x26_72 : mOps 26 72 = o_ias 73 := rfl
theorem x26_73 : mOps 26 73 = o_inc 76 3 1 := rfl
theorem x26_76 : mOps 26 76 = o_back 47 [] := rfl
theorem x26_79 : mOps 26 79 = o_rv := rfl
theorem x27_0 : mOps 27 0 = o_il 1 3 := rfl
theorem x27_1 : mOps 27 1 = o_ist 3 4 := rfl
theorem x27_3 : mOps 27 3 = o_il 5 4 := rfl
theorem x27_5 : mOps 27 5 = o_ic 7 40 := rfl
theorem x27_7 : mOps 27 7 = o_gt 10 47 := rfl
theorem x27_10 : mOps 27 10 = o_al 11 0 := rfl
theorem x27_11 : mOps 27 11 = o_gP 14 9 3 := rfl
theorem x27_14 : mOps 27 14 = o_il 16 4 := rfl
theorem x27_16 : mOps 27 16 = o_dup2 17 := rfl
theorem x27_17 : mOps 27 17 = o_ial 18 := rfl
theorem x27_18 : mOps 27 18 = o_il 19 2 := rfl
theorem x27_19 : mOps 27 19 = o_al 20 0 := rfl
theorem x27_20 : mOps 27 20 = o_gP 23 9 2 := rfl
theorem x27_23 : mOps 27 23 = o_il 25 4 := rfl
theorem x27_25 : mOps 27 25 = o_aal 26 := rfl
theorem x27_26 : mOps 27 26 = o_il 27 1 := rfl
theorem x27_27 : mOps 27 27 = o_ial 28 := rfl
theorem x27_28 : mOps 27 28 = o_ii 29 (fun x y => x - y) := rfl
theorem x27_29 : mOps 27 29 = o_ii 30 (fun x y => x + y) := rfl
theorem x27_30 : mOps 27 30 = o_ias 31 := rfl
theorem x27_31 : mOps 27 31 = o_al 32 0 := rfl
theorem x27_32 : mOps 27 32 = o_gP 35 9 2 := rfl
theorem x27_35 : mOps 27 35 = o_il 37 4 := rfl
theorem x27_37 : mOps 27 37 = o_aal 38 := rfl
theorem x27_38 : mOps 27 38 = o_il 39 1 := rfl
theorem x27_39 : mOps 27 39 = o_il 40 2 := rfl
theorem x27_40 : mOps 27 40 = o_ias 41 := rfl
theorem x27_41 : mOps 27 41 = o_inc 44 4 1 := rfl
theorem x27_44 : mOps 27 44 = o_back 3 [] := rfl
theorem x27_47 : mOps 27 47 = o_rv := rfl
theorem x28_0 : mOps 28 0 = o_il 1 1 := rfl
theorem x28_1 : mOps 28 1 = o_il 2 2 := rfl
theorem x28_2 : mOps 28 2 = o_ii 3 (fun x y => x + y) := rfl
theorem x28_3 : mOps 28 3 = o_al 4 0 := rfl
theorem x28_4 : mOps 28 4 = o_gI 7 9 0 := rfl
theorem x28_7 : mOps 28 7 = o_rem 8 := rfl
theorem x28_8 : mOps 28 8 = o_ri := rfl
theorem x29_0 : mOps 29 0 = o_al 1 0 := rfl
theorem x29_1 : mOps 29 1 = o_gI 4 9 1 := rfl
theorem x29_4 : mOps 29 4 = o_ic 7 7919 := rfl
theorem x29_7 : mOps 29 7 = o_il 8 1 := rfl
theorem x29_8 : mOps 29 8 = o_ii 9 (fun x y => x * y) := rfl
theorem x29_9 : mOps 29 9 = o_ii 10 (fun x y => x ^^^ y) := rfl
theorem x29_10 : mOps 29 10 = o_ic 12 104729 := rfl
theorem x29_12 : mOps 29 12 = o_il 13 2 := rfl
theorem x29_13 : mOps 29 13 = o_ii 14 (fun x y => x * y) := rfl
theorem x29_14 : mOps 29 14 = o_ii 15 (fun x y => x ^^^ y) := rfl
theorem x29_15 : mOps 29 15 = o_ic 17 1299709 := rfl
theorem x29_17 : mOps 29 17 = o_il 18 3 := rfl
theorem x29_18 : mOps 29 18 = o_ii 19 (fun x y => x * y) := rfl
theorem x29_19 : mOps 29 19 = o_ii 20 (fun x y => x ^^^ y) := rfl
theorem x29_20 : mOps 29 20 = o_ist 22 4 := rfl
theorem x29_22 : mOps 29 22 = o_ic 23 2 := rfl
theorem x29_23 : mOps 29 23 = o_ic 24 2 := rfl
theorem x29_24 : mOps 29 24 = o_il 26 4 := rfl
theorem x29_26 : mOps 29 26 = o_ic 28 1048575 := rfl
theorem x29_28 : mOps 29 28 = o_ii 29 (fun x y => x &&& y) := rfl
theorem x29_29 : mOps 29 29 = o_ii 30 (fun x y => x * y) := rfl
theorem x29_30 : mOps 29 30 = o_ii 31 (fun x y => x + y) := rfl
theorem x29_31 : mOps 29 31 = o_ri := rfl
theorem x30_0 : mOps 30 0 = o_ic 1 0 := rfl
theorem x30_1 : mOps 30 1 = o_ist 2 3 := rfl
theorem x30_2 : mOps 30 2 = o_ic 3 0 := rfl
theorem x30_3 : mOps 30 3 = o_ist 5 4 := rfl
theorem x30_5 : mOps 30 5 = o_il 7 4 := rfl
theorem x30_7 : mOps 30 7 = o_al 8 0 := rfl
theorem x30_8 : mOps 30 8 = o_gI 11 9 0 := rfl
theorem x30_11 : mOps 30 11 = o_ge 14 42 := rfl
theorem x30_14 : mOps 30 14 = o_il 15 1 := rfl
theorem x30_15 : mOps 30 15 = o_il 17 4 := rfl
theorem x30_17 : mOps 30 17 = o_ii 18 (fun x y => x >>> (y &&& 31)) := rfl
theorem x30_18 : mOps 30 18 = o_ic 19 1 := rfl
theorem x30_19 : mOps 30 19 = o_ii 20 (fun x y => x &&& y) := rfl
theorem x30_20 : mOps 30 20 = o_ic 21 1 := rfl
theorem x30_21 : mOps 30 21 = o_ne 24 36 := rfl
theorem x30_24 : mOps 30 24 = o_il 25 3 := rfl
theorem x30_25 : mOps 30 25 = o_al 26 0 := rfl
theorem x30_26 : mOps 30 26 = o_gP 29 9 2 := rfl
theorem x30_29 : mOps 30 29 = o_il 30 2 := rfl
theorem x30_30 : mOps 30 30 = o_aal 31 := rfl
theorem x30_31 : mOps 30 31 = o_il 33 4 := rfl
theorem x30_33 : mOps 30 33 = o_ial 34 := rfl
theorem x30_34 : mOps 30 34 = o_ii 35 (fun x y => x + y) := rfl
theorem x30_35 : mOps 30 35 = o_ist 36 3 := rfl
theorem x30_36 : mOps 30 36 = o_inc 39 4 1 := rfl
theorem x30_39 : mOps 30 39 = o_back 5 [] := rfl
theorem x30_42 : mOps 30 42 = o_il 43 3 := rfl
theorem x30_43 : mOps 30 43 = o_ri := rfl
theorem x31_0 : mOps 31 0 = o_al 1 0 := rfl
theorem x31_1 : mOps 31 1 = o_obj 4 := rfl
theorem x31_4 : mOps 31 4 = o_al 5 0 := rfl
theorem x31_5 : mOps 31 5 = o_ic 8 12000 := rfl
theorem x31_8 : mOps 31 8 = o_nwa 11 23 := rfl
theorem x31_11 : mOps 31 11 = o_pP 14 5 0 := rfl
theorem x31_14 : mOps 31 14 = o_rv := rfl
theorem x32_0 : mOps 32 0 = o_al 1 0 := rfl
theorem x32_1 : mOps 32 1 = o_gI 4 5 2 := rfl
theorem x32_4 : mOps 32 4 = o_ic 7 6000 := rfl
theorem x32_7 : mOps 32 7 = o_ge 10 22 := rfl
theorem x32_10 : mOps 32 10 = o_al 11 0 := rfl
theorem x32_11 : mOps 32 11 = o_gI 14 5 1 := rfl
theorem x32_14 : mOps 32 14 = o_al 15 0 := rfl
theorem x32_15 : mOps 32 15 = o_gP 18 5 0 := rfl
theorem x32_18 : mOps 32 18 = o_aln 19 := rfl
theorem x32_19 : mOps 32 19 = o_lt 22 24 := rfl
theorem x32_22 : mOps 32 22 = o_ic 23 0 := rfl
theorem x32_23 : mOps 32 23 = o_rz := rfl
theorem x32_24 : mOps 32 24 = o_al 25 0 := rfl
theorem x32_25 : mOps 32 25 = o_gP 28 5 0 := rfl
theorem x32_28 : mOps 32 28 = o_al 29 0 := rfl
theorem x32_29 : mOps 32 29 = o_gI 32 5 1 := rfl
theorem x32_32 : mOps 32 32 = o_aal 33 := rfl
theorem x32_33 : mOps 32 33 = o_nnul 36 52 := rfl
theorem x32_36 : mOps 32 36 = o_al 37 0 := rfl
theorem x32_37 : mOps 32 37 = o_gP 40 5 0 := rfl
theorem x32_40 : mOps 32 40 = o_al 41 0 := rfl
theorem x32_41 : mOps 32 41 = o_gI 44 5 1 := rfl
theorem x32_44 : mOps 32 44 = o_new 47 6 9 := rfl
theorem x32_47 : mOps 32 47 = o_dup 48 := rfl
theorem x32_48 : mOps 32 48 = o_cI 51 4 0 := rfl
theorem x32_51 : mOps 32 51 = o_aas 52 := rfl
theorem x32_52 : mOps 32 52 = o_al 53 0 := rfl
theorem x32_53 : mOps 32 53 = o_gP 56 5 0 := rfl
theorem x32_56 : mOps 32 56 = o_al 57 0 := rfl
theorem x32_57 : mOps 32 57 = o_gI 60 5 1 := rfl
theorem x32_60 : mOps 32 60 = o_aal 61 := rfl
theorem x32_61 : mOps 32 61 = o_ast 63 4 := rfl
theorem x32_63 : mOps 32 63 = o_al 65 4 := rfl
theorem x32_65 : mOps 32 65 = o_al 66 1 := rfl
theorem x32_66 : mOps 32 66 = o_cV 69 6 1 6 := rfl
theorem x32_69 : mOps 32 69 = o_al 71 4 := rfl
theorem x32_71 : mOps 32 71 = o_il 72 2 := rfl
theorem x32_72 : mOps 32 72 = o_pI 75 6 7 := rfl
theorem x32_75 : mOps 32 75 = o_al 77 4 := rfl
theorem x32_77 : mOps 32 77 = o_il 78 3 := rfl
theorem x32_78 : mOps 32 78 = o_pZ 81 6 8 := rfl
theorem x32_81 : mOps 32 81 = o_al 82 0 := rfl
theorem x32_82 : mOps 32 82 = o_dup 83 := rfl
theorem x32_83 : mOps 32 83 = o_gI 86 5 1 := rfl
theorem x32_86 : mOps 32 86 = o_ic 87 1 := rfl
theorem x32_87 : mOps 32 87 = o_ii 88 (fun x y => x + y) := rfl
theorem x32_88 : mOps 32 88 = o_pI 91 5 1 := rfl
theorem x32_91 : mOps 32 91 = o_al 92 0 := rfl
theorem x32_92 : mOps 32 92 = o_dup 93 := rfl
theorem x32_93 : mOps 32 93 = o_gI 96 5 2 := rfl
theorem x32_96 : mOps 32 96 = o_ic 97 1 := rfl
theorem x32_97 : mOps 32 97 = o_ii 98 (fun x y => x + y) := rfl
theorem x32_98 : mOps 32 98 = o_pI 101 5 2 := rfl
theorem x32_101 : mOps 32 101 = o_ic 102 1 := rfl
theorem x32_102 : mOps 32 102 = o_rz := rfl
theorem x33_0 : mOps 33 0 = o_ic 1 0 := rfl
theorem x33_1 : mOps 33 1 = o_ist 2 2 := rfl
theorem x33_2 : mOps 33 2 = o_ic 3 0 := rfl
theorem x33_3 : mOps 33 3 = o_ist 4 3 := rfl
theorem x33_4 : mOps 33 4 = o_il 5 3 := rfl
theorem x33_5 : mOps 33 5 = o_al 6 0 := rfl
theorem x33_6 : mOps 33 6 = o_gI 9 5 1 := rfl
theorem x33_9 : mOps 33 9 = o_ge 12 63 := rfl
theorem x33_12 : mOps 33 12 = o_al 13 0 := rfl
theorem x33_13 : mOps 33 13 = o_gP 16 5 0 := rfl
theorem x33_16 : mOps 33 16 = o_il 17 3 := rfl
theorem x33_17 : mOps 33 17 = o_aal 18 := rfl
theorem x33_18 : mOps 33 18 = o_ast 20 4 := rfl
theorem x33_20 : mOps 33 20 = o_al 22 4 := rfl
theorem x33_22 : mOps 33 22 = o_nul 25 57 := rfl
theorem x33_25 : mOps 33 25 = o_al 27 4 := rfl
theorem x33_27 : mOps 33 27 = o_gI 30 6 7 := rfl
theorem x33_30 : mOps 33 30 = o_il 31 1 := rfl
theorem x33_31 : mOps 33 31 = o_le 34 57 := rfl
theorem x33_34 : mOps 33 34 = o_al 35 0 := rfl
theorem x33_35 : mOps 33 35 = o_gP 38 5 0 := rfl
theorem x33_38 : mOps 33 38 = o_il 39 3 := rfl
theorem x33_39 : mOps 33 39 = o_al 40 0 := rfl
theorem x33_40 : mOps 33 40 = o_gP 43 5 0 := rfl
theorem x33_43 : mOps 33 43 = o_il 44 2 := rfl
theorem x33_44 : mOps 33 44 = o_aal 45 := rfl
theorem x33_45 : mOps 33 45 = o_aas 46 := rfl
theorem x33_46 : mOps 33 46 = o_al 47 0 := rfl
theorem x33_47 : mOps 33 47 = o_gP 50 5 0 := rfl
theorem x33_50 : mOps 33 50 = o_il 51 2 := rfl
theorem x33_51 : mOps 33 51 = o_al 53 4 := rfl
theorem x33_53 : mOps 33 53 = o_aas 54 := rfl
theorem x33_54 : mOps 33 54 = o_inc 57 2 1 := rfl
theorem x33_57 : mOps 33 57 = o_inc 60 3 1 := rfl
theorem x33_60 : mOps 33 60 = o_back 4 [4] := rfl
theorem x33_63 : mOps 33 63 = o_al 64 0 := rfl
theorem x33_64 : mOps 33 64 = o_il 65 2 := rfl
theorem x33_65 : mOps 33 65 = o_pI 68 5 1 := rfl
theorem x33_68 : mOps 33 68 = o_rv := rfl
theorem x34_0 : mOps 34 0 = o_al 1 0 := rfl
theorem x34_1 : mOps 34 1 = o_obj 4 := rfl
theorem x34_4 : mOps 34 4 = o_al 5 0 := rfl
theorem x34_5 : mOps 34 5 = o_new 8 1 4 := rfl
theorem x34_8 : mOps 34 8 = o_dup 9 := rfl
theorem x34_9 : mOps 34 9 = o_ic 10 1 := rfl
theorem x34_10 : mOps 34 10 = o_cI 13 7 1 := rfl
theorem x34_13 : mOps 34 13 = o_pP 16 8 2 := rfl
theorem x34_16 : mOps 34 16 = o_rv := rfl
theorem x35_0 : mOps 35 0 = o_al 1 0 := rfl
theorem x35_1 : mOps 35 1 = o_dup 2 := rfl
theorem x35_2 : mOps 35 2 = o_gI 5 8 0 := rfl
theorem x35_5 : mOps 35 5 = o_ic 6 1 := rfl
theorem x35_6 : mOps 35 6 = o_ii 7 (fun x y => x + y) := rfl
theorem x35_7 : mOps 35 7 = o_pI 10 8 0 := rfl
theorem x35_10 : mOps 35 10 = o_al 11 0 := rfl
theorem x35_11 : mOps 35 11 = o_gP 14 8 2 := rfl
theorem x35_14 : mOps 35 14 = o_al 15 1 := rfl
theorem x35_15 : mOps 35 15 = o_gI 18 6 3 := rfl
theorem x35_18 : mOps 35 18 = o_ic 19 0 := rfl
theorem x35_19 : mOps 35 19 = o_al 20 1 := rfl
theorem x35_20 : mOps 35 20 = o_gI 23 6 4 := rfl
theorem x35_23 : mOps 35 23 = o_cV 26 9 3 1 := rfl
theorem x35_26 : mOps 35 26 = o_ist 27 2 := rfl
theorem x35_27 : mOps 35 27 = o_il 28 2 := rfl
theorem x35_28 : mOps 35 28 = o_ic 30 (-2) := rfl
theorem x35_30 : mOps 35 30 = o_ne 33 60 := rfl
theorem x35_33 : mOps 35 33 = o_al 34 0 := rfl
theorem x35_34 : mOps 35 34 = o_gP 37 8 2 := rfl
theorem x35_37 : mOps 35 37 = o_al 38 1 := rfl
theorem x35_38 : mOps 35 38 = o_gI 41 6 3 := rfl
theorem x35_41 : mOps 35 41 = o_ic 42 0 := rfl
theorem x35_42 : mOps 35 42 = o_al 43 1 := rfl
theorem x35_43 : mOps 35 43 = o_gI 46 6 4 := rfl
theorem x35_46 : mOps 35 46 = o_al 47 1 := rfl
theorem x35_47 : mOps 35 47 = o_gI 50 6 5 := rfl
theorem x35_50 : mOps 35 50 = o_al 51 1 := rfl
theorem x35_51 : mOps 35 51 = o_gI 54 6 6 := rfl
theorem x35_54 : mOps 35 54 = o_cV 57 11 5 1 := rfl
theorem x35_57 : mOps 35 57 = o_goto 106 := rfl
theorem x35_60 : mOps 35 60 = o_il 61 2 := rfl
theorem x35_61 : mOps 35 61 = o_ic 63 (-3) := rfl
theorem x35_63 : mOps 35 63 = o_eq 66 106 := rfl
theorem x35_66 : mOps 35 66 = o_il 67 2 := rfl
theorem x35_67 : mOps 35 67 = o_al 68 1 := rfl
theorem x35_68 : mOps 35 68 = o_gI 71 6 5 := rfl
theorem x35_71 : mOps 35 71 = o_eq 74 106 := rfl
theorem x35_74 : mOps 35 74 = o_al 75 0 := rfl
theorem x35_75 : mOps 35 75 = o_gP 78 8 2 := rfl
theorem x35_78 : mOps 35 78 = o_al 79 1 := rfl
theorem x35_79 : mOps 35 79 = o_gI 82 6 3 := rfl
theorem x35_82 : mOps 35 82 = o_ic 83 0 := rfl
theorem x35_83 : mOps 35 83 = o_al 84 1 := rfl
theorem x35_84 : mOps 35 84 = o_gI 87 6 4 := rfl
theorem x35_87 : mOps 35 87 = o_ic 89 (-3) := rfl
theorem x35_89 : mOps 35 89 = o_al 90 1 := rfl
theorem x35_90 : mOps 35 90 = o_gI 93 6 6 := rfl
theorem x35_93 : mOps 35 93 = o_cV 96 11 5 1 := rfl
theorem x35_96 : mOps 35 96 = o_al 97 0 := rfl
theorem x35_97 : mOps 35 97 = o_dup 98 := rfl
theorem x35_98 : mOps 35 98 = o_gI 101 8 1 := rfl
theorem x35_101 : mOps 35 101 = o_ic 102 1 := rfl
theorem x35_102 : mOps 35 102 = o_ii 103 (fun x y => x + y) := rfl
theorem x35_103 : mOps 35 103 = o_pI 106 8 1 := rfl
theorem x35_106 : mOps 35 106 = o_rv := rfl
theorem x36_0 : mOps 36 0 = o_al 1 0 := rfl
theorem x36_1 : mOps 36 1 = o_obj 4 := rfl
theorem x36_4 : mOps 36 4 = o_al 5 0 := rfl
theorem x36_5 : mOps 36 5 = o_ic 6 1 := rfl
theorem x36_6 : mOps 36 6 = o_pI 9 7 2 := rfl
theorem x36_9 : mOps 36 9 = o_al 10 0 := rfl
theorem x36_10 : mOps 36 10 = o_ic 11 0 := rfl
theorem x36_11 : mOps 36 11 = o_pI 14 7 4 := rfl
theorem x36_14 : mOps 36 14 = o_al 15 0 := rfl
theorem x36_15 : mOps 36 15 = o_new 18 2 2 := rfl
theorem x36_18 : mOps 36 18 = o_dup 19 := rfl
theorem x36_19 : mOps 36 19 = o_cI 22 1 0 := rfl
theorem x36_22 : mOps 36 22 = o_pP 25 7 5 := rfl
theorem x36_25 : mOps 36 25 = o_al 26 0 := rfl
theorem x36_26 : mOps 36 26 = o_new 29 2 2 := rfl
theorem x36_29 : mOps 36 29 = o_dup 30 := rfl
theorem x36_30 : mOps 36 30 = o_cI 33 1 0 := rfl
theorem x36_33 : mOps 36 33 = o_pP 36 7 6 := rfl
theorem x36_36 : mOps 36 36 = o_al 37 0 := rfl
theorem x36_37 : mOps 36 37 = o_ic 38 3 := rfl
theorem x36_38 : mOps 36 38 = o_nwa 40 20 := rfl
theorem x36_40 : mOps 36 40 = o_pP 43 7 9 := rfl
theorem x36_43 : mOps 36 43 = o_al 44 0 := rfl
theorem x36_44 : mOps 36 44 = o_ic 45 3 := rfl
theorem x36_45 : mOps 36 45 = o_nwa 47 21 := rfl
theorem x36_47 : mOps 36 47 = o_pP 50 7 10 := rfl
theorem x36_50 : mOps 36 50 = o_al 51 0 := rfl
theorem x36_51 : mOps 36 51 = o_new 54 3 3 := rfl
theorem x36_54 : mOps 36 54 = o_dup 55 := rfl
theorem x36_55 : mOps 36 55 = o_cI 58 15 0 := rfl
theorem x36_58 : mOps 36 58 = o_pP 61 7 11 := rfl
theorem x36_61 : mOps 36 61 = o_al 62 0 := rfl
theorem x36_62 : mOps 36 62 = o_new 65 1 4 := rfl
theorem x36_65 : mOps 36 65 = o_dup 66 := rfl
theorem x36_66 : mOps 36 66 = o_ic 67 1 := rfl
theorem x36_67 : mOps 36 67 = o_cI 70 7 1 := rfl
theorem x36_70 : mOps 36 70 = o_pP 73 7 14 := rfl
theorem x36_73 : mOps 36 73 = o_al 74 0 := rfl
theorem x36_74 : mOps 36 74 = o_new 77 8 3 := rfl
theorem x36_77 : mOps 36 77 = o_dup 78 := rfl
theorem x36_78 : mOps 36 78 = o_cI 81 34 0 := rfl
theorem x36_81 : mOps 36 81 = o_pP 84 7 15 := rfl
theorem x36_84 : mOps 36 84 = o_al 85 0 := rfl
theorem x36_85 : mOps 36 85 = o_new 88 6 9 := rfl
theorem x36_88 : mOps 36 88 = o_dup 89 := rfl
theorem x36_89 : mOps 36 89 = o_cI 92 4 0 := rfl
theorem x36_92 : mOps 36 92 = o_pP 95 7 16 := rfl
theorem x36_95 : mOps 36 95 = o_al 96 0 := rfl
theorem x36_96 : mOps 36 96 = o_il 97 1 := rfl
theorem x36_97 : mOps 36 97 = o_pI 100 7 0 := rfl
theorem x36_100 : mOps 36 100 = o_al 101 0 := rfl
theorem x36_101 : mOps 36 101 = o_al 102 2 := rfl
theorem x36_102 : mOps 36 102 = o_pP 105 7 1 := rfl
theorem x36_105 : mOps 36 105 = o_al 106 0 := rfl
theorem x36_106 : mOps 36 106 = o_new 109 1 4 := rfl
theorem x36_109 : mOps 36 109 = o_dup 110 := rfl
theorem x36_110 : mOps 36 110 = o_al 111 2 := rfl
theorem x36_111 : mOps 36 111 = o_gI 114 9 0 := rfl
theorem x36_114 : mOps 36 114 = o_cI 117 7 1 := rfl
theorem x36_117 : mOps 36 117 = o_pP 120 7 12 := rfl
theorem x36_120 : mOps 36 120 = o_al 121 0 := rfl
theorem x36_121 : mOps 36 121 = o_new 124 1 4 := rfl
theorem x36_124 : mOps 36 124 = o_dup 125 := rfl
theorem x36_125 : mOps 36 125 = o_al 126 2 := rfl
theorem x36_126 : mOps 36 126 = o_gI 129 9 0 := rfl
theorem x36_129 : mOps 36 129 = o_cI 132 7 1 := rfl
theorem x36_132 : mOps 36 132 = o_pP 135 7 13 := rfl
theorem x36_135 : mOps 36 135 = o_rv := rfl
theorem x37_0 : mOps 37 0 = o_al 1 0 := rfl
theorem x37_1 : mOps 37 1 = o_gI 4 7 8 := rfl
theorem x37_4 : mOps 37 4 = o_le0 7 11 := rfl
theorem x37_7 : mOps 37 7 = o_ic 8 1 := rfl
theorem x37_8 : mOps 37 8 = o_goto 12 := rfl
theorem x37_11 : mOps 37 11 = o_ic 12 0 := rfl
theorem x37_12 : mOps 37 12 = o_rz := rfl
theorem x38_0 : mOps 38 0 = o_il 1 1 := rfl
theorem x38_1 : mOps 38 1 = o_ic 3 30 := rfl
theorem x38_3 : mOps 38 3 = o_lt 6 7 := rfl
theorem x38_6 : mOps 38 6 = o_rv := rfl
theorem x38_7 : mOps 38 7 = o_al 8 0 := rfl
theorem x38_8 : mOps 38 8 = o_il 9 1 := rfl
theorem x38_9 : mOps 38 9 = o_pI 12 7 3 := rfl
theorem x38_12 : mOps 38 12 = o_al 13 0 := rfl
theorem x38_13 : mOps 38 13 = o_ic 14 0 := rfl
theorem x38_14 : mOps 38 14 = o_pI 17 7 4 := rfl
theorem x38_17 : mOps 38 17 = o_ic 18 0 := rfl
theorem x38_18 : mOps 38 18 = o_ist 19 3 := rfl
theorem x38_19 : mOps 38 19 = o_il 20 3 := rfl
theorem x38_20 : mOps 38 20 = o_ic 21 3 := rfl
theorem x38_21 : mOps 38 21 = o_ge 24 37 := rfl
theorem x38_24 : mOps 38 24 = o_al 25 0 := rfl
theorem x38_25 : mOps 38 25 = o_gP 28 7 9 := rfl
theorem x38_28 : mOps 38 28 = o_il 29 3 := rfl
theorem x38_29 : mOps 38 29 = o_ic 30 0 := rfl
theorem x38_30 : mOps 38 30 = o_ias 31 := rfl
theorem x38_31 : mOps 38 31 = o_inc 34 3 1 := rfl
theorem x38_34 : mOps 38 34 = o_back 19 [] := rfl
theorem x38_37 : mOps 38 37 = o_ic 38 0 := rfl
theorem x38_38 : mOps 38 38 = o_ist 39 3 := rfl
theorem x38_39 : mOps 38 39 = o_il 40 3 := rfl
theorem x38_40 : mOps 38 40 = o_ic 41 3 := rfl
theorem x38_41 : mOps 38 41 = o_ge 44 57 := rfl
theorem x38_44 : mOps 38 44 = o_al 45 0 := rfl
theorem x38_45 : mOps 38 45 = o_gP 48 7 10 := rfl
theorem x38_48 : mOps 38 48 = o_il 49 3 := rfl
theorem x38_49 : mOps 38 49 = o_ic 50 0 := rfl
theorem x38_50 : mOps 38 50 = o_bas 51 := rfl
theorem x38_51 : mOps 38 51 = o_inc 54 3 1 := rfl
theorem x38_54 : mOps 38 54 = o_back 39 [] := rfl
theorem x38_57 : mOps 38 57 = o_al 58 0 := rfl
theorem x38_58 : mOps 38 58 = o_cV 61 39 0 7 := rfl
theorem x38_61 : mOps 38 61 = o_eq0 64 65 := rfl
theorem x38_64 : mOps 38 64 = o_rv := rfl
theorem x38_65 : mOps 38 65 = o_al 66 0 := rfl
theorem x38_66 : mOps 38 66 = o_gP 69 7 9 := rfl
theorem x38_69 : mOps 38 69 = o_ic 70 0 := rfl
theorem x38_70 : mOps 38 70 = o_il 71 2 := rfl
theorem x38_71 : mOps 38 71 = o_ic 72 4 := rfl
theorem x38_72 : mOps 38 72 = o_ii 73 (fun x y => x + y) := rfl
theorem x38_73 : mOps 38 73 = o_al 74 0 := rfl
theorem x38_74 : mOps 38 74 = o_gI 77 7 3 := rfl
theorem x38_77 : mOps 38 77 = o_ii 78 (fun x y => x + y) := rfl
theorem x38_78 : mOps 38 78 = o_ias 79 := rfl
theorem x38_79 : mOps 38 79 = o_al 80 0 := rfl
theorem x38_80 : mOps 38 80 = o_gP 83 7 1 := rfl
theorem x38_83 : mOps 38 83 = o_al 84 0 := rfl
theorem x38_84 : mOps 38 84 = o_gI 87 7 2 := rfl
theorem x38_87 : mOps 38 87 = o_al 88 0 := rfl
theorem x38_88 : mOps 38 88 = o_gI 91 7 3 := rfl
theorem x38_91 : mOps 38 91 = o_cV 94 28 2 9 := rfl
theorem x38_94 : mOps 38 94 = o_al 95 0 := rfl
theorem x38_95 : mOps 38 95 = o_gI 98 7 0 := rfl
theorem x38_98 : mOps 38 98 = o_eq 101 102 := rfl
theorem x38_101 : mOps 38 101 = o_rv := rfl
theorem x38_102 : mOps 38 102 = o_al 103 0 := rfl
theorem x38_103 : mOps 38 103 = o_gP 106 7 6 := rfl
theorem x38_106 : mOps 38 106 = o_cV 109 2 0 2 := rfl
theorem x38_109 : mOps 38 109 = o_eq0 112 140 := rfl
theorem x38_112 : mOps 38 112 = o_al 113 0 := rfl
theorem x38_113 : mOps 38 113 = o_ic 114 0 := rfl
theorem x38_114 : mOps 38 114 = o_al 115 0 := rfl
theorem x38_115 : mOps 38 115 = o_gP 118 7 1 := rfl
theorem x38_118 : mOps 38 118 = o_al 119 0 := rfl
theorem x38_119 : mOps 38 119 = o_gI 122 7 0 := rfl
theorem x38_122 : mOps 38 122 = o_al 123 0 := rfl
theorem x38_123 : mOps 38 123 = o_gI 126 7 2 := rfl
theorem x38_126 : mOps 38 126 = o_al 127 0 := rfl
theorem x38_127 : mOps 38 127 = o_gI 130 7 3 := rfl
theorem x38_130 : mOps 38 130 = o_cV 133 29 3 9 := rfl
theorem x38_133 : mOps 38 133 = o_ic 134 (-1) := rfl
theorem x38_134 : mOps 38 134 = o_cV 137 40 3 7 := rfl
theorem x38_137 : mOps 38 137 = o_goto 159 := rfl
theorem x38_140 : mOps 38 140 = o_al 141 0 := rfl
theorem x38_141 : mOps 38 141 = o_ic 142 0 := rfl
theorem x38_142 : mOps 38 142 = o_al 143 0 := rfl
theorem x38_143 : mOps 38 143 = o_gP 146 7 6 := rfl
theorem x38_146 : mOps 38 146 = o_gI 149 2 0 := rfl
theorem x38_149 : mOps 38 149 = o_al 150 0 := rfl
theorem x38_150 : mOps 38 150 = o_gP 153 7 6 := rfl
theorem x38_153 : mOps 38 153 = o_gI 156 2 1 := rfl
theorem x38_156 : mOps 38 156 = o_cV 159 40 3 7 := rfl
theorem x38_159 : mOps 38 159 = o_rv := rfl
theorem x39_0 : mOps 39 0 = o_al 1 0 := rfl
theorem x39_1 : mOps 39 1 = o_gI 4 7 2 := rfl
theorem x39_4 : mOps 39 4 = o_ic 6 40 := rfl
theorem x39_6 : mOps 39 6 = o_le 9 13 := rfl
theorem x39_9 : mOps 39 9 = o_ic 10 1 := rfl
theorem x39_10 : mOps 39 10 = o_goto 14 := rfl
theorem x39_13 : mOps 39 13 = o_ic 14 0 := rfl
theorem x39_14 : mOps 39 14 = o_rz := rfl
theorem x40_0 : mOps 40 0 = o_al 1 0 := rfl
theorem x40_1 : mOps 40 1 = o_gI 4 7 7 := rfl
theorem x40_4 : mOps 40 4 = o_ic 5 5 := rfl
theorem x40_5 : mOps 40 5 = o_ne 8 16 := rfl
theorem x40_8 : mOps 40 8 = o_il 9 1 := rfl
theorem x40_9 : mOps 40 9 = o_eq0 12 16 := rfl
theorem x40_12 : mOps 40 12 = o_ic 13 0 := rfl
theorem x40_13 : mOps 40 13 = o_goto 17 := rfl
theorem x40_16 : mOps 40 16 = o_il 17 2 := rfl
theorem x40_17 : mOps 40 17 = o_ist 19 4 := rfl
theorem x40_19 : mOps 40 19 = o_il 20 3 := rfl
theorem x40_20 : mOps 40 20 = o_ist 22 5 := rfl
theorem x40_22 : mOps 40 22 = o_al 23 0 := rfl
theorem x40_23 : mOps 40 23 = o_gI 26 7 7 := rfl
theorem x40_26 : mOps 40 26 = o_ic 27 4 := rfl
theorem x40_27 : mOps 40 27 = o_eq 30 103 := rfl
theorem x40_30 : mOps 40 30 = o_al 31 0 := rfl
theorem x40_31 : mOps 40 31 = o_gP 34 7 14 := rfl
theorem x40_34 : mOps 40 34 = o_al 35 0 := rfl
theorem x40_35 : mOps 40 35 = o_gI 38 7 3 := rfl
theorem x40_38 : mOps 40 38 = o_ic 39 0 := rfl
theorem x40_39 : mOps 40 39 = o_il 40 1 := rfl
theorem x40_40 : mOps 40 40 = o_cV 43 8 3 1 := rfl
theorem x40_43 : mOps 40 43 = o_eq0 46 86 := rfl
theorem x40_46 : mOps 40 46 = o_al 47 0 := rfl
theorem x40_47 : mOps 40 47 = o_gP 50 7 14 := rfl
theorem x40_50 : mOps 40 50 = o_al 51 0 := rfl
theorem x40_51 : mOps 40 51 = o_gI 54 7 3 := rfl
theorem x40_54 : mOps 40 54 = o_ic 55 0 := rfl
theorem x40_55 : mOps 40 55 = o_il 56 1 := rfl
theorem x40_56 : mOps 40 56 = o_cV 59 9 3 1 := rfl
theorem x40_59 : mOps 40 59 = o_ist 61 4 := rfl
theorem x40_61 : mOps 40 61 = o_il 62 1 := rfl
theorem x40_62 : mOps 40 62 = o_ne0 65 79 := rfl
theorem x40_65 : mOps 40 65 = o_al 66 0 := rfl
theorem x40_66 : mOps 40 66 = o_gP 69 7 14 := rfl
theorem x40_69 : mOps 40 69 = o_al 70 0 := rfl
theorem x40_70 : mOps 40 70 = o_gI 73 7 3 := rfl
theorem x40_73 : mOps 40 73 = o_cV 76 10 1 1 := rfl
theorem x40_76 : mOps 40 76 = o_goto 81 := rfl
theorem x40_79 : mOps 40 79 = o_il 81 5 := rfl
theorem x40_81 : mOps 40 81 = o_ist 83 5 := rfl
theorem x40_83 : mOps 40 83 = o_goto 103 := rfl
theorem x40_86 : mOps 40 86 = o_al 87 0 := rfl
theorem x40_87 : mOps 40 87 = o_gP 90 7 14 := rfl
theorem x40_90 : mOps 40 90 = o_al 91 0 := rfl
theorem x40_91 : mOps 40 91 = o_gI 94 7 3 := rfl
theorem x40_94 : mOps 40 94 = o_ic 95 0 := rfl
theorem x40_95 : mOps 40 95 = o_il 96 1 := rfl
theorem x40_96 : mOps 40 96 = o_il 98 4 := rfl
theorem x40_98 : mOps 40 98 = o_il 100 5 := rfl
theorem x40_100 : mOps 40 100 = o_cV 103 11 5 1 := rfl
theorem x40_103 : mOps 40 103 = o_al 104 0 := rfl
theorem x40_104 : mOps 40 104 = o_gP 107 7 12 := rfl
theorem x40_107 : mOps 40 107 = o_al 108 0 := rfl
theorem x40_108 : mOps 40 108 = o_gI 111 7 3 := rfl
theorem x40_111 : mOps 40 111 = o_al 112 0 := rfl
theorem x40_112 : mOps 40 112 = o_gI 115 7 0 := rfl
theorem x40_115 : mOps 40 115 = o_il 116 1 := rfl
theorem x40_116 : mOps 40 116 = o_cV 119 8 3 1 := rfl
theorem x40_119 : mOps 40 119 = o_ne0 122 142 := rfl
theorem x40_122 : mOps 40 122 = o_al 123 0 := rfl
theorem x40_123 : mOps 40 123 = o_gP 126 7 12 := rfl
theorem x40_126 : mOps 40 126 = o_al 127 0 := rfl
theorem x40_127 : mOps 40 127 = o_gI 130 7 3 := rfl
theorem x40_130 : mOps 40 130 = o_al 131 0 := rfl
theorem x40_131 : mOps 40 131 = o_gI 134 7 0 := rfl
theorem x40_134 : mOps 40 134 = o_il 135 1 := rfl
theorem x40_135 : mOps 40 135 = o_il 137 4 := rfl
theorem x40_137 : mOps 40 137 = o_il 139 5 := rfl
theorem x40_139 : mOps 40 139 = o_cV 142 11 5 1 := rfl
theorem x40_142 : mOps 40 142 = o_al 143 0 := rfl
theorem x40_143 : mOps 40 143 = o_gP 146 7 16 := rfl
theorem x40_146 : mOps 40 146 = o_al 147 0 := rfl
theorem x40_147 : mOps 40 147 = o_gI 150 7 0 := rfl
theorem x40_150 : mOps 40 150 = o_pI 153 6 0 := rfl
theorem x40_153 : mOps 40 153 = o_al 154 0 := rfl
theorem x40_154 : mOps 40 154 = o_gP 157 7 16 := rfl
theorem x40_157 : mOps 40 157 = o_al 158 0 := rfl
theorem x40_158 : mOps 40 158 = o_gI 161 7 2 := rfl
theorem x40_161 : mOps 40 161 = o_pI 164 6 2 := rfl
theorem x40_164 : mOps 40 164 = o_al 165 0 := rfl
theorem x40_165 : mOps 40 165 = o_gP 168 7 16 := rfl
theorem x40_168 : mOps 40 168 = o_al 169 0 := rfl
theorem x40_169 : mOps 40 169 = o_gI 172 7 3 := rfl
theorem x40_172 : mOps 40 172 = o_pI 175 6 3 := rfl
theorem x40_175 : mOps 40 175 = o_al 176 0 := rfl
theorem x40_176 : mOps 40 176 = o_gP 179 7 16 := rfl
theorem x40_179 : mOps 40 179 = o_il 180 1 := rfl
theorem x40_180 : mOps 40 180 = o_pI 183 6 4 := rfl
theorem x40_183 : mOps 40 183 = o_al 184 0 := rfl
theorem x40_184 : mOps 40 184 = o_gP 187 7 16 := rfl
theorem x40_187 : mOps 40 187 = o_il 189 4 := rfl
theorem x40_189 : mOps 40 189 = o_pI 192 6 5 := rfl
theorem x40_192 : mOps 40 192 = o_al 193 0 := rfl
theorem x40_193 : mOps 40 193 = o_gP 196 7 16 := rfl
theorem x40_196 : mOps 40 196 = o_il 198 5 := rfl
theorem x40_198 : mOps 40 198 = o_pI 201 6 6 := rfl
theorem x40_201 : mOps 40 201 = o_al 202 0 := rfl
theorem x40_202 : mOps 40 202 = o_ic 203 1 := rfl
theorem x40_203 : mOps 40 203 = o_pZ 206 7 17 := rfl
theorem x40_206 : mOps 40 206 = o_il 207 1 := rfl
theorem x40_207 : mOps 40 207 = o_eq0 210 224 := rfl
theorem x40_210 : mOps 40 210 = o_al 211 0 := rfl
theorem x40_211 : mOps 40 211 = o_il 212 1 := rfl
theorem x40_212 : mOps 40 212 = o_ic 213 1 := rfl
theorem x40_213 : mOps 40 213 = o_ne 216 220 := rfl
theorem x40_216 : mOps 40 216 = o_ic 217 1 := rfl
theorem x40_217 : mOps 40 217 = o_goto 221 := rfl
theorem x40_220 : mOps 40 220 = o_ic 221 2 := rfl
theorem x40_221 : mOps 40 221 = o_pI 224 7 4 := rfl
theorem x40_224 : mOps 40 224 = o_rv := rfl
theorem x41_0 : mOps 41 0 = o_al 1 0 := rfl
theorem x41_1 : mOps 41 1 = o_gI 4 7 7 := rfl
theorem x41_4 : mOps 41 4 = o_ic 5 1 := rfl
theorem x41_5 : mOps 41 5 = o_ne 8 10 := rfl
theorem x41_8 : mOps 41 8 = o_ic 9 0 := rfl
theorem x41_9 : mOps 41 9 = o_ri := rfl
theorem x41_10 : mOps 41 10 = o_al 11 0 := rfl
theorem x41_11 : mOps 41 11 = o_gI 14 7 7 := rfl
theorem x41_14 : mOps 41 14 = o_ic 15 3 := rfl
theorem x41_15 : mOps 41 15 = o_ne 18 22 := rfl
theorem x41_18 : mOps 41 18 = o_ic 19 2 := rfl
theorem x41_19 : mOps 41 19 = o_goto 23 := rfl
theorem x41_22 : mOps 41 22 = o_ic 23 1 := rfl
theorem x41_23 : mOps 41 23 = o_ri := rfl
theorem x42_0 : mOps 42 0 = o_al 1 0 := rfl
theorem x42_1 : mOps 42 1 = o_gI 4 7 7 := rfl
theorem x42_4 : mOps 42 4 = o_ic 5 2 := rfl
theorem x42_5 : mOps 42 5 = o_ne 8 19 := rfl
theorem x42_8 : mOps 42 8 = o_il 9 1 := rfl
theorem x42_9 : mOps 42 9 = o_ic 10 2 := rfl
theorem x42_10 : mOps 42 10 = o_rem 11 := rfl
theorem x42_11 : mOps 42 11 = o_ic 12 1 := rfl
theorem x42_12 : mOps 42 12 = o_ne 15 19 := rfl
theorem x42_15 : mOps 42 15 = o_ic 16 1 := rfl
theorem x42_16 : mOps 42 16 = o_goto 20 := rfl
theorem x42_19 : mOps 42 19 = o_ic 20 0 := rfl
theorem x42_20 : mOps 42 20 = o_rz := rfl
theorem x43_0 : mOps 43 0 = o_al 1 0 := rfl
theorem x43_1 : mOps 43 1 = o_cV 4 39 0 7 := rfl
theorem x43_4 : mOps 43 4 = o_eq0 7 9 := rfl
theorem x43_7 : mOps 43 7 = o_ic 8 0 := rfl
theorem x43_8 : mOps 43 8 = o_rz := rfl
theorem x43_9 : mOps 43 9 = o_al 10 0 := rfl
theorem x43_10 : mOps 43 10 = o_cV 13 44 0 7 := rfl
theorem x43_13 : mOps 43 13 = o_ist 14 2 := rfl
theorem x43_14 : mOps 43 14 = o_il 15 2 := rfl
theorem x43_15 : mOps 43 15 = o_ic 16 (-1) := rfl
theorem x43_16 : mOps 43 16 = o_eq 19 32 := rfl
theorem x43_19 : mOps 43 19 = o_al 20 0 := rfl
theorem x43_20 : mOps 43 20 = o_il 21 2 := rfl
theorem x43_21 : mOps 43 21 = o_cV 24 47 1 7 := rfl
theorem x43_24 : mOps 43 24 = o_al 25 0 := rfl
theorem x43_25 : mOps 43 25 = o_ic 26 0 := rfl
theorem x43_26 : mOps 43 26 = o_il 27 1 := rfl
theorem x43_27 : mOps 43 27 = o_cV 30 38 2 7 := rfl
theorem x43_30 : mOps 43 30 = o_ic 31 1 := rfl
theorem x43_31 : mOps 43 31 = o_rz := rfl
theorem x43_32 : mOps 43 32 = o_al 33 0 := rfl
theorem x43_33 : mOps 43 33 = o_cV 36 49 0 7 := rfl
theorem x43_36 : mOps 43 36 = o_ist 37 3 := rfl
theorem x43_37 : mOps 43 37 = o_il 38 3 := rfl
theorem x43_38 : mOps 43 38 = o_ic 39 (-1) := rfl
theorem x43_39 : mOps 43 39 = o_eq 42 50 := rfl
theorem x43_42 : mOps 43 42 = o_al 43 0 := rfl
theorem x43_43 : mOps 43 43 = o_il 44 3 := rfl
theorem x43_44 : mOps 43 44 = o_il 45 1 := rfl
theorem x43_45 : mOps 43 45 = o_cV 48 38 2 7 := rfl
theorem x43_48 : mOps 43 48 = o_ic 49 1 := rfl
theorem x43_49 : mOps 43 49 = o_rz := rfl
theorem x43_50 : mOps 43 50 = o_al 51 0 := rfl
theorem x43_51 : mOps 43 51 = o_cV 54 51 0 7 := rfl
theorem x43_54 : mOps 43 54 = o_ne0 57 87 := rfl
theorem x43_57 : mOps 43 57 = o_al 58 0 := rfl
theorem x43_58 : mOps 43 58 = o_cV 61 53 0 7 := rfl
theorem x43_61 : mOps 43 61 = o_ne0 64 87 := rfl
theorem x43_64 : mOps 43 64 = o_al 65 0 := rfl
theorem x43_65 : mOps 43 65 = o_cV 68 54 0 7 := rfl
theorem x43_68 : mOps 43 68 = o_ne0 71 87 := rfl
theorem x43_71 : mOps 43 71 = o_al 72 0 := rfl
theorem x43_72 : mOps 43 72 = o_il 73 1 := rfl
theorem x43_73 : mOps 43 73 = o_cV 76 55 1 7 := rfl
theorem x43_76 : mOps 43 76 = o_ne0 79 87 := rfl
theorem x43_79 : mOps 43 79 = o_al 80 0 := rfl
theorem x43_80 : mOps 43 80 = o_il 81 1 := rfl
theorem x43_81 : mOps 43 81 = o_cV 84 56 1 7 := rfl
theorem x43_84 : mOps 43 84 = o_eq0 87 91 := rfl
theorem x43_87 : mOps 43 87 = o_ic 88 1 := rfl
theorem x43_88 : mOps 43 88 = o_goto 92 := rfl
theorem x43_91 : mOps 43 91 = o_ic 92 0 := rfl
theorem x43_92 : mOps 43 92 = o_rz := rfl
theorem x44_0 : mOps 44 0 = o_al 1 0 := rfl
theorem x44_1 : mOps 44 1 = o_gP 4 7 12 := rfl
theorem x44_4 : mOps 44 4 = o_gI 7 1 3 := rfl
theorem x44_7 : mOps 44 7 = o_ist 8 1 := rfl
theorem x44_8 : mOps 44 8 = o_ic 9 0 := rfl
theorem x44_9 : mOps 44 9 = o_ist 10 2 := rfl
theorem x44_10 : mOps 44 10 = o_il 11 2 := rfl
theorem x44_11 : mOps 44 11 = o_il 12 1 := rfl
theorem x44_12 : mOps 44 12 = o_gt 15 52 := rfl
theorem x44_15 : mOps 44 15 = o_al 16 0 := rfl
theorem x44_16 : mOps 44 16 = o_il 17 2 := rfl
theorem x44_17 : mOps 44 17 = o_cV 20 45 1 7 := rfl
theorem x44_20 : mOps 44 20 = o_ist 21 3 := rfl
theorem x44_21 : mOps 44 21 = o_il 22 3 := rfl
theorem x44_22 : mOps 44 22 = o_ic 24 (-2) := rfl
theorem x44_24 : mOps 44 24 = o_eq 27 46 := rfl
theorem x44_27 : mOps 44 27 = o_al 28 0 := rfl
theorem x44_28 : mOps 44 28 = o_al 29 0 := rfl
theorem x44_29 : mOps 44 29 = o_gP 32 7 12 := rfl
theorem x44_32 : mOps 44 32 = o_il 33 2 := rfl
theorem x44_33 : mOps 44 33 = o_ic 34 2 := rfl
theorem x44_34 : mOps 44 34 = o_il 35 3 := rfl
theorem x44_35 : mOps 44 35 = o_cV 38 12 3 1 := rfl
theorem x44_38 : mOps 44 38 = o_cV 41 46 1 7 := rfl
theorem x44_41 : mOps 44 41 = o_eq0 44 46 := rfl
theorem x44_44 : mOps 44 44 = o_il 45 2 := rfl
theorem x44_45 : mOps 44 45 = o_ri := rfl
theorem x44_46 : mOps 44 46 = o_inc 49 2 1 := rfl
theorem x44_49 : mOps 44 49 = o_back 10 [3] := rfl
theorem x44_52 : mOps 44 52 = o_ic 53 (-1) := rfl
theorem x44_53 : mOps 44 53 = o_ri := rfl
theorem x45_0 : mOps 45 0 = o_al 1 0 := rfl
theorem x45_1 : mOps 45 1 = o_gP 4 7 12 := rfl
theorem x45_4 : mOps 45 4 = o_il 5 1 := rfl
theorem x45_5 : mOps 45 5 = o_al 6 0 := rfl
theorem x45_6 : mOps 45 6 = o_gP 9 7 1 := rfl
theorem x45_9 : mOps 45 9 = o_al 10 0 := rfl
theorem x45_10 : mOps 45 10 = o_gI 13 7 2 := rfl
theorem x45_13 : mOps 45 13 = o_il 14 1 := rfl
theorem x45_14 : mOps 45 14 = o_cV 17 28 2 9 := rfl
theorem x45_17 : mOps 45 17 = o_ic 18 0 := rfl
theorem x45_18 : mOps 45 18 = o_cV 21 9 3 1 := rfl
theorem x45_21 : mOps 45 21 = o_ri := rfl
theorem x46_0 : mOps 46 0 = o_ic 1 3 := rfl
theorem x46_1 : mOps 46 1 = o_al 2 0 := rfl
theorem x46_2 : mOps 46 2 = o_gP 5 7 1 := rfl
theorem x46_5 : mOps 46 5 = o_il 6 1 := rfl
theorem x46_6 : mOps 46 6 = o_al 7 0 := rfl
theorem x46_7 : mOps 46 7 = o_gI 10 7 2 := rfl
theorem x46_10 : mOps 46 10 = o_cV 13 30 2 9 := rfl
theorem x46_13 : mOps 46 13 = o_ii 14 (fun x y => x * y) := rfl
theorem x46_14 : mOps 46 14 = o_ic 15 2 := rfl
theorem x46_15 : mOps 46 15 = o_al 16 0 := rfl
theorem x46_16 : mOps 46 16 = o_gP 19 7 1 := rfl
theorem x46_19 : mOps 46 19 = o_gP 22 9 3 := rfl
theorem x46_22 : mOps 46 22 = o_al 23 0 := rfl
theorem x46_23 : mOps 46 23 = o_gI 26 7 2 := rfl
theorem x46_26 : mOps 46 26 = o_ial 27 := rfl
theorem x46_27 : mOps 46 27 = o_ii 28 (fun x y => x * y) := rfl
theorem x46_28 : mOps 46 28 = o_le 31 35 := rfl
theorem x46_31 : mOps 46 31 = o_ic 32 1 := rfl
theorem x46_32 : mOps 46 32 = o_goto 36 := rfl
theorem x46_35 : mOps 46 35 = o_ic 36 0 := rfl
theorem x46_36 : mOps 46 36 = o_rz := rfl
theorem x47_0 : mOps 47 0 = o_al 1 0 := rfl
theorem x47_1 : mOps 47 1 = o_il 2 1 := rfl
theorem x47_2 : mOps 47 2 = o_cV 5 45 1 7 := rfl
theorem x47_5 : mOps 47 5 = o_ist 6 2 := rfl
theorem x47_6 : mOps 47 6 = o_al 7 0 := rfl
theorem x47_7 : mOps 47 7 = o_gP 10 7 11 := rfl
theorem x47_10 : mOps 47 10 = o_al 11 0 := rfl
theorem x47_11 : mOps 47 11 = o_gI 14 7 2 := rfl
theorem x47_14 : mOps 47 14 = o_il 15 2 := rfl
theorem x47_15 : mOps 47 15 = o_il 16 1 := rfl
theorem x47_16 : mOps 47 16 = o_al 17 0 := rfl
theorem x47_17 : mOps 47 17 = o_gP 20 7 12 := rfl
theorem x47_20 : mOps 47 20 = o_il 21 1 := rfl
theorem x47_21 : mOps 47 21 = o_ic 22 2 := rfl
theorem x47_22 : mOps 47 22 = o_il 23 2 := rfl
theorem x47_23 : mOps 47 23 = o_cV 26 12 3 1 := rfl
theorem x47_26 : mOps 47 26 = o_cV 29 16 4 3 := rfl
theorem x47_29 : mOps 47 29 = o_al 30 0 := rfl
theorem x47_30 : mOps 47 30 = o_cV 33 48 0 7 := rfl
theorem x47_33 : mOps 47 33 = o_rv := rfl
theorem x48_0 : mOps 48 0 = o_al 1 0 := rfl
theorem x48_1 : mOps 48 1 = o_dup 2 := rfl
theorem x48_2 : mOps 48 2 = o_gI 5 7 2 := rfl
theorem x48_5 : mOps 48 5 = o_ic 6 1 := rfl
theorem x48_6 : mOps 48 6 = o_ii 7 (fun x y => x + y) := rfl
theorem x48_7 : mOps 48 7 = o_pI 10 7 2 := rfl
theorem x48_10 : mOps 48 10 = o_al 11 0 := rfl
theorem x48_11 : mOps 48 11 = o_gP 14 7 5 := rfl
theorem x48_14 : mOps 48 14 = o_ic 15 0 := rfl
theorem x48_15 : mOps 48 15 = o_ic 16 (-1) := rfl
theorem x48_16 : mOps 48 16 = o_cV 19 3 2 2 := rfl
theorem x48_19 : mOps 48 19 = o_al 20 0 := rfl
theorem x48_20 : mOps 48 20 = o_gP 23 7 6 := rfl
theorem x48_23 : mOps 48 23 = o_ic 24 0 := rfl
theorem x48_24 : mOps 48 24 = o_ic 25 (-1) := rfl
theorem x48_25 : mOps 48 25 = o_cV 28 3 2 2 := rfl
theorem x48_28 : mOps 48 28 = o_al 29 0 := rfl
theorem x48_29 : mOps 48 29 = o_gP 32 7 12 := rfl
theorem x48_32 : mOps 48 32 = o_ast 33 1 := rfl
theorem x48_33 : mOps 48 33 = o_al 34 1 := rfl
theorem x48_34 : mOps 48 34 = o_cV 37 13 0 1 := rfl
theorem x48_37 : mOps 48 37 = o_al 38 0 := rfl
theorem x48_38 : mOps 48 38 = o_al 39 0 := rfl
theorem x48_39 : mOps 48 39 = o_gP 42 7 13 := rfl
theorem x48_42 : mOps 48 42 = o_pP 45 7 12 := rfl
theorem x48_45 : mOps 48 45 = o_al 46 0 := rfl
theorem x48_46 : mOps 48 46 = o_al 47 1 := rfl
theorem x48_47 : mOps 48 47 = o_pP 50 7 13 := rfl
theorem x48_50 : mOps 48 50 = o_al 51 0 := rfl
theorem x48_51 : mOps 48 51 = o_gP 54 7 14 := rfl
theorem x48_54 : mOps 48 54 = o_cV 57 13 0 1 := rfl
theorem x48_57 : mOps 48 57 = o_al 58 0 := rfl
theorem x48_58 : mOps 48 58 = o_gP 61 7 15 := rfl
theorem x48_61 : mOps 48 61 = o_gP 64 8 2 := rfl
theorem x48_64 : mOps 48 64 = o_cV 67 13 0 1 := rfl
theorem x48_67 : mOps 48 67 = o_rv := rfl
theorem x49_0 : mOps 49 0 = o_al 1 0 := rfl
theorem x49_1 : mOps 49 1 = o_gP 4 7 12 := rfl
theorem x49_4 : mOps 49 4 = o_gI 7 1 3 := rfl
theorem x49_7 : mOps 49 7 = o_ist 8 1 := rfl
theorem x49_8 : mOps 49 8 = o_il 9 1 := rfl
theorem x49_9 : mOps 49 9 = o_al 10 0 := rfl
theorem x49_10 : mOps 49 10 = o_gI 13 7 3 := rfl
theorem x49_13 : mOps 49 13 = o_le 16 62 := rfl
theorem x49_16 : mOps 49 16 = o_al 17 0 := rfl
theorem x49_17 : mOps 49 17 = o_gP 20 7 12 := rfl
theorem x49_20 : mOps 49 20 = o_il 21 1 := rfl
theorem x49_21 : mOps 49 21 = o_ic 22 0 := rfl
theorem x49_22 : mOps 49 22 = o_cV 25 14 2 1 := rfl
theorem x49_25 : mOps 49 25 = o_al 26 0 := rfl
theorem x49_26 : mOps 49 26 = o_gP 29 7 12 := rfl
theorem x49_29 : mOps 49 29 = o_il 30 1 := rfl
theorem x49_30 : mOps 49 30 = o_ic 31 1 := rfl
theorem x49_31 : mOps 49 31 = o_cV 34 14 2 1 := rfl
theorem x49_34 : mOps 49 34 = o_ii 35 (fun x y => x ||| y) := rfl
theorem x49_35 : mOps 49 35 = o_al 36 0 := rfl
theorem x49_36 : mOps 49 36 = o_gP 39 7 12 := rfl
theorem x49_39 : mOps 49 39 = o_il 40 1 := rfl
theorem x49_40 : mOps 49 40 = o_ic 41 2 := rfl
theorem x49_41 : mOps 49 41 = o_cV 44 14 2 1 := rfl
theorem x49_44 : mOps 49 44 = o_ii 45 (fun x y => x ||| y) := rfl
theorem x49_45 : mOps 49 45 = o_ist 46 2 := rfl
theorem x49_46 : mOps 49 46 = o_al 47 0 := rfl
theorem x49_47 : mOps 49 47 = o_il 48 2 := rfl
theorem x49_48 : mOps 49 48 = o_cV 51 50 1 7 := rfl
theorem x49_51 : mOps 49 51 = o_eq0 54 56 := rfl
theorem x49_54 : mOps 49 54 = o_il 55 1 := rfl
theorem x49_55 : mOps 49 55 = o_ri := rfl
theorem x49_56 : mOps 49 56 = o_inc 59 1 (-1) := rfl
theorem x49_59 : mOps 49 59 = o_back 8 [2] := rfl
theorem x49_62 : mOps 49 62 = o_ic 63 (-1) := rfl
theorem x49_63 : mOps 49 63 = o_ri := rfl
theorem x50_0 : mOps 50 0 = o_ic 1 3 := rfl
theorem x50_1 : mOps 50 1 = o_al 2 0 := rfl
theorem x50_2 : mOps 50 2 = o_gP 5 7 1 := rfl
theorem x50_5 : mOps 50 5 = o_il 6 1 := rfl
theorem x50_6 : mOps 50 6 = o_al 7 0 := rfl
theorem x50_7 : mOps 50 7 = o_gI 10 7 2 := rfl
theorem x50_10 : mOps 50 10 = o_cV 13 30 2 9 := rfl
theorem x50_13 : mOps 50 13 = o_ii 14 (fun x y => x * y) := rfl
theorem x50_14 : mOps 50 14 = o_al 15 0 := rfl
theorem x50_15 : mOps 50 15 = o_gP 18 7 1 := rfl
theorem x50_18 : mOps 50 18 = o_gP 21 9 3 := rfl
theorem x50_21 : mOps 50 21 = o_al 22 0 := rfl
theorem x50_22 : mOps 50 22 = o_gI 25 7 2 := rfl
theorem x50_25 : mOps 50 25 = o_ial 26 := rfl
theorem x50_26 : mOps 50 26 = o_le 29 33 := rfl
theorem x50_29 : mOps 50 29 = o_ic 30 1 := rfl
theorem x50_30 : mOps 50 30 = o_goto 34 := rfl
theorem x50_33 : mOps 50 33 = o_ic 34 0 := rfl
theorem x50_34 : mOps 50 34 = o_rz := rfl
theorem x51_0 : mOps 51 0 = o_al 1 0 := rfl
theorem x51_1 : mOps 51 1 = o_al 2 0 := rfl
theorem x51_2 : mOps 51 2 = o_gI 5 7 3 := rfl
theorem x51_5 : mOps 51 5 = o_cV 8 45 1 7 := rfl
theorem x51_8 : mOps 51 8 = o_ist 9 1 := rfl
theorem x51_9 : mOps 51 9 = o_al 10 0 := rfl
theorem x51_10 : mOps 51 10 = o_gI 13 7 4 := rfl
theorem x51_13 : mOps 51 13 = o_ne0 16 22 := rfl
theorem x51_16 : mOps 51 16 = o_il 17 1 := rfl
theorem x51_17 : mOps 51 17 = o_ic 19 (-2) := rfl
theorem x51_19 : mOps 51 19 = o_ne 22 24 := rfl
theorem x51_22 : mOps 51 22 = o_ic 23 0 := rfl
theorem x51_23 : mOps 51 23 = o_rz := rfl
theorem x51_24 : mOps 51 24 = o_al 25 0 := rfl
theorem x51_25 : mOps 51 25 = o_gP 28 7 12 := rfl
theorem x51_28 : mOps 51 28 = o_al 29 0 := rfl
theorem x51_29 : mOps 51 29 = o_gI 32 7 3 := rfl
theorem x51_32 : mOps 51 32 = o_cV 35 10 1 1 := rfl
theorem x51_35 : mOps 51 35 = o_ist 36 2 := rfl
theorem x51_36 : mOps 51 36 = o_il 37 2 := rfl
theorem x51_37 : mOps 51 37 = o_al 38 0 := rfl
theorem x51_38 : mOps 51 38 = o_gI 41 7 3 := rfl
theorem x51_41 : mOps 51 41 = o_lt 44 46 := rfl
theorem x51_44 : mOps 51 44 = o_ic 45 0 := rfl
theorem x51_45 : mOps 51 45 = o_rz := rfl
theorem x51_46 : mOps 51 46 = o_il 47 2 := rfl
theorem x51_47 : mOps 51 47 = o_ic 48 (-1) := rfl
theorem x51_48 : mOps 51 48 = o_le 51 70 := rfl
theorem x51_51 : mOps 51 51 = o_al 52 0 := rfl
theorem x51_52 : mOps 51 52 = o_al 53 0 := rfl
theorem x51_53 : mOps 51 53 = o_gP 56 7 12 := rfl
theorem x51_56 : mOps 51 56 = o_il 57 2 := rfl
theorem x51_57 : mOps 51 57 = o_ic 58 1 := rfl
theorem x51_58 : mOps 51 58 = o_il 59 1 := rfl
theorem x51_59 : mOps 51 59 = o_cV 62 12 3 1 := rfl
theorem x51_62 : mOps 51 62 = o_cV 65 46 1 7 := rfl
theorem x51_65 : mOps 51 65 = o_ne0 68 70 := rfl
theorem x51_68 : mOps 51 68 = o_ic 69 0 := rfl
theorem x51_69 : mOps 51 69 = o_rz := rfl
theorem x51_70 : mOps 51 70 = o_al 71 0 := rfl
theorem x51_71 : mOps 51 71 = o_ic 72 1 := rfl
theorem x51_72 : mOps 51 72 = o_al 73 0 := rfl
theorem x51_73 : mOps 51 73 = o_il 74 1 := rfl
theorem x51_74 : mOps 51 74 = o_il 75 2 := rfl
theorem x51_75 : mOps 51 75 = o_cV 78 52 2 7 := rfl
theorem x51_78 : mOps 51 78 = o_eq0 81 85 := rfl
theorem x51_81 : mOps 51 81 = o_il 82 1 := rfl
theorem x51_82 : mOps 51 82 = o_goto 86 := rfl
theorem x51_85 : mOps 51 85 = o_ic 86 0 := rfl
theorem x51_86 : mOps 51 86 = o_ic 87 (-1) := rfl
theorem x51_87 : mOps 51 87 = o_cV 90 40 3 7 := rfl
theorem x51_90 : mOps 51 90 = o_ic 91 1 := rfl
theorem x51_91 : mOps 51 91 = o_rz := rfl
theorem x52_0 : mOps 52 0 = o_al 1 0 := rfl
theorem x52_1 : mOps 52 1 = o_gI 4 7 7 := rfl
theorem x52_4 : mOps 52 4 = o_ic 5 4 := rfl
theorem x52_5 : mOps 52 5 = o_eq 8 29 := rfl
theorem x52_8 : mOps 52 8 = o_al 9 0 := rfl
theorem x52_9 : mOps 52 9 = o_gP 12 7 5 := rfl
theorem x52_12 : mOps 52 12 = o_cV 15 2 0 2 := rfl
theorem x52_15 : mOps 52 15 = o_ne0 18 29 := rfl
theorem x52_18 : mOps 52 18 = o_al 19 0 := rfl
theorem x52_19 : mOps 52 19 = o_gP 22 7 5 := rfl
theorem x52_22 : mOps 52 22 = o_gI 25 2 0 := rfl
theorem x52_25 : mOps 52 25 = o_il 26 1 := rfl
theorem x52_26 : mOps 52 26 = o_ne 29 31 := rfl
theorem x52_29 : mOps 52 29 = o_ic 30 1 := rfl
theorem x52_30 : mOps 52 30 = o_rz := rfl
theorem x52_31 : mOps 52 31 = o_il 32 2 := rfl
theorem x52_32 : mOps 52 32 = o_ic 33 (-1) := rfl
theorem x52_33 : mOps 52 33 = o_le 36 51 := rfl
theorem x52_36 : mOps 52 36 = o_al 37 0 := rfl
theorem x52_37 : mOps 52 37 = o_gP 40 7 5 := rfl
theorem x52_40 : mOps 52 40 = o_gI 43 2 1 := rfl
theorem x52_43 : mOps 52 43 = o_il 44 2 := rfl
theorem x52_44 : mOps 52 44 = o_gt 47 51 := rfl
theorem x52_47 : mOps 52 47 = o_ic 48 1 := rfl
theorem x52_48 : mOps 52 48 = o_goto 52 := rfl
theorem x52_51 : mOps 52 51 = o_ic 52 0 := rfl
theorem x52_52 : mOps 52 52 = o_rz := rfl
theorem x53_0 : mOps 53 0 = o_al 1 0 := rfl
theorem x53_1 : mOps 53 1 = o_al 2 0 := rfl
theorem x53_2 : mOps 53 2 = o_gI 5 7 3 := rfl
theorem x53_5 : mOps 53 5 = o_cV 8 45 1 7 := rfl
theorem x53_8 : mOps 53 8 = o_ist 9 1 := rfl
theorem x53_9 : mOps 53 9 = o_al 10 0 := rfl
theorem x53_10 : mOps 53 10 = o_gP 13 7 10 := rfl
theorem x53_13 : mOps 53 13 = o_ic 14 0 := rfl
theorem x53_14 : mOps 53 14 = o_bal 15 := rfl
theorem x53_15 : mOps 53 15 = o_ne0 18 31 := rfl
theorem x53_18 : mOps 53 18 = o_al 19 0 := rfl
theorem x53_19 : mOps 53 19 = o_gI 22 7 4 := rfl
theorem x53_22 : mOps 53 22 = o_eq0 25 31 := rfl
theorem x53_25 : mOps 53 25 = o_il 26 1 := rfl
theorem x53_26 : mOps 53 26 = o_ic 28 (-2) := rfl
theorem x53_28 : mOps 53 28 = o_ne 31 33 := rfl
theorem x53_31 : mOps 53 31 = o_ic 32 0 := rfl
theorem x53_32 : mOps 53 32 = o_rz := rfl
theorem x53_33 : mOps 53 33 = o_al 34 0 := rfl
theorem x53_34 : mOps 53 34 = o_al 35 0 := rfl
theorem x53_35 : mOps 53 35 = o_gP 38 7 12 := rfl
theorem x53_38 : mOps 53 38 = o_al 39 0 := rfl
theorem x53_39 : mOps 53 39 = o_gI 42 7 3 := rfl
theorem x53_42 : mOps 53 42 = o_ic 43 1 := rfl
theorem x53_43 : mOps 53 43 = o_il 44 1 := rfl
theorem x53_44 : mOps 53 44 = o_cV 47 12 3 1 := rfl
theorem x53_47 : mOps 53 47 = o_cV 50 46 1 7 := rfl
theorem x53_50 : mOps 53 50 = o_ne0 53 55 := rfl
theorem x53_53 : mOps 53 53 = o_ic 54 0 := rfl
theorem x53_54 : mOps 53 54 = o_rz := rfl
theorem x53_55 : mOps 53 55 = o_al 56 0 := rfl
theorem x53_56 : mOps 53 56 = o_gP 59 7 10 := rfl
theorem x53_59 : mOps 53 59 = o_ic 60 0 := rfl
theorem x53_60 : mOps 53 60 = o_ic 61 1 := rfl
theorem x53_61 : mOps 53 61 = o_bas 62 := rfl
theorem x53_62 : mOps 53 62 = o_al 63 0 := rfl
theorem x53_63 : mOps 53 63 = o_gI 66 7 4 := rfl
theorem x53_66 : mOps 53 66 = o_ic 67 1 := rfl
theorem x53_67 : mOps 53 67 = o_ne 70 89 := rfl
theorem x53_70 : mOps 53 70 = o_al 71 0 := rfl
theorem x53_71 : mOps 53 71 = o_gP 74 7 5 := rfl
theorem x53_74 : mOps 53 74 = o_il 75 1 := rfl
theorem x53_75 : mOps 53 75 = o_al 76 0 := rfl
theorem x53_76 : mOps 53 76 = o_gI 79 7 3 := rfl
theorem x53_79 : mOps 53 79 = o_cV 82 3 2 2 := rfl
theorem x53_82 : mOps 53 82 = o_al 83 0 := rfl
theorem x53_83 : mOps 53 83 = o_ic 84 2 := rfl
theorem x53_84 : mOps 53 84 = o_il 85 1 := rfl
theorem x53_85 : mOps 53 85 = o_ic 86 (-1) := rfl
theorem x53_86 : mOps 53 86 = o_cV 89 40 3 7 := rfl
theorem x53_89 : mOps 53 89 = o_al 90 0 := rfl
theorem x53_90 : mOps 53 90 = o_gP 93 7 6 := rfl
theorem x53_93 : mOps 53 93 = o_il 94 1 := rfl
theorem x53_94 : mOps 53 94 = o_al 95 0 := rfl
theorem x53_95 : mOps 53 95 = o_gI 98 7 3 := rfl
theorem x53_98 : mOps 53 98 = o_cV 101 3 2 2 := rfl
theorem x53_101 : mOps 53 101 = o_ic 102 1 := rfl
theorem x53_102 : mOps 53 102 = o_rz := rfl
theorem x54_0 : mOps 54 0 = o_al 1 0 := rfl
theorem x54_1 : mOps 54 1 = o_gI 4 7 4 := rfl
theorem x54_4 : mOps 54 4 = o_ic 5 1 := rfl
theorem x54_5 : mOps 54 5 = o_ne 8 28 := rfl
theorem x54_8 : mOps 54 8 = o_al 9 0 := rfl
theorem x54_9 : mOps 54 9 = o_al 10 0 := rfl
theorem x54_10 : mOps 54 10 = o_gP 13 7 12 := rfl
theorem x54_13 : mOps 54 13 = o_al 14 0 := rfl
theorem x54_14 : mOps 54 14 = o_gI 17 7 3 := rfl
theorem x54_17 : mOps 54 17 = o_ic 18 1 := rfl
theorem x54_18 : mOps 54 18 = o_ic 19 0 := rfl
theorem x54_19 : mOps 54 19 = o_cV 22 12 3 1 := rfl
theorem x54_22 : mOps 54 22 = o_cV 25 46 1 7 := rfl
theorem x54_25 : mOps 54 25 = o_ne0 28 30 := rfl
theorem x54_28 : mOps 54 28 = o_ic 29 0 := rfl
theorem x54_29 : mOps 54 29 = o_rz := rfl
theorem x54_30 : mOps 54 30 = o_al 31 0 := rfl
theorem x54_31 : mOps 54 31 = o_ic 32 2 := rfl
theorem x54_32 : mOps 54 32 = o_ic 33 0 := rfl
theorem x54_33 : mOps 54 33 = o_ic 34 (-1) := rfl
theorem x54_34 : mOps 54 34 = o_cV 37 40 3 7 := rfl
theorem x54_37 : mOps 54 37 = o_ic 38 1 := rfl
theorem x54_38 : mOps 54 38 = o_rz := rfl
theorem x55_0 : mOps 55 0 = o_al 1 0 := rfl
theorem x55_1 : mOps 55 1 = o_gP 4 7 10 := rfl
theorem x55_4 : mOps 55 4 = o_ic 5 1 := rfl
theorem x55_5 : mOps 55 5 = o_bal 6 := rfl
theorem x55_6 : mOps 55 6 = o_ne0 9 36 := rfl
theorem x55_9 : mOps 55 9 = o_al 10 0 := rfl
theorem x55_10 : mOps 55 10 = o_gI 13 7 4 := rfl
theorem x55_13 : mOps 55 13 = o_ic 14 1 := rfl
theorem x55_14 : mOps 55 14 = o_ne 17 36 := rfl
theorem x55_17 : mOps 55 17 = o_al 18 0 := rfl
theorem x55_18 : mOps 55 18 = o_al 19 0 := rfl
theorem x55_19 : mOps 55 19 = o_gP 22 7 12 := rfl
theorem x55_22 : mOps 55 22 = o_al 23 0 := rfl
theorem x55_23 : mOps 55 23 = o_gI 26 7 3 := rfl
theorem x55_26 : mOps 55 26 = o_ic 27 1 := rfl
theorem x55_27 : mOps 55 27 = o_cV 30 14 2 1 := rfl
theorem x55_30 : mOps 55 30 = o_cV 33 46 1 7 := rfl
theorem x55_33 : mOps 55 33 = o_ne0 36 38 := rfl
theorem x55_36 : mOps 55 36 = o_ic 37 0 := rfl
theorem x55_37 : mOps 55 37 = o_rz := rfl
theorem x55_38 : mOps 55 38 = o_al 39 0 := rfl
theorem x55_39 : mOps 55 39 = o_gP 42 7 10 := rfl
theorem x55_42 : mOps 55 42 = o_ic 43 1 := rfl
theorem x55_43 : mOps 55 43 = o_ic 44 1 := rfl
theorem x55_44 : mOps 55 44 = o_bas 45 := rfl
theorem x55_45 : mOps 55 45 = o_al 46 0 := rfl
theorem x55_46 : mOps 55 46 = o_gP 49 7 9 := rfl
theorem x55_49 : mOps 55 49 = o_ic 50 1 := rfl
theorem x55_50 : mOps 55 50 = o_il 51 1 := rfl
theorem x55_51 : mOps 55 51 = o_ic 52 3 := rfl
theorem x55_52 : mOps 55 52 = o_ii 53 (fun x y => x + y) := rfl
theorem x55_53 : mOps 55 53 = o_al 54 0 := rfl
theorem x55_54 : mOps 55 54 = o_gI 57 7 3 := rfl
theorem x55_57 : mOps 55 57 = o_ii 58 (fun x y => x + y) := rfl
theorem x55_58 : mOps 55 58 = o_ias 59 := rfl
theorem x55_59 : mOps 55 59 = o_ic 60 1 := rfl
theorem x55_60 : mOps 55 60 = o_rz := rfl
theorem x56_0 : mOps 56 0 = o_al 1 0 := rfl
theorem x56_1 : mOps 56 1 = o_gP 4 7 10 := rfl
theorem x56_4 : mOps 56 4 = o_ic 5 2 := rfl
theorem x56_5 : mOps 56 5 = o_bal 6 := rfl
theorem x56_6 : mOps 56 6 = o_ne0 9 28 := rfl
theorem x56_9 : mOps 56 9 = o_al 10 0 := rfl
theorem x56_10 : mOps 56 10 = o_al 11 0 := rfl
theorem x56_11 : mOps 56 11 = o_gP 14 7 12 := rfl
theorem x56_14 : mOps 56 14 = o_al 15 0 := rfl
theorem x56_15 : mOps 56 15 = o_gI 18 7 3 := rfl
theorem x56_18 : mOps 56 18 = o_ic 19 2 := rfl
theorem x56_19 : mOps 56 19 = o_cV 22 14 2 1 := rfl
theorem x56_22 : mOps 56 22 = o_cV 25 46 1 7 := rfl
theorem x56_25 : mOps 56 25 = o_ne0 28 30 := rfl
theorem x56_28 : mOps 56 28 = o_ic 29 0 := rfl
theorem x56_29 : mOps 56 29 = o_rz := rfl
theorem x56_30 : mOps 56 30 = o_al 31 0 := rfl
theorem x56_31 : mOps 56 31 = o_gP 34 7 10 := rfl
theorem x56_34 : mOps 56 34 = o_ic 35 2 := rfl
theorem x56_35 : mOps 56 35 = o_ic 36 1 := rfl
theorem x56_36 : mOps 56 36 = o_bas 37 := rfl
theorem x56_37 : mOps 56 37 = o_al 38 0 := rfl
theorem x56_38 : mOps 56 38 = o_gP 41 7 9 := rfl
theorem x56_41 : mOps 56 41 = o_ic 42 2 := rfl
theorem x56_42 : mOps 56 42 = o_il 43 1 := rfl
theorem x56_43 : mOps 56 43 = o_ic 44 3 := rfl
theorem x56_44 : mOps 56 44 = o_ii 45 (fun x y => x + y) := rfl
theorem x56_45 : mOps 56 45 = o_al 46 0 := rfl
theorem x56_46 : mOps 56 46 = o_gI 49 7 3 := rfl
theorem x56_49 : mOps 56 49 = o_ii 50 (fun x y => x + y) := rfl
theorem x56_50 : mOps 56 50 = o_ias 51 := rfl
theorem x56_51 : mOps 56 51 = o_ic 52 1 := rfl
theorem x56_52 : mOps 56 52 = o_rz := rfl
theorem x57_0 : mOps 57 0 = o_al 1 0 := rfl
theorem x57_1 : mOps 57 1 = o_ic 2 0 := rfl
theorem x57_2 : mOps 57 2 = o_pI 5 7 8 := rfl
theorem x57_5 : mOps 57 5 = o_al 6 0 := rfl
theorem x57_6 : mOps 57 6 = o_gP 9 7 12 := rfl
theorem x57_9 : mOps 57 9 = o_cV 12 13 0 1 := rfl
theorem x57_12 : mOps 57 12 = o_al 13 0 := rfl
theorem x57_13 : mOps 57 13 = o_gP 16 7 13 := rfl
theorem x57_16 : mOps 57 16 = o_cV 19 13 0 1 := rfl
theorem x57_19 : mOps 57 19 = o_al 20 0 := rfl
theorem x57_20 : mOps 57 20 = o_gP 23 7 14 := rfl
theorem x57_23 : mOps 57 23 = o_gI 26 1 3 := rfl
theorem x57_26 : mOps 57 26 = o_ist 27 2 := rfl
theorem x57_27 : mOps 57 27 = o_ic 28 0 := rfl
theorem x57_28 : mOps 57 28 = o_ist 29 3 := rfl
theorem x57_29 : mOps 57 29 = o_il 30 3 := rfl
theorem x57_30 : mOps 57 30 = o_il 31 2 := rfl
theorem x57_31 : mOps 57 31 = o_gt 34 102 := rfl
theorem x57_34 : mOps 57 34 = o_ic 35 0 := rfl
theorem x57_35 : mOps 57 35 = o_ist 37 4 := rfl
theorem x57_37 : mOps 57 37 = o_il 39 4 := rfl
theorem x57_39 : mOps 57 39 = o_ic 40 3 := rfl
theorem x57_40 : mOps 57 40 = o_ge 43 96 := rfl
theorem x57_43 : mOps 57 43 = o_al 44 0 := rfl
theorem x57_44 : mOps 57 44 = o_gP 47 7 14 := rfl
theorem x57_47 : mOps 57 47 = o_il 48 3 := rfl
theorem x57_48 : mOps 57 48 = o_ic 49 0 := rfl
theorem x57_49 : mOps 57 49 = o_il 51 4 := rfl
theorem x57_51 : mOps 57 51 = o_cV 54 8 3 1 := rfl
theorem x57_54 : mOps 57 54 = o_eq0 57 90 := rfl
theorem x57_57 : mOps 57 57 = o_al 58 0 := rfl
theorem x57_58 : mOps 57 58 = o_gP 61 7 12 := rfl
theorem x57_61 : mOps 57 61 = o_il 62 3 := rfl
theorem x57_62 : mOps 57 62 = o_al 63 0 := rfl
theorem x57_63 : mOps 57 63 = o_gI 66 7 0 := rfl
theorem x57_66 : mOps 57 66 = o_il 68 4 := rfl
theorem x57_68 : mOps 57 68 = o_al 69 0 := rfl
theorem x57_69 : mOps 57 69 = o_gP 72 7 14 := rfl
theorem x57_72 : mOps 57 72 = o_il 73 3 := rfl
theorem x57_73 : mOps 57 73 = o_ic 74 0 := rfl
theorem x57_74 : mOps 57 74 = o_il 76 4 := rfl
theorem x57_76 : mOps 57 76 = o_cV 79 9 3 1 := rfl
theorem x57_79 : mOps 57 79 = o_al 80 0 := rfl
theorem x57_80 : mOps 57 80 = o_gP 83 7 14 := rfl
theorem x57_83 : mOps 57 83 = o_il 84 3 := rfl
theorem x57_84 : mOps 57 84 = o_cV 87 10 1 1 := rfl
theorem x57_87 : mOps 57 87 = o_cV 90 11 5 1 := rfl
theorem x57_90 : mOps 57 90 = o_inc 93 4 1 := rfl
theorem x57_93 : mOps 57 93 = o_back 37 [] := rfl
theorem x57_96 : mOps 57 96 = o_inc 99 3 1 := rfl
theorem x57_99 : mOps 57 99 = o_back 29 [4] := rfl
theorem x57_102 : mOps 57 102 = o_al 103 0 := rfl
theorem x57_103 : mOps 57 103 = o_al 104 0 := rfl
theorem x57_104 : mOps 57 104 = o_gI 107 7 3 := rfl
theorem x57_107 : mOps 57 107 = o_il 108 1 := rfl
theorem x57_108 : mOps 57 108 = o_cV 111 38 2 7 := rfl
theorem x57_111 : mOps 57 111 = o_rv := rfl
theorem x58_0 : mOps 58 0 = o_al 1 1 := rfl
theorem x58_1 : mOps 58 1 = o_gI 4 6 2 := rfl
theorem x58_4 : mOps 58 4 = o_al 5 0 := rfl
theorem x58_5 : mOps 58 5 = o_gI 8 7 2 := rfl
theorem x58_8 : mOps 58 8 = o_eq 11 26 := rfl
theorem x58_11 : mOps 58 11 = o_al 12 1 := rfl
theorem x58_12 : mOps 58 12 = o_gI 15 6 2 := rfl
theorem x58_15 : mOps 58 15 = o_al 16 0 := rfl
theorem x58_16 : mOps 58 16 = o_gI 19 7 2 := rfl
theorem x58_19 : mOps 58 19 = o_ic 20 1 := rfl
theorem x58_20 : mOps 58 20 = o_ii 21 (fun x y => x + y) := rfl
theorem x58_21 : mOps 58 21 = o_eq 24 26 := rfl
theorem x58_24 : mOps 58 24 = o_ic 25 1 := rfl
theorem x58_25 : mOps 58 25 = o_rz := rfl
theorem x58_26 : mOps 58 26 = o_al 27 1 := rfl
theorem x58_27 : mOps 58 27 = o_gI 30 6 2 := rfl
theorem x58_30 : mOps 58 30 = o_al 31 0 := rfl
theorem x58_31 : mOps 58 31 = o_gI 34 7 2 := rfl
theorem x58_34 : mOps 58 34 = o_ne 37 44 := rfl
theorem x58_37 : mOps 58 37 = o_al 38 0 := rfl
theorem x58_38 : mOps 58 38 = o_gP 41 7 12 := rfl
theorem x58_41 : mOps 58 41 = o_goto 48 := rfl
theorem x58_44 : mOps 58 44 = o_al 45 0 := rfl
theorem x58_45 : mOps 58 45 = o_gP 48 7 13 := rfl
theorem x58_48 : mOps 58 48 = o_ast 49 2 := rfl
theorem x58_49 : mOps 58 49 = o_al 50 2 := rfl
theorem x58_50 : mOps 58 50 = o_al 51 1 := rfl
theorem x58_51 : mOps 58 51 = o_gI 54 6 3 := rfl
theorem x58_54 : mOps 58 54 = o_al 55 1 := rfl
theorem x58_55 : mOps 58 55 = o_gI 58 6 0 := rfl
theorem x58_58 : mOps 58 58 = o_al 59 1 := rfl
theorem x58_59 : mOps 58 59 = o_gI 62 6 4 := rfl
theorem x58_62 : mOps 58 62 = o_cV 65 8 3 1 := rfl
theorem x58_65 : mOps 58 65 = o_ne0 68 94 := rfl
theorem x58_68 : mOps 58 68 = o_al 69 2 := rfl
theorem x58_69 : mOps 58 69 = o_al 70 1 := rfl
theorem x58_70 : mOps 58 70 = o_gI 73 6 3 := rfl
theorem x58_73 : mOps 58 73 = o_al 74 1 := rfl
theorem x58_74 : mOps 58 74 = o_gI 77 6 0 := rfl
theorem x58_77 : mOps 58 77 = o_al 78 1 := rfl
theorem x58_78 : mOps 58 78 = o_gI 81 6 4 := rfl
theorem x58_81 : mOps 58 81 = o_al 82 1 := rfl
theorem x58_82 : mOps 58 82 = o_gI 85 6 5 := rfl
theorem x58_85 : mOps 58 85 = o_al 86 1 := rfl
theorem x58_86 : mOps 58 86 = o_gI 89 6 6 := rfl
theorem x58_89 : mOps 58 89 = o_cV 92 11 5 1 := rfl
theorem x58_92 : mOps 58 92 = o_ic 93 1 := rfl
theorem x58_93 : mOps 58 93 = o_rz := rfl
theorem x58_94 : mOps 58 94 = o_al 95 1 := rfl
theorem x58_95 : mOps 58 95 = o_gI 98 6 4 := rfl
theorem x58_98 : mOps 58 98 = o_ne0 101 118 := rfl
theorem x58_101 : mOps 58 101 = o_al 102 2 := rfl
theorem x58_102 : mOps 58 102 = o_al 103 1 := rfl
theorem x58_103 : mOps 58 103 = o_gI 106 6 3 := rfl
theorem x58_106 : mOps 58 106 = o_cV 109 10 1 1 := rfl
theorem x58_109 : mOps 58 109 = o_al 110 1 := rfl
theorem x58_110 : mOps 58 110 = o_gI 113 6 6 := rfl
theorem x58_113 : mOps 58 113 = o_eq 116 118 := rfl
theorem x58_116 : mOps 58 116 = o_ic 117 0 := rfl
theorem x58_117 : mOps 58 117 = o_rz := rfl
theorem x58_118 : mOps 58 118 = o_al 119 2 := rfl
theorem x58_119 : mOps 58 119 = o_al 120 1 := rfl
theorem x58_120 : mOps 58 120 = o_gI 123 6 3 := rfl
theorem x58_123 : mOps 58 123 = o_al 124 1 := rfl
theorem x58_124 : mOps 58 124 = o_gI 127 6 0 := rfl
theorem x58_127 : mOps 58 127 = o_al 128 1 := rfl
theorem x58_128 : mOps 58 128 = o_gI 131 6 4 := rfl
theorem x58_131 : mOps 58 131 = o_cV 134 9 3 1 := rfl
theorem x58_134 : mOps 58 134 = o_al 135 1 := rfl
theorem x58_135 : mOps 58 135 = o_gI 138 6 5 := rfl
theorem x58_138 : mOps 58 138 = o_ne 141 145 := rfl
theorem x58_141 : mOps 58 141 = o_ic 142 1 := rfl
theorem x58_142 : mOps 58 142 = o_goto 146 := rfl
theorem x58_145 : mOps 58 145 = o_ic 146 0 := rfl
theorem x58_146 : mOps 58 146 = o_rz := rfl
theorem x59_0 : mOps 59 0 = o_al 1 0 := rfl
theorem x59_1 : mOps 59 1 = o_gP 4 7 9 := rfl
theorem x59_4 : mOps 59 4 = o_il 5 1 := rfl
theorem x59_5 : mOps 59 5 = o_ic 6 0 := rfl
theorem x59_6 : mOps 59 6 = o_ias 7 := rfl
theorem x59_7 : mOps 59 7 = o_il 8 1 := rfl
theorem x59_8 : mOps 59 8 = o_ne0 11 28 := rfl
theorem x59_11 : mOps 59 11 = o_al 12 0 := rfl
theorem x59_12 : mOps 59 12 = o_gI 15 7 4 := rfl
theorem x59_15 : mOps 59 15 = o_ne0 18 28 := rfl
theorem x59_18 : mOps 59 18 = o_al 19 0 := rfl
theorem x59_19 : mOps 59 19 = o_ic 20 1 := rfl
theorem x59_20 : mOps 59 20 = o_ic 21 0 := rfl
theorem x59_21 : mOps 59 21 = o_ic 22 (-1) := rfl
theorem x59_22 : mOps 59 22 = o_cV 25 40 3 7 := rfl
theorem x59_25 : mOps 59 25 = o_goto 67 := rfl
theorem x59_28 : mOps 59 28 = o_il 29 1 := rfl
theorem x59_29 : mOps 59 29 = o_ic 30 1 := rfl
theorem x59_30 : mOps 59 30 = o_ne 33 51 := rfl
theorem x59_33 : mOps 59 33 = o_al 34 0 := rfl
theorem x59_34 : mOps 59 34 = o_gI 37 7 4 := rfl
theorem x59_37 : mOps 59 37 = o_ic 38 1 := rfl
theorem x59_38 : mOps 59 38 = o_ne 41 51 := rfl
theorem x59_41 : mOps 59 41 = o_al 42 0 := rfl
theorem x59_42 : mOps 59 42 = o_ic 43 2 := rfl
theorem x59_43 : mOps 59 43 = o_ic 44 0 := rfl
theorem x59_44 : mOps 59 44 = o_ic 45 (-1) := rfl
theorem x59_45 : mOps 59 45 = o_cV 48 40 3 7 := rfl
theorem x59_48 : mOps 59 48 = o_goto 67 := rfl
theorem x59_51 : mOps 59 51 = o_il 52 1 := rfl
theorem x59_52 : mOps 59 52 = o_ic 53 2 := rfl
theorem x59_53 : mOps 59 53 = o_ne 56 67 := rfl
theorem x59_56 : mOps 59 56 = o_al 57 0 := rfl
theorem x59_57 : mOps 59 57 = o_al 58 0 := rfl
theorem x59_58 : mOps 59 58 = o_gI 61 7 3 := rfl
theorem x59_61 : mOps 59 61 = o_ic 62 1 := rfl
theorem x59_62 : mOps 59 62 = o_ii 63 (fun x y => x + y) := rfl
theorem x59_63 : mOps 59 63 = o_il 64 2 := rfl
theorem x59_64 : mOps 59 64 = o_cV 67 38 2 7 := rfl
theorem x59_67 : mOps 59 67 = o_rv := rfl
theorem x60_0 : mOps 60 0 = o_al 1 1 := rfl
theorem x60_1 : mOps 60 1 = o_gP 4 7 11 := rfl
theorem x60_4 : mOps 60 4 = o_ast 5 2 := rfl
theorem x60_5 : mOps 60 5 = o_al 6 0 := rfl
theorem x60_6 : mOps 60 6 = o_gP 9 7 11 := rfl
theorem x60_9 : mOps 60 9 = o_al 10 0 := rfl
theorem x60_10 : mOps 60 10 = o_gI 13 7 2 := rfl
theorem x60_13 : mOps 60 13 = o_al 14 2 := rfl
theorem x60_14 : mOps 60 14 = o_gP 17 3 0 := rfl
theorem x60_17 : mOps 60 17 = o_al 18 0 := rfl
theorem x60_18 : mOps 60 18 = o_gI 21 7 2 := rfl
theorem x60_21 : mOps 60 21 = o_ial 22 := rfl
theorem x60_22 : mOps 60 22 = o_al 23 2 := rfl
theorem x60_23 : mOps 60 23 = o_gP 26 3 1 := rfl
theorem x60_26 : mOps 60 26 = o_al 27 0 := rfl
theorem x60_27 : mOps 60 27 = o_gI 30 7 2 := rfl
theorem x60_30 : mOps 60 30 = o_ial 31 := rfl
theorem x60_31 : mOps 60 31 = o_al 32 2 := rfl
theorem x60_32 : mOps 60 32 = o_gP 35 3 2 := rfl
theorem x60_35 : mOps 60 35 = o_al 36 0 := rfl
theorem x60_36 : mOps 60 36 = o_gI 39 7 2 := rfl
theorem x60_39 : mOps 60 39 = o_ial 40 := rfl
theorem x60_40 : mOps 60 40 = o_cV 43 16 4 3 := rfl
theorem x60_43 : mOps 60 43 = o_al 44 0 := rfl
theorem x60_44 : mOps 60 44 = o_cV 47 48 0 7 := rfl
theorem x60_47 : mOps 60 47 = o_rv := rfl
theorem x61_0 : mOps 61 0 = o_al 1 0 := rfl
theorem x61_1 : mOps 61 1 = o_obj 4 := rfl
theorem x61_4 : mOps 61 4 = o_al 5 0 := rfl
theorem x61_5 : mOps 61 5 = o_new 8 5 3 := rfl
theorem x61_8 : mOps 61 8 = o_dup 9 := rfl
theorem x61_9 : mOps 61 9 = o_cI 12 31 0 := rfl
theorem x61_12 : mOps 61 12 = o_pP 15 11 2 := rfl
theorem x61_15 : mOps 61 15 = o_al 16 0 := rfl
theorem x61_16 : mOps 61 16 = o_new 19 10 4 := rfl
theorem x61_19 : mOps 61 19 = o_dup 20 := rfl
theorem x61_20 : mOps 61 20 = o_cI 23 22 0 := rfl
theorem x61_23 : mOps 61 23 = o_pP 26 11 3 := rfl
theorem x61_26 : mOps 61 26 = o_al 27 0 := rfl
theorem x61_27 : mOps 61 27 = o_new 30 4 2 := rfl
theorem x61_30 : mOps 61 30 = o_dup 31 := rfl
theorem x61_31 : mOps 61 31 = o_cI 34 18 0 := rfl
theorem x61_34 : mOps 61 34 = o_pP 37 11 4 := rfl
theorem x61_37 : mOps 61 37 = o_al 38 0 := rfl
theorem x61_38 : mOps 61 38 = o_new 41 9 4 := rfl
theorem x61_41 : mOps 61 41 = o_dup 42 := rfl
theorem x61_42 : mOps 61 42 = o_il 43 1 := rfl
theorem x61_43 : mOps 61 43 = o_il 44 2 := rfl
theorem x61_44 : mOps 61 44 = o_cI 47 26 2 := rfl
theorem x61_47 : mOps 61 47 = o_pP 50 11 0 := rfl
theorem x61_50 : mOps 61 50 = o_al 51 0 := rfl
theorem x61_51 : mOps 61 51 = o_al 52 0 := rfl
theorem x61_52 : mOps 61 52 = o_gP 55 11 0 := rfl
theorem x61_55 : mOps 61 55 = o_gI 58 9 0 := rfl
theorem x61_58 : mOps 61 58 = o_nwa 61 24 := rfl
theorem x61_61 : mOps 61 61 = o_pP 64 11 1 := rfl
theorem x61_64 : mOps 61 64 = o_ic 65 0 := rfl
theorem x61_65 : mOps 61 65 = o_ist 66 3 := rfl
theorem x61_66 : mOps 61 66 = o_il 67 3 := rfl
theorem x61_67 : mOps 61 67 = o_al 68 0 := rfl
theorem x61_68 : mOps 61 68 = o_gP 71 11 0 := rfl
theorem x61_71 : mOps 61 71 = o_gI 74 9 0 := rfl
theorem x61_74 : mOps 61 74 = o_ge 77 101 := rfl
theorem x61_77 : mOps 61 77 = o_al 78 0 := rfl
theorem x61_78 : mOps 61 78 = o_gP 81 11 1 := rfl
theorem x61_81 : mOps 61 81 = o_il 82 3 := rfl
theorem x61_82 : mOps 61 82 = o_new 85 7 18 := rfl
theorem x61_85 : mOps 61 85 = o_dup 86 := rfl
theorem x61_86 : mOps 61 86 = o_il 87 3 := rfl
theorem x61_87 : mOps 61 87 = o_al 88 0 := rfl
theorem x61_88 : mOps 61 88 = o_gP 91 11 0 := rfl
theorem x61_91 : mOps 61 91 = o_cI 94 36 2 := rfl
theorem x61_94 : mOps 61 94 = o_aas 95 := rfl
theorem x61_95 : mOps 61 95 = o_inc 98 3 1 := rfl
theorem x61_98 : mOps 61 98 = o_back 66 [] := rfl
theorem x61_101 : mOps 61 101 = o_rv := rfl
theorem x62_0 : mOps 62 0 = o_al 1 0 := rfl
theorem x62_1 : mOps 62 1 = o_il 2 1 := rfl
theorem x62_2 : mOps 62 2 = o_cV 5 63 1 11 := rfl
theorem x62_5 : mOps 62 5 = o_eq0 8 19 := rfl
theorem x62_8 : mOps 62 8 = o_il 9 2 := rfl
theorem x62_9 : mOps 62 9 = o_ic 10 1 := rfl
theorem x62_10 : mOps 62 10 = o_lt 13 19 := rfl
theorem x62_13 : mOps 62 13 = o_il 14 2 := rfl
theorem x62_14 : mOps 62 14 = o_ic 16 1000000 := rfl
theorem x62_16 : mOps 62 16 = o_le 19 21 := rfl
theorem x62_19 : mOps 62 19 = o_ic 20 (-1) := rfl
theorem x62_20 : mOps 62 20 = o_ri := rfl
theorem x62_21 : mOps 62 21 = o_al 22 0 := rfl
theorem x62_22 : mOps 62 22 = o_gI 25 11 5 := rfl
theorem x62_25 : mOps 62 25 = o_ne0 28 32 := rfl
theorem x62_28 : mOps 62 28 = o_ic 29 1 := rfl
theorem x62_29 : mOps 62 29 = o_goto 38 := rfl
theorem x62_32 : mOps 62 32 = o_al 33 0 := rfl
theorem x62_33 : mOps 62 33 = o_cV 36 64 0 11 := rfl
theorem x62_36 : mOps 62 36 = o_ic 37 1 := rfl
theorem x62_37 : mOps 62 37 = o_ii 38 (fun x y => x + y) := rfl
theorem x62_38 : mOps 62 38 = o_ist 39 3 := rfl
theorem x62_39 : mOps 62 39 = o_al 40 0 := rfl
theorem x62_40 : mOps 62 40 = o_gP 43 11 0 := rfl
theorem x62_43 : mOps 62 43 = o_il 44 1 := rfl
theorem x62_44 : mOps 62 44 = o_il 45 2 := rfl
theorem x62_45 : mOps 62 45 = o_il 46 3 := rfl
theorem x62_46 : mOps 62 46 = o_cV 49 27 3 9 := rfl
theorem x62_49 : mOps 62 49 = o_il 50 3 := rfl
theorem x62_50 : mOps 62 50 = o_ri := rfl
theorem x63_0 : mOps 63 0 = o_il 1 1 := rfl
theorem x63_1 : mOps 63 1 = o_lt0 4 19 := rfl
theorem x63_4 : mOps 63 4 = o_il 5 1 := rfl
theorem x63_5 : mOps 63 5 = o_al 6 0 := rfl
theorem x63_6 : mOps 63 6 = o_gP 9 11 0 := rfl
theorem x63_9 : mOps 63 9 = o_gI 12 9 0 := rfl
theorem x63_12 : mOps 63 12 = o_ge 15 19 := rfl
theorem x63_15 : mOps 63 15 = o_ic 16 1 := rfl
theorem x63_16 : mOps 63 16 = o_goto 20 := rfl
theorem x63_19 : mOps 63 19 = o_ic 20 0 := rfl
theorem x63_20 : mOps 63 20 = o_rz := rfl
theorem x64_0 : mOps 64 0 = o_ic 1 1 := rfl
theorem x64_1 : mOps 64 1 = o_ist 2 1 := rfl
theorem x64_2 : mOps 64 2 = o_ic 3 0 := rfl
theorem x64_3 : mOps 64 3 = o_ist 4 2 := rfl
theorem x64_4 : mOps 64 4 = o_il 5 2 := rfl
theorem x64_5 : mOps 64 5 = o_al 6 0 := rfl
theorem x64_6 : mOps 64 6 = o_gP 9 11 0 := rfl
theorem x64_9 : mOps 64 9 = o_gI 12 9 0 := rfl
theorem x64_12 : mOps 64 12 = o_ge 15 35 := rfl
theorem x64_15 : mOps 64 15 = o_il 16 1 := rfl
theorem x64_16 : mOps 64 16 = o_al 17 0 := rfl
theorem x64_17 : mOps 64 17 = o_gP 20 11 1 := rfl
theorem x64_20 : mOps 64 20 = o_il 21 2 := rfl
theorem x64_21 : mOps 64 21 = o_aal 22 := rfl
theorem x64_22 : mOps 64 22 = o_gI 25 7 2 := rfl
theorem x64_25 : mOps 64 25 = o_max 28 := rfl
theorem x64_28 : mOps 64 28 = o_ist 29 1 := rfl
theorem x64_29 : mOps 64 29 = o_inc 32 2 1 := rfl
theorem x64_32 : mOps 64 32 = o_back 4 [] := rfl
theorem x64_35 : mOps 64 35 = o_il 36 1 := rfl
theorem x64_36 : mOps 64 36 = o_ri := rfl
theorem x65_0 : mOps 65 0 = o_al 1 0 := rfl
theorem x65_1 : mOps 65 1 = o_il 2 1 := rfl
theorem x65_2 : mOps 65 2 = o_cV 5 63 1 11 := rfl
theorem x65_5 : mOps 65 5 = o_eq0 8 17 := rfl
theorem x65_8 : mOps 65 8 = o_il 9 2 := rfl
theorem x65_9 : mOps 65 9 = o_lt0 12 17 := rfl
theorem x65_12 : mOps 65 12 = o_il 13 2 := rfl
theorem x65_13 : mOps 65 13 = o_ic 14 5 := rfl
theorem x65_14 : mOps 65 14 = o_le 17 19 := rfl
theorem x65_17 : mOps 65 17 = o_ic 18 (-1) := rfl
theorem x65_18 : mOps 65 18 = o_ri := rfl
theorem x65_19 : mOps 65 19 = o_al 20 0 := rfl
theorem x65_20 : mOps 65 20 = o_gP 23 11 1 := rfl
theorem x65_23 : mOps 65 23 = o_il 24 1 := rfl
theorem x65_24 : mOps 65 24 = o_aal 25 := rfl
theorem x65_25 : mOps 65 25 = o_gI 28 7 7 := rfl
theorem x65_28 : mOps 65 28 = o_ist 29 3 := rfl
theorem x65_29 : mOps 65 29 = o_al 30 0 := rfl
theorem x65_30 : mOps 65 30 = o_gP 33 11 1 := rfl
theorem x65_33 : mOps 65 33 = o_il 34 1 := rfl
theorem x65_34 : mOps 65 34 = o_aal 35 := rfl
theorem x65_35 : mOps 65 35 = o_il 36 2 := rfl
theorem x65_36 : mOps 65 36 = o_pI 39 7 7 := rfl
theorem x65_39 : mOps 65 39 = o_il 40 3 := rfl
theorem x65_40 : mOps 65 40 = o_ri := rfl
theorem x66_0 : mOps 66 0 = o_il 1 1 := rfl
theorem x66_1 : mOps 66 1 = o_al 2 0 := rfl
theorem x66_2 : mOps 66 2 = o_gI 5 11 6 := rfl
theorem x66_5 : mOps 66 5 = o_lt 8 28 := rfl
theorem x66_8 : mOps 66 8 = o_il 9 2 := rfl
theorem x66_9 : mOps 66 9 = o_lt0 12 28 := rfl
theorem x66_12 : mOps 66 12 = o_il 13 2 := rfl
theorem x66_13 : mOps 66 13 = o_ic 14 2 := rfl
theorem x66_14 : mOps 66 14 = o_gt 17 28 := rfl
theorem x66_17 : mOps 66 17 = o_al 18 0 := rfl
theorem x66_18 : mOps 66 18 = o_gP 21 11 3 := rfl
theorem x66_21 : mOps 66 21 = o_il 22 1 := rfl
theorem x66_22 : mOps 66 22 = o_cV 25 23 1 10 := rfl
theorem x66_25 : mOps 66 25 = o_lt0 28 30 := rfl
theorem x66_28 : mOps 66 28 = o_ic 29 (-1) := rfl
theorem x66_29 : mOps 66 29 = o_ri := rfl
theorem x66_30 : mOps 66 30 = o_il 31 2 := rfl
theorem x66_31 : mOps 66 31 = o_ic 32 2 := rfl
theorem x66_32 : mOps 66 32 = o_ne 35 48 := rfl
theorem x66_35 : mOps 66 35 = o_il 36 3 := rfl
theorem x66_36 : mOps 66 36 = o_ic 37 1 := rfl
theorem x66_37 : mOps 66 37 = o_lt 40 46 := rfl
theorem x66_40 : mOps 66 40 = o_il 41 3 := rfl
theorem x66_41 : mOps 66 41 = o_ic 43 20 := rfl
theorem x66_43 : mOps 66 43 = o_le 46 48 := rfl
theorem x66_46 : mOps 66 46 = o_ic 47 (-1) := rfl
theorem x66_47 : mOps 66 47 = o_ri := rfl
theorem x66_48 : mOps 66 48 = o_al 49 0 := rfl
theorem x66_49 : mOps 66 49 = o_gP 52 11 3 := rfl
theorem x66_52 : mOps 66 52 = o_il 53 1 := rfl
theorem x66_53 : mOps 66 53 = o_il 54 2 := rfl
theorem x66_54 : mOps 66 54 = o_il 55 3 := rfl
theorem x66_55 : mOps 66 55 = o_cV 58 24 3 10 := rfl
theorem x66_58 : mOps 66 58 = o_eq0 61 71 := rfl
theorem x66_61 : mOps 66 61 = o_al 62 0 := rfl
theorem x66_62 : mOps 66 62 = o_gP 65 11 3 := rfl
theorem x66_65 : mOps 66 65 = o_gI 68 10 3 := rfl
theorem x66_68 : mOps 66 68 = o_goto 73 := rfl
theorem x66_71 : mOps 66 71 = o_ic 73 (-3) := rfl
theorem x66_73 : mOps 66 73 = o_ri := rfl
theorem x67_0 : mOps 67 0 = o_il 1 2 := rfl
theorem x67_1 : mOps 67 1 = o_ic 2 1 := rfl
theorem x67_2 : mOps 67 2 = o_lt 5 11 := rfl
theorem x67_5 : mOps 67 5 = o_il 6 2 := rfl
theorem x67_6 : mOps 67 6 = o_ic 8 100 := rfl
theorem x67_8 : mOps 67 8 = o_le 11 13 := rfl
theorem x67_11 : mOps 67 11 = o_ic 12 (-1) := rfl
theorem x67_12 : mOps 67 12 = o_ri := rfl
theorem x67_13 : mOps 67 13 = o_al 14 0 := rfl
theorem x67_14 : mOps 67 14 = o_il 15 1 := rfl
theorem x67_15 : mOps 67 15 = o_pI 18 11 9 := rfl
theorem x67_18 : mOps 67 18 = o_al 19 0 := rfl
theorem x67_19 : mOps 67 19 = o_al 20 0 := rfl
theorem x67_20 : mOps 67 20 = o_gI 23 11 5 := rfl
theorem x67_23 : mOps 67 23 = o_ic 24 1 := rfl
theorem x67_24 : mOps 67 24 = o_ii 25 (fun x y => x + y) := rfl
theorem x67_25 : mOps 67 25 = o_pI 28 11 10 := rfl
theorem x67_28 : mOps 67 28 = o_al 29 0 := rfl
theorem x67_29 : mOps 67 29 = o_al 30 0 := rfl
theorem x67_30 : mOps 67 30 = o_gI 33 11 5 := rfl
theorem x67_33 : mOps 67 33 = o_il 34 2 := rfl
theorem x67_34 : mOps 67 34 = o_ii 35 (fun x y => x + y) := rfl
theorem x67_35 : mOps 67 35 = o_pI 38 11 11 := rfl
theorem x67_38 : mOps 67 38 = o_ic 39 1 := rfl
theorem x67_39 : mOps 67 39 = o_ri := rfl
theorem x68_0 : mOps 68 0 = o_al 1 0 := rfl
theorem x68_1 : mOps 68 1 = o_il 2 1 := rfl
theorem x68_2 : mOps 68 2 = o_cV 5 63 1 11 := rfl
theorem x68_5 : mOps 68 5 = o_eq0 8 19 := rfl
theorem x68_8 : mOps 68 8 = o_il 9 2 := rfl
theorem x68_9 : mOps 68 9 = o_ic 10 1 := rfl
theorem x68_10 : mOps 68 10 = o_lt 13 19 := rfl
theorem x68_13 : mOps 68 13 = o_il 14 2 := rfl
theorem x68_14 : mOps 68 14 = o_ic 16 50 := rfl
theorem x68_16 : mOps 68 16 = o_le 19 21 := rfl
theorem x68_19 : mOps 68 19 = o_ic 20 (-1) := rfl
theorem x68_20 : mOps 68 20 = o_ri := rfl
theorem x68_21 : mOps 68 21 = o_al 22 0 := rfl
theorem x68_22 : mOps 68 22 = o_gI 25 11 5 := rfl
theorem x68_25 : mOps 68 25 = o_eq0 28 40 := rfl
theorem x68_28 : mOps 68 28 = o_al 29 0 := rfl
theorem x68_29 : mOps 68 29 = o_gP 32 11 1 := rfl
theorem x68_32 : mOps 68 32 = o_il 33 1 := rfl
theorem x68_33 : mOps 68 33 = o_aal 34 := rfl
theorem x68_34 : mOps 68 34 = o_cV 37 37 0 7 := rfl
theorem x68_37 : mOps 68 37 = o_eq0 40 43 := rfl
theorem x68_40 : mOps 68 40 = o_ic 42 (-2) := rfl
theorem x68_42 : mOps 68 42 = o_ri := rfl
theorem x68_43 : mOps 68 43 = o_al 44 0 := rfl
theorem x68_44 : mOps 68 44 = o_gP 47 11 1 := rfl
theorem x68_47 : mOps 68 47 = o_il 48 1 := rfl
theorem x68_48 : mOps 68 48 = o_aal 49 := rfl
theorem x68_49 : mOps 68 49 = o_al 50 0 := rfl
theorem x68_50 : mOps 68 50 = o_gI 53 11 5 := rfl
theorem x68_53 : mOps 68 53 = o_il 54 2 := rfl
theorem x68_54 : mOps 68 54 = o_ii 55 (fun x y => x + y) := rfl
theorem x68_55 : mOps 68 55 = o_pI 58 7 8 := rfl
theorem x68_58 : mOps 68 58 = o_ic 59 1 := rfl
theorem x68_59 : mOps 68 59 = o_ri := rfl
theorem x69_0 : mOps 69 0 = o_il 1 1 := rfl
theorem x69_1 : mOps 69 1 = o_ic 2 1 := rfl
theorem x69_2 : mOps 69 2 = o_lt 5 11 := rfl
theorem x69_5 : mOps 69 5 = o_il 6 1 := rfl
theorem x69_6 : mOps 69 6 = o_ic 8 100 := rfl
theorem x69_8 : mOps 69 8 = o_le 11 13 := rfl
theorem x69_11 : mOps 69 11 = o_ic 12 (-1) := rfl
theorem x69_12 : mOps 69 12 = o_ri := rfl
theorem x69_13 : mOps 69 13 = o_ic 14 0 := rfl
theorem x69_14 : mOps 69 14 = o_ist 15 2 := rfl
theorem x69_15 : mOps 69 15 = o_il 16 2 := rfl
theorem x69_16 : mOps 69 16 = o_il 17 1 := rfl
theorem x69_17 : mOps 69 17 = o_ge 20 60 := rfl
theorem x69_20 : mOps 69 20 = o_al 21 0 := rfl
theorem x69_21 : mOps 69 21 = o_dup 22 := rfl
theorem x69_22 : mOps 69 22 = o_gI 25 11 5 := rfl
theorem x69_25 : mOps 69 25 = o_ic 26 1 := rfl
theorem x69_26 : mOps 69 26 = o_ii 27 (fun x y => x + y) := rfl
theorem x69_27 : mOps 69 27 = o_pI 30 11 5 := rfl
theorem x69_30 : mOps 69 30 = o_al 31 0 := rfl
theorem x69_31 : mOps 69 31 = o_gI 34 11 5 := rfl
theorem x69_34 : mOps 69 34 = o_ic 35 1 := rfl
theorem x69_35 : mOps 69 35 = o_ne 38 42 := rfl
theorem x69_38 : mOps 69 38 = o_al 39 0 := rfl
theorem x69_39 : mOps 69 39 = o_cV 42 70 0 11 := rfl
theorem x69_42 : mOps 69 42 = o_al 43 0 := rfl
theorem x69_43 : mOps 69 43 = o_cV 46 75 0 11 := rfl
theorem x69_46 : mOps 69 46 = o_al 47 0 := rfl
theorem x69_47 : mOps 69 47 = o_cV 50 76 0 11 := rfl
theorem x69_50 : mOps 69 50 = o_al 51 0 := rfl
theorem x69_51 : mOps 69 51 = o_cV 54 78 0 11 := rfl
theorem x69_54 : mOps 69 54 = o_inc 57 2 1 := rfl
theorem x69_57 : mOps 69 57 = o_back 15 [] := rfl
theorem x69_60 : mOps 69 60 = o_al 61 0 := rfl
theorem x69_61 : mOps 69 61 = o_gI 64 11 5 := rfl
theorem x69_64 : mOps 69 64 = o_ri := rfl
theorem x70_0 : mOps 70 0 = o_ic 1 0 := rfl
theorem x70_1 : mOps 70 1 = o_ist 2 1 := rfl
theorem x70_2 : mOps 70 2 = o_il 3 1 := rfl
theorem x70_3 : mOps 70 3 = o_al 4 0 := rfl
theorem x70_4 : mOps 70 4 = o_gP 7 11 0 := rfl
theorem x70_7 : mOps 70 7 = o_gI 10 9 0 := rfl
theorem x70_10 : mOps 70 10 = o_ge 13 43 := rfl
theorem x70_13 : mOps 70 13 = o_al 14 0 := rfl
theorem x70_14 : mOps 70 14 = o_gP 17 11 1 := rfl
theorem x70_17 : mOps 70 17 = o_il 18 1 := rfl
theorem x70_18 : mOps 70 18 = o_aal 19 := rfl
theorem x70_19 : mOps 70 19 = o_ic 20 0 := rfl
theorem x70_20 : mOps 70 20 = o_al 21 0 := rfl
theorem x70_21 : mOps 70 21 = o_gI 24 11 5 := rfl
theorem x70_24 : mOps 70 24 = o_cV 27 38 2 7 := rfl
theorem x70_27 : mOps 70 27 = o_al 28 0 := rfl
theorem x70_28 : mOps 70 28 = o_al 29 0 := rfl
theorem x70_29 : mOps 70 29 = o_gP 32 11 1 := rfl
theorem x70_32 : mOps 70 32 = o_il 33 1 := rfl
theorem x70_33 : mOps 70 33 = o_aal 34 := rfl
theorem x70_34 : mOps 70 34 = o_cV 37 71 1 11 := rfl
theorem x70_37 : mOps 70 37 = o_inc 40 1 1 := rfl
theorem x70_40 : mOps 70 40 = o_back 2 [] := rfl
theorem x70_43 : mOps 70 43 = o_rv := rfl
theorem x71_0 : mOps 71 0 = o_al 1 1 := rfl
theorem x71_1 : mOps 71 1 = o_cV 4 37 0 7 := rfl
theorem x71_4 : mOps 71 4 = o_eq0 7 8 := rfl
theorem x71_7 : mOps 71 7 = o_rv := rfl
theorem x71_8 : mOps 71 8 = o_ic 9 0 := rfl
theorem x71_9 : mOps 71 9 = o_ist 10 2 := rfl
theorem x71_10 : mOps 71 10 = o_il 11 2 := rfl
theorem x71_11 : mOps 71 11 = o_ic 14 10000 := rfl
theorem x71_14 : mOps 71 14 = o_ge 17 40 := rfl
theorem x71_17 : mOps 71 17 = o_al 18 0 := rfl
theorem x71_18 : mOps 71 18 = o_al 19 1 := rfl
theorem x71_19 : mOps 71 19 = o_cV 22 72 1 11 := rfl
theorem x71_22 : mOps 71 22 = o_al 23 1 := rfl
theorem x71_23 : mOps 71 23 = o_al 24 0 := rfl
theorem x71_24 : mOps 71 24 = o_gI 27 11 5 := rfl
theorem x71_27 : mOps 71 27 = o_cV 30 43 1 7 := rfl
theorem x71_30 : mOps 71 30 = o_ne0 33 34 := rfl
theorem x71_33 : mOps 71 33 = o_rv := rfl
theorem x71_34 : mOps 71 34 = o_inc 37 2 1 := rfl
theorem x71_37 : mOps 71 37 = o_back 10 [] := rfl
theorem x71_40 : mOps 71 40 = o_rv := rfl
theorem x72_0 : mOps 72 0 = o_al 1 1 := rfl
theorem x72_1 : mOps 72 1 = o_gI 4 7 17 := rfl
theorem x72_4 : mOps 72 4 = o_ne0 7 8 := rfl
theorem x72_7 : mOps 72 7 = o_rv := rfl
theorem x72_8 : mOps 72 8 = o_al 9 1 := rfl
theorem x72_9 : mOps 72 9 = o_ic 10 0 := rfl
theorem x72_10 : mOps 72 10 = o_pZ 13 7 17 := rfl
theorem x72_13 : mOps 72 13 = o_al 14 1 := rfl
theorem x72_14 : mOps 72 14 = o_gP 17 7 16 := rfl
theorem x72_17 : mOps 72 17 = o_ast 18 2 := rfl
theorem x72_18 : mOps 72 18 = o_al 19 2 := rfl
theorem x72_19 : mOps 72 19 = o_gI 22 6 5 := rfl
theorem x72_22 : mOps 72 22 = o_ist 23 3 := rfl
theorem x72_23 : mOps 72 23 = o_al 24 2 := rfl
theorem x72_24 : mOps 72 24 = o_cV 27 5 0 6 := rfl
theorem x72_27 : mOps 72 27 = o_ist 29 4 := rfl
theorem x72_29 : mOps 72 29 = o_al 30 1 := rfl
theorem x72_30 : mOps 72 30 = o_cV 33 41 0 7 := rfl
theorem x72_33 : mOps 72 33 = o_ist 35 5 := rfl
theorem x72_35 : mOps 72 35 = o_ic 36 0 := rfl
theorem x72_36 : mOps 72 36 = o_ist 38 6 := rfl
theorem x72_38 : mOps 72 38 = o_il 40 6 := rfl
theorem x72_40 : mOps 72 40 = o_il 42 5 := rfl
theorem x72_42 : mOps 72 42 = o_ge 45 125 := rfl
theorem x72_45 : mOps 72 45 = o_ic 46 0 := rfl
theorem x72_46 : mOps 72 46 = o_ist 48 7 := rfl
theorem x72_48 : mOps 72 48 = o_il 50 7 := rfl
theorem x72_50 : mOps 72 50 = o_al 51 0 := rfl
theorem x72_51 : mOps 72 51 = o_gP 54 11 0 := rfl
theorem x72_54 : mOps 72 54 = o_gI 57 9 0 := rfl
theorem x72_57 : mOps 72 57 = o_ge 60 119 := rfl
theorem x72_60 : mOps 72 60 = o_il 62 7 := rfl
theorem x72_62 : mOps 72 62 = o_al 63 1 := rfl
theorem x72_63 : mOps 72 63 = o_gI 66 7 0 := rfl
theorem x72_66 : mOps 72 66 = o_eq 69 113 := rfl
theorem x72_69 : mOps 72 69 = o_al 70 2 := rfl
theorem x72_70 : mOps 72 70 = o_il 72 7 := rfl
theorem x72_72 : mOps 72 72 = o_pI 75 6 1 := rfl
theorem x72_75 : mOps 72 75 = o_al 76 2 := rfl
theorem x72_76 : mOps 72 76 = o_il 78 6 := rfl
theorem x72_78 : mOps 72 78 = o_ic 79 1 := rfl
theorem x72_79 : mOps 72 79 = o_eq 82 91 := rfl
theorem x72_82 : mOps 72 82 = o_al 83 1 := rfl
theorem x72_83 : mOps 72 83 = o_il 85 7 := rfl
theorem x72_85 : mOps 72 85 = o_cV 88 42 1 7 := rfl
theorem x72_88 : mOps 72 88 = o_eq0 91 96 := rfl
theorem x72_91 : mOps 72 91 = o_il 93 4 := rfl
theorem x72_93 : mOps 72 93 = o_goto 97 := rfl
theorem x72_96 : mOps 72 96 = o_il 97 3 := rfl
theorem x72_97 : mOps 72 97 = o_pI 100 6 5 := rfl
theorem x72_100 : mOps 72 100 = o_al 101 1 := rfl
theorem x72_101 : mOps 72 101 = o_gP 104 7 15 := rfl
theorem x72_104 : mOps 72 104 = o_al 105 2 := rfl
theorem x72_105 : mOps 72 105 = o_cV 108 35 1 8 := rfl
theorem x72_108 : mOps 72 108 = o_al 109 0 := rfl
theorem x72_109 : mOps 72 109 = o_al 110 2 := rfl
theorem x72_110 : mOps 72 110 = o_cV 113 73 1 11 := rfl
theorem x72_113 : mOps 72 113 = o_inc 116 7 1 := rfl
theorem x72_116 : mOps 72 116 = o_back 48 [] := rfl
theorem x72_119 : mOps 72 119 = o_inc 122 6 1 := rfl
theorem x72_122 : mOps 72 122 = o_back 38 [7] := rfl
theorem x72_125 : mOps 72 125 = o_rv := rfl
