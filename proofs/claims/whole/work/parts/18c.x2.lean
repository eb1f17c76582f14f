/-! ===== each operation by its place, 2 ===== -/
theorem x73_0 : mOps 73 0 = o_al 1 0 := rfl
theorem x73_1 : mOps 73 1 = o_gP 4 11 3 := rfl
theorem x73_4 : mOps 73 4 = o_al 5 0 := rfl
theorem x73_5 : mOps 73 5 = o_gI 8 11 6 := rfl
theorem x73_8 : mOps 73 8 = o_cV 11 23 1 10 := rfl
theorem x73_11 : mOps 73 11 = o_ist 12 2 := rfl
theorem x73_12 : mOps 73 12 = o_il 13 2 := rfl
theorem x73_13 : mOps 73 13 = o_ge0 16 21 := rfl
theorem x73_16 : mOps 73 16 = o_ic 18 (-2) := rfl
theorem x73_18 : mOps 73 18 = o_goto 30 := rfl
theorem x73_21 : mOps 73 21 = o_al 22 0 := rfl
theorem x73_22 : mOps 73 22 = o_gP 25 11 3 := rfl
theorem x73_25 : mOps 73 25 = o_gP 28 10 1 := rfl
theorem x73_28 : mOps 73 28 = o_il 29 2 := rfl
theorem x73_29 : mOps 73 29 = o_ial 30 := rfl
theorem x73_30 : mOps 73 30 = o_ist 31 3 := rfl
theorem x73_31 : mOps 73 31 = o_il 32 3 := rfl
theorem x73_32 : mOps 73 32 = o_ic 33 2 := rfl
theorem x73_33 : mOps 73 33 = o_ne 36 48 := rfl
theorem x73_36 : mOps 73 36 = o_al 37 0 := rfl
theorem x73_37 : mOps 73 37 = o_gP 40 11 3 := rfl
theorem x73_40 : mOps 73 40 = o_gP 43 10 2 := rfl
theorem x73_43 : mOps 73 43 = o_il 44 2 := rfl
theorem x73_44 : mOps 73 44 = o_ial 45 := rfl
theorem x73_45 : mOps 73 45 = o_goto 49 := rfl
theorem x73_48 : mOps 73 48 = o_ic 49 0 := rfl
theorem x73_49 : mOps 73 49 = o_ist 51 4 := rfl
theorem x73_51 : mOps 73 51 = o_al 52 0 := rfl
theorem x73_52 : mOps 73 52 = o_gP 55 11 3 := rfl
theorem x73_55 : mOps 73 55 = o_il 56 2 := rfl
theorem x73_56 : mOps 73 56 = o_cV 59 25 1 10 := rfl
theorem x73_59 : mOps 73 59 = o_al 60 0 := rfl
theorem x73_60 : mOps 73 60 = o_dup 61 := rfl
theorem x73_61 : mOps 73 61 = o_gI 64 11 6 := rfl
theorem x73_64 : mOps 73 64 = o_ic 65 1 := rfl
theorem x73_65 : mOps 73 65 = o_ii 66 (fun x y => x + y) := rfl
theorem x73_66 : mOps 73 66 = o_pI 69 11 6 := rfl
theorem x73_69 : mOps 73 69 = o_il 70 3 := rfl
theorem x73_70 : mOps 73 70 = o_eq0 73 88 := rfl
theorem x73_73 : mOps 73 73 = o_al 74 0 := rfl
theorem x73_74 : mOps 73 74 = o_al 75 1 := rfl
theorem x73_75 : mOps 73 75 = o_gI 78 6 0 := rfl
theorem x73_78 : mOps 73 78 = o_al 79 1 := rfl
theorem x73_79 : mOps 73 79 = o_gI 82 6 1 := rfl
theorem x73_82 : mOps 73 82 = o_cV 85 74 2 11 := rfl
theorem x73_85 : mOps 73 85 = o_eq0 88 99 := rfl
theorem x73_88 : mOps 73 88 = o_al 89 0 := rfl
theorem x73_89 : mOps 73 89 = o_dup 90 := rfl
theorem x73_90 : mOps 73 90 = o_gI 93 11 8 := rfl
theorem x73_93 : mOps 73 93 = o_ic 94 1 := rfl
theorem x73_94 : mOps 73 94 = o_ii 95 (fun x y => x + y) := rfl
theorem x73_95 : mOps 73 95 = o_pI 98 11 8 := rfl
theorem x73_98 : mOps 73 98 = o_rv := rfl
theorem x73_99 : mOps 73 99 = o_al 100 0 := rfl
theorem x73_100 : mOps 73 100 = o_gP 103 11 2 := rfl
theorem x73_103 : mOps 73 103 = o_al 104 1 := rfl
theorem x73_104 : mOps 73 104 = o_al 105 0 := rfl
theorem x73_105 : mOps 73 105 = o_gI 108 11 5 := rfl
theorem x73_108 : mOps 73 108 = o_ic 109 1 := rfl
theorem x73_109 : mOps 73 109 = o_ii 110 (fun x y => x + y) := rfl
theorem x73_110 : mOps 73 110 = o_il 112 4 := rfl
theorem x73_112 : mOps 73 112 = o_ii 113 (fun x y => x + y) := rfl
theorem x73_113 : mOps 73 113 = o_ic 114 0 := rfl
theorem x73_114 : mOps 73 114 = o_cV 117 32 3 5 := rfl
theorem x73_117 : mOps 73 117 = o_ne0 120 131 := rfl
theorem x73_120 : mOps 73 120 = o_al 121 0 := rfl
theorem x73_121 : mOps 73 121 = o_dup 122 := rfl
theorem x73_122 : mOps 73 122 = o_gI 125 11 8 := rfl
theorem x73_125 : mOps 73 125 = o_ic 126 1 := rfl
theorem x73_126 : mOps 73 126 = o_ii 127 (fun x y => x + y) := rfl
theorem x73_127 : mOps 73 127 = o_pI 130 11 8 := rfl
theorem x73_130 : mOps 73 130 = o_rv := rfl
theorem x73_131 : mOps 73 131 = o_il 132 3 := rfl
theorem x73_132 : mOps 73 132 = o_ic 133 1 := rfl
theorem x73_133 : mOps 73 133 = o_ne 136 164 := rfl
theorem x73_136 : mOps 73 136 = o_al 137 0 := rfl
theorem x73_137 : mOps 73 137 = o_gP 140 11 2 := rfl
theorem x73_140 : mOps 73 140 = o_al 141 1 := rfl
theorem x73_141 : mOps 73 141 = o_al 142 0 := rfl
theorem x73_142 : mOps 73 142 = o_gI 145 11 5 := rfl
theorem x73_145 : mOps 73 145 = o_ic 146 2 := rfl
theorem x73_146 : mOps 73 146 = o_ii 147 (fun x y => x + y) := rfl
theorem x73_147 : mOps 73 147 = o_ic 148 1 := rfl
theorem x73_148 : mOps 73 148 = o_cV 151 32 3 5 := rfl
theorem x73_151 : mOps 73 151 = o_ne0 154 164 := rfl
theorem x73_154 : mOps 73 154 = o_al 155 0 := rfl
theorem x73_155 : mOps 73 155 = o_dup 156 := rfl
theorem x73_156 : mOps 73 156 = o_gI 159 11 8 := rfl
theorem x73_159 : mOps 73 159 = o_ic 160 1 := rfl
theorem x73_160 : mOps 73 160 = o_ii 161 (fun x y => x + y) := rfl
theorem x73_161 : mOps 73 161 = o_pI 164 11 8 := rfl
theorem x73_164 : mOps 73 164 = o_rv := rfl
theorem x74_0 : mOps 74 0 = o_al 1 0 := rfl
theorem x74_1 : mOps 74 1 = o_gI 4 11 5 := rfl
theorem x74_4 : mOps 74 4 = o_al 5 0 := rfl
theorem x74_5 : mOps 74 5 = o_gI 8 11 10 := rfl
theorem x74_8 : mOps 74 8 = o_lt 11 26 := rfl
theorem x74_11 : mOps 74 11 = o_al 12 0 := rfl
theorem x74_12 : mOps 74 12 = o_gI 15 11 5 := rfl
theorem x74_15 : mOps 74 15 = o_al 16 0 := rfl
theorem x74_16 : mOps 74 16 = o_gI 19 11 11 := rfl
theorem x74_19 : mOps 74 19 = o_gt 22 26 := rfl
theorem x74_22 : mOps 74 22 = o_ic 23 1 := rfl
theorem x74_23 : mOps 74 23 = o_goto 27 := rfl
theorem x74_26 : mOps 74 26 = o_ic 27 0 := rfl
theorem x74_27 : mOps 74 27 = o_ist 28 3 := rfl
theorem x74_28 : mOps 74 28 = o_il 29 3 := rfl
theorem x74_29 : mOps 74 29 = o_eq0 32 55 := rfl
theorem x74_32 : mOps 74 32 = o_al 33 0 := rfl
theorem x74_33 : mOps 74 33 = o_gI 36 11 9 := rfl
theorem x74_36 : mOps 74 36 = o_il 37 1 := rfl
theorem x74_37 : mOps 74 37 = o_ii 38 (fun x y => x >>> (y &&& 31)) := rfl
theorem x74_38 : mOps 74 38 = o_ic 39 1 := rfl
theorem x74_39 : mOps 74 39 = o_ii 40 (fun x y => x &&& y) := rfl
theorem x74_40 : mOps 74 40 = o_al 41 0 := rfl
theorem x74_41 : mOps 74 41 = o_gI 44 11 9 := rfl
theorem x74_44 : mOps 74 44 = o_il 45 2 := rfl
theorem x74_45 : mOps 74 45 = o_ii 46 (fun x y => x >>> (y &&& 31)) := rfl
theorem x74_46 : mOps 74 46 = o_ic 47 1 := rfl
theorem x74_47 : mOps 74 47 = o_ii 48 (fun x y => x &&& y) := rfl
theorem x74_48 : mOps 74 48 = o_eq 51 55 := rfl
theorem x74_51 : mOps 74 51 = o_ic 52 1 := rfl
theorem x74_52 : mOps 74 52 = o_goto 56 := rfl
theorem x74_55 : mOps 74 55 = o_ic 56 0 := rfl
theorem x74_56 : mOps 74 56 = o_rz := rfl
theorem x75_0 : mOps 75 0 = o_ic 1 0 := rfl
theorem x75_1 : mOps 75 1 = o_ist 2 1 := rfl
theorem x75_2 : mOps 75 2 = o_il 3 1 := rfl
theorem x75_3 : mOps 75 3 = o_al 4 0 := rfl
theorem x75_4 : mOps 75 4 = o_gP 7 11 0 := rfl
theorem x75_7 : mOps 75 7 = o_gI 10 9 0 := rfl
theorem x75_10 : mOps 75 10 = o_ge 13 57 := rfl
theorem x75_13 : mOps 75 13 = o_al 14 0 := rfl
theorem x75_14 : mOps 75 14 = o_gP 17 11 1 := rfl
theorem x75_17 : mOps 75 17 = o_il 18 1 := rfl
theorem x75_18 : mOps 75 18 = o_aal 19 := rfl
theorem x75_19 : mOps 75 19 = o_ast 20 2 := rfl
theorem x75_20 : mOps 75 20 = o_al 21 2 := rfl
theorem x75_21 : mOps 75 21 = o_cV 24 37 0 7 := rfl
theorem x75_24 : mOps 75 24 = o_eq0 27 51 := rfl
theorem x75_27 : mOps 75 27 = o_al 28 0 := rfl
theorem x75_28 : mOps 75 28 = o_gI 31 11 5 := rfl
theorem x75_31 : mOps 75 31 = o_al 32 2 := rfl
theorem x75_32 : mOps 75 32 = o_gI 35 7 8 := rfl
theorem x75_35 : mOps 75 35 = o_le 38 51 := rfl
theorem x75_38 : mOps 75 38 = o_al 39 2 := rfl
theorem x75_39 : mOps 75 39 = o_al 40 0 := rfl
theorem x75_40 : mOps 75 40 = o_gI 43 11 5 := rfl
theorem x75_43 : mOps 75 43 = o_cV 46 57 1 7 := rfl
theorem x75_46 : mOps 75 46 = o_al 47 0 := rfl
theorem x75_47 : mOps 75 47 = o_al 48 2 := rfl
theorem x75_48 : mOps 75 48 = o_cV 51 71 1 11 := rfl
theorem x75_51 : mOps 75 51 = o_inc 54 1 1 := rfl
theorem x75_54 : mOps 75 54 = o_back 2 [2] := rfl
theorem x75_57 : mOps 75 57 = o_rv := rfl
theorem x76_0 : mOps 76 0 = o_al 1 0 := rfl
theorem x76_1 : mOps 76 1 = o_gP 4 11 2 := rfl
theorem x76_4 : mOps 76 4 = o_gI 7 5 1 := rfl
theorem x76_7 : mOps 76 7 = o_ist 8 1 := rfl
theorem x76_8 : mOps 76 8 = o_ic 9 0 := rfl
theorem x76_9 : mOps 76 9 = o_ist 10 2 := rfl
theorem x76_10 : mOps 76 10 = o_il 11 2 := rfl
theorem x76_11 : mOps 76 11 = o_ic 12 2 := rfl
theorem x76_12 : mOps 76 12 = o_ge 15 100 := rfl
theorem x76_15 : mOps 76 15 = o_ic 16 0 := rfl
theorem x76_16 : mOps 76 16 = o_ist 17 3 := rfl
theorem x76_17 : mOps 76 17 = o_il 18 3 := rfl
theorem x76_18 : mOps 76 18 = o_il 19 1 := rfl
theorem x76_19 : mOps 76 19 = o_ge 22 94 := rfl
theorem x76_22 : mOps 76 22 = o_al 23 0 := rfl
theorem x76_23 : mOps 76 23 = o_gP 26 11 2 := rfl
theorem x76_26 : mOps 76 26 = o_gP 29 5 0 := rfl
theorem x76_29 : mOps 76 29 = o_il 30 3 := rfl
theorem x76_30 : mOps 76 30 = o_aal 31 := rfl
theorem x76_31 : mOps 76 31 = o_ast 33 4 := rfl
theorem x76_33 : mOps 76 33 = o_al 35 4 := rfl
theorem x76_35 : mOps 76 35 = o_nul 38 88 := rfl
theorem x76_38 : mOps 76 38 = o_al 40 4 := rfl
theorem x76_40 : mOps 76 40 = o_gI 43 6 7 := rfl
theorem x76_43 : mOps 76 43 = o_al 44 0 := rfl
theorem x76_44 : mOps 76 44 = o_gI 47 11 5 := rfl
theorem x76_47 : mOps 76 47 = o_ne 50 88 := rfl
theorem x76_50 : mOps 76 50 = o_al 52 4 := rfl
theorem x76_52 : mOps 76 52 = o_gI 55 6 8 := rfl
theorem x76_55 : mOps 76 55 = o_il 56 2 := rfl
theorem x76_56 : mOps 76 56 = o_ic 57 1 := rfl
theorem x76_57 : mOps 76 57 = o_ne 60 64 := rfl
theorem x76_60 : mOps 76 60 = o_ic 61 1 := rfl
theorem x76_61 : mOps 76 61 = o_goto 65 := rfl
theorem x76_64 : mOps 76 64 = o_ic 65 0 := rfl
theorem x76_65 : mOps 76 65 = o_ne 68 88 := rfl
theorem x76_68 : mOps 76 68 = o_al 69 0 := rfl
theorem x76_69 : mOps 76 69 = o_al 71 4 := rfl
theorem x76_71 : mOps 76 71 = o_cV 74 77 1 11 := rfl
theorem x76_74 : mOps 76 74 = o_al 75 0 := rfl
theorem x76_75 : mOps 76 75 = o_al 76 0 := rfl
theorem x76_76 : mOps 76 76 = o_gP 79 11 1 := rfl
theorem x76_79 : mOps 76 79 = o_al 81 4 := rfl
theorem x76_81 : mOps 76 81 = o_gI 84 6 1 := rfl
theorem x76_84 : mOps 76 84 = o_aal 85 := rfl
theorem x76_85 : mOps 76 85 = o_cV 88 71 1 11 := rfl
theorem x76_88 : mOps 76 88 = o_inc 91 3 1 := rfl
theorem x76_91 : mOps 76 91 = o_back 17 [4] := rfl
theorem x76_94 : mOps 76 94 = o_inc 97 2 1 := rfl
theorem x76_97 : mOps 76 97 = o_back 10 [3] := rfl
theorem x76_100 : mOps 76 100 = o_al 101 0 := rfl
theorem x76_101 : mOps 76 101 = o_gP 104 11 2 := rfl
theorem x76_104 : mOps 76 104 = o_al 105 0 := rfl
theorem x76_105 : mOps 76 105 = o_gI 108 11 5 := rfl
theorem x76_108 : mOps 76 108 = o_cV 111 33 1 5 := rfl
theorem x76_111 : mOps 76 111 = o_rv := rfl
theorem x77_0 : mOps 77 0 = o_al 1 0 := rfl
theorem x77_1 : mOps 77 1 = o_gP 4 11 2 := rfl
theorem x77_4 : mOps 77 4 = o_dup 5 := rfl
theorem x77_5 : mOps 77 5 = o_gI 8 5 2 := rfl
theorem x77_8 : mOps 77 8 = o_ic 9 1 := rfl
theorem x77_9 : mOps 77 9 = o_ii 10 (fun x y => x - y) := rfl
theorem x77_10 : mOps 77 10 = o_pI 13 5 2 := rfl
theorem x77_13 : mOps 77 13 = o_al 14 0 := rfl
theorem x77_14 : mOps 77 14 = o_gP 17 11 1 := rfl
theorem x77_17 : mOps 77 17 = o_al 18 1 := rfl
theorem x77_18 : mOps 77 18 = o_gI 21 6 1 := rfl
theorem x77_21 : mOps 77 21 = o_aal 22 := rfl
theorem x77_22 : mOps 77 22 = o_ast 23 2 := rfl
theorem x77_23 : mOps 77 23 = o_al 24 2 := rfl
theorem x77_24 : mOps 77 24 = o_cV 27 37 0 7 := rfl
theorem x77_27 : mOps 77 27 = o_eq0 30 41 := rfl
theorem x77_30 : mOps 77 30 = o_al 31 0 := rfl
theorem x77_31 : mOps 77 31 = o_dup 32 := rfl
theorem x77_32 : mOps 77 32 = o_gI 35 11 8 := rfl
theorem x77_35 : mOps 77 35 = o_ic 36 1 := rfl
theorem x77_36 : mOps 77 36 = o_ii 37 (fun x y => x + y) := rfl
theorem x77_37 : mOps 77 37 = o_pI 40 11 8 := rfl
theorem x77_40 : mOps 77 40 = o_rv := rfl
theorem x77_41 : mOps 77 41 = o_al 42 0 := rfl
theorem x77_42 : mOps 77 42 = o_dup 43 := rfl
theorem x77_43 : mOps 77 43 = o_gI 46 11 7 := rfl
theorem x77_46 : mOps 77 46 = o_ic 47 1 := rfl
theorem x77_47 : mOps 77 47 = o_ii 48 (fun x y => x + y) := rfl
theorem x77_48 : mOps 77 48 = o_pI 51 11 7 := rfl
theorem x77_51 : mOps 77 51 = o_al 52 2 := rfl
theorem x77_52 : mOps 77 52 = o_al 53 1 := rfl
theorem x77_53 : mOps 77 53 = o_cV 56 58 1 7 := rfl
theorem x77_56 : mOps 77 56 = o_ne0 59 71 := rfl
theorem x77_59 : mOps 77 59 = o_al 60 0 := rfl
theorem x77_60 : mOps 77 60 = o_gP 63 11 4 := rfl
theorem x77_63 : mOps 77 63 = o_al 64 1 := rfl
theorem x77_64 : mOps 77 64 = o_al 65 0 := rfl
theorem x77_65 : mOps 77 65 = o_gI 68 11 5 := rfl
theorem x77_68 : mOps 77 68 = o_cV 71 19 2 4 := rfl
theorem x77_71 : mOps 77 71 = o_rv := rfl
theorem x78_0 : mOps 78 0 = o_ic 1 0 := rfl
theorem x78_1 : mOps 78 1 = o_ist 2 1 := rfl
theorem x78_2 : mOps 78 2 = o_il 3 1 := rfl
theorem x78_3 : mOps 78 3 = o_al 4 0 := rfl
theorem x78_4 : mOps 78 4 = o_gP 7 11 0 := rfl
theorem x78_7 : mOps 78 7 = o_gI 10 9 0 := rfl
theorem x78_10 : mOps 78 10 = o_ge 13 73 := rfl
theorem x78_13 : mOps 78 13 = o_al 14 0 := rfl
theorem x78_14 : mOps 78 14 = o_gP 17 11 1 := rfl
theorem x78_17 : mOps 78 17 = o_il 18 1 := rfl
theorem x78_18 : mOps 78 18 = o_aal 19 := rfl
theorem x78_19 : mOps 78 19 = o_ast 20 2 := rfl
theorem x78_20 : mOps 78 20 = o_ic 21 0 := rfl
theorem x78_21 : mOps 78 21 = o_ist 22 3 := rfl
theorem x78_22 : mOps 78 22 = o_il 23 3 := rfl
theorem x78_23 : mOps 78 23 = o_ic 24 3 := rfl
theorem x78_24 : mOps 78 24 = o_ge 27 67 := rfl
theorem x78_27 : mOps 78 27 = o_al 28 2 := rfl
theorem x78_28 : mOps 78 28 = o_cV 31 37 0 7 := rfl
theorem x78_31 : mOps 78 31 = o_ne0 34 61 := rfl
theorem x78_34 : mOps 78 34 = o_al 35 2 := rfl
theorem x78_35 : mOps 78 35 = o_gP 38 7 9 := rfl
theorem x78_38 : mOps 78 38 = o_il 39 3 := rfl
theorem x78_39 : mOps 78 39 = o_ial 40 := rfl
theorem x78_40 : mOps 78 40 = o_al 41 0 := rfl
theorem x78_41 : mOps 78 41 = o_gI 44 11 5 := rfl
theorem x78_44 : mOps 78 44 = o_ne 47 61 := rfl
theorem x78_47 : mOps 78 47 = o_al 48 2 := rfl
theorem x78_48 : mOps 78 48 = o_il 49 3 := rfl
theorem x78_49 : mOps 78 49 = o_al 50 0 := rfl
theorem x78_50 : mOps 78 50 = o_gI 53 11 5 := rfl
theorem x78_53 : mOps 78 53 = o_cV 56 59 2 7 := rfl
theorem x78_56 : mOps 78 56 = o_al 57 0 := rfl
theorem x78_57 : mOps 78 57 = o_al 58 2 := rfl
theorem x78_58 : mOps 78 58 = o_cV 61 71 1 11 := rfl
theorem x78_61 : mOps 78 61 = o_inc 64 3 1 := rfl
theorem x78_64 : mOps 78 64 = o_back 22 [] := rfl
theorem x78_67 : mOps 78 67 = o_inc 70 1 1 := rfl
theorem x78_70 : mOps 78 70 = o_back 2 [2, 3] := rfl
theorem x78_73 : mOps 78 73 = o_rv := rfl
theorem x79_0 : mOps 79 0 = o_al 1 0 := rfl
theorem x79_1 : mOps 79 1 = o_il 2 1 := rfl
theorem x79_2 : mOps 79 2 = o_cV 5 63 1 11 := rfl
theorem x79_5 : mOps 79 5 = o_ne0 8 10 := rfl
theorem x79_8 : mOps 79 8 = o_ic 9 (-1) := rfl
theorem x79_9 : mOps 79 9 = o_ri := rfl
theorem x79_10 : mOps 79 10 = o_al 11 0 := rfl
theorem x79_11 : mOps 79 11 = o_gP 14 11 1 := rfl
theorem x79_14 : mOps 79 14 = o_il 15 1 := rfl
theorem x79_15 : mOps 79 15 = o_aal 16 := rfl
theorem x79_16 : mOps 79 16 = o_ast 17 2 := rfl
theorem x79_17 : mOps 79 17 = o_al 18 0 := rfl
theorem x79_18 : mOps 79 18 = o_gI 21 11 5 := rfl
theorem x79_21 : mOps 79 21 = o_eq0 24 31 := rfl
theorem x79_24 : mOps 79 24 = o_al 25 2 := rfl
theorem x79_25 : mOps 79 25 = o_cV 28 37 0 7 := rfl
theorem x79_28 : mOps 79 28 = o_eq0 31 34 := rfl
theorem x79_31 : mOps 79 31 = o_ic 33 (-2) := rfl
theorem x79_33 : mOps 79 33 = o_ri := rfl
theorem x79_34 : mOps 79 34 = o_ic 35 0 := rfl
theorem x79_35 : mOps 79 35 = o_ist 36 3 := rfl
theorem x79_36 : mOps 79 36 = o_al 37 2 := rfl
theorem x79_37 : mOps 79 37 = o_gI 40 7 2 := rfl
theorem x79_40 : mOps 79 40 = o_ist 42 4 := rfl
theorem x79_42 : mOps 79 42 = o_il 44 4 := rfl
theorem x79_44 : mOps 79 44 = o_ic 46 40 := rfl
theorem x79_46 : mOps 79 46 = o_gt 49 86 := rfl
theorem x79_49 : mOps 79 49 = o_al 50 0 := rfl
theorem x79_50 : mOps 79 50 = o_il 51 1 := rfl
theorem x79_51 : mOps 79 51 = o_il 53 4 := rfl
theorem x79_53 : mOps 79 53 = o_cV 56 80 2 11 := rfl
theorem x79_56 : mOps 79 56 = o_ist 58 5 := rfl
theorem x79_58 : mOps 79 58 = o_il 60 5 := rfl
theorem x79_60 : mOps 79 60 = o_ge0 63 66 := rfl
theorem x79_63 : mOps 79 63 = o_goto 86 := rfl
theorem x79_66 : mOps 79 66 = o_al 67 2 := rfl
theorem x79_67 : mOps 79 67 = o_al 68 0 := rfl
theorem x79_68 : mOps 79 68 = o_gP 71 11 1 := rfl
theorem x79_71 : mOps 79 71 = o_il 73 5 := rfl
theorem x79_73 : mOps 79 73 = o_aal 74 := rfl
theorem x79_74 : mOps 79 74 = o_cV 77 60 1 7 := rfl
theorem x79_77 : mOps 79 77 = o_inc 80 3 1 := rfl
theorem x79_80 : mOps 79 80 = o_inc 83 4 1 := rfl
theorem x79_83 : mOps 79 83 = o_back 42 [5] := rfl
theorem x79_86 : mOps 79 86 = o_il 87 3 := rfl
theorem x79_87 : mOps 79 87 = o_le0 90 104 := rfl
theorem x79_90 : mOps 79 90 = o_al 91 2 := rfl
theorem x79_91 : mOps 79 91 = o_ic 92 0 := rfl
theorem x79_92 : mOps 79 92 = o_al 93 0 := rfl
theorem x79_93 : mOps 79 93 = o_gI 96 11 5 := rfl
theorem x79_96 : mOps 79 96 = o_cV 99 38 2 7 := rfl
theorem x79_99 : mOps 79 99 = o_al 100 0 := rfl
theorem x79_100 : mOps 79 100 = o_al 101 2 := rfl
theorem x79_101 : mOps 79 101 = o_cV 104 71 1 11 := rfl
theorem x79_104 : mOps 79 104 = o_il 105 3 := rfl
theorem x79_105 : mOps 79 105 = o_ri := rfl
theorem x80_0 : mOps 80 0 = o_ic 1 0 := rfl
theorem x80_1 : mOps 80 1 = o_ist 2 3 := rfl
theorem x80_2 : mOps 80 2 = o_il 3 3 := rfl
theorem x80_3 : mOps 80 3 = o_al 4 0 := rfl
theorem x80_4 : mOps 80 4 = o_gP 7 11 0 := rfl
theorem x80_7 : mOps 80 7 = o_gI 10 9 0 := rfl
theorem x80_10 : mOps 80 10 = o_ge 13 54 := rfl
theorem x80_13 : mOps 80 13 = o_il 14 3 := rfl
theorem x80_14 : mOps 80 14 = o_il 15 1 := rfl
theorem x80_15 : mOps 80 15 = o_eq 18 48 := rfl
theorem x80_18 : mOps 80 18 = o_al 19 0 := rfl
theorem x80_19 : mOps 80 19 = o_gP 22 11 1 := rfl
theorem x80_22 : mOps 80 22 = o_il 23 3 := rfl
theorem x80_23 : mOps 80 23 = o_aal 24 := rfl
theorem x80_24 : mOps 80 24 = o_cV 27 37 0 7 := rfl
theorem x80_27 : mOps 80 27 = o_ne0 30 48 := rfl
theorem x80_30 : mOps 80 30 = o_al 31 0 := rfl
theorem x80_31 : mOps 80 31 = o_gP 34 11 1 := rfl
theorem x80_34 : mOps 80 34 = o_il 35 3 := rfl
theorem x80_35 : mOps 80 35 = o_aal 36 := rfl
theorem x80_36 : mOps 80 36 = o_gP 39 7 11 := rfl
theorem x80_39 : mOps 80 39 = o_il 40 2 := rfl
theorem x80_40 : mOps 80 40 = o_cV 43 17 1 3 := rfl
theorem x80_43 : mOps 80 43 = o_eq0 46 48 := rfl
theorem x80_46 : mOps 80 46 = o_il 47 3 := rfl
theorem x80_47 : mOps 80 47 = o_ri := rfl
theorem x80_48 : mOps 80 48 = o_inc 51 3 1 := rfl
theorem x80_51 : mOps 80 51 = o_back 2 [] := rfl
theorem x80_54 : mOps 80 54 = o_ic 55 (-1) := rfl
theorem x80_55 : mOps 80 55 = o_ri := rfl
theorem x81_0 : mOps 81 0 = o_al 1 0 := rfl
theorem x81_1 : mOps 81 1 = o_il 2 1 := rfl
theorem x81_2 : mOps 81 2 = o_cV 5 63 1 11 := rfl
theorem x81_5 : mOps 81 5 = o_ne0 8 10 := rfl
theorem x81_8 : mOps 81 8 = o_ic 9 (-1) := rfl
theorem x81_9 : mOps 81 9 = o_ri := rfl
theorem x81_10 : mOps 81 10 = o_al 11 0 := rfl
theorem x81_11 : mOps 81 11 = o_gP 14 11 1 := rfl
theorem x81_14 : mOps 81 14 = o_il 15 1 := rfl
theorem x81_15 : mOps 81 15 = o_aal 16 := rfl
theorem x81_16 : mOps 81 16 = o_ast 17 3 := rfl
theorem x81_17 : mOps 81 17 = o_il 18 2 := rfl
theorem x81_18 : mOps 81 18 = o_tsw [84, 89, 94, 99, 107, 115, 123, 131, 145, 150, 157, 164, 171] 179 := rfl
theorem x81_84 : mOps 81 84 = o_al 85 3 := rfl
theorem x81_85 : mOps 81 85 = o_gI 88 7 2 := rfl
theorem x81_88 : mOps 81 88 = o_ri := rfl
theorem x81_89 : mOps 81 89 = o_al 90 3 := rfl
theorem x81_90 : mOps 81 90 = o_gI 93 7 3 := rfl
theorem x81_93 : mOps 81 93 = o_ri := rfl
theorem x81_94 : mOps 81 94 = o_al 95 3 := rfl
theorem x81_95 : mOps 81 95 = o_gI 98 7 4 := rfl
theorem x81_98 : mOps 81 98 = o_ri := rfl
theorem x81_99 : mOps 81 99 = o_al 100 3 := rfl
theorem x81_100 : mOps 81 100 = o_gP 103 7 5 := rfl
theorem x81_103 : mOps 81 103 = o_gI 106 2 0 := rfl
theorem x81_106 : mOps 81 106 = o_ri := rfl
theorem x81_107 : mOps 81 107 = o_al 108 3 := rfl
theorem x81_108 : mOps 81 108 = o_gP 111 7 5 := rfl
theorem x81_111 : mOps 81 111 = o_gI 114 2 1 := rfl
theorem x81_114 : mOps 81 114 = o_ri := rfl
theorem x81_115 : mOps 81 115 = o_al 116 3 := rfl
theorem x81_116 : mOps 81 116 = o_gP 119 7 6 := rfl
theorem x81_119 : mOps 81 119 = o_gI 122 2 0 := rfl
theorem x81_122 : mOps 81 122 = o_ri := rfl
theorem x81_123 : mOps 81 123 = o_al 124 3 := rfl
theorem x81_124 : mOps 81 124 = o_gP 127 7 6 := rfl
theorem x81_127 : mOps 81 127 = o_gI 130 2 1 := rfl
theorem x81_130 : mOps 81 130 = o_ri := rfl
theorem x81_131 : mOps 81 131 = o_ic 132 0 := rfl
theorem x81_132 : mOps 81 132 = o_al 133 3 := rfl
theorem x81_133 : mOps 81 133 = o_gI 136 7 8 := rfl
theorem x81_136 : mOps 81 136 = o_al 137 0 := rfl
theorem x81_137 : mOps 81 137 = o_gI 140 11 5 := rfl
theorem x81_140 : mOps 81 140 = o_ii 141 (fun x y => x - y) := rfl
theorem x81_141 : mOps 81 141 = o_max 144 := rfl
theorem x81_144 : mOps 81 144 = o_ri := rfl
theorem x81_145 : mOps 81 145 = o_al 146 3 := rfl
theorem x81_146 : mOps 81 146 = o_gI 149 7 7 := rfl
theorem x81_149 : mOps 81 149 = o_ri := rfl
theorem x81_150 : mOps 81 150 = o_al 151 3 := rfl
theorem x81_151 : mOps 81 151 = o_gP 154 7 9 := rfl
theorem x81_154 : mOps 81 154 = o_ic 155 0 := rfl
theorem x81_155 : mOps 81 155 = o_ial 156 := rfl
theorem x81_156 : mOps 81 156 = o_ri := rfl
theorem x81_157 : mOps 81 157 = o_al 158 3 := rfl
theorem x81_158 : mOps 81 158 = o_gP 161 7 9 := rfl
theorem x81_161 : mOps 81 161 = o_ic 162 1 := rfl
theorem x81_162 : mOps 81 162 = o_ial 163 := rfl
theorem x81_163 : mOps 81 163 = o_ri := rfl
theorem x81_164 : mOps 81 164 = o_al 165 3 := rfl
theorem x81_165 : mOps 81 165 = o_gP 168 7 9 := rfl
theorem x81_168 : mOps 81 168 = o_ic 169 2 := rfl
theorem x81_169 : mOps 81 169 = o_ial 170 := rfl
theorem x81_170 : mOps 81 170 = o_ri := rfl
theorem x81_171 : mOps 81 171 = o_al 172 3 := rfl
theorem x81_172 : mOps 81 172 = o_gP 175 7 15 := rfl
theorem x81_175 : mOps 81 175 = o_gI 178 8 0 := rfl
theorem x81_178 : mOps 81 178 = o_ri := rfl
theorem x81_179 : mOps 81 179 = o_ic 180 (-1) := rfl
theorem x81_180 : mOps 81 180 = o_ri := rfl
theorem x82_0 : mOps 82 0 = o_al 1 0 := rfl
theorem x82_1 : mOps 82 1 = o_il 2 1 := rfl
theorem x82_2 : mOps 82 2 = o_cV 5 63 1 11 := rfl
theorem x82_5 : mOps 82 5 = o_eq0 8 37 := rfl
theorem x82_8 : mOps 82 8 = o_al 9 0 := rfl
theorem x82_9 : mOps 82 9 = o_il 10 3 := rfl
theorem x82_10 : mOps 82 10 = o_cV 13 63 1 11 := rfl
theorem x82_13 : mOps 82 13 = o_eq0 16 37 := rfl
theorem x82_16 : mOps 82 16 = o_il 17 2 := rfl
theorem x82_17 : mOps 82 17 = o_lt0 20 37 := rfl
theorem x82_20 : mOps 82 20 = o_il 21 2 := rfl
theorem x82_21 : mOps 82 21 = o_ic 23 30 := rfl
theorem x82_23 : mOps 82 23 = o_ge 26 37 := rfl
theorem x82_26 : mOps 82 26 = o_il 28 4 := rfl
theorem x82_28 : mOps 82 28 = o_lt0 31 37 := rfl
theorem x82_31 : mOps 82 31 = o_il 33 4 := rfl
theorem x82_33 : mOps 82 33 = o_ic 34 3 := rfl
theorem x82_34 : mOps 82 34 = o_le 37 39 := rfl
theorem x82_37 : mOps 82 37 = o_ic 38 (-1) := rfl
theorem x82_38 : mOps 82 38 = o_ri := rfl
theorem x82_39 : mOps 82 39 = o_al 40 0 := rfl
theorem x82_40 : mOps 82 40 = o_gP 43 11 1 := rfl
theorem x82_43 : mOps 82 43 = o_il 44 1 := rfl
theorem x82_44 : mOps 82 44 = o_aal 45 := rfl
theorem x82_45 : mOps 82 45 = o_gP 48 7 12 := rfl
theorem x82_48 : mOps 82 48 = o_ast 50 5 := rfl
theorem x82_50 : mOps 82 50 = o_il 52 4 := rfl
theorem x82_52 : mOps 82 52 = o_ic 53 3 := rfl
theorem x82_53 : mOps 82 53 = o_eq 56 66 := rfl
theorem x82_56 : mOps 82 56 = o_al 58 5 := rfl
theorem x82_58 : mOps 82 58 = o_il 59 2 := rfl
theorem x82_59 : mOps 82 59 = o_il 60 3 := rfl
theorem x82_60 : mOps 82 60 = o_il 62 4 := rfl
theorem x82_62 : mOps 82 62 = o_cV 65 9 3 1 := rfl
theorem x82_65 : mOps 82 65 = o_ri := rfl
theorem x82_66 : mOps 82 66 = o_al 68 5 := rfl
theorem x82_68 : mOps 82 68 = o_il 69 2 := rfl
theorem x82_69 : mOps 82 69 = o_il 70 3 := rfl
theorem x82_70 : mOps 82 70 = o_ic 71 0 := rfl
theorem x82_71 : mOps 82 71 = o_cV 74 8 3 1 := rfl
theorem x82_74 : mOps 82 74 = o_eq0 77 86 := rfl
theorem x82_77 : mOps 82 77 = o_al 79 5 := rfl
theorem x82_79 : mOps 82 79 = o_il 80 2 := rfl
theorem x82_80 : mOps 82 80 = o_cV 83 10 1 1 := rfl
theorem x82_83 : mOps 82 83 = o_goto 88 := rfl
theorem x82_86 : mOps 82 86 = o_ic 88 (-9) := rfl
theorem x82_88 : mOps 82 88 = o_ri := rfl
theorem x83_0 : mOps 83 0 = o_al 1 0 := rfl
theorem x83_1 : mOps 83 1 = o_il 2 1 := rfl
theorem x83_2 : mOps 83 2 = o_cV 5 63 1 11 := rfl
theorem x83_5 : mOps 83 5 = o_eq0 8 24 := rfl
theorem x83_8 : mOps 83 8 = o_il 9 2 := rfl
theorem x83_9 : mOps 83 9 = o_cS 12 84 1 := rfl
theorem x83_12 : mOps 83 12 = o_eq0 15 24 := rfl
theorem x83_15 : mOps 83 15 = o_il 16 3 := rfl
theorem x83_16 : mOps 83 16 = o_lt0 19 24 := rfl
theorem x83_19 : mOps 83 19 = o_il 20 3 := rfl
theorem x83_20 : mOps 83 20 = o_ic 21 3 := rfl
theorem x83_21 : mOps 83 21 = o_le 24 26 := rfl
theorem x83_24 : mOps 83 24 = o_ic 25 (-1) := rfl
theorem x83_25 : mOps 83 25 = o_ri := rfl
theorem x83_26 : mOps 83 26 = o_al 27 0 := rfl
theorem x83_27 : mOps 83 27 = o_gP 30 11 1 := rfl
theorem x83_30 : mOps 83 30 = o_il 31 1 := rfl
theorem x83_31 : mOps 83 31 = o_aal 32 := rfl
theorem x83_32 : mOps 83 32 = o_gP 35 7 11 := rfl
theorem x83_35 : mOps 83 35 = o_ast 37 4 := rfl
theorem x83_37 : mOps 83 37 = o_al 39 4 := rfl
theorem x83_39 : mOps 83 39 = o_il 40 2 := rfl
theorem x83_40 : mOps 83 40 = o_cV 43 17 1 3 := rfl
theorem x83_43 : mOps 83 43 = o_ne0 46 49 := rfl
theorem x83_46 : mOps 83 46 = o_ic 48 (-2) := rfl
theorem x83_48 : mOps 83 48 = o_ri := rfl
theorem x83_49 : mOps 83 49 = o_il 50 3 := rfl
theorem x83_50 : mOps 83 50 = o_tsw [76, 84, 92] 100 := rfl
theorem x83_76 : mOps 83 76 = o_al 78 4 := rfl
theorem x83_78 : mOps 83 78 = o_gP 81 3 0 := rfl
theorem x83_81 : mOps 83 81 = o_il 82 2 := rfl
theorem x83_82 : mOps 83 82 = o_ial 83 := rfl
theorem x83_83 : mOps 83 83 = o_ri := rfl
theorem x83_84 : mOps 83 84 = o_al 86 4 := rfl
theorem x83_86 : mOps 83 86 = o_gP 89 3 1 := rfl
theorem x83_89 : mOps 83 89 = o_il 90 2 := rfl
theorem x83_90 : mOps 83 90 = o_ial 91 := rfl
theorem x83_91 : mOps 83 91 = o_ri := rfl
theorem x83_92 : mOps 83 92 = o_al 94 4 := rfl
theorem x83_94 : mOps 83 94 = o_gP 97 3 2 := rfl
theorem x83_97 : mOps 83 97 = o_il 98 2 := rfl
theorem x83_98 : mOps 83 98 = o_ial 99 := rfl
theorem x83_99 : mOps 83 99 = o_ri := rfl
theorem x83_100 : mOps 83 100 = o_al 101 0 := rfl
theorem x83_101 : mOps 83 101 = o_gP 104 11 0 := rfl
theorem x83_104 : mOps 83 104 = o_al 106 4 := rfl
theorem x83_106 : mOps 83 106 = o_gP 109 3 2 := rfl
theorem x83_109 : mOps 83 109 = o_il 110 2 := rfl
theorem x83_110 : mOps 83 110 = o_ial 111 := rfl
theorem x83_111 : mOps 83 111 = o_il 112 2 := rfl
theorem x83_112 : mOps 83 112 = o_cV 115 30 2 9 := rfl
theorem x83_115 : mOps 83 115 = o_ri := rfl
theorem x84_0 : mOps 84 0 = o_il 1 0 := rfl
theorem x84_1 : mOps 84 1 = o_ic 2 1 := rfl
theorem x84_2 : mOps 84 2 = o_lt 5 15 := rfl
theorem x84_5 : mOps 84 5 = o_il 6 0 := rfl
theorem x84_6 : mOps 84 6 = o_ic 8 40 := rfl
theorem x84_8 : mOps 84 8 = o_gt 11 15 := rfl
theorem x84_11 : mOps 84 11 = o_ic 12 1 := rfl
theorem x84_12 : mOps 84 12 = o_goto 16 := rfl
theorem x84_15 : mOps 84 15 = o_ic 16 0 := rfl
theorem x84_16 : mOps 84 16 = o_rz := rfl
theorem x85_0 : mOps 85 0 = o_il 1 1 := rfl
theorem x85_1 : mOps 85 1 = o_cS 4 84 1 := rfl
theorem x85_4 : mOps 85 4 = o_ne0 7 9 := rfl
theorem x85_7 : mOps 85 7 = o_ic 8 (-1) := rfl
theorem x85_8 : mOps 85 8 = o_ri := rfl
theorem x85_9 : mOps 85 9 = o_ic 10 0 := rfl
theorem x85_10 : mOps 85 10 = o_ist 11 2 := rfl
theorem x85_11 : mOps 85 11 = o_ic 12 0 := rfl
theorem x85_12 : mOps 85 12 = o_ist 13 3 := rfl
theorem x85_13 : mOps 85 13 = o_il 14 3 := rfl
theorem x85_14 : mOps 85 14 = o_al 15 0 := rfl
theorem x85_15 : mOps 85 15 = o_gP 18 11 0 := rfl
theorem x85_18 : mOps 85 18 = o_gI 21 9 0 := rfl
theorem x85_21 : mOps 85 21 = o_ge 24 71 := rfl
theorem x85_24 : mOps 85 24 = o_al 25 0 := rfl
theorem x85_25 : mOps 85 25 = o_gP 28 11 1 := rfl
theorem x85_28 : mOps 85 28 = o_il 29 3 := rfl
theorem x85_29 : mOps 85 29 = o_aal 30 := rfl
theorem x85_30 : mOps 85 30 = o_gP 33 7 11 := rfl
theorem x85_33 : mOps 85 33 = o_gP 36 3 0 := rfl
theorem x85_36 : mOps 85 36 = o_il 37 1 := rfl
theorem x85_37 : mOps 85 37 = o_ial 38 := rfl
theorem x85_38 : mOps 85 38 = o_ist 40 4 := rfl
theorem x85_40 : mOps 85 40 = o_il 42 4 := rfl
theorem x85_42 : mOps 85 42 = o_eq0 45 57 := rfl
theorem x85_45 : mOps 85 45 = o_il 46 2 := rfl
theorem x85_46 : mOps 85 46 = o_eq0 49 57 := rfl
theorem x85_49 : mOps 85 49 = o_il 51 4 := rfl
theorem x85_51 : mOps 85 51 = o_il 52 2 := rfl
theorem x85_52 : mOps 85 52 = o_eq 55 57 := rfl
theorem x85_55 : mOps 85 55 = o_ic 56 1 := rfl
theorem x85_56 : mOps 85 56 = o_ri := rfl
theorem x85_57 : mOps 85 57 = o_il 59 4 := rfl
theorem x85_59 : mOps 85 59 = o_eq0 62 65 := rfl
theorem x85_62 : mOps 85 62 = o_il 64 4 := rfl
theorem x85_64 : mOps 85 64 = o_ist 65 2 := rfl
theorem x85_65 : mOps 85 65 = o_inc 68 3 1 := rfl
theorem x85_68 : mOps 85 68 = o_back 13 [4] := rfl
theorem x85_71 : mOps 85 71 = o_ic 72 0 := rfl
theorem x85_72 : mOps 85 72 = o_ri := rfl
theorem x86_0 : mOps 86 0 = o_il 1 1 := rfl
theorem x86_1 : mOps 86 1 = o_ic 2 (-1) := rfl
theorem x86_2 : mOps 86 2 = o_ne 5 17 := rfl
theorem x86_5 : mOps 86 5 = o_il 6 2 := rfl
theorem x86_6 : mOps 86 6 = o_ne0 9 17 := rfl
theorem x86_9 : mOps 86 9 = o_al 10 0 := rfl
theorem x86_10 : mOps 86 10 = o_gP 13 11 4 := rfl
theorem x86_13 : mOps 86 13 = o_gI 16 4 1 := rfl
theorem x86_16 : mOps 86 16 = o_ri := rfl
theorem x86_17 : mOps 86 17 = o_il 18 1 := rfl
theorem x86_18 : mOps 86 18 = o_lt0 21 42 := rfl
theorem x86_21 : mOps 86 21 = o_il 22 1 := rfl
theorem x86_22 : mOps 86 22 = o_al 23 0 := rfl
theorem x86_23 : mOps 86 23 = o_gP 26 11 4 := rfl
theorem x86_26 : mOps 86 26 = o_gI 29 4 1 := rfl
theorem x86_29 : mOps 86 29 = o_ge 32 42 := rfl
theorem x86_32 : mOps 86 32 = o_il 33 2 := rfl
theorem x86_33 : mOps 86 33 = o_lt0 36 42 := rfl
theorem x86_36 : mOps 86 36 = o_il 37 2 := rfl
theorem x86_37 : mOps 86 37 = o_ic 39 6 := rfl
theorem x86_39 : mOps 86 39 = o_lt 42 44 := rfl
theorem x86_42 : mOps 86 42 = o_ic 43 (-1) := rfl
theorem x86_43 : mOps 86 43 = o_ri := rfl
theorem x86_44 : mOps 86 44 = o_al 45 0 := rfl
theorem x86_45 : mOps 86 45 = o_gP 48 11 4 := rfl
theorem x86_48 : mOps 86 48 = o_il 49 1 := rfl
theorem x86_49 : mOps 86 49 = o_il 50 2 := rfl
theorem x86_50 : mOps 86 50 = o_cV 53 21 2 4 := rfl
theorem x86_53 : mOps 86 53 = o_ri := rfl
theorem x87_0 : mOps 87 0 = o_al 1 0 := rfl
theorem x87_1 : mOps 87 1 = o_il 2 1 := rfl
theorem x87_2 : mOps 87 2 = o_cV 5 63 1 11 := rfl
theorem x87_5 : mOps 87 5 = o_eq0 8 23 := rfl
theorem x87_8 : mOps 87 8 = o_al 9 0 := rfl
theorem x87_9 : mOps 87 9 = o_gP 12 11 1 := rfl
theorem x87_12 : mOps 87 12 = o_il 13 1 := rfl
theorem x87_13 : mOps 87 13 = o_aal 14 := rfl
theorem x87_14 : mOps 87 14 = o_gP 17 7 15 := rfl
theorem x87_17 : mOps 87 17 = o_gI 20 8 1 := rfl
theorem x87_20 : mOps 87 20 = o_goto 24 := rfl
theorem x87_23 : mOps 87 23 = o_ic 24 (-1) := rfl
theorem x87_24 : mOps 87 24 = o_ri := rfl
theorem x88_0 : mOps 88 0 = o_il 1 1 := rfl
theorem x88_1 : mOps 88 1 = o_tsw [52, 57, 62, 67, 72, 80, 85, 93, 103] 117 := rfl
theorem x88_52 : mOps 88 52 = o_al 53 0 := rfl
theorem x88_53 : mOps 88 53 = o_gI 56 11 5 := rfl
theorem x88_56 : mOps 88 56 = o_ri := rfl
theorem x88_57 : mOps 88 57 = o_al 58 0 := rfl
theorem x88_58 : mOps 88 58 = o_gI 61 11 6 := rfl
theorem x88_61 : mOps 88 61 = o_ri := rfl
theorem x88_62 : mOps 88 62 = o_al 63 0 := rfl
theorem x88_63 : mOps 88 63 = o_gI 66 11 7 := rfl
theorem x88_66 : mOps 88 66 = o_ri := rfl
theorem x88_67 : mOps 88 67 = o_al 68 0 := rfl
theorem x88_68 : mOps 88 68 = o_gI 71 11 8 := rfl
theorem x88_71 : mOps 88 71 = o_ri := rfl
theorem x88_72 : mOps 88 72 = o_al 73 0 := rfl
theorem x88_73 : mOps 88 73 = o_gP 76 11 2 := rfl
theorem x88_76 : mOps 88 76 = o_gI 79 5 2 := rfl
theorem x88_79 : mOps 88 79 = o_ri := rfl
theorem x88_80 : mOps 88 80 = o_al 81 0 := rfl
theorem x88_81 : mOps 88 81 = o_cV 84 89 0 11 := rfl
theorem x88_84 : mOps 88 84 = o_ri := rfl
theorem x88_85 : mOps 88 85 = o_al 86 0 := rfl
theorem x88_86 : mOps 88 86 = o_gP 89 11 0 := rfl
theorem x88_89 : mOps 88 89 = o_gI 92 9 0 := rfl
theorem x88_92 : mOps 88 92 = o_ri := rfl
theorem x88_93 : mOps 88 93 = o_al 94 0 := rfl
theorem x88_94 : mOps 88 94 = o_gP 97 11 0 := rfl
theorem x88_97 : mOps 88 97 = o_gP 100 9 3 := rfl
theorem x88_100 : mOps 88 100 = o_ic 101 1 := rfl
theorem x88_101 : mOps 88 101 = o_ial 102 := rfl
theorem x88_102 : mOps 88 102 = o_ri := rfl
theorem x88_103 : mOps 88 103 = o_ic 104 0 := rfl
theorem x88_104 : mOps 88 104 = o_al 105 0 := rfl
theorem x88_105 : mOps 88 105 = o_gI 108 11 11 := rfl
theorem x88_108 : mOps 88 108 = o_al 109 0 := rfl
theorem x88_109 : mOps 88 109 = o_gI 112 11 5 := rfl
theorem x88_112 : mOps 88 112 = o_ii 113 (fun x y => x - y) := rfl
theorem x88_113 : mOps 88 113 = o_max 116 := rfl
theorem x88_116 : mOps 88 116 = o_ri := rfl
theorem x88_117 : mOps 88 117 = o_ic 118 (-1) := rfl
theorem x88_118 : mOps 88 118 = o_ri := rfl
theorem x89_0 : mOps 89 0 = o_al 1 0 := rfl
theorem x89_1 : mOps 89 1 = o_cV 4 64 0 11 := rfl
theorem x89_4 : mOps 89 4 = o_ic 5 1 := rfl
theorem x89_5 : mOps 89 5 = o_ii 6 (fun x y => x - y) := rfl
theorem x89_6 : mOps 89 6 = o_ri := rfl
theorem x90_0 : mOps 90 0 = o_il 1 2 := rfl
theorem x90_1 : mOps 90 1 = o_cS 4 84 1 := rfl
theorem x90_4 : mOps 90 4 = o_eq0 7 20 := rfl
theorem x90_7 : mOps 90 7 = o_il 8 1 := rfl
theorem x90_8 : mOps 90 8 = o_ic 9 (-1) := rfl
theorem x90_9 : mOps 90 9 = o_eq 12 22 := rfl
theorem x90_12 : mOps 90 12 = o_al 13 0 := rfl
theorem x90_13 : mOps 90 13 = o_il 14 1 := rfl
theorem x90_14 : mOps 90 14 = o_cV 17 63 1 11 := rfl
theorem x90_17 : mOps 90 17 = o_ne0 20 22 := rfl
theorem x90_20 : mOps 90 20 = o_ic 21 (-1) := rfl
theorem x90_21 : mOps 90 21 = o_ri := rfl
theorem x90_22 : mOps 90 22 = o_il 23 1 := rfl
theorem x90_23 : mOps 90 23 = o_ic 24 (-1) := rfl
theorem x90_24 : mOps 90 24 = o_ne 27 39 := rfl
theorem x90_27 : mOps 90 27 = o_al 28 0 := rfl
theorem x90_28 : mOps 90 28 = o_gP 31 11 0 := rfl
theorem x90_31 : mOps 90 31 = o_gP 34 9 3 := rfl
theorem x90_34 : mOps 90 34 = o_il 35 2 := rfl
theorem x90_35 : mOps 90 35 = o_ial 36 := rfl
theorem x90_36 : mOps 90 36 = o_goto 50 := rfl
theorem x90_39 : mOps 90 39 = o_al 40 0 := rfl
theorem x90_40 : mOps 90 40 = o_gP 43 11 0 := rfl
theorem x90_43 : mOps 90 43 = o_gP 46 9 2 := rfl
theorem x90_46 : mOps 90 46 = o_il 47 2 := rfl
theorem x90_47 : mOps 90 47 = o_aal 48 := rfl
theorem x90_48 : mOps 90 48 = o_il 49 1 := rfl
theorem x90_49 : mOps 90 49 = o_ial 50 := rfl
theorem x90_50 : mOps 90 50 = o_ri := rfl
theorem x91_0 : mOps 91 0 = o_al 1 0 := rfl
theorem x91_1 : mOps 91 1 = o_obj 4 := rfl
theorem x91_4 : mOps 91 4 = o_al 5 0 := rfl
theorem x91_5 : mOps 91 5 = o_ic 8 420 := rfl
theorem x91_8 : mOps 91 8 = o_nwa 10 20 := rfl
theorem x91_10 : mOps 91 10 = o_pP 13 12 4 := rfl
theorem x91_13 : mOps 91 13 = o_al 14 0 := rfl
theorem x91_14 : mOps 91 14 = o_ic 16 10 := rfl
theorem x91_16 : mOps 91 16 = o_nwa 18 20 := rfl
theorem x91_18 : mOps 91 18 = o_pP 21 12 5 := rfl
theorem x91_21 : mOps 91 21 = o_al 22 0 := rfl
theorem x91_22 : mOps 91 22 = o_ic 24 10 := rfl
theorem x91_24 : mOps 91 24 = o_nwa 26 20 := rfl
theorem x91_26 : mOps 91 26 = o_pP 29 12 6 := rfl
theorem x91_29 : mOps 91 29 = o_al 30 0 := rfl
theorem x91_30 : mOps 91 30 = o_ic 32 10 := rfl
theorem x91_32 : mOps 91 32 = o_nwa 34 20 := rfl
theorem x91_34 : mOps 91 34 = o_pP 37 12 7 := rfl
theorem x91_37 : mOps 91 37 = o_al 38 0 := rfl
theorem x91_38 : mOps 91 38 = o_ic 40 10 := rfl
theorem x91_40 : mOps 91 40 = o_nwa 42 20 := rfl
theorem x91_42 : mOps 91 42 = o_pP 45 12 8 := rfl
theorem x91_45 : mOps 91 45 = o_al 46 0 := rfl
theorem x91_46 : mOps 91 46 = o_ic 48 10 := rfl
theorem x91_48 : mOps 91 48 = o_nwa 50 20 := rfl
theorem x91_50 : mOps 91 50 = o_pP 53 12 9 := rfl
theorem x91_53 : mOps 91 53 = o_al 54 0 := rfl
theorem x91_54 : mOps 91 54 = o_ic 56 10 := rfl
theorem x91_56 : mOps 91 56 = o_nwa 58 20 := rfl
theorem x91_58 : mOps 91 58 = o_pP 61 12 10 := rfl
theorem x91_61 : mOps 91 61 = o_al 62 0 := rfl
theorem x91_62 : mOps 91 62 = o_ic 64 10 := rfl
theorem x91_64 : mOps 91 64 = o_nwa 66 20 := rfl
theorem x91_66 : mOps 91 66 = o_pP 69 12 11 := rfl
theorem x91_69 : mOps 91 69 = o_al 70 0 := rfl
theorem x91_70 : mOps 91 70 = o_ic 72 10 := rfl
theorem x91_72 : mOps 91 72 = o_nwa 74 20 := rfl
theorem x91_74 : mOps 91 74 = o_pP 77 12 12 := rfl
theorem x91_77 : mOps 91 77 = o_al 78 0 := rfl
theorem x91_78 : mOps 91 78 = o_ic 80 10 := rfl
theorem x91_80 : mOps 91 80 = o_nwa 82 21 := rfl
theorem x91_82 : mOps 91 82 = o_pP 85 12 13 := rfl
theorem x91_85 : mOps 91 85 = o_al 86 0 := rfl
theorem x91_86 : mOps 91 86 = o_ic 88 10 := rfl
theorem x91_88 : mOps 91 88 = o_nwa 90 20 := rfl
theorem x91_90 : mOps 91 90 = o_pP 93 12 14 := rfl
theorem x91_93 : mOps 91 93 = o_al 94 0 := rfl
theorem x91_94 : mOps 91 94 = o_ic 96 30 := rfl
theorem x91_96 : mOps 91 96 = o_nwa 98 20 := rfl
theorem x91_98 : mOps 91 98 = o_pP 101 12 15 := rfl
theorem x91_101 : mOps 91 101 = o_al 102 0 := rfl
theorem x91_102 : mOps 91 102 = o_ic 104 10 := rfl
theorem x91_104 : mOps 91 104 = o_nwa 106 21 := rfl
theorem x91_106 : mOps 91 106 = o_pP 109 12 16 := rfl
theorem x91_109 : mOps 91 109 = o_al 110 0 := rfl
theorem x91_110 : mOps 91 110 = o_ic 112 10 := rfl
theorem x91_112 : mOps 91 112 = o_nwa 114 21 := rfl
theorem x91_114 : mOps 91 114 = o_pP 117 12 17 := rfl
theorem x91_117 : mOps 91 117 = o_al 118 0 := rfl
theorem x91_118 : mOps 91 118 = o_ic 120 10 := rfl
theorem x91_120 : mOps 91 120 = o_nwa 122 21 := rfl
theorem x91_122 : mOps 91 122 = o_pP 125 12 18 := rfl
theorem x91_125 : mOps 91 125 = o_al 126 0 := rfl
theorem x91_126 : mOps 91 126 = o_ic 128 10 := rfl
theorem x91_128 : mOps 91 128 = o_nwa 130 20 := rfl
theorem x91_130 : mOps 91 130 = o_pP 133 12 19 := rfl
theorem x91_133 : mOps 91 133 = o_al 134 0 := rfl
theorem x91_134 : mOps 91 134 = o_ic 137 18000 := rfl
theorem x91_137 : mOps 91 137 = o_nwa 139 20 := rfl
theorem x91_139 : mOps 91 139 = o_pP 142 12 20 := rfl
theorem x91_142 : mOps 91 142 = o_al 143 0 := rfl
theorem x91_143 : mOps 91 143 = o_ic 146 6000 := rfl
theorem x91_146 : mOps 91 146 = o_nwa 148 20 := rfl
theorem x91_148 : mOps 91 148 = o_pP 151 12 21 := rfl
theorem x91_151 : mOps 91 151 = o_al 152 0 := rfl
theorem x91_152 : mOps 91 152 = o_ic 155 900 := rfl
theorem x91_155 : mOps 91 155 = o_nwa 157 20 := rfl
theorem x91_157 : mOps 91 157 = o_pP 160 12 22 := rfl
theorem x91_160 : mOps 91 160 = o_al 161 0 := rfl
theorem x91_161 : mOps 91 161 = o_ic 164 900 := rfl
theorem x91_164 : mOps 91 164 = o_nwa 166 20 := rfl
theorem x91_166 : mOps 91 166 = o_pP 169 12 23 := rfl
theorem x91_169 : mOps 91 169 = o_al 170 0 := rfl
theorem x91_170 : mOps 91 170 = o_ic 173 410 := rfl
theorem x91_173 : mOps 91 173 = o_nwa 175 20 := rfl
theorem x91_175 : mOps 91 175 = o_pP 178 12 24 := rfl
theorem x91_178 : mOps 91 178 = o_al 179 0 := rfl
theorem x91_179 : mOps 91 179 = o_ic 182 410 := rfl
theorem x91_182 : mOps 91 182 = o_nwa 184 20 := rfl
theorem x91_184 : mOps 91 184 = o_pP 187 12 25 := rfl
theorem x91_187 : mOps 91 187 = o_al 188 0 := rfl
theorem x91_188 : mOps 91 188 = o_ic 191 410 := rfl
theorem x91_191 : mOps 91 191 = o_nwa 193 20 := rfl
theorem x91_193 : mOps 91 193 = o_pP 196 12 26 := rfl
theorem x91_196 : mOps 91 196 = o_al 197 0 := rfl
theorem x91_197 : mOps 91 197 = o_ic 200 410 := rfl
theorem x91_200 : mOps 91 200 = o_nwa 202 22 := rfl
theorem x91_202 : mOps 91 202 = o_pP 205 12 27 := rfl
theorem x91_205 : mOps 91 205 = o_al 206 0 := rfl
theorem x91_206 : mOps 91 206 = o_ic 209 20000 := rfl
theorem x91_209 : mOps 91 209 = o_nwa 211 20 := rfl
theorem x91_211 : mOps 91 211 = o_pP 214 12 28 := rfl
theorem x91_214 : mOps 91 214 = o_al 215 0 := rfl
theorem x91_215 : mOps 91 215 = o_ic 218 20000 := rfl
theorem x91_218 : mOps 91 218 = o_nwa 220 20 := rfl
theorem x91_220 : mOps 91 220 = o_pP 223 12 29 := rfl
theorem x91_223 : mOps 91 223 = o_al 224 0 := rfl
theorem x91_224 : mOps 91 224 = o_ic 227 20000 := rfl
theorem x91_227 : mOps 91 227 = o_nwa 229 20 := rfl
theorem x91_229 : mOps 91 229 = o_pP 232 12 30 := rfl
theorem x91_232 : mOps 91 232 = o_al 233 0 := rfl
theorem x91_233 : mOps 91 233 = o_ic 236 20000 := rfl
theorem x91_236 : mOps 91 236 = o_nwa 238 20 := rfl
theorem x91_238 : mOps 91 238 = o_pP 241 12 31 := rfl
theorem x91_241 : mOps 91 241 = o_al 242 0 := rfl
theorem x91_242 : mOps 91 242 = o_ic 245 20000 := rfl
theorem x91_245 : mOps 91 245 = o_nwa 247 20 := rfl
theorem x91_247 : mOps 91 247 = o_pP 250 12 32 := rfl
theorem x91_250 : mOps 91 250 = o_al 251 0 := rfl
theorem x91_251 : mOps 91 251 = o_ic 254 20000 := rfl
theorem x91_254 : mOps 91 254 = o_nwa 256 20 := rfl
theorem x91_256 : mOps 91 256 = o_pP 259 12 33 := rfl
theorem x91_259 : mOps 91 259 = o_al 260 0 := rfl
theorem x91_260 : mOps 91 260 = o_ic 263 20000 := rfl
theorem x91_263 : mOps 91 263 = o_nwa 265 20 := rfl
theorem x91_265 : mOps 91 265 = o_pP 268 12 34 := rfl
theorem x91_268 : mOps 91 268 = o_al 269 0 := rfl
theorem x91_269 : mOps 91 269 = o_ic 272 20000 := rfl
theorem x91_272 : mOps 91 272 = o_nwa 274 20 := rfl
theorem x91_274 : mOps 91 274 = o_pP 277 12 35 := rfl
theorem x91_277 : mOps 91 277 = o_al 278 0 := rfl
theorem x91_278 : mOps 91 278 = o_ic 281 20000 := rfl
theorem x91_281 : mOps 91 281 = o_nwa 283 21 := rfl
theorem x91_283 : mOps 91 283 = o_pP 286 12 36 := rfl
theorem x91_286 : mOps 91 286 = o_al 287 0 := rfl
theorem x91_287 : mOps 91 287 = o_ic 289 60 := rfl
theorem x91_289 : mOps 91 289 = o_nwa 291 20 := rfl
theorem x91_291 : mOps 91 291 = o_pP 294 12 42 := rfl
theorem x91_294 : mOps 91 294 = o_al 295 0 := rfl
theorem x91_295 : mOps 91 295 = o_ic 297 60 := rfl
theorem x91_297 : mOps 91 297 = o_nwa 299 20 := rfl
theorem x91_299 : mOps 91 299 = o_pP 302 12 43 := rfl
theorem x91_302 : mOps 91 302 = o_al 303 0 := rfl
theorem x91_303 : mOps 91 303 = o_ic 305 60 := rfl
theorem x91_305 : mOps 91 305 = o_nwa 307 20 := rfl
theorem x91_307 : mOps 91 307 = o_pP 310 12 44 := rfl
theorem x91_310 : mOps 91 310 = o_al 311 0 := rfl
theorem x91_311 : mOps 91 311 = o_ic 314 1200 := rfl
theorem x91_314 : mOps 91 314 = o_nwa 316 20 := rfl
theorem x91_316 : mOps 91 316 = o_pP 319 12 49 := rfl
theorem x91_319 : mOps 91 319 = o_al 320 0 := rfl
theorem x91_320 : mOps 91 320 = o_ic 322 36900 := rfl
theorem x91_322 : mOps 91 322 = o_nwa 324 20 := rfl
theorem x91_324 : mOps 91 324 = o_pP 327 12 51 := rfl
theorem x91_327 : mOps 91 327 = o_al 328 0 := rfl
theorem x91_328 : mOps 91 328 = o_ic 330 36900 := rfl
theorem x91_330 : mOps 91 330 = o_nwa 332 21 := rfl
theorem x91_332 : mOps 91 332 = o_pP 335 12 52 := rfl
theorem x91_335 : mOps 91 335 = o_al 336 0 := rfl
theorem x91_336 : mOps 91 336 = o_ic 337 0 := rfl
theorem x91_337 : mOps 91 337 = o_pI 340 12 0 := rfl
theorem x91_340 : mOps 91 340 = o_al 341 0 := rfl
theorem x91_341 : mOps 91 341 = o_il 342 1 := rfl
theorem x91_342 : mOps 91 342 = o_ic 343 1 := rfl
theorem x91_343 : mOps 91 343 = o_ge 346 350 := rfl
theorem x91_346 : mOps 91 346 = o_ic 347 1 := rfl
theorem x91_347 : mOps 91 347 = o_goto 362 := rfl
theorem x91_350 : mOps 91 350 = o_il 351 1 := rfl
theorem x91_351 : mOps 91 351 = o_ic 353 10 := rfl
theorem x91_353 : mOps 91 353 = o_le 356 361 := rfl
theorem x91_356 : mOps 91 356 = o_ic 358 10 := rfl
theorem x91_358 : mOps 91 358 = o_goto 362 := rfl
theorem x91_361 : mOps 91 361 = o_il 362 1 := rfl
theorem x91_362 : mOps 91 362 = o_pI 365 12 1 := rfl
theorem x91_365 : mOps 91 365 = o_al 366 0 := rfl
theorem x91_366 : mOps 91 366 = o_il 367 2 := rfl
theorem x91_367 : mOps 91 367 = o_pI 370 12 2 := rfl
theorem x91_370 : mOps 91 370 = o_ic 371 0 := rfl
theorem x91_371 : mOps 91 371 = o_ist 372 3 := rfl
theorem x91_372 : mOps 91 372 = o_il 373 3 := rfl
theorem x91_373 : mOps 91 373 = o_ic 376 420 := rfl
theorem x91_376 : mOps 91 376 = o_ge 379 392 := rfl
theorem x91_379 : mOps 91 379 = o_al 380 0 := rfl
theorem x91_380 : mOps 91 380 = o_gP 383 12 4 := rfl
theorem x91_383 : mOps 91 383 = o_il 384 3 := rfl
theorem x91_384 : mOps 91 384 = o_ic 385 1 := rfl
theorem x91_385 : mOps 91 385 = o_ias 386 := rfl
theorem x91_386 : mOps 91 386 = o_inc 389 3 1 := rfl
theorem x91_389 : mOps 91 389 = o_back 372 [] := rfl
theorem x91_392 : mOps 91 392 = o_ic 393 0 := rfl
theorem x91_393 : mOps 91 393 = o_ist 394 3 := rfl
theorem x91_394 : mOps 91 394 = o_il 395 3 := rfl
theorem x91_395 : mOps 91 395 = o_ic 397 10 := rfl
theorem x91_397 : mOps 91 397 = o_ge 400 444 := rfl
theorem x91_400 : mOps 91 400 = o_al 401 0 := rfl
theorem x91_401 : mOps 91 401 = o_gP 404 12 5 := rfl
theorem x91_404 : mOps 91 404 = o_il 405 3 := rfl
theorem x91_405 : mOps 91 405 = o_ic 406 1 := rfl
theorem x91_406 : mOps 91 406 = o_ias 407 := rfl
theorem x91_407 : mOps 91 407 = o_al 408 0 := rfl
theorem x91_408 : mOps 91 408 = o_gP 411 12 9 := rfl
theorem x91_411 : mOps 91 411 = o_il 412 3 := rfl
theorem x91_412 : mOps 91 412 = o_ic 413 (-1) := rfl
theorem x91_413 : mOps 91 413 = o_ias 414 := rfl
theorem x91_414 : mOps 91 414 = o_al 415 0 := rfl
theorem x91_415 : mOps 91 415 = o_gP 418 12 11 := rfl
theorem x91_418 : mOps 91 418 = o_il 419 3 := rfl
theorem x91_419 : mOps 91 419 = o_ic 420 (-1) := rfl
theorem x91_420 : mOps 91 420 = o_ias 421 := rfl
theorem x91_421 : mOps 91 421 = o_al 422 0 := rfl
theorem x91_422 : mOps 91 422 = o_il 423 3 := rfl
theorem x91_423 : mOps 91 423 = o_ic 424 0 := rfl
theorem x91_424 : mOps 91 424 = o_cV 427 92 2 12 := rfl
theorem x91_427 : mOps 91 427 = o_al 428 0 := rfl
theorem x91_428 : mOps 91 428 = o_il 429 3 := rfl
theorem x91_429 : mOps 91 429 = o_ic 430 1 := rfl
theorem x91_430 : mOps 91 430 = o_cV 433 92 2 12 := rfl
theorem x91_433 : mOps 91 433 = o_al 434 0 := rfl
theorem x91_434 : mOps 91 434 = o_il 435 3 := rfl
theorem x91_435 : mOps 91 435 = o_cV 438 95 1 12 := rfl
theorem x91_438 : mOps 91 438 = o_inc 441 3 1 := rfl
theorem x91_441 : mOps 91 441 = o_back 394 [] := rfl
theorem x91_444 : mOps 91 444 = o_ic 445 0 := rfl
theorem x91_445 : mOps 91 445 = o_ist 446 3 := rfl
theorem x91_446 : mOps 91 446 = o_il 447 3 := rfl
theorem x91_447 : mOps 91 447 = o_ic 449 36900 := rfl
theorem x91_449 : mOps 91 449 = o_ge 452 465 := rfl
theorem x91_452 : mOps 91 452 = o_al 453 0 := rfl
theorem x91_453 : mOps 91 453 = o_gP 456 12 51 := rfl
theorem x91_456 : mOps 91 456 = o_il 457 3 := rfl
theorem x91_457 : mOps 91 457 = o_ic 458 (-1) := rfl
theorem x91_458 : mOps 91 458 = o_ias 459 := rfl
theorem x91_459 : mOps 91 459 = o_inc 462 3 1 := rfl
theorem x91_462 : mOps 91 462 = o_back 446 [] := rfl
theorem x91_465 : mOps 91 465 = o_rv := rfl
theorem x92_0 : mOps 92 0 = o_ic 1 0 := rfl
theorem x92_1 : mOps 92 1 = o_ist 2 3 := rfl
theorem x92_2 : mOps 92 2 = o_il 3 3 := rfl
theorem x92_3 : mOps 92 3 = o_ic 5 30 := rfl
theorem x92_5 : mOps 92 5 = o_ge 8 78 := rfl
theorem x92_8 : mOps 92 8 = o_ic 9 0 := rfl
theorem x92_9 : mOps 92 9 = o_ist 11 4 := rfl
theorem x92_11 : mOps 92 11 = o_il 13 4 := rfl
theorem x92_13 : mOps 92 13 = o_ic 15 10 := rfl
theorem x92_15 : mOps 92 15 = o_ge 18 72 := rfl
theorem x92_18 : mOps 92 18 = o_ic 19 0 := rfl
theorem x92_19 : mOps 92 19 = o_ist 21 5 := rfl
theorem x92_21 : mOps 92 21 = o_il 23 5 := rfl
theorem x92_23 : mOps 92 23 = o_ic 24 3 := rfl
theorem x92_24 : mOps 92 24 = o_ge 27 50 := rfl
theorem x92_27 : mOps 92 27 = o_al 28 0 := rfl
theorem x92_28 : mOps 92 28 = o_gP 31 12 20 := rfl
theorem x92_31 : mOps 92 31 = o_al 32 0 := rfl
theorem x92_32 : mOps 92 32 = o_il 33 1 := rfl
theorem x92_33 : mOps 92 33 = o_il 34 2 := rfl
theorem x92_34 : mOps 92 34 = o_il 35 3 := rfl
theorem x92_35 : mOps 92 35 = o_il 37 4 := rfl
theorem x92_37 : mOps 92 37 = o_il 39 5 := rfl
theorem x92_39 : mOps 92 39 = o_cV 42 93 5 12 := rfl
theorem x92_42 : mOps 92 42 = o_ic 43 (-1) := rfl
theorem x92_43 : mOps 92 43 = o_ias 44 := rfl
theorem x92_44 : mOps 92 44 = o_inc 47 5 1 := rfl
theorem x92_47 : mOps 92 47 = o_back 21 [] := rfl
theorem x92_50 : mOps 92 50 = o_al 51 0 := rfl
theorem x92_51 : mOps 92 51 = o_gP 54 12 21 := rfl
theorem x92_54 : mOps 92 54 = o_al 55 0 := rfl
theorem x92_55 : mOps 92 55 = o_il 56 1 := rfl
theorem x92_56 : mOps 92 56 = o_il 57 2 := rfl
theorem x92_57 : mOps 92 57 = o_il 58 3 := rfl
theorem x92_58 : mOps 92 58 = o_il 60 4 := rfl
theorem x92_60 : mOps 92 60 = o_cV 63 94 4 12 := rfl
theorem x92_63 : mOps 92 63 = o_ic 65 (-9) := rfl
theorem x92_65 : mOps 92 65 = o_ias 66 := rfl
theorem x92_66 : mOps 92 66 = o_inc 69 4 1 := rfl
theorem x92_69 : mOps 92 69 = o_back 11 [5] := rfl
theorem x92_72 : mOps 92 72 = o_inc 75 3 1 := rfl
theorem x92_75 : mOps 92 75 = o_back 2 [4] := rfl
theorem x92_78 : mOps 92 78 = o_rv := rfl
theorem x93_0 : mOps 93 0 = o_ic 1 2 := rfl
theorem x93_1 : mOps 93 1 = o_il 2 1 := rfl
theorem x93_2 : mOps 93 2 = o_ii 3 (fun x y => x * y) := rfl
theorem x93_3 : mOps 93 3 = o_il 4 2 := rfl
theorem x93_4 : mOps 93 4 = o_ic 5 2 := rfl
theorem x93_5 : mOps 93 5 = o_rem 6 := rfl
theorem x93_6 : mOps 93 6 = o_ii 7 (fun x y => x + y) := rfl
theorem x93_7 : mOps 93 7 = o_ic 9 30 := rfl
theorem x93_9 : mOps 93 9 = o_ii 10 (fun x y => x * y) := rfl
theorem x93_10 : mOps 93 10 = o_il 11 3 := rfl
theorem x93_11 : mOps 93 11 = o_ii 12 (fun x y => x + y) := rfl
theorem x93_12 : mOps 93 12 = o_ic 14 10 := rfl
theorem x93_14 : mOps 93 14 = o_ii 15 (fun x y => x * y) := rfl
theorem x93_15 : mOps 93 15 = o_il 17 4 := rfl
theorem x93_17 : mOps 93 17 = o_ii 18 (fun x y => x + y) := rfl
theorem x93_18 : mOps 93 18 = o_ic 19 3 := rfl
theorem x93_19 : mOps 93 19 = o_ii 20 (fun x y => x * y) := rfl
theorem x93_20 : mOps 93 20 = o_il 22 5 := rfl
theorem x93_22 : mOps 93 22 = o_ii 23 (fun x y => x + y) := rfl
theorem x93_23 : mOps 93 23 = o_ri := rfl
theorem x94_0 : mOps 94 0 = o_ic 1 2 := rfl
theorem x94_1 : mOps 94 1 = o_il 2 1 := rfl
theorem x94_2 : mOps 94 2 = o_ii 3 (fun x y => x * y) := rfl
theorem x94_3 : mOps 94 3 = o_il 4 2 := rfl
theorem x94_4 : mOps 94 4 = o_ic 5 2 := rfl
theorem x94_5 : mOps 94 5 = o_rem 6 := rfl
theorem x94_6 : mOps 94 6 = o_ii 7 (fun x y => x + y) := rfl
theorem x94_7 : mOps 94 7 = o_ic 9 30 := rfl
theorem x94_9 : mOps 94 9 = o_ii 10 (fun x y => x * y) := rfl
theorem x94_10 : mOps 94 10 = o_il 11 3 := rfl
theorem x94_11 : mOps 94 11 = o_ii 12 (fun x y => x + y) := rfl
theorem x94_12 : mOps 94 12 = o_ic 14 10 := rfl
theorem x94_14 : mOps 94 14 = o_ii 15 (fun x y => x * y) := rfl
theorem x94_15 : mOps 94 15 = o_il 17 4 := rfl
theorem x94_17 : mOps 94 17 = o_ii 18 (fun x y => x + y) := rfl
theorem x94_18 : mOps 94 18 = o_ri := rfl
theorem x95_0 : mOps 95 0 = o_ic 1 0 := rfl
theorem x95_1 : mOps 95 1 = o_ist 2 2 := rfl
theorem x95_2 : mOps 95 2 = o_il 3 2 := rfl
theorem x95_3 : mOps 95 3 = o_ic 5 90 := rfl
theorem x95_5 : mOps 95 5 = o_ge 8 39 := rfl
theorem x95_8 : mOps 95 8 = o_al 9 0 := rfl
theorem x95_9 : mOps 95 9 = o_gP 12 12 22 := rfl
theorem x95_12 : mOps 95 12 = o_ic 14 90 := rfl
theorem x95_14 : mOps 95 14 = o_il 15 1 := rfl
theorem x95_15 : mOps 95 15 = o_ii 16 (fun x y => x * y) := rfl
theorem x95_16 : mOps 95 16 = o_il 17 2 := rfl
theorem x95_17 : mOps 95 17 = o_ii 18 (fun x y => x + y) := rfl
theorem x95_18 : mOps 95 18 = o_ic 19 (-1) := rfl
theorem x95_19 : mOps 95 19 = o_ias 20 := rfl
theorem x95_20 : mOps 95 20 = o_al 21 0 := rfl
theorem x95_21 : mOps 95 21 = o_gP 24 12 23 := rfl
theorem x95_24 : mOps 95 24 = o_ic 26 90 := rfl
theorem x95_26 : mOps 95 26 = o_il 27 1 := rfl
theorem x95_27 : mOps 95 27 = o_ii 28 (fun x y => x * y) := rfl
theorem x95_28 : mOps 95 28 = o_il 29 2 := rfl
theorem x95_29 : mOps 95 29 = o_ii 30 (fun x y => x + y) := rfl
theorem x95_30 : mOps 95 30 = o_ic 32 (-9) := rfl
theorem x95_32 : mOps 95 32 = o_ias 33 := rfl
theorem x95_33 : mOps 95 33 = o_inc 36 2 1 := rfl
theorem x95_36 : mOps 95 36 = o_back 2 [] := rfl
theorem x95_39 : mOps 95 39 = o_rv := rfl
theorem x96_0 : mOps 96 0 = o_al 1 0 := rfl
theorem x96_1 : mOps 96 1 = o_ic 2 0 := rfl
theorem x96_2 : mOps 96 2 = o_pI 5 12 0 := rfl
theorem x96_5 : mOps 96 5 = o_il 6 1 := rfl
theorem x96_6 : mOps 96 6 = o_i2l 7 := rfl
theorem x96_7 : mOps 96 7 = o_lc 8 1 := rfl
theorem x96_8 : mOps 96 8 = o_lc 11 100 := rfl
theorem x96_11 : mOps 96 11 = o_cS 14 97 3 := rfl
theorem x96_14 : mOps 96 14 = o_ne0 17 19 := rfl
theorem x96_17 : mOps 96 17 = o_ic 18 (-1) := rfl
theorem x96_18 : mOps 96 18 = o_ri := rfl
theorem x96_19 : mOps 96 19 = o_ic 20 0 := rfl
theorem x96_20 : mOps 96 20 = o_ist 21 2 := rfl
theorem x96_21 : mOps 96 21 = o_il 22 2 := rfl
theorem x96_22 : mOps 96 22 = o_il 23 1 := rfl
theorem x96_23 : mOps 96 23 = o_ge 26 36 := rfl
theorem x96_26 : mOps 96 26 = o_al 27 0 := rfl
theorem x96_27 : mOps 96 27 = o_cV 30 98 0 12 := rfl
theorem x96_30 : mOps 96 30 = o_inc 33 2 1 := rfl
theorem x96_33 : mOps 96 33 = o_back 21 [] := rfl
theorem x96_36 : mOps 96 36 = o_al 37 0 := rfl
theorem x96_37 : mOps 96 37 = o_gI 40 12 3 := rfl
theorem x96_40 : mOps 96 40 = o_ri := rfl
theorem x97_0 : mOps 97 0 = o_llo 1 0 := rfl
theorem x97_1 : mOps 97 1 = o_llo 2 2 := rfl
theorem x97_2 : mOps 97 2 = o_lcmp 3 := rfl
theorem x97_3 : mOps 97 3 = o_lt0 6 17 := rfl
theorem x97_6 : mOps 97 6 = o_llo 7 0 := rfl
theorem x97_7 : mOps 97 7 = o_llo 9 4 := rfl
theorem x97_9 : mOps 97 9 = o_lcmp 10 := rfl
theorem x97_10 : mOps 97 10 = o_gt0 13 17 := rfl
theorem x97_13 : mOps 97 13 = o_ic 14 1 := rfl
theorem x97_14 : mOps 97 14 = o_goto 18 := rfl
theorem x97_17 : mOps 97 17 = o_ic 18 0 := rfl
theorem x97_18 : mOps 97 18 = o_rz := rfl
theorem x98_0 : mOps 98 0 = o_al 1 0 := rfl
theorem x98_1 : mOps 98 1 = o_dup 2 := rfl
theorem x98_2 : mOps 98 2 = o_gI 5 12 3 := rfl
theorem x98_5 : mOps 98 5 = o_ic 6 1 := rfl
theorem x98_6 : mOps 98 6 = o_ii 7 (fun x y => x + y) := rfl
theorem x98_7 : mOps 98 7 = o_pI 10 12 3 := rfl
theorem x98_10 : mOps 98 10 = o_al 11 0 := rfl
theorem x98_11 : mOps 98 11 = o_gI 14 12 3 := rfl
theorem x98_14 : mOps 98 14 = o_ic 15 1 := rfl
theorem x98_15 : mOps 98 15 = o_ne 18 45 := rfl
theorem x98_18 : mOps 98 18 = o_ic 19 0 := rfl
theorem x98_19 : mOps 98 19 = o_ist 20 1 := rfl
theorem x98_20 : mOps 98 20 = o_il 21 1 := rfl
theorem x98_21 : mOps 98 21 = o_al 22 0 := rfl
theorem x98_22 : mOps 98 22 = o_gI 25 12 1 := rfl
theorem x98_25 : mOps 98 25 = o_ge 28 45 := rfl
theorem x98_28 : mOps 98 28 = o_al 29 0 := rfl
theorem x98_29 : mOps 98 29 = o_il 30 1 := rfl
theorem x98_30 : mOps 98 30 = o_ic 31 0 := rfl
theorem x98_31 : mOps 98 31 = o_cV 34 99 2 12 := rfl
theorem x98_34 : mOps 98 34 = o_al 35 0 := rfl
theorem x98_35 : mOps 98 35 = o_il 36 1 := rfl
theorem x98_36 : mOps 98 36 = o_cV 39 111 1 12 := rfl
theorem x98_39 : mOps 98 39 = o_inc 42 1 1 := rfl
theorem x98_42 : mOps 98 42 = o_back 20 [] := rfl
theorem x98_45 : mOps 98 45 = o_ic 46 0 := rfl
theorem x98_46 : mOps 98 46 = o_ist 47 1 := rfl
theorem x98_47 : mOps 98 47 = o_il 48 1 := rfl
theorem x98_48 : mOps 98 48 = o_al 49 0 := rfl
theorem x98_49 : mOps 98 49 = o_gI 52 12 1 := rfl
theorem x98_52 : mOps 98 52 = o_ge 55 88 := rfl
theorem x98_55 : mOps 98 55 = o_al 56 0 := rfl
theorem x98_56 : mOps 98 56 = o_gP 59 12 13 := rfl
theorem x98_59 : mOps 98 59 = o_il 60 1 := rfl
theorem x98_60 : mOps 98 60 = o_bal 61 := rfl
theorem x98_61 : mOps 98 61 = o_eq0 64 82 := rfl
theorem x98_64 : mOps 98 64 = o_al 65 0 := rfl
theorem x98_65 : mOps 98 65 = o_gP 68 12 12 := rfl
theorem x98_68 : mOps 98 68 = o_il 69 1 := rfl
theorem x98_69 : mOps 98 69 = o_ial 70 := rfl
theorem x98_70 : mOps 98 70 = o_al 71 0 := rfl
theorem x98_71 : mOps 98 71 = o_gI 74 12 3 := rfl
theorem x98_74 : mOps 98 74 = o_ge 77 82 := rfl
theorem x98_77 : mOps 98 77 = o_al 78 0 := rfl
theorem x98_78 : mOps 98 78 = o_il 79 1 := rfl
theorem x98_79 : mOps 98 79 = o_cV 82 126 1 12 := rfl
theorem x98_82 : mOps 98 82 = o_inc 85 1 1 := rfl
theorem x98_85 : mOps 98 85 = o_back 47 [] := rfl
theorem x98_88 : mOps 98 88 = o_al 89 0 := rfl
theorem x98_89 : mOps 98 89 = o_gI 92 12 37 := rfl
theorem x98_92 : mOps 98 92 = o_ist 93 1 := rfl
theorem x98_93 : mOps 98 93 = o_al 94 0 := rfl
theorem x98_94 : mOps 98 94 = o_ic 95 0 := rfl
theorem x98_95 : mOps 98 95 = o_il 96 1 := rfl
theorem x98_96 : mOps 98 96 = o_cV 99 127 2 12 := rfl
theorem x98_99 : mOps 98 99 = o_al 100 0 := rfl
theorem x98_100 : mOps 98 100 = o_ic 101 1 := rfl
theorem x98_101 : mOps 98 101 = o_il 102 1 := rfl
theorem x98_102 : mOps 98 102 = o_cV 105 127 2 12 := rfl
theorem x98_105 : mOps 98 105 = o_ic 106 0 := rfl
theorem x98_106 : mOps 98 106 = o_ist 107 2 := rfl
theorem x98_107 : mOps 98 107 = o_il 108 2 := rfl
theorem x98_108 : mOps 98 108 = o_al 109 0 := rfl
theorem x98_109 : mOps 98 109 = o_gI 112 12 1 := rfl
theorem x98_112 : mOps 98 112 = o_ge 115 140 := rfl
theorem x98_115 : mOps 98 115 = o_ic 116 0 := rfl
theorem x98_116 : mOps 98 116 = o_ist 117 3 := rfl
theorem x98_117 : mOps 98 117 = o_il 118 3 := rfl
theorem x98_118 : mOps 98 118 = o_ic 119 3 := rfl
theorem x98_119 : mOps 98 119 = o_ge 122 134 := rfl
theorem x98_122 : mOps 98 122 = o_al 123 0 := rfl
theorem x98_123 : mOps 98 123 = o_il 124 2 := rfl
theorem x98_124 : mOps 98 124 = o_il 125 3 := rfl
theorem x98_125 : mOps 98 125 = o_cV 128 128 2 12 := rfl
theorem x98_128 : mOps 98 128 = o_inc 131 3 1 := rfl
theorem x98_131 : mOps 98 131 = o_back 117 [] := rfl
theorem x98_134 : mOps 98 134 = o_inc 137 2 1 := rfl
theorem x98_137 : mOps 98 137 = o_back 107 [3] := rfl
theorem x98_140 : mOps 98 140 = o_al 141 0 := rfl
theorem x98_141 : mOps 98 141 = o_cV 144 129 0 12 := rfl
theorem x98_144 : mOps 98 144 = o_rv := rfl
theorem x99_0 : mOps 99 0 = o_il 1 2 := rfl
theorem x99_1 : mOps 99 1 = o_ic 3 30 := rfl
theorem x99_3 : mOps 99 3 = o_lt 6 7 := rfl
theorem x99_6 : mOps 99 6 = o_rv := rfl
theorem x99_7 : mOps 99 7 = o_al 8 0 := rfl
theorem x99_8 : mOps 99 8 = o_gP 11 12 6 := rfl
theorem x99_11 : mOps 99 11 = o_il 12 1 := rfl
theorem x99_12 : mOps 99 12 = o_il 13 2 := rfl
theorem x99_13 : mOps 99 13 = o_ias 14 := rfl
theorem x99_14 : mOps 99 14 = o_al 15 0 := rfl
theorem x99_15 : mOps 99 15 = o_gP 18 12 7 := rfl
theorem x99_18 : mOps 99 18 = o_il 19 1 := rfl
theorem x99_19 : mOps 99 19 = o_ic 20 0 := rfl
theorem x99_20 : mOps 99 20 = o_ias 21 := rfl
theorem x99_21 : mOps 99 21 = o_ic 22 0 := rfl
theorem x99_22 : mOps 99 22 = o_ist 23 3 := rfl
theorem x99_23 : mOps 99 23 = o_il 24 3 := rfl
theorem x99_24 : mOps 99 24 = o_ic 25 3 := rfl
theorem x99_25 : mOps 99 25 = o_ge 28 45 := rfl
theorem x99_28 : mOps 99 28 = o_al 29 0 := rfl
theorem x99_29 : mOps 99 29 = o_gP 32 12 15 := rfl
theorem x99_32 : mOps 99 32 = o_ic 33 3 := rfl
theorem x99_33 : mOps 99 33 = o_il 34 1 := rfl
theorem x99_34 : mOps 99 34 = o_ii 35 (fun x y => x * y) := rfl
theorem x99_35 : mOps 99 35 = o_il 36 3 := rfl
theorem x99_36 : mOps 99 36 = o_ii 37 (fun x y => x + y) := rfl
theorem x99_37 : mOps 99 37 = o_ic 38 0 := rfl
theorem x99_38 : mOps 99 38 = o_ias 39 := rfl
theorem x99_39 : mOps 99 39 = o_inc 42 3 1 := rfl
theorem x99_42 : mOps 99 42 = o_back 23 [] := rfl
theorem x99_45 : mOps 99 45 = o_al 46 0 := rfl
theorem x99_46 : mOps 99 46 = o_gP 49 12 16 := rfl
theorem x99_49 : mOps 99 49 = o_il 50 1 := rfl
theorem x99_50 : mOps 99 50 = o_ic 51 0 := rfl
theorem x99_51 : mOps 99 51 = o_bas 52 := rfl
theorem x99_52 : mOps 99 52 = o_al 53 0 := rfl
theorem x99_53 : mOps 99 53 = o_gP 56 12 17 := rfl
theorem x99_56 : mOps 99 56 = o_il 57 1 := rfl
theorem x99_57 : mOps 99 57 = o_ic 58 0 := rfl
theorem x99_58 : mOps 99 58 = o_bas 59 := rfl
theorem x99_59 : mOps 99 59 = o_al 60 0 := rfl
theorem x99_60 : mOps 99 60 = o_gP 63 12 18 := rfl
theorem x99_63 : mOps 99 63 = o_il 64 1 := rfl
theorem x99_64 : mOps 99 64 = o_ic 65 0 := rfl
theorem x99_65 : mOps 99 65 = o_bas 66 := rfl
theorem x99_66 : mOps 99 66 = o_al 67 0 := rfl
theorem x99_67 : mOps 99 67 = o_al 68 0 := rfl
theorem x99_68 : mOps 99 68 = o_gP 71 12 5 := rfl
theorem x99_71 : mOps 99 71 = o_il 72 1 := rfl
theorem x99_72 : mOps 99 72 = o_ial 73 := rfl
theorem x99_73 : mOps 99 73 = o_il 74 2 := rfl
theorem x99_74 : mOps 99 74 = o_cV 77 100 2 12 := rfl
theorem x99_77 : mOps 99 77 = o_il 78 1 := rfl
theorem x99_78 : mOps 99 78 = o_ne 81 130 := rfl
theorem x99_81 : mOps 99 81 = o_al 82 0 := rfl
theorem x99_82 : mOps 99 82 = o_gP 85 12 11 := rfl
theorem x99_85 : mOps 99 85 = o_il 86 1 := rfl
theorem x99_86 : mOps 99 86 = o_ial 87 := rfl
theorem x99_87 : mOps 99 87 = o_lt0 90 111 := rfl
theorem x99_90 : mOps 99 90 = o_al 91 0 := rfl
theorem x99_91 : mOps 99 91 = o_il 92 1 := rfl
theorem x99_92 : mOps 99 92 = o_ic 93 0 := rfl
theorem x99_93 : mOps 99 93 = o_al 94 0 := rfl
theorem x99_94 : mOps 99 94 = o_gP 97 12 10 := rfl
theorem x99_97 : mOps 99 97 = o_il 98 1 := rfl
theorem x99_98 : mOps 99 98 = o_ial 99 := rfl
theorem x99_99 : mOps 99 99 = o_al 100 0 := rfl
theorem x99_100 : mOps 99 100 = o_gP 103 12 11 := rfl
theorem x99_103 : mOps 99 103 = o_il 104 1 := rfl
theorem x99_104 : mOps 99 104 = o_ial 105 := rfl
theorem x99_105 : mOps 99 105 = o_cV 108 101 4 12 := rfl
theorem x99_108 : mOps 99 108 = o_goto 130 := rfl
theorem x99_111 : mOps 99 111 = o_al 112 0 := rfl
theorem x99_112 : mOps 99 112 = o_il 113 1 := rfl
theorem x99_113 : mOps 99 113 = o_ic 114 0 := rfl
theorem x99_114 : mOps 99 114 = o_al 115 0 := rfl
theorem x99_115 : mOps 99 115 = o_il 116 1 := rfl
theorem x99_116 : mOps 99 116 = o_al 117 0 := rfl
theorem x99_117 : mOps 99 117 = o_gP 120 12 5 := rfl
theorem x99_120 : mOps 99 120 = o_il 121 1 := rfl
theorem x99_121 : mOps 99 121 = o_ial 122 := rfl
theorem x99_122 : mOps 99 122 = o_il 123 2 := rfl
theorem x99_123 : mOps 99 123 = o_cV 126 110 3 12 := rfl
theorem x99_126 : mOps 99 126 = o_ic 127 (-1) := rfl
theorem x99_127 : mOps 99 127 = o_cV 130 101 4 12 := rfl
theorem x99_130 : mOps 99 130 = o_al 131 0 := rfl
theorem x99_131 : mOps 99 131 = o_gP 134 12 15 := rfl
theorem x99_134 : mOps 99 134 = o_ic 135 3 := rfl
theorem x99_135 : mOps 99 135 = o_il 136 1 := rfl
theorem x99_136 : mOps 99 136 = o_ii 137 (fun x y => x * y) := rfl
theorem x99_137 : mOps 99 137 = o_al 138 0 := rfl
theorem x99_138 : mOps 99 138 = o_gI 141 12 3 := rfl
theorem x99_141 : mOps 99 141 = o_ic 142 4 := rfl
theorem x99_142 : mOps 99 142 = o_ii 143 (fun x y => x + y) := rfl
theorem x99_143 : mOps 99 143 = o_il 144 2 := rfl
theorem x99_144 : mOps 99 144 = o_ii 145 (fun x y => x + y) := rfl
theorem x99_145 : mOps 99 145 = o_ias 146 := rfl
theorem x99_146 : mOps 99 146 = o_rv := rfl
theorem x100_0 : mOps 100 0 = o_il 1 1 := rfl
theorem x100_1 : mOps 100 1 = o_il 2 2 := rfl
theorem x100_2 : mOps 100 2 = o_ii 3 (fun x y => x + y) := rfl
theorem x100_3 : mOps 100 3 = o_al 4 0 := rfl
theorem x100_4 : mOps 100 4 = o_gI 7 12 1 := rfl
theorem x100_7 : mOps 100 7 = o_rem 8 := rfl
theorem x100_8 : mOps 100 8 = o_ri := rfl
theorem x101_0 : mOps 101 0 = o_al 1 0 := rfl
theorem x101_1 : mOps 101 1 = o_gP 4 12 5 := rfl
theorem x101_4 : mOps 101 4 = o_il 5 1 := rfl
theorem x101_5 : mOps 101 5 = o_ial 6 := rfl
theorem x101_6 : mOps 101 6 = o_ist 8 5 := rfl
theorem x101_8 : mOps 101 8 = o_al 9 0 := rfl
theorem x101_9 : mOps 101 9 = o_gP 12 12 6 := rfl
theorem x101_12 : mOps 101 12 = o_il 13 1 := rfl
theorem x101_13 : mOps 101 13 = o_ial 14 := rfl
theorem x101_14 : mOps 101 14 = o_ist 16 6 := rfl
theorem x101_16 : mOps 101 16 = o_al 17 0 := rfl
theorem x101_17 : mOps 101 17 = o_gP 20 12 14 := rfl
theorem x101_20 : mOps 101 20 = o_il 21 1 := rfl
theorem x101_21 : mOps 101 21 = o_ial 22 := rfl
theorem x101_22 : mOps 101 22 = o_ic 23 5 := rfl
theorem x101_23 : mOps 101 23 = o_ne 26 34 := rfl
theorem x101_26 : mOps 101 26 = o_il 27 2 := rfl
theorem x101_27 : mOps 101 27 = o_le0 30 34 := rfl
theorem x101_30 : mOps 101 30 = o_ic 31 0 := rfl
theorem x101_31 : mOps 101 31 = o_goto 35 := rfl
theorem x101_34 : mOps 101 34 = o_il 35 3 := rfl
theorem x101_35 : mOps 101 35 = o_ist 37 7 := rfl
theorem x101_37 : mOps 101 37 = o_il 39 4 := rfl
theorem x101_39 : mOps 101 39 = o_ist 41 8 := rfl
theorem x101_41 : mOps 101 41 = o_ic 43 90 := rfl
theorem x101_43 : mOps 101 43 = o_il 44 1 := rfl
theorem x101_44 : mOps 101 44 = o_ii 45 (fun x y => x * y) := rfl
theorem x101_45 : mOps 101 45 = o_ic 46 3 := rfl
theorem x101_46 : mOps 101 46 = o_il 48 6 := rfl
theorem x101_48 : mOps 101 48 = o_ii 49 (fun x y => x * y) := rfl
theorem x101_49 : mOps 101 49 = o_ii 50 (fun x y => x + y) := rfl
theorem x101_50 : mOps 101 50 = o_il 51 2 := rfl
theorem x101_51 : mOps 101 51 = o_ii 52 (fun x y => x + y) := rfl
theorem x101_52 : mOps 101 52 = o_ist 54 9 := rfl
theorem x101_54 : mOps 101 54 = o_al 55 0 := rfl
theorem x101_55 : mOps 101 55 = o_gP 58 12 14 := rfl
theorem x101_58 : mOps 101 58 = o_il 59 1 := rfl
theorem x101_59 : mOps 101 59 = o_ial 60 := rfl
theorem x101_60 : mOps 101 60 = o_ic 61 4 := rfl
theorem x101_61 : mOps 101 61 = o_eq 64 113 := rfl
theorem x101_64 : mOps 101 64 = o_al 65 0 := rfl
theorem x101_65 : mOps 101 65 = o_gP 68 12 22 := rfl
theorem x101_68 : mOps 101 68 = o_il 70 9 := rfl
theorem x101_70 : mOps 101 70 = o_ial 71 := rfl
theorem x101_71 : mOps 101 71 = o_lt0 74 95 := rfl
theorem x101_74 : mOps 101 74 = o_al 75 0 := rfl
theorem x101_75 : mOps 101 75 = o_gP 78 12 22 := rfl
theorem x101_78 : mOps 101 78 = o_il 80 9 := rfl
theorem x101_80 : mOps 101 80 = o_ial 81 := rfl
theorem x101_81 : mOps 101 81 = o_ist 83 7 := rfl
theorem x101_83 : mOps 101 83 = o_al 84 0 := rfl
theorem x101_84 : mOps 101 84 = o_gP 87 12 23 := rfl
theorem x101_87 : mOps 101 87 = o_il 89 9 := rfl
theorem x101_89 : mOps 101 89 = o_ial 90 := rfl
theorem x101_90 : mOps 101 90 = o_ist 92 8 := rfl
theorem x101_92 : mOps 101 92 = o_goto 113 := rfl
theorem x101_95 : mOps 101 95 = o_al 96 0 := rfl
theorem x101_96 : mOps 101 96 = o_gP 99 12 22 := rfl
theorem x101_99 : mOps 101 99 = o_il 101 9 := rfl
theorem x101_101 : mOps 101 101 = o_il 103 7 := rfl
theorem x101_103 : mOps 101 103 = o_ias 104 := rfl
theorem x101_104 : mOps 101 104 = o_al 105 0 := rfl
theorem x101_105 : mOps 101 105 = o_gP 108 12 23 := rfl
theorem x101_108 : mOps 101 108 = o_il 110 9 := rfl
theorem x101_110 : mOps 101 110 = o_il 112 8 := rfl
theorem x101_112 : mOps 101 112 = o_ias 113 := rfl
theorem x101_113 : mOps 101 113 = o_al 114 0 := rfl
theorem x101_114 : mOps 101 114 = o_il 115 1 := rfl
theorem x101_115 : mOps 101 115 = o_il 116 1 := rfl
theorem x101_116 : mOps 101 116 = o_il 118 5 := rfl
theorem x101_118 : mOps 101 118 = o_il 120 6 := rfl
theorem x101_120 : mOps 101 120 = o_il 121 2 := rfl
theorem x101_121 : mOps 101 121 = o_il 123 7 := rfl
theorem x101_123 : mOps 101 123 = o_il 125 8 := rfl
theorem x101_125 : mOps 101 125 = o_ic 126 0 := rfl
theorem x101_126 : mOps 101 126 = o_cV 129 102 8 12 := rfl
theorem x101_129 : mOps 101 129 = o_al 130 0 := rfl
theorem x101_130 : mOps 101 130 = o_gP 133 12 14 := rfl
theorem x101_133 : mOps 101 133 = o_il 134 1 := rfl
theorem x101_134 : mOps 101 134 = o_ial 135 := rfl
theorem x101_135 : mOps 101 135 = o_ic 136 1 := rfl
theorem x101_136 : mOps 101 136 = o_ne 139 140 := rfl
theorem x101_139 : mOps 101 139 = o_rv := rfl
theorem x101_140 : mOps 101 140 = o_ic 141 0 := rfl
theorem x101_141 : mOps 101 141 = o_ist 143 10 := rfl
theorem x101_143 : mOps 101 143 = o_il 145 10 := rfl
theorem x101_145 : mOps 101 145 = o_al 146 0 := rfl
theorem x101_146 : mOps 101 146 = o_gI 149 12 1 := rfl
theorem x101_149 : mOps 101 149 = o_ge 152 219 := rfl
theorem x101_152 : mOps 101 152 = o_il 154 10 := rfl
theorem x101_154 : mOps 101 154 = o_il 155 1 := rfl
theorem x101_155 : mOps 101 155 = o_eq 158 213 := rfl
theorem x101_158 : mOps 101 158 = o_al 159 0 := rfl
theorem x101_159 : mOps 101 159 = o_gP 162 12 14 := rfl
theorem x101_162 : mOps 101 162 = o_il 163 1 := rfl
theorem x101_163 : mOps 101 163 = o_ial 164 := rfl
theorem x101_164 : mOps 101 164 = o_ic 165 2 := rfl
theorem x101_165 : mOps 101 165 = o_ne 168 180 := rfl
theorem x101_168 : mOps 101 168 = o_il 170 10 := rfl
theorem x101_170 : mOps 101 170 = o_ic 171 2 := rfl
theorem x101_171 : mOps 101 171 = o_rem 172 := rfl
theorem x101_172 : mOps 101 172 = o_ic 173 1 := rfl
theorem x101_173 : mOps 101 173 = o_ne 176 180 := rfl
theorem x101_176 : mOps 101 176 = o_ic 177 1 := rfl
theorem x101_177 : mOps 101 177 = o_goto 181 := rfl
theorem x101_180 : mOps 101 180 = o_ic 181 0 := rfl
theorem x101_181 : mOps 101 181 = o_ist 183 11 := rfl
theorem x101_183 : mOps 101 183 = o_al 184 0 := rfl
theorem x101_184 : mOps 101 184 = o_il 185 1 := rfl
theorem x101_185 : mOps 101 185 = o_il 187 10 := rfl
theorem x101_187 : mOps 101 187 = o_il 189 5 := rfl
theorem x101_189 : mOps 101 189 = o_il 191 6 := rfl
theorem x101_191 : mOps 101 191 = o_il 192 2 := rfl
theorem x101_192 : mOps 101 192 = o_il 194 11 := rfl
theorem x101_194 : mOps 101 194 = o_eq0 197 206 := rfl
theorem x101_197 : mOps 101 197 = o_il 198 2 := rfl
theorem x101_198 : mOps 101 198 = o_il 200 7 := rfl
theorem x101_200 : mOps 101 200 = o_cS 203 104 2 := rfl
theorem x101_203 : mOps 101 203 = o_goto 208 := rfl
theorem x101_206 : mOps 101 206 = o_il 208 7 := rfl
theorem x101_208 : mOps 101 208 = o_il 210 8 := rfl
theorem x101_210 : mOps 101 210 = o_cV 213 105 7 12 := rfl
theorem x101_213 : mOps 101 213 = o_inc 216 10 1 := rfl
theorem x101_216 : mOps 101 216 = o_back 143 [11] := rfl
theorem x101_219 : mOps 101 219 = o_ic 220 0 := rfl
theorem x101_220 : mOps 101 220 = o_ist 222 10 := rfl
theorem x101_222 : mOps 101 222 = o_il 224 10 := rfl
theorem x101_224 : mOps 101 224 = o_al 225 0 := rfl
theorem x101_225 : mOps 101 225 = o_gI 228 12 1 := rfl
theorem x101_228 : mOps 101 228 = o_ge 231 273 := rfl
theorem x101_231 : mOps 101 231 = o_al 232 0 := rfl
theorem x101_232 : mOps 101 232 = o_gP 235 12 14 := rfl
theorem x101_235 : mOps 101 235 = o_il 236 1 := rfl
theorem x101_236 : mOps 101 236 = o_ial 237 := rfl
theorem x101_237 : mOps 101 237 = o_ic 238 3 := rfl
theorem x101_238 : mOps 101 238 = o_ne 241 273 := rfl
theorem x101_241 : mOps 101 241 = o_il 243 10 := rfl
theorem x101_243 : mOps 101 243 = o_il 244 1 := rfl
theorem x101_244 : mOps 101 244 = o_eq 247 267 := rfl
theorem x101_247 : mOps 101 247 = o_al 248 0 := rfl
theorem x101_248 : mOps 101 248 = o_il 249 1 := rfl
theorem x101_249 : mOps 101 249 = o_il 251 10 := rfl
theorem x101_251 : mOps 101 251 = o_il 253 5 := rfl
theorem x101_253 : mOps 101 253 = o_il 255 6 := rfl
theorem x101_255 : mOps 101 255 = o_il 256 2 := rfl
theorem x101_256 : mOps 101 256 = o_il 257 2 := rfl
theorem x101_257 : mOps 101 257 = o_il 259 7 := rfl
theorem x101_259 : mOps 101 259 = o_cS 262 104 2 := rfl
theorem x101_262 : mOps 101 262 = o_il 264 8 := rfl
theorem x101_264 : mOps 101 264 = o_cV 267 105 7 12 := rfl
theorem x101_267 : mOps 101 267 = o_inc 270 10 1 := rfl
theorem x101_270 : mOps 101 270 = o_back 222 [] := rfl
theorem x101_273 : mOps 101 273 = o_rv := rfl
theorem x102_0 : mOps 102 0 = o_il 1 3 := rfl
theorem x102_1 : mOps 102 1 = o_al 2 0 := rfl
theorem x102_2 : mOps 102 2 = o_gP 5 12 5 := rfl
theorem x102_5 : mOps 102 5 = o_il 6 1 := rfl
theorem x102_6 : mOps 102 6 = o_ial 7 := rfl
theorem x102_7 : mOps 102 7 = o_eq 10 22 := rfl
theorem x102_10 : mOps 102 10 = o_il 11 3 := rfl
theorem x102_11 : mOps 102 11 = o_al 12 0 := rfl
theorem x102_12 : mOps 102 12 = o_gP 15 12 5 := rfl
theorem x102_15 : mOps 102 15 = o_il 16 1 := rfl
theorem x102_16 : mOps 102 16 = o_ial 17 := rfl
theorem x102_17 : mOps 102 17 = o_ic 18 1 := rfl
theorem x102_18 : mOps 102 18 = o_ii 19 (fun x y => x + y) := rfl
theorem x102_19 : mOps 102 19 = o_ne 22 28 := rfl
theorem x102_22 : mOps 102 22 = o_il 23 3 := rfl
theorem x102_23 : mOps 102 23 = o_ic 25 40 := rfl
theorem x102_25 : mOps 102 25 = o_le 28 29 := rfl
theorem x102_28 : mOps 102 28 = o_rv := rfl
theorem x102_29 : mOps 102 29 = o_al 30 0 := rfl
theorem x102_30 : mOps 102 30 = o_il 31 1 := rfl
theorem x102_31 : mOps 102 31 = o_il 32 3 := rfl
theorem x102_32 : mOps 102 32 = o_il 34 4 := rfl
theorem x102_34 : mOps 102 34 = o_il 35 2 := rfl
theorem x102_35 : mOps 102 35 = o_il 37 5 := rfl
theorem x102_37 : mOps 102 37 = o_cV 40 93 5 12 := rfl
theorem x102_40 : mOps 102 40 = o_ist 42 9 := rfl
theorem x102_42 : mOps 102 42 = o_al 43 0 := rfl
theorem x102_43 : mOps 102 43 = o_il 44 1 := rfl
theorem x102_44 : mOps 102 44 = o_il 45 3 := rfl
theorem x102_45 : mOps 102 45 = o_il 47 4 := rfl
theorem x102_47 : mOps 102 47 = o_il 48 2 := rfl
theorem x102_48 : mOps 102 48 = o_cV 51 94 4 12 := rfl
theorem x102_51 : mOps 102 51 = o_ist 53 10 := rfl
theorem x102_53 : mOps 102 53 = o_al 54 0 := rfl
theorem x102_54 : mOps 102 54 = o_gP 57 12 20 := rfl
theorem x102_57 : mOps 102 57 = o_il 59 9 := rfl
theorem x102_59 : mOps 102 59 = o_ial 60 := rfl
theorem x102_60 : mOps 102 60 = o_ge0 63 99 := rfl
theorem x102_63 : mOps 102 63 = o_al 64 0 := rfl
theorem x102_64 : mOps 102 64 = o_gP 67 12 20 := rfl
theorem x102_67 : mOps 102 67 = o_il 69 9 := rfl
theorem x102_69 : mOps 102 69 = o_il 71 6 := rfl
theorem x102_71 : mOps 102 71 = o_ias 72 := rfl
theorem x102_72 : mOps 102 72 = o_al 73 0 := rfl
theorem x102_73 : mOps 102 73 = o_gP 76 12 21 := rfl
theorem x102_76 : mOps 102 76 = o_il 78 10 := rfl
theorem x102_78 : mOps 102 78 = o_il 80 5 := rfl
theorem x102_80 : mOps 102 80 = o_ne0 83 88 := rfl
theorem x102_83 : mOps 102 83 = o_il 85 7 := rfl
theorem x102_85 : mOps 102 85 = o_goto 95 := rfl
theorem x102_88 : mOps 102 88 = o_al 89 0 := rfl
theorem x102_89 : mOps 102 89 = o_gP 92 12 21 := rfl
theorem x102_92 : mOps 102 92 = o_il 94 10 := rfl
theorem x102_94 : mOps 102 94 = o_ial 95 := rfl
theorem x102_95 : mOps 102 95 = o_ias 96 := rfl
theorem x102_96 : mOps 102 96 = o_goto 144 := rfl
theorem x102_99 : mOps 102 99 = o_il 101 8 := rfl
theorem x102_101 : mOps 102 101 = o_eq0 104 144 := rfl
theorem x102_104 : mOps 102 104 = o_al 105 0 := rfl
theorem x102_105 : mOps 102 105 = o_gP 108 12 20 := rfl
theorem x102_108 : mOps 102 108 = o_il 110 9 := rfl
theorem x102_110 : mOps 102 110 = o_ial 111 := rfl
theorem x102_111 : mOps 102 111 = o_il 113 6 := rfl
theorem x102_113 : mOps 102 113 = o_ne 116 133 := rfl
theorem x102_116 : mOps 102 116 = o_il 118 5 := rfl
theorem x102_118 : mOps 102 118 = o_ne0 121 144 := rfl
theorem x102_121 : mOps 102 121 = o_al 122 0 := rfl
theorem x102_122 : mOps 102 122 = o_gP 125 12 21 := rfl
theorem x102_125 : mOps 102 125 = o_il 127 10 := rfl
theorem x102_127 : mOps 102 127 = o_ial 128 := rfl
theorem x102_128 : mOps 102 128 = o_il 130 7 := rfl
theorem x102_130 : mOps 102 130 = o_eq 133 144 := rfl
theorem x102_133 : mOps 102 133 = o_al 134 0 := rfl
theorem x102_134 : mOps 102 134 = o_il 135 2 := rfl
theorem x102_135 : mOps 102 135 = o_il 136 3 := rfl
theorem x102_136 : mOps 102 136 = o_il 138 4 := rfl
theorem x102_138 : mOps 102 138 = o_il 140 5 := rfl
theorem x102_140 : mOps 102 140 = o_il 141 1 := rfl
theorem x102_141 : mOps 102 141 = o_cV 144 103 5 12 := rfl
theorem x102_144 : mOps 102 144 = o_rv := rfl
theorem x103_0 : mOps 103 0 = o_ic 1 0 := rfl
theorem x103_1 : mOps 103 1 = o_ist 3 6 := rfl
theorem x103_3 : mOps 103 3 = o_il 5 6 := rfl
theorem x103_5 : mOps 103 5 = o_al 6 0 := rfl
theorem x103_6 : mOps 103 6 = o_gI 9 12 50 := rfl
theorem x103_9 : mOps 103 9 = o_ge 12 82 := rfl
theorem x103_12 : mOps 103 12 = o_al 13 0 := rfl
theorem x103_13 : mOps 103 13 = o_gP 16 12 49 := rfl
theorem x103_16 : mOps 103 16 = o_ic 18 6 := rfl
theorem x103_18 : mOps 103 18 = o_il 20 6 := rfl
theorem x103_20 : mOps 103 20 = o_ii 21 (fun x y => x * y) := rfl
theorem x103_21 : mOps 103 21 = o_ial 22 := rfl
theorem x103_22 : mOps 103 22 = o_il 23 1 := rfl
theorem x103_23 : mOps 103 23 = o_ne 26 76 := rfl
theorem x103_26 : mOps 103 26 = o_al 27 0 := rfl
theorem x103_27 : mOps 103 27 = o_gP 30 12 49 := rfl
theorem x103_30 : mOps 103 30 = o_ic 32 6 := rfl
theorem x103_32 : mOps 103 32 = o_il 34 6 := rfl
theorem x103_34 : mOps 103 34 = o_ii 35 (fun x y => x * y) := rfl
theorem x103_35 : mOps 103 35 = o_ic 36 1 := rfl
theorem x103_36 : mOps 103 36 = o_ii 37 (fun x y => x + y) := rfl
theorem x103_37 : mOps 103 37 = o_ial 38 := rfl
theorem x103_38 : mOps 103 38 = o_il 39 2 := rfl
theorem x103_39 : mOps 103 39 = o_ne 42 76 := rfl
theorem x103_42 : mOps 103 42 = o_al 43 0 := rfl
theorem x103_43 : mOps 103 43 = o_gP 46 12 49 := rfl
theorem x103_46 : mOps 103 46 = o_ic 48 6 := rfl
theorem x103_48 : mOps 103 48 = o_il 50 6 := rfl
theorem x103_50 : mOps 103 50 = o_ii 51 (fun x y => x * y) := rfl
theorem x103_51 : mOps 103 51 = o_ic 52 2 := rfl
theorem x103_52 : mOps 103 52 = o_ii 53 (fun x y => x + y) := rfl
theorem x103_53 : mOps 103 53 = o_ial 54 := rfl
theorem x103_54 : mOps 103 54 = o_il 55 3 := rfl
theorem x103_55 : mOps 103 55 = o_ne 58 76 := rfl
theorem x103_58 : mOps 103 58 = o_al 59 0 := rfl
theorem x103_59 : mOps 103 59 = o_gP 62 12 49 := rfl
theorem x103_62 : mOps 103 62 = o_ic 64 6 := rfl
theorem x103_64 : mOps 103 64 = o_il 66 6 := rfl
theorem x103_66 : mOps 103 66 = o_ii 67 (fun x y => x * y) := rfl
theorem x103_67 : mOps 103 67 = o_ic 68 3 := rfl
theorem x103_68 : mOps 103 68 = o_ii 69 (fun x y => x + y) := rfl
theorem x103_69 : mOps 103 69 = o_ial 70 := rfl
theorem x103_70 : mOps 103 70 = o_il 72 4 := rfl
theorem x103_72 : mOps 103 72 = o_ne 75 76 := rfl
theorem x103_75 : mOps 103 75 = o_rv := rfl
theorem x103_76 : mOps 103 76 = o_inc 79 6 1 := rfl
theorem x103_79 : mOps 103 79 = o_back 3 [] := rfl
theorem x103_82 : mOps 103 82 = o_al 83 0 := rfl
theorem x103_83 : mOps 103 83 = o_gI 86 12 50 := rfl
theorem x103_86 : mOps 103 86 = o_ic 89 200 := rfl
theorem x103_89 : mOps 103 89 = o_ge 92 174 := rfl
theorem x103_92 : mOps 103 92 = o_ic 94 6 := rfl
theorem x103_94 : mOps 103 94 = o_al 95 0 := rfl
theorem x103_95 : mOps 103 95 = o_gI 98 12 50 := rfl
theorem x103_98 : mOps 103 98 = o_ii 99 (fun x y => x * y) := rfl
theorem x103_99 : mOps 103 99 = o_ist 101 6 := rfl
theorem x103_101 : mOps 103 101 = o_al 102 0 := rfl
theorem x103_102 : mOps 103 102 = o_gP 105 12 49 := rfl
theorem x103_105 : mOps 103 105 = o_il 107 6 := rfl
theorem x103_107 : mOps 103 107 = o_il 108 1 := rfl
theorem x103_108 : mOps 103 108 = o_ias 109 := rfl
theorem x103_109 : mOps 103 109 = o_al 110 0 := rfl
theorem x103_110 : mOps 103 110 = o_gP 113 12 49 := rfl
theorem x103_113 : mOps 103 113 = o_il 115 6 := rfl
theorem x103_115 : mOps 103 115 = o_ic 116 1 := rfl
theorem x103_116 : mOps 103 116 = o_ii 117 (fun x y => x + y) := rfl
theorem x103_117 : mOps 103 117 = o_il 118 2 := rfl
theorem x103_118 : mOps 103 118 = o_ias 119 := rfl
theorem x103_119 : mOps 103 119 = o_al 120 0 := rfl
theorem x103_120 : mOps 103 120 = o_gP 123 12 49 := rfl
theorem x103_123 : mOps 103 123 = o_il 125 6 := rfl
theorem x103_125 : mOps 103 125 = o_ic 126 2 := rfl
theorem x103_126 : mOps 103 126 = o_ii 127 (fun x y => x + y) := rfl
theorem x103_127 : mOps 103 127 = o_il 128 3 := rfl
theorem x103_128 : mOps 103 128 = o_ias 129 := rfl
theorem x103_129 : mOps 103 129 = o_al 130 0 := rfl
theorem x103_130 : mOps 103 130 = o_gP 133 12 49 := rfl
theorem x103_133 : mOps 103 133 = o_il 135 6 := rfl
theorem x103_135 : mOps 103 135 = o_ic 136 3 := rfl
theorem x103_136 : mOps 103 136 = o_ii 137 (fun x y => x + y) := rfl
theorem x103_137 : mOps 103 137 = o_il 139 4 := rfl
theorem x103_139 : mOps 103 139 = o_ias 140 := rfl
theorem x103_140 : mOps 103 140 = o_al 141 0 := rfl
theorem x103_141 : mOps 103 141 = o_gP 144 12 49 := rfl
theorem x103_144 : mOps 103 144 = o_il 146 6 := rfl
theorem x103_146 : mOps 103 146 = o_ic 147 4 := rfl
theorem x103_147 : mOps 103 147 = o_ii 148 (fun x y => x + y) := rfl
theorem x103_148 : mOps 103 148 = o_il 150 5 := rfl
theorem x103_150 : mOps 103 150 = o_ias 151 := rfl
theorem x103_151 : mOps 103 151 = o_al 152 0 := rfl
theorem x103_152 : mOps 103 152 = o_gP 155 12 49 := rfl
theorem x103_155 : mOps 103 155 = o_il 157 6 := rfl
theorem x103_157 : mOps 103 157 = o_ic 158 5 := rfl
theorem x103_158 : mOps 103 158 = o_ii 159 (fun x y => x + y) := rfl
theorem x103_159 : mOps 103 159 = o_al 160 0 := rfl
theorem x103_160 : mOps 103 160 = o_gI 163 12 3 := rfl
theorem x103_163 : mOps 103 163 = o_ias 164 := rfl
theorem x103_164 : mOps 103 164 = o_al 165 0 := rfl
theorem x103_165 : mOps 103 165 = o_dup 166 := rfl
theorem x103_166 : mOps 103 166 = o_gI 169 12 50 := rfl
theorem x103_169 : mOps 103 169 = o_ic 170 1 := rfl
theorem x103_170 : mOps 103 170 = o_ii 171 (fun x y => x + y) := rfl
theorem x103_171 : mOps 103 171 = o_pI 174 12 50 := rfl
theorem x103_174 : mOps 103 174 = o_rv := rfl
theorem x104_0 : mOps 104 0 = o_il 1 0 := rfl
theorem x104_1 : mOps 104 1 = o_ne0 4 10 := rfl
theorem x104_4 : mOps 104 4 = o_il 5 1 := rfl
theorem x104_5 : mOps 104 5 = o_ic 6 1 := rfl
theorem x104_6 : mOps 104 6 = o_ii 7 (fun x y => x + y) := rfl
theorem x104_7 : mOps 104 7 = o_goto 19 := rfl
theorem x104_10 : mOps 104 10 = o_il 11 1 := rfl
theorem x104_11 : mOps 104 11 = o_ne0 14 18 := rfl
theorem x104_14 : mOps 104 14 = o_ic 15 1 := rfl
theorem x104_15 : mOps 104 15 = o_goto 19 := rfl
theorem x104_18 : mOps 104 18 = o_ic 19 0 := rfl
theorem x104_19 : mOps 104 19 = o_ri := rfl
theorem x105_0 : mOps 105 0 = o_al 1 0 := rfl
theorem x105_1 : mOps 105 1 = o_gI 4 12 39 := rfl
theorem x105_4 : mOps 105 4 = o_ist 6 8 := rfl
theorem x105_6 : mOps 105 6 = o_al 7 0 := rfl
theorem x105_7 : mOps 105 7 = o_dup 8 := rfl
theorem x105_8 : mOps 105 8 = o_gI 11 12 39 := rfl
theorem x105_11 : mOps 105 11 = o_ic 12 1 := rfl
theorem x105_12 : mOps 105 12 = o_ii 13 (fun x y => x + y) := rfl
theorem x105_13 : mOps 105 13 = o_pI 16 12 39 := rfl
theorem x105_16 : mOps 105 16 = o_al 17 0 := rfl
theorem x105_17 : mOps 105 17 = o_gP 20 12 19 := rfl
theorem x105_20 : mOps 105 20 = o_il 21 1 := rfl
theorem x105_21 : mOps 105 21 = o_dup2 22 := rfl
theorem x105_22 : mOps 105 22 = o_ial 23 := rfl
theorem x105_23 : mOps 105 23 = o_ic 24 1 := rfl
theorem x105_24 : mOps 105 24 = o_ii 25 (fun x y => x + y) := rfl
theorem x105_25 : mOps 105 25 = o_ias 26 := rfl
theorem x105_26 : mOps 105 26 = o_al 27 0 := rfl
theorem x105_27 : mOps 105 27 = o_il 28 1 := rfl
theorem x105_28 : mOps 105 28 = o_il 29 3 := rfl
theorem x105_29 : mOps 105 29 = o_il 31 4 := rfl
theorem x105_31 : mOps 105 31 = o_il 33 5 := rfl
theorem x105_33 : mOps 105 33 = o_il 35 6 := rfl
theorem x105_35 : mOps 105 35 = o_cV 38 106 5 12 := rfl
theorem x105_38 : mOps 105 38 = o_ic 39 (-1) := rfl
theorem x105_39 : mOps 105 39 = o_ist 41 9 := rfl
theorem x105_41 : mOps 105 41 = o_ic 42 0 := rfl
theorem x105_42 : mOps 105 42 = o_ist 44 10 := rfl
theorem x105_44 : mOps 105 44 = o_ic 45 0 := rfl
theorem x105_45 : mOps 105 45 = o_ist 47 11 := rfl
theorem x105_47 : mOps 105 47 = o_il 49 11 := rfl
theorem x105_49 : mOps 105 49 = o_al 50 0 := rfl
theorem x105_50 : mOps 105 50 = o_gI 53 12 45 := rfl
theorem x105_53 : mOps 105 53 = o_ge 56 175 := rfl
theorem x105_56 : mOps 105 56 = o_al 57 0 := rfl
theorem x105_57 : mOps 105 57 = o_gP 60 12 42 := rfl
theorem x105_60 : mOps 105 60 = o_il 62 11 := rfl
theorem x105_62 : mOps 105 62 = o_ial 63 := rfl
theorem x105_63 : mOps 105 63 = o_il 65 8 := rfl
theorem x105_65 : mOps 105 65 = o_ne 68 169 := rfl
theorem x105_68 : mOps 105 68 = o_al 69 0 := rfl
theorem x105_69 : mOps 105 69 = o_gP 72 12 43 := rfl
theorem x105_72 : mOps 105 72 = o_il 74 11 := rfl
theorem x105_74 : mOps 105 74 = o_ial 75 := rfl
theorem x105_75 : mOps 105 75 = o_ist 77 9 := rfl
theorem x105_77 : mOps 105 77 = o_al 78 0 := rfl
theorem x105_78 : mOps 105 78 = o_gP 81 12 44 := rfl
theorem x105_81 : mOps 105 81 = o_il 83 11 := rfl
theorem x105_83 : mOps 105 83 = o_ial 84 := rfl
theorem x105_84 : mOps 105 84 = o_ist 86 10 := rfl
theorem x105_86 : mOps 105 86 = o_al 87 0 := rfl
theorem x105_87 : mOps 105 87 = o_dup 88 := rfl
theorem x105_88 : mOps 105 88 = o_gI 91 12 45 := rfl
theorem x105_91 : mOps 105 91 = o_ic 92 1 := rfl
theorem x105_92 : mOps 105 92 = o_ii 93 (fun x y => x - y) := rfl
theorem x105_93 : mOps 105 93 = o_pI 96 12 45 := rfl
theorem x105_96 : mOps 105 96 = o_il 98 11 := rfl
theorem x105_98 : mOps 105 98 = o_ist 100 12 := rfl
theorem x105_100 : mOps 105 100 = o_il 102 12 := rfl
theorem x105_102 : mOps 105 102 = o_al 103 0 := rfl
theorem x105_103 : mOps 105 103 = o_gI 106 12 45 := rfl
theorem x105_106 : mOps 105 106 = o_ge 109 163 := rfl
theorem x105_109 : mOps 105 109 = o_al 110 0 := rfl
theorem x105_110 : mOps 105 110 = o_gP 113 12 42 := rfl
theorem x105_113 : mOps 105 113 = o_il 115 12 := rfl
theorem x105_115 : mOps 105 115 = o_al 116 0 := rfl
theorem x105_116 : mOps 105 116 = o_gP 119 12 42 := rfl
theorem x105_119 : mOps 105 119 = o_il 121 12 := rfl
theorem x105_121 : mOps 105 121 = o_ic 122 1 := rfl
theorem x105_122 : mOps 105 122 = o_ii 123 (fun x y => x + y) := rfl
theorem x105_123 : mOps 105 123 = o_ial 124 := rfl
theorem x105_124 : mOps 105 124 = o_ias 125 := rfl
theorem x105_125 : mOps 105 125 = o_al 126 0 := rfl
theorem x105_126 : mOps 105 126 = o_gP 129 12 43 := rfl
theorem x105_129 : mOps 105 129 = o_il 131 12 := rfl
theorem x105_131 : mOps 105 131 = o_al 132 0 := rfl
theorem x105_132 : mOps 105 132 = o_gP 135 12 43 := rfl
theorem x105_135 : mOps 105 135 = o_il 137 12 := rfl
theorem x105_137 : mOps 105 137 = o_ic 138 1 := rfl
theorem x105_138 : mOps 105 138 = o_ii 139 (fun x y => x + y) := rfl
theorem x105_139 : mOps 105 139 = o_ial 140 := rfl
theorem x105_140 : mOps 105 140 = o_ias 141 := rfl
theorem x105_141 : mOps 105 141 = o_al 142 0 := rfl
theorem x105_142 : mOps 105 142 = o_gP 145 12 44 := rfl
theorem x105_145 : mOps 105 145 = o_il 147 12 := rfl
theorem x105_147 : mOps 105 147 = o_al 148 0 := rfl
theorem x105_148 : mOps 105 148 = o_gP 151 12 44 := rfl
theorem x105_151 : mOps 105 151 = o_il 153 12 := rfl
theorem x105_153 : mOps 105 153 = o_ic 154 1 := rfl
theorem x105_154 : mOps 105 154 = o_ii 155 (fun x y => x + y) := rfl
theorem x105_155 : mOps 105 155 = o_ial 156 := rfl
theorem x105_156 : mOps 105 156 = o_ias 157 := rfl
theorem x105_157 : mOps 105 157 = o_inc 160 12 1 := rfl
theorem x105_160 : mOps 105 160 = o_back 100 [] := rfl
theorem x105_163 : mOps 105 163 = o_al 164 0 := rfl
theorem x105_164 : mOps 105 164 = o_gI 167 12 45 := rfl
theorem x105_167 : mOps 105 167 = o_ist 169 11 := rfl
theorem x105_169 : mOps 105 169 = o_inc 172 11 1 := rfl
theorem x105_172 : mOps 105 172 = o_back 47 [12] := rfl
theorem x105_175 : mOps 105 175 = o_il 177 9 := rfl
theorem x105_177 : mOps 105 177 = o_eq0 180 199 := rfl
theorem x105_180 : mOps 105 180 = o_al 181 0 := rfl
theorem x105_181 : mOps 105 181 = o_il 182 1 := rfl
theorem x105_182 : mOps 105 182 = o_il 183 2 := rfl
theorem x105_183 : mOps 105 183 = o_cV 186 108 2 12 := rfl
theorem x105_186 : mOps 105 186 = o_ne0 189 199 := rfl
theorem x105_189 : mOps 105 189 = o_al 190 0 := rfl
theorem x105_190 : mOps 105 190 = o_gI 193 12 38 := rfl
theorem x105_193 : mOps 105 193 = o_ic 196 6000 := rfl
theorem x105_196 : mOps 105 196 = o_ne 199 210 := rfl
theorem x105_199 : mOps 105 199 = o_al 200 0 := rfl
theorem x105_200 : mOps 105 200 = o_dup 201 := rfl
theorem x105_201 : mOps 105 201 = o_gI 204 12 41 := rfl
theorem x105_204 : mOps 105 204 = o_ic 205 1 := rfl
theorem x105_205 : mOps 105 205 = o_ii 206 (fun x y => x + y) := rfl
theorem x105_206 : mOps 105 206 = o_pI 209 12 41 := rfl
theorem x105_209 : mOps 105 209 = o_rv := rfl
theorem x105_210 : mOps 105 210 = o_al 211 0 := rfl
theorem x105_211 : mOps 105 211 = o_il 212 1 := rfl
theorem x105_212 : mOps 105 212 = o_il 213 2 := rfl
theorem x105_213 : mOps 105 213 = o_il 214 3 := rfl
theorem x105_214 : mOps 105 214 = o_il 216 4 := rfl
theorem x105_216 : mOps 105 216 = o_il 218 5 := rfl
theorem x105_218 : mOps 105 218 = o_il 220 6 := rfl
theorem x105_220 : mOps 105 220 = o_il 222 7 := rfl
theorem x105_222 : mOps 105 222 = o_al 223 0 := rfl
theorem x105_223 : mOps 105 223 = o_gI 226 12 3 := rfl
theorem x105_226 : mOps 105 226 = o_ic 227 1 := rfl
theorem x105_227 : mOps 105 227 = o_ii 228 (fun x y => x + y) := rfl
theorem x105_228 : mOps 105 228 = o_il 230 9 := rfl
theorem x105_230 : mOps 105 230 = o_ic 231 2 := rfl
theorem x105_231 : mOps 105 231 = o_ne 234 239 := rfl
theorem x105_234 : mOps 105 234 = o_il 236 10 := rfl
theorem x105_236 : mOps 105 236 = o_goto 240 := rfl
theorem x105_239 : mOps 105 239 = o_ic 240 0 := rfl
theorem x105_240 : mOps 105 240 = o_ii 241 (fun x y => x + y) := rfl
theorem x105_241 : mOps 105 241 = o_ic 242 0 := rfl
theorem x105_242 : mOps 105 242 = o_cV 245 109 9 12 := rfl
theorem x105_245 : mOps 105 245 = o_il 247 9 := rfl
theorem x105_247 : mOps 105 247 = o_ic 248 1 := rfl
theorem x105_248 : mOps 105 248 = o_ne 251 296 := rfl
theorem x105_251 : mOps 105 251 = o_al 252 0 := rfl
theorem x105_252 : mOps 105 252 = o_gI 255 12 38 := rfl
theorem x105_255 : mOps 105 255 = o_ic 258 6000 := rfl
theorem x105_258 : mOps 105 258 = o_ne 261 274 := rfl
theorem x105_261 : mOps 105 261 = o_al 262 0 := rfl
theorem x105_262 : mOps 105 262 = o_dup 263 := rfl
theorem x105_263 : mOps 105 263 = o_gI 266 12 41 := rfl
theorem x105_266 : mOps 105 266 = o_ic 267 1 := rfl
theorem x105_267 : mOps 105 267 = o_ii 268 (fun x y => x + y) := rfl
theorem x105_268 : mOps 105 268 = o_pI 271 12 41 := rfl
theorem x105_271 : mOps 105 271 = o_goto 296 := rfl
theorem x105_274 : mOps 105 274 = o_al 275 0 := rfl
theorem x105_275 : mOps 105 275 = o_il 276 1 := rfl
theorem x105_276 : mOps 105 276 = o_il 277 2 := rfl
theorem x105_277 : mOps 105 277 = o_il 278 3 := rfl
theorem x105_278 : mOps 105 278 = o_il 280 4 := rfl
theorem x105_280 : mOps 105 280 = o_il 282 5 := rfl
theorem x105_282 : mOps 105 282 = o_il 284 6 := rfl
theorem x105_284 : mOps 105 284 = o_il 286 7 := rfl
theorem x105_286 : mOps 105 286 = o_al 287 0 := rfl
theorem x105_287 : mOps 105 287 = o_gI 290 12 3 := rfl
theorem x105_290 : mOps 105 290 = o_ic 291 2 := rfl
theorem x105_291 : mOps 105 291 = o_ii 292 (fun x y => x + y) := rfl
theorem x105_292 : mOps 105 292 = o_ic 293 1 := rfl
theorem x105_293 : mOps 105 293 = o_cV 296 109 9 12 := rfl
theorem x105_296 : mOps 105 296 = o_rv := rfl
theorem x106_0 : mOps 106 0 = o_al 1 0 := rfl
theorem x106_1 : mOps 106 1 = o_il 2 1 := rfl
theorem x106_2 : mOps 106 2 = o_il 3 2 := rfl
theorem x106_3 : mOps 106 3 = o_il 4 3 := rfl
theorem x106_4 : mOps 106 4 = o_il 6 4 := rfl
theorem x106_6 : mOps 106 6 = o_cV 9 107 4 12 := rfl
theorem x106_9 : mOps 106 9 = o_ist 11 6 := rfl
theorem x106_11 : mOps 106 11 = o_al 12 0 := rfl
theorem x106_12 : mOps 106 12 = o_gP 15 12 51 := rfl
theorem x106_15 : mOps 106 15 = o_il 17 6 := rfl
theorem x106_17 : mOps 106 17 = o_ial 18 := rfl
theorem x106_18 : mOps 106 18 = o_ge0 21 33 := rfl
theorem x106_21 : mOps 106 21 = o_al 22 0 := rfl
theorem x106_22 : mOps 106 22 = o_gP 25 12 51 := rfl
theorem x106_25 : mOps 106 25 = o_il 27 6 := rfl
theorem x106_27 : mOps 106 27 = o_il 29 5 := rfl
theorem x106_29 : mOps 106 29 = o_ias 30 := rfl
theorem x106_30 : mOps 106 30 = o_goto 53 := rfl
theorem x106_33 : mOps 106 33 = o_al 34 0 := rfl
theorem x106_34 : mOps 106 34 = o_gP 37 12 51 := rfl
theorem x106_37 : mOps 106 37 = o_il 39 6 := rfl
theorem x106_39 : mOps 106 39 = o_ial 40 := rfl
theorem x106_40 : mOps 106 40 = o_il 42 5 := rfl
theorem x106_42 : mOps 106 42 = o_eq 45 53 := rfl
theorem x106_45 : mOps 106 45 = o_al 46 0 := rfl
theorem x106_46 : mOps 106 46 = o_gP 49 12 52 := rfl
theorem x106_49 : mOps 106 49 = o_il 51 6 := rfl
theorem x106_51 : mOps 106 51 = o_ic 52 1 := rfl
theorem x106_52 : mOps 106 52 = o_bas 53 := rfl
theorem x106_53 : mOps 106 53 = o_rv := rfl
theorem x107_0 : mOps 107 0 = o_ic 2 41 := rfl
theorem x107_2 : mOps 107 2 = o_il 3 1 := rfl
theorem x107_3 : mOps 107 3 = o_ii 4 (fun x y => x * y) := rfl
theorem x107_4 : mOps 107 4 = o_il 5 2 := rfl
theorem x107_5 : mOps 107 5 = o_ii 6 (fun x y => x + y) := rfl
theorem x107_6 : mOps 107 6 = o_ic 8 30 := rfl
theorem x107_8 : mOps 107 8 = o_ii 9 (fun x y => x * y) := rfl
theorem x107_9 : mOps 107 9 = o_il 10 3 := rfl
theorem x107_10 : mOps 107 10 = o_ii 11 (fun x y => x + y) := rfl
theorem x107_11 : mOps 107 11 = o_ic 12 3 := rfl
theorem x107_12 : mOps 107 12 = o_ii 13 (fun x y => x * y) := rfl
theorem x107_13 : mOps 107 13 = o_il 15 4 := rfl
theorem x107_15 : mOps 107 15 = o_ii 16 (fun x y => x + y) := rfl
theorem x107_16 : mOps 107 16 = o_ri := rfl
theorem x108_0 : mOps 108 0 = o_al 1 0 := rfl
theorem x108_1 : mOps 108 1 = o_gI 4 12 3 := rfl
theorem x108_4 : mOps 108 4 = o_i2l 5 := rfl
theorem x108_5 : mOps 108 5 = o_al 6 0 := rfl
theorem x108_6 : mOps 108 6 = o_gI 9 12 47 := rfl
theorem x108_9 : mOps 108 9 = o_i2l 10 := rfl
theorem x108_10 : mOps 108 10 = o_al 11 0 := rfl
theorem x108_11 : mOps 108 11 = o_gI 14 12 48 := rfl
theorem x108_14 : mOps 108 14 = o_i2l 15 := rfl
theorem x108_15 : mOps 108 15 = o_cS 18 97 3 := rfl
theorem x108_18 : mOps 108 18 = o_eq0 21 44 := rfl
theorem x108_21 : mOps 108 21 = o_al 22 0 := rfl
theorem x108_22 : mOps 108 22 = o_gI 25 12 46 := rfl
theorem x108_25 : mOps 108 25 = o_il 26 1 := rfl
theorem x108_26 : mOps 108 26 = o_ii 27 (fun x y => x >>> (y &&& 31)) := rfl
theorem x108_27 : mOps 108 27 = o_ic 28 1 := rfl
theorem x108_28 : mOps 108 28 = o_ii 29 (fun x y => x &&& y) := rfl
theorem x108_29 : mOps 108 29 = o_al 30 0 := rfl
theorem x108_30 : mOps 108 30 = o_gI 33 12 46 := rfl
theorem x108_33 : mOps 108 33 = o_il 34 2 := rfl
theorem x108_34 : mOps 108 34 = o_ii 35 (fun x y => x >>> (y &&& 31)) := rfl
theorem x108_35 : mOps 108 35 = o_ic 36 1 := rfl
theorem x108_36 : mOps 108 36 = o_ii 37 (fun x y => x &&& y) := rfl
theorem x108_37 : mOps 108 37 = o_eq 40 44 := rfl
theorem x108_40 : mOps 108 40 = o_ic 41 1 := rfl
theorem x108_41 : mOps 108 41 = o_goto 45 := rfl
theorem x108_44 : mOps 108 44 = o_ic 45 0 := rfl
theorem x108_45 : mOps 108 45 = o_rz := rfl
theorem x109_0 : mOps 109 0 = o_al 1 0 := rfl
theorem x109_1 : mOps 109 1 = o_gI 4 12 37 := rfl
theorem x109_4 : mOps 109 4 = o_ist 6 10 := rfl
theorem x109_6 : mOps 109 6 = o_al 7 0 := rfl
theorem x109_7 : mOps 109 7 = o_gP 10 12 28 := rfl
theorem x109_10 : mOps 109 10 = o_il 12 10 := rfl
theorem x109_12 : mOps 109 12 = o_il 14 8 := rfl
theorem x109_14 : mOps 109 14 = o_ias 15 := rfl
theorem x109_15 : mOps 109 15 = o_al 16 0 := rfl
theorem x109_16 : mOps 109 16 = o_gP 19 12 29 := rfl
theorem x109_19 : mOps 109 19 = o_il 21 10 := rfl
theorem x109_21 : mOps 109 21 = o_il 22 1 := rfl
theorem x109_22 : mOps 109 22 = o_ias 23 := rfl
theorem x109_23 : mOps 109 23 = o_al 24 0 := rfl
theorem x109_24 : mOps 109 24 = o_gP 27 12 30 := rfl
theorem x109_27 : mOps 109 27 = o_il 29 10 := rfl
theorem x109_29 : mOps 109 29 = o_il 30 2 := rfl
theorem x109_30 : mOps 109 30 = o_ias 31 := rfl
theorem x109_31 : mOps 109 31 = o_al 32 0 := rfl
theorem x109_32 : mOps 109 32 = o_gP 35 12 31 := rfl
theorem x109_35 : mOps 109 35 = o_il 37 10 := rfl
theorem x109_37 : mOps 109 37 = o_il 38 3 := rfl
theorem x109_38 : mOps 109 38 = o_ias 39 := rfl
theorem x109_39 : mOps 109 39 = o_al 40 0 := rfl
theorem x109_40 : mOps 109 40 = o_gP 43 12 32 := rfl
theorem x109_43 : mOps 109 43 = o_il 45 10 := rfl
theorem x109_45 : mOps 109 45 = o_il 47 4 := rfl
theorem x109_47 : mOps 109 47 = o_ias 48 := rfl
theorem x109_48 : mOps 109 48 = o_al 49 0 := rfl
theorem x109_49 : mOps 109 49 = o_gP 52 12 33 := rfl
theorem x109_52 : mOps 109 52 = o_il 54 10 := rfl
theorem x109_54 : mOps 109 54 = o_il 56 5 := rfl
theorem x109_56 : mOps 109 56 = o_ias 57 := rfl
theorem x109_57 : mOps 109 57 = o_al 58 0 := rfl
theorem x109_58 : mOps 109 58 = o_gP 61 12 34 := rfl
theorem x109_61 : mOps 109 61 = o_il 63 10 := rfl
theorem x109_63 : mOps 109 63 = o_il 65 6 := rfl
theorem x109_65 : mOps 109 65 = o_ias 66 := rfl
theorem x109_66 : mOps 109 66 = o_al 67 0 := rfl
theorem x109_67 : mOps 109 67 = o_gP 70 12 35 := rfl
theorem x109_70 : mOps 109 70 = o_il 72 10 := rfl
theorem x109_72 : mOps 109 72 = o_il 74 7 := rfl
theorem x109_74 : mOps 109 74 = o_ias 75 := rfl
theorem x109_75 : mOps 109 75 = o_al 76 0 := rfl
theorem x109_76 : mOps 109 76 = o_gP 79 12 36 := rfl
theorem x109_79 : mOps 109 79 = o_il 81 10 := rfl
theorem x109_81 : mOps 109 81 = o_il 83 9 := rfl
theorem x109_83 : mOps 109 83 = o_bas 84 := rfl
theorem x109_84 : mOps 109 84 = o_al 85 0 := rfl
theorem x109_85 : mOps 109 85 = o_dup 86 := rfl
theorem x109_86 : mOps 109 86 = o_gI 89 12 37 := rfl
theorem x109_89 : mOps 109 89 = o_ic 90 1 := rfl
theorem x109_90 : mOps 109 90 = o_ii 91 (fun x y => x + y) := rfl
theorem x109_91 : mOps 109 91 = o_pI 94 12 37 := rfl
theorem x109_94 : mOps 109 94 = o_al 95 0 := rfl
theorem x109_95 : mOps 109 95 = o_dup 96 := rfl
theorem x109_96 : mOps 109 96 = o_gI 99 12 38 := rfl
theorem x109_99 : mOps 109 99 = o_ic 100 1 := rfl
theorem x109_100 : mOps 109 100 = o_ii 101 (fun x y => x + y) := rfl
theorem x109_101 : mOps 109 101 = o_pI 104 12 38 := rfl
theorem x109_104 : mOps 109 104 = o_rv := rfl
theorem x110_0 : mOps 110 0 = o_ic 1 2 := rfl
theorem x110_1 : mOps 110 1 = o_ic 2 2 := rfl
theorem x110_2 : mOps 110 2 = o_al 3 0 := rfl
theorem x110_3 : mOps 110 3 = o_gI 6 12 2 := rfl
theorem x110_6 : mOps 110 6 = o_ic 9 7919 := rfl
theorem x110_9 : mOps 110 9 = o_il 10 1 := rfl
theorem x110_10 : mOps 110 10 = o_ii 11 (fun x y => x * y) := rfl
theorem x110_11 : mOps 110 11 = o_ii 12 (fun x y => x ^^^ y) := rfl
theorem x110_12 : mOps 110 12 = o_ic 14 104729 := rfl
theorem x110_14 : mOps 110 14 = o_il 15 2 := rfl
theorem x110_15 : mOps 110 15 = o_ii 16 (fun x y => x * y) := rfl
theorem x110_16 : mOps 110 16 = o_ii 17 (fun x y => x ^^^ y) := rfl
theorem x110_17 : mOps 110 17 = o_ic 19 1299709 := rfl
theorem x110_19 : mOps 110 19 = o_il 20 3 := rfl
theorem x110_20 : mOps 110 20 = o_ii 21 (fun x y => x * y) := rfl
theorem x110_21 : mOps 110 21 = o_ii 22 (fun x y => x ^^^ y) := rfl
theorem x110_22 : mOps 110 22 = o_ic 24 1048575 := rfl
theorem x110_24 : mOps 110 24 = o_ii 25 (fun x y => x &&& y) := rfl
theorem x110_25 : mOps 110 25 = o_ii 26 (fun x y => x * y) := rfl
theorem x110_26 : mOps 110 26 = o_ii 27 (fun x y => x + y) := rfl
theorem x110_27 : mOps 110 27 = o_ri := rfl
theorem x111_0 : mOps 111 0 = o_ic 1 1 := rfl
theorem x111_1 : mOps 111 1 = o_ist 2 2 := rfl
theorem x111_2 : mOps 111 2 = o_il 3 2 := rfl
theorem x111_3 : mOps 111 3 = o_eq0 6 91 := rfl
theorem x111_6 : mOps 111 6 = o_al 7 0 := rfl
theorem x111_7 : mOps 111 7 = o_gP 10 12 13 := rfl
theorem x111_10 : mOps 111 10 = o_il 11 1 := rfl
theorem x111_11 : mOps 111 11 = o_bal 12 := rfl
theorem x111_12 : mOps 111 12 = o_ne0 15 91 := rfl
theorem x111_15 : mOps 111 15 = o_al 16 0 := rfl
theorem x111_16 : mOps 111 16 = o_gP 19 12 5 := rfl
theorem x111_19 : mOps 111 19 = o_il 20 1 := rfl
theorem x111_20 : mOps 111 20 = o_ial 21 := rfl
theorem x111_21 : mOps 111 21 = o_ic 23 40 := rfl
theorem x111_23 : mOps 111 23 = o_gt 26 91 := rfl
theorem x111_26 : mOps 111 26 = o_al 27 0 := rfl
theorem x111_27 : mOps 111 27 = o_il 28 1 := rfl
theorem x111_28 : mOps 111 28 = o_cV 31 112 1 12 := rfl
theorem x111_31 : mOps 111 31 = o_ne0 34 82 := rfl
theorem x111_34 : mOps 111 34 = o_al 35 0 := rfl
theorem x111_35 : mOps 111 35 = o_il 36 1 := rfl
theorem x111_36 : mOps 111 36 = o_cV 39 119 1 12 := rfl
theorem x111_39 : mOps 111 39 = o_ne0 42 82 := rfl
theorem x111_42 : mOps 111 42 = o_al 43 0 := rfl
theorem x111_43 : mOps 111 43 = o_il 44 1 := rfl
theorem x111_44 : mOps 111 44 = o_cV 47 120 1 12 := rfl
theorem x111_47 : mOps 111 47 = o_ne0 50 82 := rfl
theorem x111_50 : mOps 111 50 = o_al 51 0 := rfl
theorem x111_51 : mOps 111 51 = o_il 52 1 := rfl
theorem x111_52 : mOps 111 52 = o_cV 55 122 1 12 := rfl
theorem x111_55 : mOps 111 55 = o_ne0 58 82 := rfl
theorem x111_58 : mOps 111 58 = o_al 59 0 := rfl
theorem x111_59 : mOps 111 59 = o_il 60 1 := rfl
theorem x111_60 : mOps 111 60 = o_cV 63 123 1 12 := rfl
theorem x111_63 : mOps 111 63 = o_ne0 66 82 := rfl
theorem x111_66 : mOps 111 66 = o_al 67 0 := rfl
theorem x111_67 : mOps 111 67 = o_il 68 1 := rfl
theorem x111_68 : mOps 111 68 = o_cV 71 124 1 12 := rfl
theorem x111_71 : mOps 111 71 = o_ne0 74 82 := rfl
theorem x111_74 : mOps 111 74 = o_al 75 0 := rfl
theorem x111_75 : mOps 111 75 = o_il 76 1 := rfl
theorem x111_76 : mOps 111 76 = o_cV 79 125 1 12 := rfl
theorem x111_79 : mOps 111 79 = o_eq0 82 86 := rfl
theorem x111_82 : mOps 111 82 = o_ic 83 1 := rfl
theorem x111_83 : mOps 111 83 = o_goto 87 := rfl
theorem x111_86 : mOps 111 86 = o_ic 87 0 := rfl
theorem x111_87 : mOps 111 87 = o_ist 88 2 := rfl
theorem x111_88 : mOps 111 88 = o_back 2 [] := rfl
theorem x111_91 : mOps 111 91 = o_rv := rfl
theorem x112_0 : mOps 112 0 = o_al 1 0 := rfl
theorem x112_1 : mOps 112 1 = o_gP 4 12 5 := rfl
theorem x112_4 : mOps 112 4 = o_il 5 1 := rfl
theorem x112_5 : mOps 112 5 = o_ial 6 := rfl
theorem x112_6 : mOps 112 6 = o_ist 7 2 := rfl
theorem x112_7 : mOps 112 7 = o_ic 8 0 := rfl
theorem x112_8 : mOps 112 8 = o_ist 9 3 := rfl
theorem x112_9 : mOps 112 9 = o_il 10 3 := rfl
theorem x112_10 : mOps 112 10 = o_ic 12 30 := rfl
theorem x112_12 : mOps 112 12 = o_ge 15 179 := rfl
theorem x112_15 : mOps 112 15 = o_al 16 0 := rfl
theorem x112_16 : mOps 112 16 = o_il 17 1 := rfl
theorem x112_17 : mOps 112 17 = o_il 18 3 := rfl
theorem x112_18 : mOps 112 18 = o_cV 21 113 2 12 := rfl
theorem x112_21 : mOps 112 21 = o_ist 23 4 := rfl
theorem x112_23 : mOps 112 23 = o_il 25 4 := rfl
theorem x112_25 : mOps 112 25 = o_le0 28 173 := rfl
theorem x112_28 : mOps 112 28 = o_al 29 0 := rfl
theorem x112_29 : mOps 112 29 = o_al 30 0 := rfl
theorem x112_30 : mOps 112 30 = o_il 31 1 := rfl
theorem x112_31 : mOps 112 31 = o_il 32 3 := rfl
theorem x112_32 : mOps 112 32 = o_ic 33 2 := rfl
theorem x112_33 : mOps 112 33 = o_il 35 4 := rfl
theorem x112_35 : mOps 112 35 = o_cV 38 115 4 12 := rfl
theorem x112_38 : mOps 112 38 = o_il 39 2 := rfl
theorem x112_39 : mOps 112 39 = o_cV 42 116 2 12 := rfl
theorem x112_42 : mOps 112 42 = o_eq0 45 173 := rfl
theorem x112_45 : mOps 112 45 = o_ic 47 10 := rfl
theorem x112_47 : mOps 112 47 = o_il 48 2 := rfl
theorem x112_48 : mOps 112 48 = o_ii 49 (fun x y => x * y) := rfl
theorem x112_49 : mOps 112 49 = o_il 50 1 := rfl
theorem x112_50 : mOps 112 50 = o_ii 51 (fun x y => x + y) := rfl
theorem x112_51 : mOps 112 51 = o_ist 53 5 := rfl
theorem x112_53 : mOps 112 53 = o_al 54 0 := rfl
theorem x112_54 : mOps 112 54 = o_gP 57 12 24 := rfl
theorem x112_57 : mOps 112 57 = o_il 59 5 := rfl
theorem x112_59 : mOps 112 59 = o_il 61 4 := rfl
theorem x112_61 : mOps 112 61 = o_ias 62 := rfl
theorem x112_62 : mOps 112 62 = o_al 63 0 := rfl
theorem x112_63 : mOps 112 63 = o_gP 66 12 25 := rfl
theorem x112_66 : mOps 112 66 = o_il 68 5 := rfl
theorem x112_68 : mOps 112 68 = o_il 69 3 := rfl
theorem x112_69 : mOps 112 69 = o_ias 70 := rfl
theorem x112_70 : mOps 112 70 = o_al 71 0 := rfl
theorem x112_71 : mOps 112 71 = o_gP 74 12 26 := rfl
theorem x112_74 : mOps 112 74 = o_il 76 5 := rfl
theorem x112_76 : mOps 112 76 = o_ic 77 0 := rfl
theorem x112_77 : mOps 112 77 = o_ias 78 := rfl
theorem x112_78 : mOps 112 78 = o_ic 79 0 := rfl
theorem x112_79 : mOps 112 79 = o_ist 81 6 := rfl
theorem x112_81 : mOps 112 81 = o_il 83 6 := rfl
theorem x112_83 : mOps 112 83 = o_al 84 0 := rfl
theorem x112_84 : mOps 112 84 = o_gI 87 12 1 := rfl
theorem x112_87 : mOps 112 87 = o_ge 90 133 := rfl
theorem x112_90 : mOps 112 90 = o_al 91 0 := rfl
theorem x112_91 : mOps 112 91 = o_gP 94 12 26 := rfl
theorem x112_94 : mOps 112 94 = o_il 96 5 := rfl
theorem x112_96 : mOps 112 96 = o_al 97 0 := rfl
theorem x112_97 : mOps 112 97 = o_gP 100 12 26 := rfl
theorem x112_100 : mOps 112 100 = o_il 102 5 := rfl
theorem x112_102 : mOps 112 102 = o_ial 103 := rfl
theorem x112_103 : mOps 112 103 = o_al 104 0 := rfl
theorem x112_104 : mOps 112 104 = o_il 105 1 := rfl
theorem x112_105 : mOps 112 105 = o_il 106 3 := rfl
theorem x112_106 : mOps 112 106 = o_il 108 6 := rfl
theorem x112_108 : mOps 112 108 = o_ic 109 2 := rfl
theorem x112_109 : mOps 112 109 = o_cV 112 114 4 12 := rfl
theorem x112_112 : mOps 112 112 = o_il 114 4 := rfl
theorem x112_114 : mOps 112 114 = o_ne 117 124 := rfl
theorem x112_117 : mOps 112 117 = o_ic 118 1 := rfl
theorem x112_118 : mOps 112 118 = o_il 120 6 := rfl
theorem x112_120 : mOps 112 120 = o_ii 121 (fun x y => x <<< (y &&& 31)) := rfl
theorem x112_121 : mOps 112 121 = o_goto 125 := rfl
theorem x112_124 : mOps 112 124 = o_ic 125 0 := rfl
theorem x112_125 : mOps 112 125 = o_ii 126 (fun x y => x ||| y) := rfl
theorem x112_126 : mOps 112 126 = o_ias 127 := rfl
theorem x112_127 : mOps 112 127 = o_inc 130 6 1 := rfl
theorem x112_130 : mOps 112 130 = o_back 81 [] := rfl
theorem x112_133 : mOps 112 133 = o_al 134 0 := rfl
theorem x112_134 : mOps 112 134 = o_gP 137 12 27 := rfl
theorem x112_137 : mOps 112 137 = o_il 139 5 := rfl
theorem x112_139 : mOps 112 139 = o_al 140 0 := rfl
theorem x112_140 : mOps 112 140 = o_il 141 1 := rfl
theorem x112_141 : mOps 112 141 = o_il 142 3 := rfl
theorem x112_142 : mOps 112 142 = o_ic 143 2 := rfl
theorem x112_143 : mOps 112 143 = o_il 145 4 := rfl
theorem x112_145 : mOps 112 145 = o_cV 148 115 4 12 := rfl
theorem x112_148 : mOps 112 148 = o_las 149 := rfl
theorem x112_149 : mOps 112 149 = o_al 150 0 := rfl
theorem x112_150 : mOps 112 150 = o_il 151 1 := rfl
theorem x112_151 : mOps 112 151 = o_cV 154 118 1 12 := rfl
theorem x112_154 : mOps 112 154 = o_al 155 0 := rfl
theorem x112_155 : mOps 112 155 = o_gP 158 12 5 := rfl
theorem x112_158 : mOps 112 158 = o_il 159 1 := rfl
theorem x112_159 : mOps 112 159 = o_ial 160 := rfl
theorem x112_160 : mOps 112 160 = o_ic 162 40 := rfl
theorem x112_162 : mOps 112 162 = o_gt 165 171 := rfl
theorem x112_165 : mOps 112 165 = o_al 166 0 := rfl
theorem x112_166 : mOps 112 166 = o_il 167 1 := rfl
theorem x112_167 : mOps 112 167 = o_ic 168 0 := rfl
theorem x112_168 : mOps 112 168 = o_cV 171 99 2 12 := rfl
theorem x112_171 : mOps 112 171 = o_ic 172 1 := rfl
theorem x112_172 : mOps 112 172 = o_rz := rfl
theorem x112_173 : mOps 112 173 = o_inc 176 3 1 := rfl
theorem x112_176 : mOps 112 176 = o_back 9 [4] := rfl
theorem x112_179 : mOps 112 179 = o_ic 180 0 := rfl
theorem x112_180 : mOps 112 180 = o_rz := rfl
theorem x113_0 : mOps 113 0 = o_al 1 0 := rfl
theorem x113_1 : mOps 113 1 = o_il 2 1 := rfl
theorem x113_2 : mOps 113 2 = o_il 3 2 := rfl
theorem x113_3 : mOps 113 3 = o_al 4 0 := rfl
theorem x113_4 : mOps 113 4 = o_al 5 0 := rfl
theorem x113_5 : mOps 113 5 = o_gP 8 12 5 := rfl
theorem x113_8 : mOps 113 8 = o_il 9 1 := rfl
theorem x113_9 : mOps 113 9 = o_ial 10 := rfl
theorem x113_10 : mOps 113 10 = o_il 11 2 := rfl
theorem x113_11 : mOps 113 11 = o_cV 14 100 2 12 := rfl
theorem x113_14 : mOps 113 14 = o_ic 15 0 := rfl
theorem x113_15 : mOps 113 15 = o_cV 18 114 4 12 := rfl
theorem x113_18 : mOps 113 18 = o_ri := rfl
theorem x114_0 : mOps 114 0 = o_al 1 0 := rfl
theorem x114_1 : mOps 114 1 = o_gP 4 12 20 := rfl
theorem x114_4 : mOps 114 4 = o_al 5 0 := rfl
theorem x114_5 : mOps 114 5 = o_il 6 1 := rfl
theorem x114_6 : mOps 114 6 = o_al 7 0 := rfl
theorem x114_7 : mOps 114 7 = o_gP 10 12 5 := rfl
theorem x114_10 : mOps 114 10 = o_il 11 1 := rfl
theorem x114_11 : mOps 114 11 = o_ial 12 := rfl
theorem x114_12 : mOps 114 12 = o_il 13 2 := rfl
theorem x114_13 : mOps 114 13 = o_il 14 3 := rfl
theorem x114_14 : mOps 114 14 = o_il 16 4 := rfl
theorem x114_16 : mOps 114 16 = o_cV 19 93 5 12 := rfl
theorem x114_19 : mOps 114 19 = o_ial 20 := rfl
theorem x114_20 : mOps 114 20 = o_ri := rfl
theorem x115_0 : mOps 115 0 = o_lc 1 0 := rfl
theorem x115_1 : mOps 115 1 = o_lst 3 5 := rfl
theorem x115_3 : mOps 115 3 = o_ic 4 0 := rfl
theorem x115_4 : mOps 115 4 = o_ist 6 7 := rfl
theorem x115_6 : mOps 115 6 = o_il 8 7 := rfl
theorem x115_8 : mOps 115 8 = o_al 9 0 := rfl
theorem x115_9 : mOps 115 9 = o_gI 12 12 1 := rfl
theorem x115_12 : mOps 115 12 = o_ge 15 76 := rfl
theorem x115_15 : mOps 115 15 = o_al 16 0 := rfl
theorem x115_16 : mOps 115 16 = o_il 17 1 := rfl
theorem x115_17 : mOps 115 17 = o_il 18 2 := rfl
theorem x115_18 : mOps 115 18 = o_il 20 7 := rfl
theorem x115_20 : mOps 115 20 = o_il 21 3 := rfl
theorem x115_21 : mOps 115 21 = o_cV 24 114 4 12 := rfl
theorem x115_24 : mOps 115 24 = o_ist 26 8 := rfl
theorem x115_26 : mOps 115 26 = o_llo 28 5 := rfl
theorem x115_28 : mOps 115 28 = o_il 30 8 := rfl
theorem x115_30 : mOps 115 30 = o_lt0 33 65 := rfl
theorem x115_33 : mOps 115 33 = o_il 35 4 := rfl
theorem x115_35 : mOps 115 35 = o_lt0 38 45 := rfl
theorem x115_38 : mOps 115 38 = o_il 40 8 := rfl
theorem x115_40 : mOps 115 40 = o_il 42 4 := rfl
theorem x115_42 : mOps 115 42 = o_ne 45 65 := rfl
theorem x115_45 : mOps 115 45 = o_al 46 0 := rfl
theorem x115_46 : mOps 115 46 = o_gP 49 12 4 := rfl
theorem x115_49 : mOps 115 49 = o_ic 51 10 := rfl
theorem x115_51 : mOps 115 51 = o_al 52 0 := rfl
theorem x115_52 : mOps 115 52 = o_gP 55 12 5 := rfl
theorem x115_55 : mOps 115 55 = o_il 56 1 := rfl
theorem x115_56 : mOps 115 56 = o_ial 57 := rfl
theorem x115_57 : mOps 115 57 = o_ii 58 (fun x y => x * y) := rfl
theorem x115_58 : mOps 115 58 = o_il 60 7 := rfl
theorem x115_60 : mOps 115 60 = o_ii 61 (fun x y => x + y) := rfl
theorem x115_61 : mOps 115 61 = o_ial 62 := rfl
theorem x115_62 : mOps 115 62 = o_goto 66 := rfl
theorem x115_65 : mOps 115 65 = o_ic 66 0 := rfl
theorem x115_66 : mOps 115 66 = o_i2l 67 := rfl
theorem x115_67 : mOps 115 67 = o_ll 68 (fun x y => x + y) := rfl
theorem x115_68 : mOps 115 68 = o_lst 70 5 := rfl
theorem x115_70 : mOps 115 70 = o_inc 73 7 1 := rfl
theorem x115_73 : mOps 115 73 = o_back 6 [8] := rfl
theorem x115_76 : mOps 115 76 = o_llo 78 5 := rfl
theorem x115_78 : mOps 115 78 = o_rl := rfl
