/-! ===== each operation by its place, 3 ===== -/
theorem x116_0 : mOps 116 0 = o_lc 3 3 := rfl
theorem x116_3 : mOps 116 3 = o_llo 4 1 := rfl
theorem x116_4 : mOps 116 4 = o_ll 5 (fun x y => x * y) := rfl
theorem x116_5 : mOps 116 5 = o_lc 8 2 := rfl
theorem x116_8 : mOps 116 8 = o_al 9 0 := rfl
theorem x116_9 : mOps 116 9 = o_il 10 3 := rfl
theorem x116_10 : mOps 116 10 = o_cV 13 117 1 12 := rfl
theorem x116_13 : mOps 116 13 = o_ll 14 (fun x y => x * y) := rfl
theorem x116_14 : mOps 116 14 = o_lcmp 15 := rfl
theorem x116_15 : mOps 116 15 = o_le0 18 22 := rfl
theorem x116_18 : mOps 116 18 = o_ic 19 1 := rfl
theorem x116_19 : mOps 116 19 = o_goto 23 := rfl
theorem x116_22 : mOps 116 22 = o_ic 23 0 := rfl
theorem x116_23 : mOps 116 23 = o_rz := rfl
theorem x117_0 : mOps 117 0 = o_lc 1 0 := rfl
theorem x117_1 : mOps 117 1 = o_lst 2 2 := rfl
theorem x117_2 : mOps 117 2 = o_ic 3 0 := rfl
theorem x117_3 : mOps 117 3 = o_ist 5 4 := rfl
theorem x117_5 : mOps 117 5 = o_il 7 4 := rfl
theorem x117_7 : mOps 117 7 = o_al 8 0 := rfl
theorem x117_8 : mOps 117 8 = o_gI 11 12 1 := rfl
theorem x117_11 : mOps 117 11 = o_ge 14 36 := rfl
theorem x117_14 : mOps 117 14 = o_llo 15 2 := rfl
theorem x117_15 : mOps 117 15 = o_al 16 0 := rfl
theorem x117_16 : mOps 117 16 = o_gP 19 12 4 := rfl
theorem x117_19 : mOps 117 19 = o_ic 21 10 := rfl
theorem x117_21 : mOps 117 21 = o_il 22 1 := rfl
theorem x117_22 : mOps 117 22 = o_ii 23 (fun x y => x * y) := rfl
theorem x117_23 : mOps 117 23 = o_il 25 4 := rfl
theorem x117_25 : mOps 117 25 = o_ii 26 (fun x y => x + y) := rfl
theorem x117_26 : mOps 117 26 = o_ial 27 := rfl
theorem x117_27 : mOps 117 27 = o_i2l 28 := rfl
theorem x117_28 : mOps 117 28 = o_ll 29 (fun x y => x + y) := rfl
theorem x117_29 : mOps 117 29 = o_lst 30 2 := rfl
theorem x117_30 : mOps 117 30 = o_inc 33 4 1 := rfl
theorem x117_33 : mOps 117 33 = o_back 5 [] := rfl
theorem x117_36 : mOps 117 36 = o_llo 37 2 := rfl
theorem x117_37 : mOps 117 37 = o_rl := rfl
theorem x118_0 : mOps 118 0 = o_al 1 0 := rfl
theorem x118_1 : mOps 118 1 = o_il 2 1 := rfl
theorem x118_2 : mOps 118 2 = o_al 3 0 := rfl
theorem x118_3 : mOps 118 3 = o_gP 6 12 5 := rfl
theorem x118_6 : mOps 118 6 = o_il 7 1 := rfl
theorem x118_7 : mOps 118 7 = o_ial 8 := rfl
theorem x118_8 : mOps 118 8 = o_cV 11 92 2 12 := rfl
theorem x118_11 : mOps 118 11 = o_al 12 0 := rfl
theorem x118_12 : mOps 118 12 = o_il 13 1 := rfl
theorem x118_13 : mOps 118 13 = o_cV 16 95 1 12 := rfl
theorem x118_16 : mOps 118 16 = o_al 17 0 := rfl
theorem x118_17 : mOps 118 17 = o_gP 20 12 5 := rfl
theorem x118_20 : mOps 118 20 = o_il 21 1 := rfl
theorem x118_21 : mOps 118 21 = o_dup2 22 := rfl
theorem x118_22 : mOps 118 22 = o_ial 23 := rfl
theorem x118_23 : mOps 118 23 = o_ic 24 1 := rfl
theorem x118_24 : mOps 118 24 = o_ii 25 (fun x y => x + y) := rfl
theorem x118_25 : mOps 118 25 = o_ias 26 := rfl
theorem x118_26 : mOps 118 26 = o_al 27 0 := rfl
theorem x118_27 : mOps 118 27 = o_gP 30 12 8 := rfl
theorem x118_30 : mOps 118 30 = o_il 31 1 := rfl
theorem x118_31 : mOps 118 31 = o_ic 32 0 := rfl
theorem x118_32 : mOps 118 32 = o_ias 33 := rfl
theorem x118_33 : mOps 118 33 = o_al 34 0 := rfl
theorem x118_34 : mOps 118 34 = o_gP 37 12 9 := rfl
theorem x118_37 : mOps 118 37 = o_il 38 1 := rfl
theorem x118_38 : mOps 118 38 = o_ic 39 (-1) := rfl
theorem x118_39 : mOps 118 39 = o_ias 40 := rfl
theorem x118_40 : mOps 118 40 = o_al 41 0 := rfl
theorem x118_41 : mOps 118 41 = o_gP 44 12 10 := rfl
theorem x118_44 : mOps 118 44 = o_il 45 1 := rfl
theorem x118_45 : mOps 118 45 = o_ic 46 0 := rfl
theorem x118_46 : mOps 118 46 = o_ias 47 := rfl
theorem x118_47 : mOps 118 47 = o_al 48 0 := rfl
theorem x118_48 : mOps 118 48 = o_gP 51 12 11 := rfl
theorem x118_51 : mOps 118 51 = o_il 52 1 := rfl
theorem x118_52 : mOps 118 52 = o_ic 53 (-1) := rfl
theorem x118_53 : mOps 118 53 = o_ias 54 := rfl
theorem x118_54 : mOps 118 54 = o_al 55 0 := rfl
theorem x118_55 : mOps 118 55 = o_gP 58 12 6 := rfl
theorem x118_58 : mOps 118 58 = o_il 59 1 := rfl
theorem x118_59 : mOps 118 59 = o_ic 60 0 := rfl
theorem x118_60 : mOps 118 60 = o_ias 61 := rfl
theorem x118_61 : mOps 118 61 = o_al 62 0 := rfl
theorem x118_62 : mOps 118 62 = o_gP 65 12 7 := rfl
theorem x118_65 : mOps 118 65 = o_il 66 1 := rfl
theorem x118_66 : mOps 118 66 = o_ic 67 0 := rfl
theorem x118_67 : mOps 118 67 = o_ias 68 := rfl
theorem x118_68 : mOps 118 68 = o_ic 69 0 := rfl
theorem x118_69 : mOps 118 69 = o_ist 70 2 := rfl
theorem x118_70 : mOps 118 70 = o_il 71 2 := rfl
theorem x118_71 : mOps 118 71 = o_ic 72 3 := rfl
theorem x118_72 : mOps 118 72 = o_ge 75 92 := rfl
theorem x118_75 : mOps 118 75 = o_al 76 0 := rfl
theorem x118_76 : mOps 118 76 = o_gP 79 12 15 := rfl
theorem x118_79 : mOps 118 79 = o_ic 80 3 := rfl
theorem x118_80 : mOps 118 80 = o_il 81 1 := rfl
theorem x118_81 : mOps 118 81 = o_ii 82 (fun x y => x * y) := rfl
theorem x118_82 : mOps 118 82 = o_il 83 2 := rfl
theorem x118_83 : mOps 118 83 = o_ii 84 (fun x y => x + y) := rfl
theorem x118_84 : mOps 118 84 = o_ic 85 0 := rfl
theorem x118_85 : mOps 118 85 = o_ias 86 := rfl
theorem x118_86 : mOps 118 86 = o_inc 89 2 1 := rfl
theorem x118_89 : mOps 118 89 = o_back 70 [] := rfl
theorem x118_92 : mOps 118 92 = o_rv := rfl
theorem x119_0 : mOps 119 0 = o_al 1 0 := rfl
theorem x119_1 : mOps 119 1 = o_gP 4 12 5 := rfl
theorem x119_4 : mOps 119 4 = o_il 5 1 := rfl
theorem x119_5 : mOps 119 5 = o_ial 6 := rfl
theorem x119_6 : mOps 119 6 = o_ist 7 2 := rfl
theorem x119_7 : mOps 119 7 = o_ic 9 29 := rfl
theorem x119_9 : mOps 119 9 = o_ist 10 3 := rfl
theorem x119_10 : mOps 119 10 = o_il 11 3 := rfl
theorem x119_11 : mOps 119 11 = o_al 12 0 := rfl
theorem x119_12 : mOps 119 12 = o_gP 15 12 6 := rfl
theorem x119_15 : mOps 119 15 = o_il 16 1 := rfl
theorem x119_16 : mOps 119 16 = o_ial 17 := rfl
theorem x119_17 : mOps 119 17 = o_le 20 151 := rfl
theorem x119_20 : mOps 119 20 = o_lc 21 0 := rfl
theorem x119_21 : mOps 119 21 = o_lst 23 4 := rfl
theorem x119_23 : mOps 119 23 = o_ic 24 0 := rfl
theorem x119_24 : mOps 119 24 = o_ist 26 6 := rfl
theorem x119_26 : mOps 119 26 = o_il 28 6 := rfl
theorem x119_28 : mOps 119 28 = o_al 29 0 := rfl
theorem x119_29 : mOps 119 29 = o_gI 32 12 1 := rfl
theorem x119_32 : mOps 119 32 = o_ge 35 122 := rfl
theorem x119_35 : mOps 119 35 = o_al 36 0 := rfl
theorem x119_36 : mOps 119 36 = o_il 37 1 := rfl
theorem x119_37 : mOps 119 37 = o_il 38 3 := rfl
theorem x119_38 : mOps 119 38 = o_il 40 6 := rfl
theorem x119_40 : mOps 119 40 = o_ic 41 1 := rfl
theorem x119_41 : mOps 119 41 = o_cV 44 114 4 12 := rfl
theorem x119_44 : mOps 119 44 = o_ge0 47 82 := rfl
theorem x119_47 : mOps 119 47 = o_al 48 0 := rfl
theorem x119_48 : mOps 119 48 = o_il 49 1 := rfl
theorem x119_49 : mOps 119 49 = o_il 50 3 := rfl
theorem x119_50 : mOps 119 50 = o_il 52 6 := rfl
theorem x119_52 : mOps 119 52 = o_ic 53 2 := rfl
theorem x119_53 : mOps 119 53 = o_cV 56 114 4 12 := rfl
theorem x119_56 : mOps 119 56 = o_ge0 59 82 := rfl
theorem x119_59 : mOps 119 59 = o_il 61 6 := rfl
theorem x119_61 : mOps 119 61 = o_al 62 0 := rfl
theorem x119_62 : mOps 119 62 = o_il 63 2 := rfl
theorem x119_63 : mOps 119 63 = o_il 64 3 := rfl
theorem x119_64 : mOps 119 64 = o_cV 67 100 2 12 := rfl
theorem x119_67 : mOps 119 67 = o_ne 70 86 := rfl
theorem x119_70 : mOps 119 70 = o_al 71 0 := rfl
theorem x119_71 : mOps 119 71 = o_il 72 1 := rfl
theorem x119_72 : mOps 119 72 = o_il 73 3 := rfl
theorem x119_73 : mOps 119 73 = o_il 75 6 := rfl
theorem x119_75 : mOps 119 75 = o_ic 76 0 := rfl
theorem x119_76 : mOps 119 76 = o_cV 79 114 4 12 := rfl
theorem x119_79 : mOps 119 79 = o_lt0 82 86 := rfl
theorem x119_82 : mOps 119 82 = o_ic 83 1 := rfl
theorem x119_83 : mOps 119 83 = o_goto 87 := rfl
theorem x119_86 : mOps 119 86 = o_ic 87 0 := rfl
theorem x119_87 : mOps 119 87 = o_ist 89 7 := rfl
theorem x119_89 : mOps 119 89 = o_llo 91 4 := rfl
theorem x119_91 : mOps 119 91 = o_il 93 7 := rfl
theorem x119_93 : mOps 119 93 = o_eq0 96 111 := rfl
theorem x119_96 : mOps 119 96 = o_al 97 0 := rfl
theorem x119_97 : mOps 119 97 = o_gP 100 12 4 := rfl
theorem x119_100 : mOps 119 100 = o_ic 102 10 := rfl
theorem x119_102 : mOps 119 102 = o_il 103 2 := rfl
theorem x119_103 : mOps 119 103 = o_ii 104 (fun x y => x * y) := rfl
theorem x119_104 : mOps 119 104 = o_il 106 6 := rfl
theorem x119_106 : mOps 119 106 = o_ii 107 (fun x y => x + y) := rfl
theorem x119_107 : mOps 119 107 = o_ial 108 := rfl
theorem x119_108 : mOps 119 108 = o_goto 112 := rfl
theorem x119_111 : mOps 119 111 = o_ic 112 0 := rfl
theorem x119_112 : mOps 119 112 = o_i2l 113 := rfl
theorem x119_113 : mOps 119 113 = o_ll 114 (fun x y => x + y) := rfl
theorem x119_114 : mOps 119 114 = o_lst 116 4 := rfl
theorem x119_116 : mOps 119 116 = o_inc 119 6 1 := rfl
theorem x119_119 : mOps 119 119 = o_back 26 [7] := rfl
theorem x119_122 : mOps 119 122 = o_lc 125 3 := rfl
theorem x119_125 : mOps 119 125 = o_llo 127 4 := rfl
theorem x119_127 : mOps 119 127 = o_ll 128 (fun x y => x * y) := rfl
theorem x119_128 : mOps 119 128 = o_al 129 0 := rfl
theorem x119_129 : mOps 119 129 = o_il 130 2 := rfl
theorem x119_130 : mOps 119 130 = o_cV 133 117 1 12 := rfl
theorem x119_133 : mOps 119 133 = o_lcmp 134 := rfl
theorem x119_134 : mOps 119 134 = o_le0 137 145 := rfl
theorem x119_137 : mOps 119 137 = o_al 138 0 := rfl
theorem x119_138 : mOps 119 138 = o_il 139 1 := rfl
theorem x119_139 : mOps 119 139 = o_il 140 3 := rfl
theorem x119_140 : mOps 119 140 = o_cV 143 99 2 12 := rfl
theorem x119_143 : mOps 119 143 = o_ic 144 1 := rfl
theorem x119_144 : mOps 119 144 = o_rz := rfl
theorem x119_145 : mOps 119 145 = o_inc 148 3 (-1) := rfl
theorem x119_148 : mOps 119 148 = o_back 10 [4, 6] := rfl
theorem x119_151 : mOps 119 151 = o_ic 152 0 := rfl
theorem x119_152 : mOps 119 152 = o_rz := rfl
theorem x120_0 : mOps 120 0 = o_al 1 0 := rfl
theorem x120_1 : mOps 120 1 = o_gP 4 12 6 := rfl
theorem x120_4 : mOps 120 4 = o_il 5 1 := rfl
theorem x120_5 : mOps 120 5 = o_ial 6 := rfl
theorem x120_6 : mOps 120 6 = o_ist 7 2 := rfl
theorem x120_7 : mOps 120 7 = o_al 8 0 := rfl
theorem x120_8 : mOps 120 8 = o_il 9 1 := rfl
theorem x120_9 : mOps 120 9 = o_il 10 2 := rfl
theorem x120_10 : mOps 120 10 = o_cV 13 113 2 12 := rfl
theorem x120_13 : mOps 120 13 = o_ist 14 3 := rfl
theorem x120_14 : mOps 120 14 = o_al 15 0 := rfl
theorem x120_15 : mOps 120 15 = o_gP 18 12 7 := rfl
theorem x120_18 : mOps 120 18 = o_il 19 1 := rfl
theorem x120_19 : mOps 120 19 = o_ial 20 := rfl
theorem x120_20 : mOps 120 20 = o_ne0 23 27 := rfl
theorem x120_23 : mOps 120 23 = o_il 24 3 := rfl
theorem x120_24 : mOps 120 24 = o_ge0 27 29 := rfl
theorem x120_27 : mOps 120 27 = o_ic 28 0 := rfl
theorem x120_28 : mOps 120 28 = o_rz := rfl
theorem x120_29 : mOps 120 29 = o_al 30 0 := rfl
theorem x120_30 : mOps 120 30 = o_il 31 1 := rfl
theorem x120_31 : mOps 120 31 = o_il 32 2 := rfl
theorem x120_32 : mOps 120 32 = o_cV 35 121 2 12 := rfl
theorem x120_35 : mOps 120 35 = o_ist 37 4 := rfl
theorem x120_37 : mOps 120 37 = o_il 39 4 := rfl
theorem x120_39 : mOps 120 39 = o_ic 40 (-1) := rfl
theorem x120_40 : mOps 120 40 = o_eq 43 81 := rfl
theorem x120_43 : mOps 120 43 = o_il 45 4 := rfl
theorem x120_45 : mOps 120 45 = o_i2l 46 := rfl
theorem x120_46 : mOps 120 46 = o_lc 47 0 := rfl
theorem x120_47 : mOps 120 47 = o_il 48 2 := rfl
theorem x120_48 : mOps 120 48 = o_ic 49 1 := rfl
theorem x120_49 : mOps 120 49 = o_ii 50 (fun x y => x - y) := rfl
theorem x120_50 : mOps 120 50 = o_i2l 51 := rfl
theorem x120_51 : mOps 120 51 = o_cS 54 97 3 := rfl
theorem x120_54 : mOps 120 54 = o_eq0 57 79 := rfl
theorem x120_57 : mOps 120 57 = o_al 58 0 := rfl
theorem x120_58 : mOps 120 58 = o_al 59 0 := rfl
theorem x120_59 : mOps 120 59 = o_il 60 1 := rfl
theorem x120_60 : mOps 120 60 = o_il 62 4 := rfl
theorem x120_62 : mOps 120 62 = o_ic 63 1 := rfl
theorem x120_63 : mOps 120 63 = o_il 64 3 := rfl
theorem x120_64 : mOps 120 64 = o_cV 67 115 4 12 := rfl
theorem x120_67 : mOps 120 67 = o_al 68 0 := rfl
theorem x120_68 : mOps 120 68 = o_gP 71 12 5 := rfl
theorem x120_71 : mOps 120 71 = o_il 72 1 := rfl
theorem x120_72 : mOps 120 72 = o_ial 73 := rfl
theorem x120_73 : mOps 120 73 = o_cV 76 116 2 12 := rfl
theorem x120_76 : mOps 120 76 = o_ne0 79 81 := rfl
theorem x120_79 : mOps 120 79 = o_ic 80 0 := rfl
theorem x120_80 : mOps 120 80 = o_rz := rfl
theorem x120_81 : mOps 120 81 = o_al 82 0 := rfl
theorem x120_82 : mOps 120 82 = o_gP 85 12 9 := rfl
theorem x120_85 : mOps 120 85 = o_il 86 1 := rfl
theorem x120_86 : mOps 120 86 = o_ial 87 := rfl
theorem x120_87 : mOps 120 87 = o_lt0 90 127 := rfl
theorem x120_90 : mOps 120 90 = o_al 91 0 := rfl
theorem x120_91 : mOps 120 91 = o_gP 94 12 8 := rfl
theorem x120_94 : mOps 120 94 = o_il 95 1 := rfl
theorem x120_95 : mOps 120 95 = o_ial 96 := rfl
theorem x120_96 : mOps 120 96 = o_il 97 3 := rfl
theorem x120_97 : mOps 120 97 = o_eq 100 127 := rfl
theorem x120_100 : mOps 120 100 = o_il 102 4 := rfl
theorem x120_102 : mOps 120 102 = o_ic 103 (-1) := rfl
theorem x120_103 : mOps 120 103 = o_le 106 117 := rfl
theorem x120_106 : mOps 120 106 = o_al 107 0 := rfl
theorem x120_107 : mOps 120 107 = o_gP 110 12 9 := rfl
theorem x120_110 : mOps 120 110 = o_il 111 1 := rfl
theorem x120_111 : mOps 120 111 = o_ial 112 := rfl
theorem x120_112 : mOps 120 112 = o_il 114 4 := rfl
theorem x120_114 : mOps 120 114 = o_le 117 127 := rfl
theorem x120_117 : mOps 120 117 = o_al 118 0 := rfl
theorem x120_118 : mOps 120 118 = o_gP 121 12 14 := rfl
theorem x120_121 : mOps 120 121 = o_il 122 1 := rfl
theorem x120_122 : mOps 120 122 = o_ial 123 := rfl
theorem x120_123 : mOps 120 123 = o_ic 124 4 := rfl
theorem x120_124 : mOps 120 124 = o_ne 127 131 := rfl
theorem x120_127 : mOps 120 127 = o_ic 128 1 := rfl
theorem x120_128 : mOps 120 128 = o_goto 132 := rfl
theorem x120_131 : mOps 120 131 = o_ic 132 0 := rfl
theorem x120_132 : mOps 120 132 = o_ist 134 5 := rfl
theorem x120_134 : mOps 120 134 = o_al 135 0 := rfl
theorem x120_135 : mOps 120 135 = o_il 136 1 := rfl
theorem x120_136 : mOps 120 136 = o_ic 137 1 := rfl
theorem x120_137 : mOps 120 137 = o_il 139 5 := rfl
theorem x120_139 : mOps 120 139 = o_eq0 142 146 := rfl
theorem x120_142 : mOps 120 142 = o_il 143 3 := rfl
theorem x120_143 : mOps 120 143 = o_goto 147 := rfl
theorem x120_146 : mOps 120 146 = o_ic 147 0 := rfl
theorem x120_147 : mOps 120 147 = o_ic 149 (-9) := rfl
theorem x120_149 : mOps 120 149 = o_cV 152 101 4 12 := rfl
theorem x120_152 : mOps 120 152 = o_al 153 0 := rfl
theorem x120_153 : mOps 120 153 = o_gP 156 12 7 := rfl
theorem x120_156 : mOps 120 156 = o_il 157 1 := rfl
theorem x120_157 : mOps 120 157 = o_ic 158 1 := rfl
theorem x120_158 : mOps 120 158 = o_ias 159 := rfl
theorem x120_159 : mOps 120 159 = o_ic 160 1 := rfl
theorem x120_160 : mOps 120 160 = o_rz := rfl
theorem x121_0 : mOps 121 0 = o_al 1 0 := rfl
theorem x121_1 : mOps 121 1 = o_gP 4 12 21 := rfl
theorem x121_4 : mOps 121 4 = o_al 5 0 := rfl
theorem x121_5 : mOps 121 5 = o_il 6 1 := rfl
theorem x121_6 : mOps 121 6 = o_al 7 0 := rfl
theorem x121_7 : mOps 121 7 = o_gP 10 12 5 := rfl
theorem x121_10 : mOps 121 10 = o_il 11 1 := rfl
theorem x121_11 : mOps 121 11 = o_ial 12 := rfl
theorem x121_12 : mOps 121 12 = o_il 13 2 := rfl
theorem x121_13 : mOps 121 13 = o_al 14 0 := rfl
theorem x121_14 : mOps 121 14 = o_al 15 0 := rfl
theorem x121_15 : mOps 121 15 = o_gP 18 12 5 := rfl
theorem x121_18 : mOps 121 18 = o_il 19 1 := rfl
theorem x121_19 : mOps 121 19 = o_ial 20 := rfl
theorem x121_20 : mOps 121 20 = o_il 21 2 := rfl
theorem x121_21 : mOps 121 21 = o_cV 24 100 2 12 := rfl
theorem x121_24 : mOps 121 24 = o_cV 27 94 4 12 := rfl
theorem x121_27 : mOps 121 27 = o_ial 28 := rfl
theorem x121_28 : mOps 121 28 = o_ri := rfl
theorem x122_0 : mOps 122 0 = o_al 1 0 := rfl
theorem x122_1 : mOps 122 1 = o_gP 4 12 6 := rfl
theorem x122_4 : mOps 122 4 = o_il 5 1 := rfl
theorem x122_5 : mOps 122 5 = o_ial 6 := rfl
theorem x122_6 : mOps 122 6 = o_ist 7 2 := rfl
theorem x122_7 : mOps 122 7 = o_al 8 0 := rfl
theorem x122_8 : mOps 122 8 = o_il 9 1 := rfl
theorem x122_9 : mOps 122 9 = o_il 10 2 := rfl
theorem x122_10 : mOps 122 10 = o_cV 13 113 2 12 := rfl
theorem x122_13 : mOps 122 13 = o_ist 14 3 := rfl
theorem x122_14 : mOps 122 14 = o_al 15 0 := rfl
theorem x122_15 : mOps 122 15 = o_gP 18 12 16 := rfl
theorem x122_18 : mOps 122 18 = o_il 19 1 := rfl
theorem x122_19 : mOps 122 19 = o_bal 20 := rfl
theorem x122_20 : mOps 122 20 = o_ne0 23 57 := rfl
theorem x122_23 : mOps 122 23 = o_al 24 0 := rfl
theorem x122_24 : mOps 122 24 = o_gP 27 12 7 := rfl
theorem x122_27 : mOps 122 27 = o_il 28 1 := rfl
theorem x122_28 : mOps 122 28 = o_ial 29 := rfl
theorem x122_29 : mOps 122 29 = o_eq0 32 57 := rfl
theorem x122_32 : mOps 122 32 = o_il 33 3 := rfl
theorem x122_33 : mOps 122 33 = o_lt0 36 57 := rfl
theorem x122_36 : mOps 122 36 = o_al 37 0 := rfl
theorem x122_37 : mOps 122 37 = o_al 38 0 := rfl
theorem x122_38 : mOps 122 38 = o_il 39 1 := rfl
theorem x122_39 : mOps 122 39 = o_il 40 2 := rfl
theorem x122_40 : mOps 122 40 = o_ic 41 1 := rfl
theorem x122_41 : mOps 122 41 = o_il 42 3 := rfl
theorem x122_42 : mOps 122 42 = o_cV 45 115 4 12 := rfl
theorem x122_45 : mOps 122 45 = o_al 46 0 := rfl
theorem x122_46 : mOps 122 46 = o_gP 49 12 5 := rfl
theorem x122_49 : mOps 122 49 = o_il 50 1 := rfl
theorem x122_50 : mOps 122 50 = o_ial 51 := rfl
theorem x122_51 : mOps 122 51 = o_cV 54 116 2 12 := rfl
theorem x122_54 : mOps 122 54 = o_ne0 57 59 := rfl
theorem x122_57 : mOps 122 57 = o_ic 58 0 := rfl
theorem x122_58 : mOps 122 58 = o_rz := rfl
theorem x122_59 : mOps 122 59 = o_al 60 0 := rfl
theorem x122_60 : mOps 122 60 = o_gP 63 12 16 := rfl
theorem x122_63 : mOps 122 63 = o_il 64 1 := rfl
theorem x122_64 : mOps 122 64 = o_ic 65 1 := rfl
theorem x122_65 : mOps 122 65 = o_bas 66 := rfl
theorem x122_66 : mOps 122 66 = o_al 67 0 := rfl
theorem x122_67 : mOps 122 67 = o_gP 70 12 7 := rfl
theorem x122_70 : mOps 122 70 = o_il 71 1 := rfl
theorem x122_71 : mOps 122 71 = o_ial 72 := rfl
theorem x122_72 : mOps 122 72 = o_ic 73 1 := rfl
theorem x122_73 : mOps 122 73 = o_ne 76 106 := rfl
theorem x122_76 : mOps 122 76 = o_al 77 0 := rfl
theorem x122_77 : mOps 122 77 = o_gP 80 12 8 := rfl
theorem x122_80 : mOps 122 80 = o_il 81 1 := rfl
theorem x122_81 : mOps 122 81 = o_il 82 3 := rfl
theorem x122_82 : mOps 122 82 = o_ias 83 := rfl
theorem x122_83 : mOps 122 83 = o_al 84 0 := rfl
theorem x122_84 : mOps 122 84 = o_gP 87 12 9 := rfl
theorem x122_87 : mOps 122 87 = o_il 88 1 := rfl
theorem x122_88 : mOps 122 88 = o_il 89 2 := rfl
theorem x122_89 : mOps 122 89 = o_ias 90 := rfl
theorem x122_90 : mOps 122 90 = o_al 91 0 := rfl
theorem x122_91 : mOps 122 91 = o_il 92 1 := rfl
theorem x122_92 : mOps 122 92 = o_ic 93 2 := rfl
theorem x122_93 : mOps 122 93 = o_il 94 3 := rfl
theorem x122_94 : mOps 122 94 = o_ic 96 (-9) := rfl
theorem x122_96 : mOps 122 96 = o_cV 99 101 4 12 := rfl
theorem x122_99 : mOps 122 99 = o_al 100 0 := rfl
theorem x122_100 : mOps 122 100 = o_gP 103 12 7 := rfl
theorem x122_103 : mOps 122 103 = o_il 104 1 := rfl
theorem x122_104 : mOps 122 104 = o_ic 105 2 := rfl
theorem x122_105 : mOps 122 105 = o_ias 106 := rfl
theorem x122_106 : mOps 122 106 = o_al 107 0 := rfl
theorem x122_107 : mOps 122 107 = o_gP 110 12 10 := rfl
theorem x122_110 : mOps 122 110 = o_il 111 1 := rfl
theorem x122_111 : mOps 122 111 = o_il 112 3 := rfl
theorem x122_112 : mOps 122 112 = o_ias 113 := rfl
theorem x122_113 : mOps 122 113 = o_al 114 0 := rfl
theorem x122_114 : mOps 122 114 = o_gP 117 12 11 := rfl
theorem x122_117 : mOps 122 117 = o_il 118 1 := rfl
theorem x122_118 : mOps 122 118 = o_il 119 2 := rfl
theorem x122_119 : mOps 122 119 = o_ias 120 := rfl
theorem x122_120 : mOps 122 120 = o_ic 121 1 := rfl
theorem x122_121 : mOps 122 121 = o_rz := rfl
theorem x123_0 : mOps 123 0 = o_al 1 0 := rfl
theorem x123_1 : mOps 123 1 = o_gP 4 12 7 := rfl
theorem x123_4 : mOps 123 4 = o_il 5 1 := rfl
theorem x123_5 : mOps 123 5 = o_ial 6 := rfl
theorem x123_6 : mOps 123 6 = o_ic 7 1 := rfl
theorem x123_7 : mOps 123 7 = o_ne 10 36 := rfl
theorem x123_10 : mOps 123 10 = o_al 11 0 := rfl
theorem x123_11 : mOps 123 11 = o_al 12 0 := rfl
theorem x123_12 : mOps 123 12 = o_il 13 1 := rfl
theorem x123_13 : mOps 123 13 = o_al 14 0 := rfl
theorem x123_14 : mOps 123 14 = o_gP 17 12 6 := rfl
theorem x123_17 : mOps 123 17 = o_il 18 1 := rfl
theorem x123_18 : mOps 123 18 = o_ial 19 := rfl
theorem x123_19 : mOps 123 19 = o_ic 20 1 := rfl
theorem x123_20 : mOps 123 20 = o_ic 21 0 := rfl
theorem x123_21 : mOps 123 21 = o_cV 24 115 4 12 := rfl
theorem x123_24 : mOps 123 24 = o_al 25 0 := rfl
theorem x123_25 : mOps 123 25 = o_gP 28 12 5 := rfl
theorem x123_28 : mOps 123 28 = o_il 29 1 := rfl
theorem x123_29 : mOps 123 29 = o_ial 30 := rfl
theorem x123_30 : mOps 123 30 = o_cV 33 116 2 12 := rfl
theorem x123_33 : mOps 123 33 = o_ne0 36 38 := rfl
theorem x123_36 : mOps 123 36 = o_ic 37 0 := rfl
theorem x123_37 : mOps 123 37 = o_rz := rfl
theorem x123_38 : mOps 123 38 = o_al 39 0 := rfl
theorem x123_39 : mOps 123 39 = o_il 40 1 := rfl
theorem x123_40 : mOps 123 40 = o_ic 41 2 := rfl
theorem x123_41 : mOps 123 41 = o_ic 42 0 := rfl
theorem x123_42 : mOps 123 42 = o_ic 44 (-9) := rfl
theorem x123_44 : mOps 123 44 = o_cV 47 101 4 12 := rfl
theorem x123_47 : mOps 123 47 = o_al 48 0 := rfl
theorem x123_48 : mOps 123 48 = o_gP 51 12 7 := rfl
theorem x123_51 : mOps 123 51 = o_il 52 1 := rfl
theorem x123_52 : mOps 123 52 = o_ic 53 2 := rfl
theorem x123_53 : mOps 123 53 = o_ias 54 := rfl
theorem x123_54 : mOps 123 54 = o_ic 55 1 := rfl
theorem x123_55 : mOps 123 55 = o_rz := rfl
theorem x124_0 : mOps 124 0 = o_al 1 0 := rfl
theorem x124_1 : mOps 124 1 = o_gP 4 12 17 := rfl
theorem x124_4 : mOps 124 4 = o_il 5 1 := rfl
theorem x124_5 : mOps 124 5 = o_bal 6 := rfl
theorem x124_6 : mOps 124 6 = o_ne0 9 45 := rfl
theorem x124_9 : mOps 124 9 = o_al 10 0 := rfl
theorem x124_10 : mOps 124 10 = o_gP 13 12 7 := rfl
theorem x124_13 : mOps 124 13 = o_il 14 1 := rfl
theorem x124_14 : mOps 124 14 = o_ial 15 := rfl
theorem x124_15 : mOps 124 15 = o_ic 16 1 := rfl
theorem x124_16 : mOps 124 16 = o_ne 19 45 := rfl
theorem x124_19 : mOps 124 19 = o_al 20 0 := rfl
theorem x124_20 : mOps 124 20 = o_al 21 0 := rfl
theorem x124_21 : mOps 124 21 = o_il 22 1 := rfl
theorem x124_22 : mOps 124 22 = o_al 23 0 := rfl
theorem x124_23 : mOps 124 23 = o_gP 26 12 6 := rfl
theorem x124_26 : mOps 124 26 = o_il 27 1 := rfl
theorem x124_27 : mOps 124 27 = o_ial 28 := rfl
theorem x124_28 : mOps 124 28 = o_ic 29 1 := rfl
theorem x124_29 : mOps 124 29 = o_ic 30 (-1) := rfl
theorem x124_30 : mOps 124 30 = o_cV 33 115 4 12 := rfl
theorem x124_33 : mOps 124 33 = o_al 34 0 := rfl
theorem x124_34 : mOps 124 34 = o_gP 37 12 5 := rfl
theorem x124_37 : mOps 124 37 = o_il 38 1 := rfl
theorem x124_38 : mOps 124 38 = o_ial 39 := rfl
theorem x124_39 : mOps 124 39 = o_cV 42 116 2 12 := rfl
theorem x124_42 : mOps 124 42 = o_ne0 45 47 := rfl
theorem x124_45 : mOps 124 45 = o_ic 46 0 := rfl
theorem x124_46 : mOps 124 46 = o_rz := rfl
theorem x124_47 : mOps 124 47 = o_al 48 0 := rfl
theorem x124_48 : mOps 124 48 = o_gP 51 12 17 := rfl
theorem x124_51 : mOps 124 51 = o_il 52 1 := rfl
theorem x124_52 : mOps 124 52 = o_ic 53 1 := rfl
theorem x124_53 : mOps 124 53 = o_bas 54 := rfl
theorem x124_54 : mOps 124 54 = o_al 55 0 := rfl
theorem x124_55 : mOps 124 55 = o_gP 58 12 15 := rfl
theorem x124_58 : mOps 124 58 = o_ic 59 3 := rfl
theorem x124_59 : mOps 124 59 = o_il 60 1 := rfl
theorem x124_60 : mOps 124 60 = o_ii 61 (fun x y => x * y) := rfl
theorem x124_61 : mOps 124 61 = o_ic 62 1 := rfl
theorem x124_62 : mOps 124 62 = o_ii 63 (fun x y => x + y) := rfl
theorem x124_63 : mOps 124 63 = o_al 64 0 := rfl
theorem x124_64 : mOps 124 64 = o_gI 67 12 3 := rfl
theorem x124_67 : mOps 124 67 = o_ic 68 3 := rfl
theorem x124_68 : mOps 124 68 = o_ii 69 (fun x y => x + y) := rfl
theorem x124_69 : mOps 124 69 = o_al 70 0 := rfl
theorem x124_70 : mOps 124 70 = o_gP 73 12 6 := rfl
theorem x124_73 : mOps 124 73 = o_il 74 1 := rfl
theorem x124_74 : mOps 124 74 = o_ial 75 := rfl
theorem x124_75 : mOps 124 75 = o_ii 76 (fun x y => x + y) := rfl
theorem x124_76 : mOps 124 76 = o_ias 77 := rfl
theorem x124_77 : mOps 124 77 = o_ic 78 1 := rfl
theorem x124_78 : mOps 124 78 = o_rz := rfl
theorem x125_0 : mOps 125 0 = o_al 1 0 := rfl
theorem x125_1 : mOps 125 1 = o_gP 4 12 18 := rfl
theorem x125_4 : mOps 125 4 = o_il 5 1 := rfl
theorem x125_5 : mOps 125 5 = o_bal 6 := rfl
theorem x125_6 : mOps 125 6 = o_ne0 9 35 := rfl
theorem x125_9 : mOps 125 9 = o_al 10 0 := rfl
theorem x125_10 : mOps 125 10 = o_al 11 0 := rfl
theorem x125_11 : mOps 125 11 = o_il 12 1 := rfl
theorem x125_12 : mOps 125 12 = o_al 13 0 := rfl
theorem x125_13 : mOps 125 13 = o_gP 16 12 6 := rfl
theorem x125_16 : mOps 125 16 = o_il 17 1 := rfl
theorem x125_17 : mOps 125 17 = o_ial 18 := rfl
theorem x125_18 : mOps 125 18 = o_ic 19 2 := rfl
theorem x125_19 : mOps 125 19 = o_ic 20 (-1) := rfl
theorem x125_20 : mOps 125 20 = o_cV 23 115 4 12 := rfl
theorem x125_23 : mOps 125 23 = o_al 24 0 := rfl
theorem x125_24 : mOps 125 24 = o_gP 27 12 5 := rfl
theorem x125_27 : mOps 125 27 = o_il 28 1 := rfl
theorem x125_28 : mOps 125 28 = o_ial 29 := rfl
theorem x125_29 : mOps 125 29 = o_cV 32 116 2 12 := rfl
theorem x125_32 : mOps 125 32 = o_ne0 35 37 := rfl
theorem x125_35 : mOps 125 35 = o_ic 36 0 := rfl
theorem x125_36 : mOps 125 36 = o_rz := rfl
theorem x125_37 : mOps 125 37 = o_al 38 0 := rfl
theorem x125_38 : mOps 125 38 = o_gP 41 12 18 := rfl
theorem x125_41 : mOps 125 41 = o_il 42 1 := rfl
theorem x125_42 : mOps 125 42 = o_ic 43 1 := rfl
theorem x125_43 : mOps 125 43 = o_bas 44 := rfl
theorem x125_44 : mOps 125 44 = o_al 45 0 := rfl
theorem x125_45 : mOps 125 45 = o_gP 48 12 15 := rfl
theorem x125_48 : mOps 125 48 = o_ic 49 3 := rfl
theorem x125_49 : mOps 125 49 = o_il 50 1 := rfl
theorem x125_50 : mOps 125 50 = o_ii 51 (fun x y => x * y) := rfl
theorem x125_51 : mOps 125 51 = o_ic 52 2 := rfl
theorem x125_52 : mOps 125 52 = o_ii 53 (fun x y => x + y) := rfl
theorem x125_53 : mOps 125 53 = o_al 54 0 := rfl
theorem x125_54 : mOps 125 54 = o_gI 57 12 3 := rfl
theorem x125_57 : mOps 125 57 = o_ic 58 3 := rfl
theorem x125_58 : mOps 125 58 = o_ii 59 (fun x y => x + y) := rfl
theorem x125_59 : mOps 125 59 = o_al 60 0 := rfl
theorem x125_60 : mOps 125 60 = o_gP 63 12 6 := rfl
theorem x125_63 : mOps 125 63 = o_il 64 1 := rfl
theorem x125_64 : mOps 125 64 = o_ial 65 := rfl
theorem x125_65 : mOps 125 65 = o_ii 66 (fun x y => x + y) := rfl
theorem x125_66 : mOps 125 66 = o_ias 67 := rfl
theorem x125_67 : mOps 125 67 = o_ic 68 1 := rfl
theorem x125_68 : mOps 125 68 = o_rz := rfl
theorem x126_0 : mOps 126 0 = o_al 1 0 := rfl
theorem x126_1 : mOps 126 1 = o_gP 4 12 13 := rfl
theorem x126_4 : mOps 126 4 = o_il 5 1 := rfl
theorem x126_5 : mOps 126 5 = o_ic 6 0 := rfl
theorem x126_6 : mOps 126 6 = o_bas 7 := rfl
theorem x126_7 : mOps 126 7 = o_al 8 0 := rfl
theorem x126_8 : mOps 126 8 = o_il 9 1 := rfl
theorem x126_9 : mOps 126 9 = o_ic 10 0 := rfl
theorem x126_10 : mOps 126 10 = o_cV 13 92 2 12 := rfl
theorem x126_13 : mOps 126 13 = o_al 14 0 := rfl
theorem x126_14 : mOps 126 14 = o_il 15 1 := rfl
theorem x126_15 : mOps 126 15 = o_ic 16 1 := rfl
theorem x126_16 : mOps 126 16 = o_cV 19 92 2 12 := rfl
theorem x126_19 : mOps 126 19 = o_al 20 0 := rfl
theorem x126_20 : mOps 126 20 = o_gP 23 12 5 := rfl
theorem x126_23 : mOps 126 23 = o_il 24 1 := rfl
theorem x126_24 : mOps 126 24 = o_ial 25 := rfl
theorem x126_25 : mOps 126 25 = o_ic 27 40 := rfl
theorem x126_27 : mOps 126 27 = o_le 30 31 := rfl
theorem x126_30 : mOps 126 30 = o_rv := rfl
theorem x126_31 : mOps 126 31 = o_ic 32 0 := rfl
theorem x126_32 : mOps 126 32 = o_ist 33 2 := rfl
theorem x126_33 : mOps 126 33 = o_il 34 2 := rfl
theorem x126_34 : mOps 126 34 = o_ic 36 30 := rfl
theorem x126_36 : mOps 126 36 = o_ge 39 109 := rfl
theorem x126_39 : mOps 126 39 = o_ic 40 0 := rfl
theorem x126_40 : mOps 126 40 = o_ist 41 3 := rfl
theorem x126_41 : mOps 126 41 = o_il 42 3 := rfl
theorem x126_42 : mOps 126 42 = o_ic 43 3 := rfl
theorem x126_43 : mOps 126 43 = o_ge 46 103 := rfl
theorem x126_46 : mOps 126 46 = o_ic 48 90 := rfl
theorem x126_48 : mOps 126 48 = o_il 49 1 := rfl
theorem x126_49 : mOps 126 49 = o_ii 50 (fun x y => x * y) := rfl
theorem x126_50 : mOps 126 50 = o_ic 51 3 := rfl
theorem x126_51 : mOps 126 51 = o_il 52 2 := rfl
theorem x126_52 : mOps 126 52 = o_ii 53 (fun x y => x * y) := rfl
theorem x126_53 : mOps 126 53 = o_ii 54 (fun x y => x + y) := rfl
theorem x126_54 : mOps 126 54 = o_il 55 3 := rfl
theorem x126_55 : mOps 126 55 = o_ii 56 (fun x y => x + y) := rfl
theorem x126_56 : mOps 126 56 = o_ist 58 4 := rfl
theorem x126_58 : mOps 126 58 = o_al 59 0 := rfl
theorem x126_59 : mOps 126 59 = o_gP 62 12 22 := rfl
theorem x126_62 : mOps 126 62 = o_il 64 4 := rfl
theorem x126_64 : mOps 126 64 = o_ial 65 := rfl
theorem x126_65 : mOps 126 65 = o_lt0 68 97 := rfl
theorem x126_68 : mOps 126 68 = o_al 69 0 := rfl
theorem x126_69 : mOps 126 69 = o_il 70 1 := rfl
theorem x126_70 : mOps 126 70 = o_il 71 1 := rfl
theorem x126_71 : mOps 126 71 = o_al 72 0 := rfl
theorem x126_72 : mOps 126 72 = o_gP 75 12 5 := rfl
theorem x126_75 : mOps 126 75 = o_il 76 1 := rfl
theorem x126_76 : mOps 126 76 = o_ial 77 := rfl
theorem x126_77 : mOps 126 77 = o_il 78 2 := rfl
theorem x126_78 : mOps 126 78 = o_il 79 3 := rfl
theorem x126_79 : mOps 126 79 = o_al 80 0 := rfl
theorem x126_80 : mOps 126 80 = o_gP 83 12 22 := rfl
theorem x126_83 : mOps 126 83 = o_il 85 4 := rfl
theorem x126_85 : mOps 126 85 = o_ial 86 := rfl
theorem x126_86 : mOps 126 86 = o_al 87 0 := rfl
theorem x126_87 : mOps 126 87 = o_gP 90 12 23 := rfl
theorem x126_90 : mOps 126 90 = o_il 92 4 := rfl
theorem x126_92 : mOps 126 92 = o_ial 93 := rfl
theorem x126_93 : mOps 126 93 = o_ic 94 0 := rfl
theorem x126_94 : mOps 126 94 = o_cV 97 102 8 12 := rfl
theorem x126_97 : mOps 126 97 = o_inc 100 3 1 := rfl
theorem x126_100 : mOps 126 100 = o_back 41 [4] := rfl
theorem x126_103 : mOps 126 103 = o_inc 106 2 1 := rfl
theorem x126_106 : mOps 126 106 = o_back 33 [3] := rfl
theorem x126_109 : mOps 126 109 = o_al 110 0 := rfl
theorem x126_110 : mOps 126 110 = o_il 111 1 := rfl
theorem x126_111 : mOps 126 111 = o_al 112 0 := rfl
theorem x126_112 : mOps 126 112 = o_gP 115 12 6 := rfl
theorem x126_115 : mOps 126 115 = o_il 116 1 := rfl
theorem x126_116 : mOps 126 116 = o_ial 117 := rfl
theorem x126_117 : mOps 126 117 = o_cV 120 99 2 12 := rfl
theorem x126_120 : mOps 126 120 = o_al 121 0 := rfl
theorem x126_121 : mOps 126 121 = o_il 122 1 := rfl
theorem x126_122 : mOps 126 122 = o_cV 125 111 1 12 := rfl
theorem x126_125 : mOps 126 125 = o_rv := rfl
theorem x127_0 : mOps 127 0 = o_ic 1 0 := rfl
theorem x127_1 : mOps 127 1 = o_ist 2 3 := rfl
theorem x127_2 : mOps 127 2 = o_il 3 3 := rfl
theorem x127_3 : mOps 127 3 = o_il 4 2 := rfl
theorem x127_4 : mOps 127 4 = o_ge 7 143 := rfl
theorem x127_7 : mOps 127 7 = o_al 8 0 := rfl
theorem x127_8 : mOps 127 8 = o_gP 11 12 28 := rfl
theorem x127_11 : mOps 127 11 = o_il 12 3 := rfl
theorem x127_12 : mOps 127 12 = o_ial 13 := rfl
theorem x127_13 : mOps 127 13 = o_al 14 0 := rfl
theorem x127_14 : mOps 127 14 = o_gI 17 12 3 := rfl
theorem x127_17 : mOps 127 17 = o_ne 20 137 := rfl
theorem x127_20 : mOps 127 20 = o_al 21 0 := rfl
theorem x127_21 : mOps 127 21 = o_gP 24 12 36 := rfl
theorem x127_24 : mOps 127 24 = o_il 25 3 := rfl
theorem x127_25 : mOps 127 25 = o_bal 26 := rfl
theorem x127_26 : mOps 127 26 = o_il 27 1 := rfl
theorem x127_27 : mOps 127 27 = o_ne 30 137 := rfl
theorem x127_30 : mOps 127 30 = o_al 31 0 := rfl
theorem x127_31 : mOps 127 31 = o_gP 34 12 28 := rfl
theorem x127_34 : mOps 127 34 = o_il 35 3 := rfl
theorem x127_35 : mOps 127 35 = o_ic 36 (-1) := rfl
theorem x127_36 : mOps 127 36 = o_ias 37 := rfl
theorem x127_37 : mOps 127 37 = o_al 38 0 := rfl
theorem x127_38 : mOps 127 38 = o_dup 39 := rfl
theorem x127_39 : mOps 127 39 = o_gI 42 12 38 := rfl
theorem x127_42 : mOps 127 42 = o_ic 43 1 := rfl
theorem x127_43 : mOps 127 43 = o_ii 44 (fun x y => x - y) := rfl
theorem x127_44 : mOps 127 44 = o_pI 47 12 38 := rfl
theorem x127_47 : mOps 127 47 = o_al 48 0 := rfl
theorem x127_48 : mOps 127 48 = o_gP 51 12 30 := rfl
theorem x127_51 : mOps 127 51 = o_il 52 3 := rfl
theorem x127_52 : mOps 127 52 = o_ial 53 := rfl
theorem x127_53 : mOps 127 53 = o_ist 55 4 := rfl
theorem x127_55 : mOps 127 55 = o_al 56 0 := rfl
theorem x127_56 : mOps 127 56 = o_gP 59 12 13 := rfl
theorem x127_59 : mOps 127 59 = o_il 61 4 := rfl
theorem x127_61 : mOps 127 61 = o_bal 62 := rfl
theorem x127_62 : mOps 127 62 = o_eq0 65 78 := rfl
theorem x127_65 : mOps 127 65 = o_al 66 0 := rfl
theorem x127_66 : mOps 127 66 = o_dup 67 := rfl
theorem x127_67 : mOps 127 67 = o_gI 70 12 41 := rfl
theorem x127_70 : mOps 127 70 = o_ic 71 1 := rfl
theorem x127_71 : mOps 127 71 = o_ii 72 (fun x y => x + y) := rfl
theorem x127_72 : mOps 127 72 = o_pI 75 12 41 := rfl
theorem x127_75 : mOps 127 75 = o_goto 137 := rfl
theorem x127_78 : mOps 127 78 = o_al 79 0 := rfl
theorem x127_79 : mOps 127 79 = o_dup 80 := rfl
theorem x127_80 : mOps 127 80 = o_gI 83 12 40 := rfl
theorem x127_83 : mOps 127 83 = o_ic 84 1 := rfl
theorem x127_84 : mOps 127 84 = o_ii 85 (fun x y => x + y) := rfl
theorem x127_85 : mOps 127 85 = o_pI 88 12 40 := rfl
theorem x127_88 : mOps 127 88 = o_al 89 0 := rfl
theorem x127_89 : mOps 127 89 = o_il 91 4 := rfl
theorem x127_91 : mOps 127 91 = o_al 92 0 := rfl
theorem x127_92 : mOps 127 92 = o_gP 95 12 29 := rfl
theorem x127_95 : mOps 127 95 = o_il 96 3 := rfl
theorem x127_96 : mOps 127 96 = o_ial 97 := rfl
theorem x127_97 : mOps 127 97 = o_al 98 0 := rfl
theorem x127_98 : mOps 127 98 = o_gP 101 12 31 := rfl
theorem x127_101 : mOps 127 101 = o_il 102 3 := rfl
theorem x127_102 : mOps 127 102 = o_ial 103 := rfl
theorem x127_103 : mOps 127 103 = o_al 104 0 := rfl
theorem x127_104 : mOps 127 104 = o_gP 107 12 32 := rfl
theorem x127_107 : mOps 127 107 = o_il 108 3 := rfl
theorem x127_108 : mOps 127 108 = o_ial 109 := rfl
theorem x127_109 : mOps 127 109 = o_al 110 0 := rfl
theorem x127_110 : mOps 127 110 = o_gP 113 12 33 := rfl
theorem x127_113 : mOps 127 113 = o_il 114 3 := rfl
theorem x127_114 : mOps 127 114 = o_ial 115 := rfl
theorem x127_115 : mOps 127 115 = o_al 116 0 := rfl
theorem x127_116 : mOps 127 116 = o_gP 119 12 34 := rfl
theorem x127_119 : mOps 127 119 = o_il 120 3 := rfl
theorem x127_120 : mOps 127 120 = o_ial 121 := rfl
theorem x127_121 : mOps 127 121 = o_al 122 0 := rfl
theorem x127_122 : mOps 127 122 = o_gP 125 12 35 := rfl
theorem x127_125 : mOps 127 125 = o_il 126 3 := rfl
theorem x127_126 : mOps 127 126 = o_ial 127 := rfl
theorem x127_127 : mOps 127 127 = o_ic 128 1 := rfl
theorem x127_128 : mOps 127 128 = o_cV 131 102 8 12 := rfl
theorem x127_131 : mOps 127 131 = o_al 132 0 := rfl
theorem x127_132 : mOps 127 132 = o_il 134 4 := rfl
theorem x127_134 : mOps 127 134 = o_cV 137 111 1 12 := rfl
theorem x127_137 : mOps 127 137 = o_inc 140 3 1 := rfl
theorem x127_140 : mOps 127 140 = o_back 2 [4] := rfl
theorem x127_143 : mOps 127 143 = o_rv := rfl
theorem x128_0 : mOps 128 0 = o_al 1 0 := rfl
theorem x128_1 : mOps 128 1 = o_gP 4 12 13 := rfl
theorem x128_4 : mOps 128 4 = o_il 5 1 := rfl
theorem x128_5 : mOps 128 5 = o_bal 6 := rfl
theorem x128_6 : mOps 128 6 = o_ne0 9 26 := rfl
theorem x128_9 : mOps 128 9 = o_al 10 0 := rfl
theorem x128_10 : mOps 128 10 = o_gP 13 12 15 := rfl
theorem x128_13 : mOps 128 13 = o_ic 14 3 := rfl
theorem x128_14 : mOps 128 14 = o_il 15 1 := rfl
theorem x128_15 : mOps 128 15 = o_ii 16 (fun x y => x * y) := rfl
theorem x128_16 : mOps 128 16 = o_il 17 2 := rfl
theorem x128_17 : mOps 128 17 = o_ii 18 (fun x y => x + y) := rfl
theorem x128_18 : mOps 128 18 = o_ial 19 := rfl
theorem x128_19 : mOps 128 19 = o_al 20 0 := rfl
theorem x128_20 : mOps 128 20 = o_gI 23 12 3 := rfl
theorem x128_23 : mOps 128 23 = o_eq 26 27 := rfl
theorem x128_26 : mOps 128 26 = o_rv := rfl
theorem x128_27 : mOps 128 27 = o_al 28 0 := rfl
theorem x128_28 : mOps 128 28 = o_gP 31 12 15 := rfl
theorem x128_31 : mOps 128 31 = o_ic 32 3 := rfl
theorem x128_32 : mOps 128 32 = o_il 33 1 := rfl
theorem x128_33 : mOps 128 33 = o_ii 34 (fun x y => x * y) := rfl
theorem x128_34 : mOps 128 34 = o_il 35 2 := rfl
theorem x128_35 : mOps 128 35 = o_ii 36 (fun x y => x + y) := rfl
theorem x128_36 : mOps 128 36 = o_ic 37 0 := rfl
theorem x128_37 : mOps 128 37 = o_ias 38 := rfl
theorem x128_38 : mOps 128 38 = o_il 39 2 := rfl
theorem x128_39 : mOps 128 39 = o_ne0 42 70 := rfl
theorem x128_42 : mOps 128 42 = o_al 43 0 := rfl
theorem x128_43 : mOps 128 43 = o_gP 46 12 7 := rfl
theorem x128_46 : mOps 128 46 = o_il 47 1 := rfl
theorem x128_47 : mOps 128 47 = o_ial 48 := rfl
theorem x128_48 : mOps 128 48 = o_ne0 51 70 := rfl
theorem x128_51 : mOps 128 51 = o_al 52 0 := rfl
theorem x128_52 : mOps 128 52 = o_il 53 1 := rfl
theorem x128_53 : mOps 128 53 = o_ic 54 1 := rfl
theorem x128_54 : mOps 128 54 = o_ic 55 0 := rfl
theorem x128_55 : mOps 128 55 = o_ic 57 (-9) := rfl
theorem x128_57 : mOps 128 57 = o_cV 60 101 4 12 := rfl
theorem x128_60 : mOps 128 60 = o_al 61 0 := rfl
theorem x128_61 : mOps 128 61 = o_gP 64 12 7 := rfl
theorem x128_64 : mOps 128 64 = o_il 65 1 := rfl
theorem x128_65 : mOps 128 65 = o_ic 66 1 := rfl
theorem x128_66 : mOps 128 66 = o_ias 67 := rfl
theorem x128_67 : mOps 128 67 = o_goto 122 := rfl
theorem x128_70 : mOps 128 70 = o_il 71 2 := rfl
theorem x128_71 : mOps 128 71 = o_ic 72 1 := rfl
theorem x128_72 : mOps 128 72 = o_ne 75 104 := rfl
theorem x128_75 : mOps 128 75 = o_al 76 0 := rfl
theorem x128_76 : mOps 128 76 = o_gP 79 12 7 := rfl
theorem x128_79 : mOps 128 79 = o_il 80 1 := rfl
theorem x128_80 : mOps 128 80 = o_ial 81 := rfl
theorem x128_81 : mOps 128 81 = o_ic 82 1 := rfl
theorem x128_82 : mOps 128 82 = o_ne 85 104 := rfl
theorem x128_85 : mOps 128 85 = o_al 86 0 := rfl
theorem x128_86 : mOps 128 86 = o_il 87 1 := rfl
theorem x128_87 : mOps 128 87 = o_ic 88 2 := rfl
theorem x128_88 : mOps 128 88 = o_ic 89 0 := rfl
theorem x128_89 : mOps 128 89 = o_ic 91 (-9) := rfl
theorem x128_91 : mOps 128 91 = o_cV 94 101 4 12 := rfl
theorem x128_94 : mOps 128 94 = o_al 95 0 := rfl
theorem x128_95 : mOps 128 95 = o_gP 98 12 7 := rfl
theorem x128_98 : mOps 128 98 = o_il 99 1 := rfl
theorem x128_99 : mOps 128 99 = o_ic 100 2 := rfl
theorem x128_100 : mOps 128 100 = o_ias 101 := rfl
theorem x128_101 : mOps 128 101 = o_goto 122 := rfl
theorem x128_104 : mOps 128 104 = o_il 105 2 := rfl
theorem x128_105 : mOps 128 105 = o_ic 106 2 := rfl
theorem x128_106 : mOps 128 106 = o_ne 109 122 := rfl
theorem x128_109 : mOps 128 109 = o_al 110 0 := rfl
theorem x128_110 : mOps 128 110 = o_il 111 1 := rfl
theorem x128_111 : mOps 128 111 = o_al 112 0 := rfl
theorem x128_112 : mOps 128 112 = o_gP 115 12 6 := rfl
theorem x128_115 : mOps 128 115 = o_il 116 1 := rfl
theorem x128_116 : mOps 128 116 = o_ial 117 := rfl
theorem x128_117 : mOps 128 117 = o_ic 118 1 := rfl
theorem x128_118 : mOps 128 118 = o_ii 119 (fun x y => x + y) := rfl
theorem x128_119 : mOps 128 119 = o_cV 122 99 2 12 := rfl
theorem x128_122 : mOps 128 122 = o_al 123 0 := rfl
theorem x128_123 : mOps 128 123 = o_il 124 1 := rfl
theorem x128_124 : mOps 128 124 = o_cV 127 111 1 12 := rfl
theorem x128_127 : mOps 128 127 = o_rv := rfl
theorem x129_0 : mOps 129 0 = o_ic 1 0 := rfl
theorem x129_1 : mOps 129 1 = o_ist 2 1 := rfl
theorem x129_2 : mOps 129 2 = o_ic 3 0 := rfl
theorem x129_3 : mOps 129 3 = o_ist 4 2 := rfl
theorem x129_4 : mOps 129 4 = o_il 5 2 := rfl
theorem x129_5 : mOps 129 5 = o_al 6 0 := rfl
theorem x129_6 : mOps 129 6 = o_gI 9 12 37 := rfl
theorem x129_9 : mOps 129 9 = o_ge 12 138 := rfl
theorem x129_12 : mOps 129 12 = o_al 13 0 := rfl
theorem x129_13 : mOps 129 13 = o_gP 16 12 28 := rfl
theorem x129_16 : mOps 129 16 = o_il 17 2 := rfl
theorem x129_17 : mOps 129 17 = o_ial 18 := rfl
theorem x129_18 : mOps 129 18 = o_lt0 21 132 := rfl
theorem x129_21 : mOps 129 21 = o_al 22 0 := rfl
theorem x129_22 : mOps 129 22 = o_gP 25 12 28 := rfl
theorem x129_25 : mOps 129 25 = o_il 26 1 := rfl
theorem x129_26 : mOps 129 26 = o_al 27 0 := rfl
theorem x129_27 : mOps 129 27 = o_gP 30 12 28 := rfl
theorem x129_30 : mOps 129 30 = o_il 31 2 := rfl
theorem x129_31 : mOps 129 31 = o_ial 32 := rfl
theorem x129_32 : mOps 129 32 = o_ias 33 := rfl
theorem x129_33 : mOps 129 33 = o_al 34 0 := rfl
theorem x129_34 : mOps 129 34 = o_gP 37 12 29 := rfl
theorem x129_37 : mOps 129 37 = o_il 38 1 := rfl
theorem x129_38 : mOps 129 38 = o_al 39 0 := rfl
theorem x129_39 : mOps 129 39 = o_gP 42 12 29 := rfl
theorem x129_42 : mOps 129 42 = o_il 43 2 := rfl
theorem x129_43 : mOps 129 43 = o_ial 44 := rfl
theorem x129_44 : mOps 129 44 = o_ias 45 := rfl
theorem x129_45 : mOps 129 45 = o_al 46 0 := rfl
theorem x129_46 : mOps 129 46 = o_gP 49 12 30 := rfl
theorem x129_49 : mOps 129 49 = o_il 50 1 := rfl
theorem x129_50 : mOps 129 50 = o_al 51 0 := rfl
theorem x129_51 : mOps 129 51 = o_gP 54 12 30 := rfl
theorem x129_54 : mOps 129 54 = o_il 55 2 := rfl
theorem x129_55 : mOps 129 55 = o_ial 56 := rfl
theorem x129_56 : mOps 129 56 = o_ias 57 := rfl
theorem x129_57 : mOps 129 57 = o_al 58 0 := rfl
theorem x129_58 : mOps 129 58 = o_gP 61 12 31 := rfl
theorem x129_61 : mOps 129 61 = o_il 62 1 := rfl
theorem x129_62 : mOps 129 62 = o_al 63 0 := rfl
theorem x129_63 : mOps 129 63 = o_gP 66 12 31 := rfl
theorem x129_66 : mOps 129 66 = o_il 67 2 := rfl
theorem x129_67 : mOps 129 67 = o_ial 68 := rfl
theorem x129_68 : mOps 129 68 = o_ias 69 := rfl
theorem x129_69 : mOps 129 69 = o_al 70 0 := rfl
theorem x129_70 : mOps 129 70 = o_gP 73 12 32 := rfl
theorem x129_73 : mOps 129 73 = o_il 74 1 := rfl
theorem x129_74 : mOps 129 74 = o_al 75 0 := rfl
theorem x129_75 : mOps 129 75 = o_gP 78 12 32 := rfl
theorem x129_78 : mOps 129 78 = o_il 79 2 := rfl
theorem x129_79 : mOps 129 79 = o_ial 80 := rfl
theorem x129_80 : mOps 129 80 = o_ias 81 := rfl
theorem x129_81 : mOps 129 81 = o_al 82 0 := rfl
theorem x129_82 : mOps 129 82 = o_gP 85 12 33 := rfl
theorem x129_85 : mOps 129 85 = o_il 86 1 := rfl
theorem x129_86 : mOps 129 86 = o_al 87 0 := rfl
theorem x129_87 : mOps 129 87 = o_gP 90 12 33 := rfl
theorem x129_90 : mOps 129 90 = o_il 91 2 := rfl
theorem x129_91 : mOps 129 91 = o_ial 92 := rfl
theorem x129_92 : mOps 129 92 = o_ias 93 := rfl
theorem x129_93 : mOps 129 93 = o_al 94 0 := rfl
theorem x129_94 : mOps 129 94 = o_gP 97 12 34 := rfl
theorem x129_97 : mOps 129 97 = o_il 98 1 := rfl
theorem x129_98 : mOps 129 98 = o_al 99 0 := rfl
theorem x129_99 : mOps 129 99 = o_gP 102 12 34 := rfl
theorem x129_102 : mOps 129 102 = o_il 103 2 := rfl
theorem x129_103 : mOps 129 103 = o_ial 104 := rfl
theorem x129_104 : mOps 129 104 = o_ias 105 := rfl
theorem x129_105 : mOps 129 105 = o_al 106 0 := rfl
theorem x129_106 : mOps 129 106 = o_gP 109 12 35 := rfl
theorem x129_109 : mOps 129 109 = o_il 110 1 := rfl
theorem x129_110 : mOps 129 110 = o_al 111 0 := rfl
theorem x129_111 : mOps 129 111 = o_gP 114 12 35 := rfl
theorem x129_114 : mOps 129 114 = o_il 115 2 := rfl
theorem x129_115 : mOps 129 115 = o_ial 116 := rfl
theorem x129_116 : mOps 129 116 = o_ias 117 := rfl
theorem x129_117 : mOps 129 117 = o_al 118 0 := rfl
theorem x129_118 : mOps 129 118 = o_gP 121 12 36 := rfl
theorem x129_121 : mOps 129 121 = o_il 122 1 := rfl
theorem x129_122 : mOps 129 122 = o_al 123 0 := rfl
theorem x129_123 : mOps 129 123 = o_gP 126 12 36 := rfl
theorem x129_126 : mOps 129 126 = o_il 127 2 := rfl
theorem x129_127 : mOps 129 127 = o_bal 128 := rfl
theorem x129_128 : mOps 129 128 = o_bas 129 := rfl
theorem x129_129 : mOps 129 129 = o_inc 132 1 1 := rfl
theorem x129_132 : mOps 129 132 = o_inc 135 2 1 := rfl
theorem x129_135 : mOps 129 135 = o_back 4 [] := rfl
theorem x129_138 : mOps 129 138 = o_al 139 0 := rfl
theorem x129_139 : mOps 129 139 = o_il 140 1 := rfl
theorem x129_140 : mOps 129 140 = o_pI 143 12 37 := rfl
theorem x129_143 : mOps 129 143 = o_rv := rfl
theorem x130_0 : mOps 130 0 = o_al 1 0 := rfl
theorem x130_1 : mOps 130 1 = o_ic 2 0 := rfl
theorem x130_2 : mOps 130 2 = o_pI 5 12 0 := rfl
theorem x130_5 : mOps 130 5 = o_al 6 0 := rfl
theorem x130_6 : mOps 130 6 = o_il 7 1 := rfl
theorem x130_7 : mOps 130 7 = o_cV 10 131 1 12 := rfl
theorem x130_10 : mOps 130 10 = o_ne0 13 25 := rfl
theorem x130_13 : mOps 130 13 = o_il 14 2 := rfl
theorem x130_14 : mOps 130 14 = o_i2l 15 := rfl
theorem x130_15 : mOps 130 15 = o_lc 16 1 := rfl
theorem x130_16 : mOps 130 16 = o_lc 19 1000000 := rfl
theorem x130_19 : mOps 130 19 = o_cS 22 97 3 := rfl
theorem x130_22 : mOps 130 22 = o_ne0 25 27 := rfl
theorem x130_25 : mOps 130 25 = o_ic 26 (-1) := rfl
theorem x130_26 : mOps 130 26 = o_ri := rfl
theorem x130_27 : mOps 130 27 = o_ic 28 0 := rfl
theorem x130_28 : mOps 130 28 = o_ist 29 3 := rfl
theorem x130_29 : mOps 130 29 = o_ic 30 0 := rfl
theorem x130_30 : mOps 130 30 = o_ist 32 4 := rfl
theorem x130_32 : mOps 130 32 = o_il 34 4 := rfl
theorem x130_34 : mOps 130 34 = o_al 35 0 := rfl
theorem x130_35 : mOps 130 35 = o_gI 38 12 1 := rfl
theorem x130_38 : mOps 130 38 = o_ge 41 77 := rfl
theorem x130_41 : mOps 130 41 = o_al 42 0 := rfl
theorem x130_42 : mOps 130 42 = o_gI 45 12 3 := rfl
theorem x130_45 : mOps 130 45 = o_le0 48 77 := rfl
theorem x130_48 : mOps 130 48 = o_al 49 0 := rfl
theorem x130_49 : mOps 130 49 = o_gP 52 12 5 := rfl
theorem x130_52 : mOps 130 52 = o_il 54 4 := rfl
theorem x130_54 : mOps 130 54 = o_ial 55 := rfl
theorem x130_55 : mOps 130 55 = o_il 56 3 := rfl
theorem x130_56 : mOps 130 56 = o_le 59 69 := rfl
theorem x130_59 : mOps 130 59 = o_al 60 0 := rfl
theorem x130_60 : mOps 130 60 = o_gP 63 12 5 := rfl
theorem x130_63 : mOps 130 63 = o_il 65 4 := rfl
theorem x130_65 : mOps 130 65 = o_ial 66 := rfl
theorem x130_66 : mOps 130 66 = o_goto 70 := rfl
theorem x130_69 : mOps 130 69 = o_il 70 3 := rfl
theorem x130_70 : mOps 130 70 = o_ist 71 3 := rfl
theorem x130_71 : mOps 130 71 = o_inc 74 4 1 := rfl
theorem x130_74 : mOps 130 74 = o_back 32 [] := rfl
theorem x130_77 : mOps 130 77 = o_inc 80 3 1 := rfl
theorem x130_80 : mOps 130 80 = o_il 81 3 := rfl
theorem x130_81 : mOps 130 81 = o_ist 83 4 := rfl
theorem x130_83 : mOps 130 83 = o_il 85 4 := rfl
theorem x130_85 : mOps 130 85 = o_ic 87 40 := rfl
theorem x130_87 : mOps 130 87 = o_gt 90 109 := rfl
theorem x130_90 : mOps 130 90 = o_al 91 0 := rfl
theorem x130_91 : mOps 130 91 = o_gP 94 12 4 := rfl
theorem x130_94 : mOps 130 94 = o_ic 96 10 := rfl
theorem x130_96 : mOps 130 96 = o_il 98 4 := rfl
theorem x130_98 : mOps 130 98 = o_ii 99 (fun x y => x * y) := rfl
theorem x130_99 : mOps 130 99 = o_il 100 1 := rfl
theorem x130_100 : mOps 130 100 = o_ii 101 (fun x y => x + y) := rfl
theorem x130_101 : mOps 130 101 = o_il 102 2 := rfl
theorem x130_102 : mOps 130 102 = o_ias 103 := rfl
theorem x130_103 : mOps 130 103 = o_inc 106 4 1 := rfl
theorem x130_106 : mOps 130 106 = o_back 83 [] := rfl
theorem x130_109 : mOps 130 109 = o_il 110 3 := rfl
theorem x130_110 : mOps 130 110 = o_ri := rfl
theorem x131_0 : mOps 131 0 = o_il 1 1 := rfl
theorem x131_1 : mOps 131 1 = o_i2l 2 := rfl
theorem x131_2 : mOps 131 2 = o_lc 3 0 := rfl
theorem x131_3 : mOps 131 3 = o_al 4 0 := rfl
theorem x131_4 : mOps 131 4 = o_gI 7 12 1 := rfl
theorem x131_7 : mOps 131 7 = o_ic 8 1 := rfl
theorem x131_8 : mOps 131 8 = o_ii 9 (fun x y => x - y) := rfl
theorem x131_9 : mOps 131 9 = o_i2l 10 := rfl
theorem x131_10 : mOps 131 10 = o_cS 13 97 3 := rfl
theorem x131_13 : mOps 131 13 = o_ne0 16 20 := rfl
theorem x131_16 : mOps 131 16 = o_ic 17 1 := rfl
theorem x131_17 : mOps 131 17 = o_goto 21 := rfl
theorem x131_20 : mOps 131 20 = o_ic 21 0 := rfl
theorem x131_21 : mOps 131 21 = o_rz := rfl
theorem x132_0 : mOps 132 0 = o_al 1 0 := rfl
theorem x132_1 : mOps 132 1 = o_ic 2 0 := rfl
theorem x132_2 : mOps 132 2 = o_pI 5 12 0 := rfl
theorem x132_5 : mOps 132 5 = o_al 6 0 := rfl
theorem x132_6 : mOps 132 6 = o_il 7 1 := rfl
theorem x132_7 : mOps 132 7 = o_cV 10 131 1 12 := rfl
theorem x132_10 : mOps 132 10 = o_ne0 13 25 := rfl
theorem x132_13 : mOps 132 13 = o_il 14 2 := rfl
theorem x132_14 : mOps 132 14 = o_i2l 15 := rfl
theorem x132_15 : mOps 132 15 = o_lc 16 0 := rfl
theorem x132_16 : mOps 132 16 = o_lc 19 5 := rfl
theorem x132_19 : mOps 132 19 = o_cS 22 97 3 := rfl
theorem x132_22 : mOps 132 22 = o_ne0 25 27 := rfl
theorem x132_25 : mOps 132 25 = o_ic 26 (-1) := rfl
theorem x132_26 : mOps 132 26 = o_ri := rfl
theorem x132_27 : mOps 132 27 = o_al 28 0 := rfl
theorem x132_28 : mOps 132 28 = o_gP 31 12 14 := rfl
theorem x132_31 : mOps 132 31 = o_il 32 1 := rfl
theorem x132_32 : mOps 132 32 = o_ial 33 := rfl
theorem x132_33 : mOps 132 33 = o_ist 34 3 := rfl
theorem x132_34 : mOps 132 34 = o_al 35 0 := rfl
theorem x132_35 : mOps 132 35 = o_gP 38 12 14 := rfl
theorem x132_38 : mOps 132 38 = o_il 39 1 := rfl
theorem x132_39 : mOps 132 39 = o_il 40 2 := rfl
theorem x132_40 : mOps 132 40 = o_ias 41 := rfl
theorem x132_41 : mOps 132 41 = o_il 42 3 := rfl
theorem x132_42 : mOps 132 42 = o_ri := rfl
theorem x133_0 : mOps 133 0 = o_al 1 0 := rfl
theorem x133_1 : mOps 133 1 = o_ic 2 0 := rfl
theorem x133_2 : mOps 133 2 = o_pI 5 12 0 := rfl
theorem x133_5 : mOps 133 5 = o_il 6 1 := rfl
theorem x133_6 : mOps 133 6 = o_al 7 0 := rfl
theorem x133_7 : mOps 133 7 = o_gI 10 12 39 := rfl
theorem x133_10 : mOps 133 10 = o_lt 13 42 := rfl
theorem x133_13 : mOps 133 13 = o_il 14 2 := rfl
theorem x133_14 : mOps 133 14 = o_i2l 15 := rfl
theorem x133_15 : mOps 133 15 = o_lc 16 0 := rfl
theorem x133_16 : mOps 133 16 = o_lc 19 2 := rfl
theorem x133_19 : mOps 133 19 = o_cS 22 97 3 := rfl
theorem x133_22 : mOps 133 22 = o_eq0 25 42 := rfl
theorem x133_25 : mOps 133 25 = o_il 26 2 := rfl
theorem x133_26 : mOps 133 26 = o_ic 27 2 := rfl
theorem x133_27 : mOps 133 27 = o_ne 30 44 := rfl
theorem x133_30 : mOps 133 30 = o_il 31 3 := rfl
theorem x133_31 : mOps 133 31 = o_i2l 32 := rfl
theorem x133_32 : mOps 133 32 = o_lc 33 1 := rfl
theorem x133_33 : mOps 133 33 = o_lc 36 20 := rfl
theorem x133_36 : mOps 133 36 = o_cS 39 97 3 := rfl
theorem x133_39 : mOps 133 39 = o_ne0 42 44 := rfl
theorem x133_42 : mOps 133 42 = o_ic 43 (-1) := rfl
theorem x133_43 : mOps 133 43 = o_ri := rfl
theorem x133_44 : mOps 133 44 = o_ic 45 0 := rfl
theorem x133_45 : mOps 133 45 = o_ist 47 4 := rfl
theorem x133_47 : mOps 133 47 = o_il 49 4 := rfl
theorem x133_49 : mOps 133 49 = o_al 50 0 := rfl
theorem x133_50 : mOps 133 50 = o_gI 53 12 45 := rfl
theorem x133_53 : mOps 133 53 = o_ge 56 75 := rfl
theorem x133_56 : mOps 133 56 = o_al 57 0 := rfl
theorem x133_57 : mOps 133 57 = o_gP 60 12 42 := rfl
theorem x133_60 : mOps 133 60 = o_il 62 4 := rfl
theorem x133_62 : mOps 133 62 = o_ial 63 := rfl
theorem x133_63 : mOps 133 63 = o_il 64 1 := rfl
theorem x133_64 : mOps 133 64 = o_ne 67 69 := rfl
theorem x133_67 : mOps 133 67 = o_ic 68 (-1) := rfl
theorem x133_68 : mOps 133 68 = o_ri := rfl
theorem x133_69 : mOps 133 69 = o_inc 72 4 1 := rfl
theorem x133_72 : mOps 133 72 = o_back 47 [] := rfl
theorem x133_75 : mOps 133 75 = o_al 76 0 := rfl
theorem x133_76 : mOps 133 76 = o_gI 79 12 45 := rfl
theorem x133_79 : mOps 133 79 = o_ic 81 60 := rfl
theorem x133_81 : mOps 133 81 = o_ne 84 87 := rfl
theorem x133_84 : mOps 133 84 = o_ic 86 (-3) := rfl
theorem x133_86 : mOps 133 86 = o_ri := rfl
theorem x133_87 : mOps 133 87 = o_al 88 0 := rfl
theorem x133_88 : mOps 133 88 = o_gP 91 12 42 := rfl
theorem x133_91 : mOps 133 91 = o_al 92 0 := rfl
theorem x133_92 : mOps 133 92 = o_gI 95 12 45 := rfl
theorem x133_95 : mOps 133 95 = o_il 96 1 := rfl
theorem x133_96 : mOps 133 96 = o_ias 97 := rfl
theorem x133_97 : mOps 133 97 = o_al 98 0 := rfl
theorem x133_98 : mOps 133 98 = o_gP 101 12 43 := rfl
theorem x133_101 : mOps 133 101 = o_al 102 0 := rfl
theorem x133_102 : mOps 133 102 = o_gI 105 12 45 := rfl
theorem x133_105 : mOps 133 105 = o_il 106 2 := rfl
theorem x133_106 : mOps 133 106 = o_ias 107 := rfl
theorem x133_107 : mOps 133 107 = o_al 108 0 := rfl
theorem x133_108 : mOps 133 108 = o_gP 111 12 44 := rfl
theorem x133_111 : mOps 133 111 = o_al 112 0 := rfl
theorem x133_112 : mOps 133 112 = o_gI 115 12 45 := rfl
theorem x133_115 : mOps 133 115 = o_il 116 3 := rfl
theorem x133_116 : mOps 133 116 = o_ias 117 := rfl
theorem x133_117 : mOps 133 117 = o_al 118 0 := rfl
theorem x133_118 : mOps 133 118 = o_dup 119 := rfl
theorem x133_119 : mOps 133 119 = o_gI 122 12 45 := rfl
theorem x133_122 : mOps 133 122 = o_ic 123 1 := rfl
theorem x133_123 : mOps 133 123 = o_ii 124 (fun x y => x + y) := rfl
theorem x133_124 : mOps 133 124 = o_pI 127 12 45 := rfl
theorem x133_127 : mOps 133 127 = o_al 128 0 := rfl
theorem x133_128 : mOps 133 128 = o_gI 131 12 45 := rfl
theorem x133_131 : mOps 133 131 = o_ri := rfl
theorem x134_0 : mOps 134 0 = o_al 1 0 := rfl
theorem x134_1 : mOps 134 1 = o_ic 2 0 := rfl
theorem x134_2 : mOps 134 2 = o_pI 5 12 0 := rfl
theorem x134_5 : mOps 134 5 = o_il 6 2 := rfl
theorem x134_6 : mOps 134 6 = o_i2l 7 := rfl
theorem x134_7 : mOps 134 7 = o_lc 8 1 := rfl
theorem x134_8 : mOps 134 8 = o_lc 11 100 := rfl
theorem x134_11 : mOps 134 11 = o_cS 14 97 3 := rfl
theorem x134_14 : mOps 134 14 = o_ne0 17 19 := rfl
theorem x134_17 : mOps 134 17 = o_ic 18 (-1) := rfl
theorem x134_18 : mOps 134 18 = o_ri := rfl
theorem x134_19 : mOps 134 19 = o_al 20 0 := rfl
theorem x134_20 : mOps 134 20 = o_il 21 1 := rfl
theorem x134_21 : mOps 134 21 = o_pI 24 12 46 := rfl
theorem x134_24 : mOps 134 24 = o_al 25 0 := rfl
theorem x134_25 : mOps 134 25 = o_al 26 0 := rfl
theorem x134_26 : mOps 134 26 = o_gI 29 12 3 := rfl
theorem x134_29 : mOps 134 29 = o_ic 30 1 := rfl
theorem x134_30 : mOps 134 30 = o_ii 31 (fun x y => x + y) := rfl
theorem x134_31 : mOps 134 31 = o_pI 34 12 47 := rfl
theorem x134_34 : mOps 134 34 = o_al 35 0 := rfl
theorem x134_35 : mOps 134 35 = o_al 36 0 := rfl
theorem x134_36 : mOps 134 36 = o_gI 39 12 3 := rfl
theorem x134_39 : mOps 134 39 = o_il 40 2 := rfl
theorem x134_40 : mOps 134 40 = o_ii 41 (fun x y => x + y) := rfl
theorem x134_41 : mOps 134 41 = o_pI 44 12 48 := rfl
theorem x134_44 : mOps 134 44 = o_ic 45 1 := rfl
theorem x134_45 : mOps 134 45 = o_ri := rfl
theorem x135_0 : mOps 135 0 = o_al 1 0 := rfl
theorem x135_1 : mOps 135 1 = o_ic 2 0 := rfl
theorem x135_2 : mOps 135 2 = o_pI 5 12 0 := rfl
theorem x135_5 : mOps 135 5 = o_al 6 0 := rfl
theorem x135_6 : mOps 135 6 = o_il 7 1 := rfl
theorem x135_7 : mOps 135 7 = o_cV 10 131 1 12 := rfl
theorem x135_10 : mOps 135 10 = o_ne0 13 25 := rfl
theorem x135_13 : mOps 135 13 = o_il 14 2 := rfl
theorem x135_14 : mOps 135 14 = o_i2l 15 := rfl
theorem x135_15 : mOps 135 15 = o_lc 16 1 := rfl
theorem x135_16 : mOps 135 16 = o_lc 19 50 := rfl
theorem x135_19 : mOps 135 19 = o_cS 22 97 3 := rfl
theorem x135_22 : mOps 135 22 = o_ne0 25 27 := rfl
theorem x135_25 : mOps 135 25 = o_ic 26 (-1) := rfl
theorem x135_26 : mOps 135 26 = o_ri := rfl
theorem x135_27 : mOps 135 27 = o_al 28 0 := rfl
theorem x135_28 : mOps 135 28 = o_gP 31 12 13 := rfl
theorem x135_31 : mOps 135 31 = o_il 32 1 := rfl
theorem x135_32 : mOps 135 32 = o_bal 33 := rfl
theorem x135_33 : mOps 135 33 = o_ne0 36 43 := rfl
theorem x135_36 : mOps 135 36 = o_al 37 0 := rfl
theorem x135_37 : mOps 135 37 = o_gI 40 12 3 := rfl
theorem x135_40 : mOps 135 40 = o_ne0 43 46 := rfl
theorem x135_43 : mOps 135 43 = o_ic 45 (-2) := rfl
theorem x135_45 : mOps 135 45 = o_ri := rfl
theorem x135_46 : mOps 135 46 = o_al 47 0 := rfl
theorem x135_47 : mOps 135 47 = o_gP 50 12 13 := rfl
theorem x135_50 : mOps 135 50 = o_il 51 1 := rfl
theorem x135_51 : mOps 135 51 = o_ic 52 1 := rfl
theorem x135_52 : mOps 135 52 = o_bas 53 := rfl
theorem x135_53 : mOps 135 53 = o_al 54 0 := rfl
theorem x135_54 : mOps 135 54 = o_gP 57 12 12 := rfl
theorem x135_57 : mOps 135 57 = o_il 58 1 := rfl
theorem x135_58 : mOps 135 58 = o_al 59 0 := rfl
theorem x135_59 : mOps 135 59 = o_gI 62 12 3 := rfl
theorem x135_62 : mOps 135 62 = o_il 63 2 := rfl
theorem x135_63 : mOps 135 63 = o_ii 64 (fun x y => x + y) := rfl
theorem x135_64 : mOps 135 64 = o_ias 65 := rfl
theorem x135_65 : mOps 135 65 = o_ic 66 1 := rfl
theorem x135_66 : mOps 135 66 = o_ri := rfl
theorem x136_0 : mOps 136 0 = o_al 1 0 := rfl
theorem x136_1 : mOps 136 1 = o_ic 2 0 := rfl
theorem x136_2 : mOps 136 2 = o_pI 5 12 0 := rfl
theorem x136_5 : mOps 136 5 = o_al 6 0 := rfl
theorem x136_6 : mOps 136 6 = o_il 7 1 := rfl
theorem x136_7 : mOps 136 7 = o_cV 10 131 1 12 := rfl
theorem x136_10 : mOps 136 10 = o_eq0 13 15 := rfl
theorem x136_13 : mOps 136 13 = o_ic 14 (-1) := rfl
theorem x136_14 : mOps 136 14 = o_ri := rfl
theorem x136_15 : mOps 136 15 = o_al 16 0 := rfl
theorem x136_16 : mOps 136 16 = o_gP 19 12 13 := rfl
theorem x136_19 : mOps 136 19 = o_il 20 1 := rfl
theorem x136_20 : mOps 136 20 = o_bal 21 := rfl
theorem x136_21 : mOps 136 21 = o_ne0 24 31 := rfl
theorem x136_24 : mOps 136 24 = o_al 25 0 := rfl
theorem x136_25 : mOps 136 25 = o_gI 28 12 3 := rfl
theorem x136_28 : mOps 136 28 = o_ne0 31 34 := rfl
theorem x136_31 : mOps 136 31 = o_ic 33 (-2) := rfl
theorem x136_33 : mOps 136 33 = o_ri := rfl
theorem x136_34 : mOps 136 34 = o_ic 35 0 := rfl
theorem x136_35 : mOps 136 35 = o_ist 36 2 := rfl
theorem x136_36 : mOps 136 36 = o_ic 37 1 := rfl
theorem x136_37 : mOps 136 37 = o_ist 38 3 := rfl
theorem x136_38 : mOps 136 38 = o_il 39 3 := rfl
theorem x136_39 : mOps 136 39 = o_eq0 42 201 := rfl
theorem x136_42 : mOps 136 42 = o_ic 43 0 := rfl
theorem x136_43 : mOps 136 43 = o_ist 44 3 := rfl
theorem x136_44 : mOps 136 44 = o_al 45 0 := rfl
theorem x136_45 : mOps 136 45 = o_gP 48 12 5 := rfl
theorem x136_48 : mOps 136 48 = o_il 49 1 := rfl
theorem x136_49 : mOps 136 49 = o_ial 50 := rfl
theorem x136_50 : mOps 136 50 = o_ist 52 4 := rfl
theorem x136_52 : mOps 136 52 = o_ic 53 0 := rfl
theorem x136_53 : mOps 136 53 = o_ist 55 5 := rfl
theorem x136_55 : mOps 136 55 = o_il 57 5 := rfl
theorem x136_57 : mOps 136 57 = o_al 58 0 := rfl
theorem x136_58 : mOps 136 58 = o_gI 61 12 1 := rfl
theorem x136_61 : mOps 136 61 = o_ge 64 198 := rfl
theorem x136_64 : mOps 136 64 = o_il 65 3 := rfl
theorem x136_65 : mOps 136 65 = o_ne0 68 198 := rfl
theorem x136_68 : mOps 136 68 = o_il 70 4 := rfl
theorem x136_70 : mOps 136 70 = o_ic 72 40 := rfl
theorem x136_72 : mOps 136 72 = o_gt 75 198 := rfl
theorem x136_75 : mOps 136 75 = o_il 77 5 := rfl
theorem x136_77 : mOps 136 77 = o_il 78 1 := rfl
theorem x136_78 : mOps 136 78 = o_eq 81 192 := rfl
theorem x136_81 : mOps 136 81 = o_al 82 0 := rfl
theorem x136_82 : mOps 136 82 = o_gP 85 12 13 := rfl
theorem x136_85 : mOps 136 85 = o_il 87 5 := rfl
theorem x136_87 : mOps 136 87 = o_bal 88 := rfl
theorem x136_88 : mOps 136 88 = o_ne0 91 192 := rfl
theorem x136_91 : mOps 136 91 = o_al 92 0 := rfl
theorem x136_92 : mOps 136 92 = o_gP 95 12 24 := rfl
theorem x136_95 : mOps 136 95 = o_ic 97 10 := rfl
theorem x136_97 : mOps 136 97 = o_il 99 4 := rfl
theorem x136_99 : mOps 136 99 = o_ii 100 (fun x y => x * y) := rfl
theorem x136_100 : mOps 136 100 = o_il 102 5 := rfl
theorem x136_102 : mOps 136 102 = o_ii 103 (fun x y => x + y) := rfl
theorem x136_103 : mOps 136 103 = o_ial 104 := rfl
theorem x136_104 : mOps 136 104 = o_le0 107 192 := rfl
theorem x136_107 : mOps 136 107 = o_ic 109 10 := rfl
theorem x136_109 : mOps 136 109 = o_il 111 4 := rfl
theorem x136_111 : mOps 136 111 = o_ii 112 (fun x y => x * y) := rfl
theorem x136_112 : mOps 136 112 = o_il 113 1 := rfl
theorem x136_113 : mOps 136 113 = o_ii 114 (fun x y => x + y) := rfl
theorem x136_114 : mOps 136 114 = o_ist 116 6 := rfl
theorem x136_116 : mOps 136 116 = o_ic 118 10 := rfl
theorem x136_118 : mOps 136 118 = o_il 120 4 := rfl
theorem x136_120 : mOps 136 120 = o_ii 121 (fun x y => x * y) := rfl
theorem x136_121 : mOps 136 121 = o_il 123 5 := rfl
theorem x136_123 : mOps 136 123 = o_ii 124 (fun x y => x + y) := rfl
theorem x136_124 : mOps 136 124 = o_ist 126 7 := rfl
theorem x136_126 : mOps 136 126 = o_al 127 0 := rfl
theorem x136_127 : mOps 136 127 = o_gP 130 12 24 := rfl
theorem x136_130 : mOps 136 130 = o_il 132 6 := rfl
theorem x136_132 : mOps 136 132 = o_al 133 0 := rfl
theorem x136_133 : mOps 136 133 = o_gP 136 12 24 := rfl
theorem x136_136 : mOps 136 136 = o_il 138 7 := rfl
theorem x136_138 : mOps 136 138 = o_ial 139 := rfl
theorem x136_139 : mOps 136 139 = o_ias 140 := rfl
theorem x136_140 : mOps 136 140 = o_al 141 0 := rfl
theorem x136_141 : mOps 136 141 = o_gP 144 12 25 := rfl
theorem x136_144 : mOps 136 144 = o_il 146 6 := rfl
theorem x136_146 : mOps 136 146 = o_al 147 0 := rfl
theorem x136_147 : mOps 136 147 = o_gP 150 12 25 := rfl
theorem x136_150 : mOps 136 150 = o_il 152 7 := rfl
theorem x136_152 : mOps 136 152 = o_ial 153 := rfl
theorem x136_153 : mOps 136 153 = o_ias 154 := rfl
theorem x136_154 : mOps 136 154 = o_al 155 0 := rfl
theorem x136_155 : mOps 136 155 = o_gP 158 12 26 := rfl
theorem x136_158 : mOps 136 158 = o_il 160 6 := rfl
theorem x136_160 : mOps 136 160 = o_al 161 0 := rfl
theorem x136_161 : mOps 136 161 = o_gP 164 12 26 := rfl
theorem x136_164 : mOps 136 164 = o_il 166 7 := rfl
theorem x136_166 : mOps 136 166 = o_ial 167 := rfl
theorem x136_167 : mOps 136 167 = o_ias 168 := rfl
theorem x136_168 : mOps 136 168 = o_al 169 0 := rfl
theorem x136_169 : mOps 136 169 = o_gP 172 12 27 := rfl
theorem x136_172 : mOps 136 172 = o_il 174 6 := rfl
theorem x136_174 : mOps 136 174 = o_al 175 0 := rfl
theorem x136_175 : mOps 136 175 = o_gP 178 12 27 := rfl
theorem x136_178 : mOps 136 178 = o_il 180 7 := rfl
theorem x136_180 : mOps 136 180 = o_lal 181 := rfl
theorem x136_181 : mOps 136 181 = o_las 182 := rfl
theorem x136_182 : mOps 136 182 = o_al 183 0 := rfl
theorem x136_183 : mOps 136 183 = o_il 184 1 := rfl
theorem x136_184 : mOps 136 184 = o_cV 187 118 1 12 := rfl
theorem x136_187 : mOps 136 187 = o_inc 190 2 1 := rfl
theorem x136_190 : mOps 136 190 = o_ic 191 1 := rfl
theorem x136_191 : mOps 136 191 = o_ist 192 3 := rfl
theorem x136_192 : mOps 136 192 = o_inc 195 5 1 := rfl
theorem x136_195 : mOps 136 195 = o_back 55 [6, 7] := rfl
theorem x136_198 : mOps 136 198 = o_back 38 [4, 5] := rfl
theorem x136_201 : mOps 136 201 = o_il 202 2 := rfl
theorem x136_202 : mOps 136 202 = o_le0 205 227 := rfl
theorem x136_205 : mOps 136 205 = o_al 206 0 := rfl
theorem x136_206 : mOps 136 206 = o_gP 209 12 5 := rfl
theorem x136_209 : mOps 136 209 = o_il 210 1 := rfl
theorem x136_210 : mOps 136 210 = o_ial 211 := rfl
theorem x136_211 : mOps 136 211 = o_ic 213 40 := rfl
theorem x136_213 : mOps 136 213 = o_gt 216 227 := rfl
theorem x136_216 : mOps 136 216 = o_al 217 0 := rfl
theorem x136_217 : mOps 136 217 = o_il 218 1 := rfl
theorem x136_218 : mOps 136 218 = o_ic 219 0 := rfl
theorem x136_219 : mOps 136 219 = o_cV 222 99 2 12 := rfl
theorem x136_222 : mOps 136 222 = o_al 223 0 := rfl
theorem x136_223 : mOps 136 223 = o_il 224 1 := rfl
theorem x136_224 : mOps 136 224 = o_cV 227 111 1 12 := rfl
theorem x136_227 : mOps 136 227 = o_il 228 2 := rfl
theorem x136_228 : mOps 136 228 = o_ri := rfl
theorem x137_0 : mOps 137 0 = o_al 1 0 := rfl
theorem x137_1 : mOps 137 1 = o_ic 2 0 := rfl
theorem x137_2 : mOps 137 2 = o_pI 5 12 0 := rfl
theorem x137_5 : mOps 137 5 = o_al 6 0 := rfl
theorem x137_6 : mOps 137 6 = o_il 7 1 := rfl
theorem x137_7 : mOps 137 7 = o_cV 10 131 1 12 := rfl
theorem x137_10 : mOps 137 10 = o_ne0 13 25 := rfl
theorem x137_13 : mOps 137 13 = o_il 14 2 := rfl
theorem x137_14 : mOps 137 14 = o_i2l 15 := rfl
theorem x137_15 : mOps 137 15 = o_lc 16 0 := rfl
theorem x137_16 : mOps 137 16 = o_lc 19 12 := rfl
theorem x137_19 : mOps 137 19 = o_cS 22 97 3 := rfl
theorem x137_22 : mOps 137 22 = o_ne0 25 27 := rfl
theorem x137_25 : mOps 137 25 = o_ic 26 (-1) := rfl
theorem x137_26 : mOps 137 26 = o_ri := rfl
theorem x137_27 : mOps 137 27 = o_il 28 2 := rfl
theorem x137_28 : mOps 137 28 = o_tsw [96, 103, 110, 117, 124, 131, 138, 145, 170, 184, 184, 184, 177] 184 := rfl
theorem x137_96 : mOps 137 96 = o_al 97 0 := rfl
theorem x137_97 : mOps 137 97 = o_gP 100 12 5 := rfl
theorem x137_100 : mOps 137 100 = o_il 101 1 := rfl
theorem x137_101 : mOps 137 101 = o_ial 102 := rfl
theorem x137_102 : mOps 137 102 = o_ri := rfl
theorem x137_103 : mOps 137 103 = o_al 104 0 := rfl
theorem x137_104 : mOps 137 104 = o_gP 107 12 6 := rfl
theorem x137_107 : mOps 137 107 = o_il 108 1 := rfl
theorem x137_108 : mOps 137 108 = o_ial 109 := rfl
theorem x137_109 : mOps 137 109 = o_ri := rfl
theorem x137_110 : mOps 137 110 = o_al 111 0 := rfl
theorem x137_111 : mOps 137 111 = o_gP 114 12 7 := rfl
theorem x137_114 : mOps 137 114 = o_il 115 1 := rfl
theorem x137_115 : mOps 137 115 = o_ial 116 := rfl
theorem x137_116 : mOps 137 116 = o_ri := rfl
theorem x137_117 : mOps 137 117 = o_al 118 0 := rfl
theorem x137_118 : mOps 137 118 = o_gP 121 12 8 := rfl
theorem x137_121 : mOps 137 121 = o_il 122 1 := rfl
theorem x137_122 : mOps 137 122 = o_ial 123 := rfl
theorem x137_123 : mOps 137 123 = o_ri := rfl
theorem x137_124 : mOps 137 124 = o_al 125 0 := rfl
theorem x137_125 : mOps 137 125 = o_gP 128 12 9 := rfl
theorem x137_128 : mOps 137 128 = o_il 129 1 := rfl
theorem x137_129 : mOps 137 129 = o_ial 130 := rfl
theorem x137_130 : mOps 137 130 = o_ri := rfl
theorem x137_131 : mOps 137 131 = o_al 132 0 := rfl
theorem x137_132 : mOps 137 132 = o_gP 135 12 10 := rfl
theorem x137_135 : mOps 137 135 = o_il 136 1 := rfl
theorem x137_136 : mOps 137 136 = o_ial 137 := rfl
theorem x137_137 : mOps 137 137 = o_ri := rfl
theorem x137_138 : mOps 137 138 = o_al 139 0 := rfl
theorem x137_139 : mOps 137 139 = o_gP 142 12 11 := rfl
theorem x137_142 : mOps 137 142 = o_il 143 1 := rfl
theorem x137_143 : mOps 137 143 = o_ial 144 := rfl
theorem x137_144 : mOps 137 144 = o_ri := rfl
theorem x137_145 : mOps 137 145 = o_al 146 0 := rfl
theorem x137_146 : mOps 137 146 = o_gP 149 12 13 := rfl
theorem x137_149 : mOps 137 149 = o_il 150 1 := rfl
theorem x137_150 : mOps 137 150 = o_bal 151 := rfl
theorem x137_151 : mOps 137 151 = o_eq0 154 168 := rfl
theorem x137_154 : mOps 137 154 = o_al 155 0 := rfl
theorem x137_155 : mOps 137 155 = o_gP 158 12 12 := rfl
theorem x137_158 : mOps 137 158 = o_il 159 1 := rfl
theorem x137_159 : mOps 137 159 = o_ial 160 := rfl
theorem x137_160 : mOps 137 160 = o_al 161 0 := rfl
theorem x137_161 : mOps 137 161 = o_gI 164 12 3 := rfl
theorem x137_164 : mOps 137 164 = o_ii 165 (fun x y => x - y) := rfl
theorem x137_165 : mOps 137 165 = o_goto 169 := rfl
theorem x137_168 : mOps 137 168 = o_ic 169 0 := rfl
theorem x137_169 : mOps 137 169 = o_ri := rfl
theorem x137_170 : mOps 137 170 = o_al 171 0 := rfl
theorem x137_171 : mOps 137 171 = o_gP 174 12 14 := rfl
theorem x137_174 : mOps 137 174 = o_il 175 1 := rfl
theorem x137_175 : mOps 137 175 = o_ial 176 := rfl
theorem x137_176 : mOps 137 176 = o_ri := rfl
theorem x137_177 : mOps 137 177 = o_al 178 0 := rfl
theorem x137_178 : mOps 137 178 = o_gP 181 12 19 := rfl
theorem x137_181 : mOps 137 181 = o_il 182 1 := rfl
theorem x137_182 : mOps 137 182 = o_ial 183 := rfl
theorem x137_183 : mOps 137 183 = o_ri := rfl
theorem x137_184 : mOps 137 184 = o_al 185 0 := rfl
theorem x137_185 : mOps 137 185 = o_gP 188 12 15 := rfl
theorem x137_188 : mOps 137 188 = o_ic 189 3 := rfl
theorem x137_189 : mOps 137 189 = o_il 190 1 := rfl
theorem x137_190 : mOps 137 190 = o_ii 191 (fun x y => x * y) := rfl
theorem x137_191 : mOps 137 191 = o_il 192 2 := rfl
theorem x137_192 : mOps 137 192 = o_ii 193 (fun x y => x + y) := rfl
theorem x137_193 : mOps 137 193 = o_ic 195 9 := rfl
theorem x137_195 : mOps 137 195 = o_ii 196 (fun x y => x - y) := rfl
theorem x137_196 : mOps 137 196 = o_ial 197 := rfl
theorem x137_197 : mOps 137 197 = o_ri := rfl
theorem x138_0 : mOps 138 0 = o_al 1 0 := rfl
theorem x138_1 : mOps 138 1 = o_ic 2 0 := rfl
theorem x138_2 : mOps 138 2 = o_pI 5 12 0 := rfl
theorem x138_5 : mOps 138 5 = o_al 6 0 := rfl
theorem x138_6 : mOps 138 6 = o_il 7 1 := rfl
theorem x138_7 : mOps 138 7 = o_cV 10 131 1 12 := rfl
theorem x138_10 : mOps 138 10 = o_ne0 13 46 := rfl
theorem x138_13 : mOps 138 13 = o_al 14 0 := rfl
theorem x138_14 : mOps 138 14 = o_il 15 3 := rfl
theorem x138_15 : mOps 138 15 = o_cV 18 131 1 12 := rfl
theorem x138_18 : mOps 138 18 = o_ne0 21 46 := rfl
theorem x138_21 : mOps 138 21 = o_il 22 2 := rfl
theorem x138_22 : mOps 138 22 = o_i2l 23 := rfl
theorem x138_23 : mOps 138 23 = o_lc 24 0 := rfl
theorem x138_24 : mOps 138 24 = o_lc 27 29 := rfl
theorem x138_27 : mOps 138 27 = o_cS 30 97 3 := rfl
theorem x138_30 : mOps 138 30 = o_eq0 33 46 := rfl
theorem x138_33 : mOps 138 33 = o_il 35 4 := rfl
theorem x138_35 : mOps 138 35 = o_i2l 36 := rfl
theorem x138_36 : mOps 138 36 = o_lc 37 0 := rfl
theorem x138_37 : mOps 138 37 = o_lc 40 3 := rfl
theorem x138_40 : mOps 138 40 = o_cS 43 97 3 := rfl
theorem x138_43 : mOps 138 43 = o_ne0 46 48 := rfl
theorem x138_46 : mOps 138 46 = o_ic 47 (-1) := rfl
theorem x138_47 : mOps 138 47 = o_ri := rfl
theorem x138_48 : mOps 138 48 = o_il 50 4 := rfl
theorem x138_50 : mOps 138 50 = o_ic 51 3 := rfl
theorem x138_51 : mOps 138 51 = o_ne 54 73 := rfl
theorem x138_54 : mOps 138 54 = o_al 55 0 := rfl
theorem x138_55 : mOps 138 55 = o_gP 58 12 21 := rfl
theorem x138_58 : mOps 138 58 = o_al 59 0 := rfl
theorem x138_59 : mOps 138 59 = o_il 60 1 := rfl
theorem x138_60 : mOps 138 60 = o_al 61 0 := rfl
theorem x138_61 : mOps 138 61 = o_gP 64 12 5 := rfl
theorem x138_64 : mOps 138 64 = o_il 65 1 := rfl
theorem x138_65 : mOps 138 65 = o_ial 66 := rfl
theorem x138_66 : mOps 138 66 = o_il 67 2 := rfl
theorem x138_67 : mOps 138 67 = o_il 68 3 := rfl
theorem x138_68 : mOps 138 68 = o_cV 71 94 4 12 := rfl
theorem x138_71 : mOps 138 71 = o_ial 72 := rfl
theorem x138_72 : mOps 138 72 = o_ri := rfl
theorem x138_73 : mOps 138 73 = o_al 74 0 := rfl
theorem x138_74 : mOps 138 74 = o_il 75 1 := rfl
theorem x138_75 : mOps 138 75 = o_il 76 2 := rfl
theorem x138_76 : mOps 138 76 = o_il 77 3 := rfl
theorem x138_77 : mOps 138 77 = o_il 79 4 := rfl
theorem x138_79 : mOps 138 79 = o_cV 82 114 4 12 := rfl
theorem x138_82 : mOps 138 82 = o_ist 84 5 := rfl
theorem x138_84 : mOps 138 84 = o_il 86 5 := rfl
theorem x138_86 : mOps 138 86 = o_ge0 89 94 := rfl
theorem x138_89 : mOps 138 89 = o_ic 91 (-2) := rfl
theorem x138_91 : mOps 138 91 = o_goto 96 := rfl
theorem x138_94 : mOps 138 94 = o_il 96 5 := rfl
theorem x138_96 : mOps 138 96 = o_ri := rfl
theorem x139_0 : mOps 139 0 = o_al 1 0 := rfl
theorem x139_1 : mOps 139 1 = o_ic 2 0 := rfl
theorem x139_2 : mOps 139 2 = o_pI 5 12 0 := rfl
theorem x139_5 : mOps 139 5 = o_al 6 0 := rfl
theorem x139_6 : mOps 139 6 = o_il 7 1 := rfl
theorem x139_7 : mOps 139 7 = o_cV 10 131 1 12 := rfl
theorem x139_10 : mOps 139 10 = o_ne0 13 37 := rfl
theorem x139_13 : mOps 139 13 = o_il 14 2 := rfl
theorem x139_14 : mOps 139 14 = o_i2l 15 := rfl
theorem x139_15 : mOps 139 15 = o_lc 16 1 := rfl
theorem x139_16 : mOps 139 16 = o_lc 19 40 := rfl
theorem x139_19 : mOps 139 19 = o_cS 22 97 3 := rfl
theorem x139_22 : mOps 139 22 = o_eq0 25 37 := rfl
theorem x139_25 : mOps 139 25 = o_il 26 3 := rfl
theorem x139_26 : mOps 139 26 = o_i2l 27 := rfl
theorem x139_27 : mOps 139 27 = o_lc 28 0 := rfl
theorem x139_28 : mOps 139 28 = o_lc 31 3 := rfl
theorem x139_31 : mOps 139 31 = o_cS 34 97 3 := rfl
theorem x139_34 : mOps 139 34 = o_ne0 37 39 := rfl
theorem x139_37 : mOps 139 37 = o_ic 38 (-1) := rfl
theorem x139_38 : mOps 139 38 = o_ri := rfl
theorem x139_39 : mOps 139 39 = o_ic 41 10 := rfl
theorem x139_41 : mOps 139 41 = o_il 42 2 := rfl
theorem x139_42 : mOps 139 42 = o_ii 43 (fun x y => x * y) := rfl
theorem x139_43 : mOps 139 43 = o_il 44 1 := rfl
theorem x139_44 : mOps 139 44 = o_ii 45 (fun x y => x + y) := rfl
theorem x139_45 : mOps 139 45 = o_ist 47 4 := rfl
theorem x139_47 : mOps 139 47 = o_al 48 0 := rfl
theorem x139_48 : mOps 139 48 = o_gP 51 12 24 := rfl
theorem x139_51 : mOps 139 51 = o_il 53 4 := rfl
theorem x139_53 : mOps 139 53 = o_ial 54 := rfl
theorem x139_54 : mOps 139 54 = o_ne0 57 60 := rfl
theorem x139_57 : mOps 139 57 = o_ic 59 (-2) := rfl
theorem x139_59 : mOps 139 59 = o_ri := rfl
theorem x139_60 : mOps 139 60 = o_il 61 3 := rfl
theorem x139_61 : mOps 139 61 = o_tsw [88, 96, 104] 112 := rfl
theorem x139_88 : mOps 139 88 = o_al 89 0 := rfl
theorem x139_89 : mOps 139 89 = o_gP 92 12 24 := rfl
theorem x139_92 : mOps 139 92 = o_il 94 4 := rfl
theorem x139_94 : mOps 139 94 = o_ial 95 := rfl
theorem x139_95 : mOps 139 95 = o_ri := rfl
theorem x139_96 : mOps 139 96 = o_al 97 0 := rfl
theorem x139_97 : mOps 139 97 = o_gP 100 12 25 := rfl
theorem x139_100 : mOps 139 100 = o_il 102 4 := rfl
theorem x139_102 : mOps 139 102 = o_ial 103 := rfl
theorem x139_103 : mOps 139 103 = o_ri := rfl
theorem x139_104 : mOps 139 104 = o_al 105 0 := rfl
theorem x139_105 : mOps 139 105 = o_gP 108 12 26 := rfl
theorem x139_108 : mOps 139 108 = o_il 110 4 := rfl
theorem x139_110 : mOps 139 110 = o_ial 111 := rfl
theorem x139_111 : mOps 139 111 = o_ri := rfl
theorem x139_112 : mOps 139 112 = o_al 113 0 := rfl
theorem x139_113 : mOps 139 113 = o_gP 116 12 27 := rfl
theorem x139_116 : mOps 139 116 = o_il 118 4 := rfl
theorem x139_118 : mOps 139 118 = o_lal 119 := rfl
theorem x139_119 : mOps 139 119 = o_l2i 120 := rfl
theorem x139_120 : mOps 139 120 = o_ri := rfl
theorem x140_0 : mOps 140 0 = o_al 1 0 := rfl
theorem x140_1 : mOps 140 1 = o_ic 2 0 := rfl
theorem x140_2 : mOps 140 2 = o_pI 5 12 0 := rfl
theorem x140_5 : mOps 140 5 = o_il 6 1 := rfl
theorem x140_6 : mOps 140 6 = o_i2l 7 := rfl
theorem x140_7 : mOps 140 7 = o_lc 8 1 := rfl
theorem x140_8 : mOps 140 8 = o_lc 11 40 := rfl
theorem x140_11 : mOps 140 11 = o_cS 14 97 3 := rfl
theorem x140_14 : mOps 140 14 = o_ne0 17 19 := rfl
theorem x140_17 : mOps 140 17 = o_ic 18 (-1) := rfl
theorem x140_18 : mOps 140 18 = o_ri := rfl
theorem x140_19 : mOps 140 19 = o_ic 20 0 := rfl
theorem x140_20 : mOps 140 20 = o_ist 21 2 := rfl
theorem x140_21 : mOps 140 21 = o_ic 22 0 := rfl
theorem x140_22 : mOps 140 22 = o_ist 23 3 := rfl
theorem x140_23 : mOps 140 23 = o_il 24 3 := rfl
theorem x140_24 : mOps 140 24 = o_al 25 0 := rfl
theorem x140_25 : mOps 140 25 = o_gI 28 12 1 := rfl
theorem x140_28 : mOps 140 28 = o_ge 31 79 := rfl
theorem x140_31 : mOps 140 31 = o_al 32 0 := rfl
theorem x140_32 : mOps 140 32 = o_gP 35 12 24 := rfl
theorem x140_35 : mOps 140 35 = o_ic 37 10 := rfl
theorem x140_37 : mOps 140 37 = o_il 38 1 := rfl
theorem x140_38 : mOps 140 38 = o_ii 39 (fun x y => x * y) := rfl
theorem x140_39 : mOps 140 39 = o_il 40 3 := rfl
theorem x140_40 : mOps 140 40 = o_ii 41 (fun x y => x + y) := rfl
theorem x140_41 : mOps 140 41 = o_ial 42 := rfl
theorem x140_42 : mOps 140 42 = o_ist 44 4 := rfl
theorem x140_44 : mOps 140 44 = o_il 46 4 := rfl
theorem x140_46 : mOps 140 46 = o_le0 49 61 := rfl
theorem x140_49 : mOps 140 49 = o_il 50 2 := rfl
theorem x140_50 : mOps 140 50 = o_le0 53 61 := rfl
theorem x140_53 : mOps 140 53 = o_il 55 4 := rfl
theorem x140_55 : mOps 140 55 = o_il 56 2 := rfl
theorem x140_56 : mOps 140 56 = o_eq 59 61 := rfl
theorem x140_59 : mOps 140 59 = o_ic 60 1 := rfl
theorem x140_60 : mOps 140 60 = o_ri := rfl
theorem x140_61 : mOps 140 61 = o_il 63 4 := rfl
theorem x140_63 : mOps 140 63 = o_le0 66 71 := rfl
theorem x140_66 : mOps 140 66 = o_il 68 4 := rfl
theorem x140_68 : mOps 140 68 = o_goto 72 := rfl
theorem x140_71 : mOps 140 71 = o_il 72 2 := rfl
theorem x140_72 : mOps 140 72 = o_ist 73 2 := rfl
theorem x140_73 : mOps 140 73 = o_inc 76 3 1 := rfl
theorem x140_76 : mOps 140 76 = o_back 23 [4] := rfl
theorem x140_79 : mOps 140 79 = o_ic 80 0 := rfl
theorem x140_80 : mOps 140 80 = o_ri := rfl
theorem x141_0 : mOps 141 0 = o_al 1 0 := rfl
theorem x141_1 : mOps 141 1 = o_ic 2 0 := rfl
theorem x141_2 : mOps 141 2 = o_pI 5 12 0 := rfl
theorem x141_5 : mOps 141 5 = o_il 6 1 := rfl
theorem x141_6 : mOps 141 6 = o_ic 7 (-1) := rfl
theorem x141_7 : mOps 141 7 = o_ne 10 19 := rfl
theorem x141_10 : mOps 141 10 = o_il 11 2 := rfl
theorem x141_11 : mOps 141 11 = o_ne0 14 19 := rfl
theorem x141_14 : mOps 141 14 = o_al 15 0 := rfl
theorem x141_15 : mOps 141 15 = o_gI 18 12 50 := rfl
theorem x141_18 : mOps 141 18 = o_ri := rfl
theorem x141_19 : mOps 141 19 = o_il 20 1 := rfl
theorem x141_20 : mOps 141 20 = o_i2l 21 := rfl
theorem x141_21 : mOps 141 21 = o_lc 22 0 := rfl
theorem x141_22 : mOps 141 22 = o_al 23 0 := rfl
theorem x141_23 : mOps 141 23 = o_gI 26 12 50 := rfl
theorem x141_26 : mOps 141 26 = o_ic 27 1 := rfl
theorem x141_27 : mOps 141 27 = o_ii 28 (fun x y => x - y) := rfl
theorem x141_28 : mOps 141 28 = o_i2l 29 := rfl
theorem x141_29 : mOps 141 29 = o_cS 32 97 3 := rfl
theorem x141_32 : mOps 141 32 = o_eq0 35 47 := rfl
theorem x141_35 : mOps 141 35 = o_il 36 2 := rfl
theorem x141_36 : mOps 141 36 = o_i2l 37 := rfl
theorem x141_37 : mOps 141 37 = o_lc 38 0 := rfl
theorem x141_38 : mOps 141 38 = o_lc 41 5 := rfl
theorem x141_41 : mOps 141 41 = o_cS 44 97 3 := rfl
theorem x141_44 : mOps 141 44 = o_ne0 47 51 := rfl
theorem x141_47 : mOps 141 47 = o_ic 48 (-1) := rfl
theorem x141_48 : mOps 141 48 = o_goto 62 := rfl
theorem x141_51 : mOps 141 51 = o_al 52 0 := rfl
theorem x141_52 : mOps 141 52 = o_gP 55 12 49 := rfl
theorem x141_55 : mOps 141 55 = o_ic 57 6 := rfl
theorem x141_57 : mOps 141 57 = o_il 58 1 := rfl
theorem x141_58 : mOps 141 58 = o_ii 59 (fun x y => x * y) := rfl
theorem x141_59 : mOps 141 59 = o_il 60 2 := rfl
theorem x141_60 : mOps 141 60 = o_ii 61 (fun x y => x + y) := rfl
theorem x141_61 : mOps 141 61 = o_ial 62 := rfl
theorem x141_62 : mOps 141 62 = o_ri := rfl
theorem x142_0 : mOps 142 0 = o_al 1 0 := rfl
theorem x142_1 : mOps 142 1 = o_ic 2 0 := rfl
theorem x142_2 : mOps 142 2 = o_pI 5 12 0 := rfl
theorem x142_5 : mOps 142 5 = o_al 6 0 := rfl
theorem x142_6 : mOps 142 6 = o_il 7 1 := rfl
theorem x142_7 : mOps 142 7 = o_cV 10 131 1 12 := rfl
theorem x142_10 : mOps 142 10 = o_eq0 13 15 := rfl
theorem x142_13 : mOps 142 13 = o_ic 14 (-1) := rfl
theorem x142_14 : mOps 142 14 = o_ri := rfl
theorem x142_15 : mOps 142 15 = o_ic 16 0 := rfl
theorem x142_16 : mOps 142 16 = o_ist 17 2 := rfl
theorem x142_17 : mOps 142 17 = o_al 18 0 := rfl
theorem x142_18 : mOps 142 18 = o_il 19 1 := rfl
theorem x142_19 : mOps 142 19 = o_ic 20 0 := rfl
theorem x142_20 : mOps 142 20 = o_ic 21 0 := rfl
theorem x142_21 : mOps 142 21 = o_ic 22 0 := rfl
theorem x142_22 : mOps 142 22 = o_cV 25 107 4 12 := rfl
theorem x142_25 : mOps 142 25 = o_ist 26 3 := rfl
theorem x142_26 : mOps 142 26 = o_il 27 3 := rfl
theorem x142_27 : mOps 142 27 = o_al 28 0 := rfl
theorem x142_28 : mOps 142 28 = o_il 29 1 := rfl
theorem x142_29 : mOps 142 29 = o_ic 30 1 := rfl
theorem x142_30 : mOps 142 30 = o_ii 31 (fun x y => x + y) := rfl
theorem x142_31 : mOps 142 31 = o_ic 32 0 := rfl
theorem x142_32 : mOps 142 32 = o_ic 33 0 := rfl
theorem x142_33 : mOps 142 33 = o_ic 34 0 := rfl
theorem x142_34 : mOps 142 34 = o_cV 37 107 4 12 := rfl
theorem x142_37 : mOps 142 37 = o_ge 40 63 := rfl
theorem x142_40 : mOps 142 40 = o_il 41 2 := rfl
theorem x142_41 : mOps 142 41 = o_al 42 0 := rfl
theorem x142_42 : mOps 142 42 = o_gP 45 12 52 := rfl
theorem x142_45 : mOps 142 45 = o_il 46 3 := rfl
theorem x142_46 : mOps 142 46 = o_bal 47 := rfl
theorem x142_47 : mOps 142 47 = o_eq0 50 54 := rfl
theorem x142_50 : mOps 142 50 = o_ic 51 1 := rfl
theorem x142_51 : mOps 142 51 = o_goto 55 := rfl
theorem x142_54 : mOps 142 54 = o_ic 55 0 := rfl
theorem x142_55 : mOps 142 55 = o_ii 56 (fun x y => x + y) := rfl
theorem x142_56 : mOps 142 56 = o_ist 57 2 := rfl
theorem x142_57 : mOps 142 57 = o_inc 60 3 1 := rfl
theorem x142_60 : mOps 142 60 = o_back 26 [] := rfl
theorem x142_63 : mOps 142 63 = o_il 64 2 := rfl
theorem x142_64 : mOps 142 64 = o_ri := rfl
theorem x143_0 : mOps 143 0 = o_al 1 0 := rfl
theorem x143_1 : mOps 143 1 = o_ic 2 0 := rfl
theorem x143_2 : mOps 143 2 = o_pI 5 12 0 := rfl
theorem x143_5 : mOps 143 5 = o_il 6 1 := rfl
theorem x143_6 : mOps 143 6 = o_tsw [56, 61, 66, 71, 76, 81, 138, 143, 150] 175 := rfl
theorem x143_56 : mOps 143 56 = o_al 57 0 := rfl
theorem x143_57 : mOps 143 57 = o_gI 60 12 3 := rfl
theorem x143_60 : mOps 143 60 = o_ri := rfl
theorem x143_61 : mOps 143 61 = o_al 62 0 := rfl
theorem x143_62 : mOps 143 62 = o_gI 65 12 39 := rfl
theorem x143_65 : mOps 143 65 = o_ri := rfl
theorem x143_66 : mOps 143 66 = o_al 67 0 := rfl
theorem x143_67 : mOps 143 67 = o_gI 70 12 40 := rfl
theorem x143_70 : mOps 143 70 = o_ri := rfl
theorem x143_71 : mOps 143 71 = o_al 72 0 := rfl
theorem x143_72 : mOps 143 72 = o_gI 75 12 41 := rfl
theorem x143_75 : mOps 143 75 = o_ri := rfl
theorem x143_76 : mOps 143 76 = o_al 77 0 := rfl
theorem x143_77 : mOps 143 77 = o_gI 80 12 38 := rfl
theorem x143_80 : mOps 143 80 = o_ri := rfl
theorem x143_81 : mOps 143 81 = o_ic 82 0 := rfl
theorem x143_82 : mOps 143 82 = o_ist 83 2 := rfl
theorem x143_83 : mOps 143 83 = o_ic 84 1 := rfl
theorem x143_84 : mOps 143 84 = o_ist 85 3 := rfl
theorem x143_85 : mOps 143 85 = o_il 86 3 := rfl
theorem x143_86 : mOps 143 86 = o_ic 88 40 := rfl
theorem x143_88 : mOps 143 88 = o_gt 91 136 := rfl
theorem x143_91 : mOps 143 91 = o_ic 92 0 := rfl
theorem x143_92 : mOps 143 92 = o_ist 94 4 := rfl
theorem x143_94 : mOps 143 94 = o_il 96 4 := rfl
theorem x143_96 : mOps 143 96 = o_al 97 0 := rfl
theorem x143_97 : mOps 143 97 = o_gI 100 12 1 := rfl
theorem x143_100 : mOps 143 100 = o_ge 103 130 := rfl
theorem x143_103 : mOps 143 103 = o_al 104 0 := rfl
theorem x143_104 : mOps 143 104 = o_gP 107 12 24 := rfl
theorem x143_107 : mOps 143 107 = o_ic 109 10 := rfl
theorem x143_109 : mOps 143 109 = o_il 110 3 := rfl
theorem x143_110 : mOps 143 110 = o_ii 111 (fun x y => x * y) := rfl
theorem x143_111 : mOps 143 111 = o_il 113 4 := rfl
theorem x143_113 : mOps 143 113 = o_ii 114 (fun x y => x + y) := rfl
theorem x143_114 : mOps 143 114 = o_ial 115 := rfl
theorem x143_115 : mOps 143 115 = o_le0 118 122 := rfl
theorem x143_118 : mOps 143 118 = o_il 119 3 := rfl
theorem x143_119 : mOps 143 119 = o_goto 123 := rfl
theorem x143_122 : mOps 143 122 = o_il 123 2 := rfl
theorem x143_123 : mOps 143 123 = o_ist 124 2 := rfl
theorem x143_124 : mOps 143 124 = o_inc 127 4 1 := rfl
theorem x143_127 : mOps 143 127 = o_back 94 [] := rfl
theorem x143_130 : mOps 143 130 = o_inc 133 3 1 := rfl
theorem x143_133 : mOps 143 133 = o_back 85 [4] := rfl
theorem x143_136 : mOps 143 136 = o_il 137 2 := rfl
theorem x143_137 : mOps 143 137 = o_ri := rfl
theorem x143_138 : mOps 143 138 = o_al 139 0 := rfl
theorem x143_139 : mOps 143 139 = o_gI 142 12 1 := rfl
theorem x143_142 : mOps 143 142 = o_ri := rfl
theorem x143_143 : mOps 143 143 = o_al 144 0 := rfl
theorem x143_144 : mOps 143 144 = o_ic 145 1 := rfl
theorem x143_145 : mOps 143 145 = o_cV 148 117 1 12 := rfl
theorem x143_148 : mOps 143 148 = o_l2i 149 := rfl
theorem x143_149 : mOps 143 149 = o_ri := rfl
theorem x143_150 : mOps 143 150 = o_al 151 0 := rfl
theorem x143_151 : mOps 143 151 = o_gI 154 12 48 := rfl
theorem x143_154 : mOps 143 154 = o_al 155 0 := rfl
theorem x143_155 : mOps 143 155 = o_gI 158 12 3 := rfl
theorem x143_158 : mOps 143 158 = o_le 161 173 := rfl
theorem x143_161 : mOps 143 161 = o_al 162 0 := rfl
theorem x143_162 : mOps 143 162 = o_gI 165 12 48 := rfl
theorem x143_165 : mOps 143 165 = o_al 166 0 := rfl
theorem x143_166 : mOps 143 166 = o_gI 169 12 3 := rfl
theorem x143_169 : mOps 143 169 = o_ii 170 (fun x y => x - y) := rfl
theorem x143_170 : mOps 143 170 = o_goto 174 := rfl
theorem x143_173 : mOps 143 173 = o_ic 174 0 := rfl
theorem x143_174 : mOps 143 174 = o_ri := rfl
theorem x143_175 : mOps 143 175 = o_ic 176 (-1) := rfl
theorem x143_176 : mOps 143 176 = o_ri := rfl
theorem x144_0 : mOps 144 0 = o_al 1 0 := rfl
theorem x144_1 : mOps 144 1 = o_ic 2 0 := rfl
theorem x144_2 : mOps 144 2 = o_pI 5 12 0 := rfl
theorem x144_5 : mOps 144 5 = o_il 6 2 := rfl
theorem x144_6 : mOps 144 6 = o_i2l 7 := rfl
theorem x144_7 : mOps 144 7 = o_lc 8 1 := rfl
theorem x144_8 : mOps 144 8 = o_lc 11 40 := rfl
theorem x144_11 : mOps 144 11 = o_cS 14 97 3 := rfl
theorem x144_14 : mOps 144 14 = o_eq0 17 30 := rfl
theorem x144_17 : mOps 144 17 = o_il 18 1 := rfl
theorem x144_18 : mOps 144 18 = o_ic 19 (-1) := rfl
theorem x144_19 : mOps 144 19 = o_eq 22 32 := rfl
theorem x144_22 : mOps 144 22 = o_al 23 0 := rfl
theorem x144_23 : mOps 144 23 = o_il 24 1 := rfl
theorem x144_24 : mOps 144 24 = o_cV 27 131 1 12 := rfl
theorem x144_27 : mOps 144 27 = o_eq0 30 32 := rfl
theorem x144_30 : mOps 144 30 = o_ic 31 (-1) := rfl
theorem x144_31 : mOps 144 31 = o_ri := rfl
theorem x144_32 : mOps 144 32 = o_il 33 1 := rfl
theorem x144_33 : mOps 144 33 = o_ic 34 (-1) := rfl
theorem x144_34 : mOps 144 34 = o_ne 37 46 := rfl
theorem x144_37 : mOps 144 37 = o_al 38 0 := rfl
theorem x144_38 : mOps 144 38 = o_il 39 2 := rfl
theorem x144_39 : mOps 144 39 = o_cV 42 117 1 12 := rfl
theorem x144_42 : mOps 144 42 = o_l2i 43 := rfl
theorem x144_43 : mOps 144 43 = o_goto 57 := rfl
theorem x144_46 : mOps 144 46 = o_al 47 0 := rfl
theorem x144_47 : mOps 144 47 = o_gP 50 12 4 := rfl
theorem x144_50 : mOps 144 50 = o_ic 52 10 := rfl
theorem x144_52 : mOps 144 52 = o_il 53 2 := rfl
theorem x144_53 : mOps 144 53 = o_ii 54 (fun x y => x * y) := rfl
theorem x144_54 : mOps 144 54 = o_il 55 1 := rfl
theorem x144_55 : mOps 144 55 = o_ii 56 (fun x y => x + y) := rfl
theorem x144_56 : mOps 144 56 = o_ial 57 := rfl
theorem x144_57 : mOps 144 57 = o_ri := rfl
theorem x145_0 : mOps 145 0 = o_il 1 1 := rfl
theorem x145_1 : mOps 145 1 = o_al 2 0 := rfl
theorem x145_2 : mOps 145 2 = o_aln 3 := rfl
theorem x145_3 : mOps 145 3 = o_ge 6 12 := rfl
theorem x145_6 : mOps 145 6 = o_al 7 0 := rfl
theorem x145_7 : mOps 145 7 = o_il 8 1 := rfl
theorem x145_8 : mOps 145 8 = o_ial 9 := rfl
theorem x145_9 : mOps 145 9 = o_goto 13 := rfl
theorem x145_12 : mOps 145 12 = o_ic 13 0 := rfl
theorem x145_13 : mOps 145 13 = o_ri := rfl
theorem x146_0 : mOps 146 0 = o_new 3 11 12 := rfl
theorem x146_3 : mOps 146 3 = o_dup 4 := rfl
theorem x146_4 : mOps 146 4 = o_al 5 0 := rfl
theorem x146_5 : mOps 146 5 = o_ic 6 0 := rfl
theorem x146_6 : mOps 146 6 = o_cS 9 145 2 := rfl
theorem x146_9 : mOps 146 9 = o_al 10 0 := rfl
theorem x146_10 : mOps 146 10 = o_ic 11 1 := rfl
theorem x146_11 : mOps 146 11 = o_cS 14 145 2 := rfl
theorem x146_14 : mOps 146 14 = o_cI 17 61 2 := rfl
theorem x146_17 : mOps 146 17 = o_ast 18 1 := rfl
theorem x146_18 : mOps 146 18 = o_new 21 12 53 := rfl
theorem x146_21 : mOps 146 21 = o_dup 22 := rfl
theorem x146_22 : mOps 146 22 = o_al 23 0 := rfl
theorem x146_23 : mOps 146 23 = o_ic 24 0 := rfl
theorem x146_24 : mOps 146 24 = o_cS 27 145 2 := rfl
theorem x146_27 : mOps 146 27 = o_al 28 0 := rfl
theorem x146_28 : mOps 146 28 = o_ic 29 1 := rfl
theorem x146_29 : mOps 146 29 = o_cS 32 145 2 := rfl
theorem x146_32 : mOps 146 32 = o_cI 35 91 2 := rfl
theorem x146_35 : mOps 146 35 = o_ast 36 2 := rfl
theorem x146_36 : mOps 146 36 = o_ic 37 2 := rfl
theorem x146_37 : mOps 146 37 = o_ist 38 3 := rfl
theorem x146_38 : mOps 146 38 = o_il 39 3 := rfl
theorem x146_39 : mOps 146 39 = o_al 40 0 := rfl
theorem x146_40 : mOps 146 40 = o_aln 41 := rfl
theorem x146_41 : mOps 146 41 = o_ic 42 5 := rfl
theorem x146_42 : mOps 146 42 = o_ii 43 (fun x y => x - y) := rfl
theorem x146_43 : mOps 146 43 = o_gt 46 619 := rfl
theorem x146_46 : mOps 146 46 = o_al 47 0 := rfl
theorem x146_47 : mOps 146 47 = o_il 48 3 := rfl
theorem x146_48 : mOps 146 48 = o_ial 49 := rfl
theorem x146_49 : mOps 146 49 = o_ic 51 15 := rfl
theorem x146_51 : mOps 146 51 = o_ii 52 (fun x y => x &&& y) := rfl
theorem x146_52 : mOps 146 52 = o_tsw [128, 161, 194, 237, 270, 303, 326, 349, 382, 435, 478, 501, 534, 557, 580] 613 := rfl
theorem x146_128 : mOps 146 128 = o_al 129 1 := rfl
theorem x146_129 : mOps 146 129 = o_al 130 0 := rfl
theorem x146_130 : mOps 146 130 = o_il 131 3 := rfl
theorem x146_131 : mOps 146 131 = o_ic 132 1 := rfl
theorem x146_132 : mOps 146 132 = o_ii 133 (fun x y => x + y) := rfl
theorem x146_133 : mOps 146 133 = o_ial 134 := rfl
theorem x146_134 : mOps 146 134 = o_al 135 0 := rfl
theorem x146_135 : mOps 146 135 = o_il 136 3 := rfl
theorem x146_136 : mOps 146 136 = o_ic 137 2 := rfl
theorem x146_137 : mOps 146 137 = o_ii 138 (fun x y => x + y) := rfl
theorem x146_138 : mOps 146 138 = o_ial 139 := rfl
theorem x146_139 : mOps 146 139 = o_cV 142 62 2 11 := rfl
theorem x146_142 : mOps 146 142 = o_al 143 2 := rfl
theorem x146_143 : mOps 146 143 = o_al 144 0 := rfl
theorem x146_144 : mOps 146 144 = o_il 145 3 := rfl
theorem x146_145 : mOps 146 145 = o_ic 146 1 := rfl
theorem x146_146 : mOps 146 146 = o_ii 147 (fun x y => x + y) := rfl
theorem x146_147 : mOps 146 147 = o_ial 148 := rfl
theorem x146_148 : mOps 146 148 = o_al 149 0 := rfl
theorem x146_149 : mOps 146 149 = o_il 150 3 := rfl
theorem x146_150 : mOps 146 150 = o_ic 151 2 := rfl
theorem x146_151 : mOps 146 151 = o_ii 152 (fun x y => x + y) := rfl
theorem x146_152 : mOps 146 152 = o_ial 153 := rfl
theorem x146_153 : mOps 146 153 = o_cV 156 130 2 12 := rfl
theorem x146_156 : mOps 146 156 = o_eq 159 613 := rfl
theorem x146_159 : mOps 146 159 = o_ic 160 0 := rfl
theorem x146_160 : mOps 146 160 = o_rz := rfl
theorem x146_161 : mOps 146 161 = o_al 162 1 := rfl
theorem x146_162 : mOps 146 162 = o_al 163 0 := rfl
theorem x146_163 : mOps 146 163 = o_il 164 3 := rfl
theorem x146_164 : mOps 146 164 = o_ic 165 1 := rfl
theorem x146_165 : mOps 146 165 = o_ii 166 (fun x y => x + y) := rfl
theorem x146_166 : mOps 146 166 = o_ial 167 := rfl
theorem x146_167 : mOps 146 167 = o_al 168 0 := rfl
theorem x146_168 : mOps 146 168 = o_il 169 3 := rfl
theorem x146_169 : mOps 146 169 = o_ic 170 2 := rfl
theorem x146_170 : mOps 146 170 = o_ii 171 (fun x y => x + y) := rfl
theorem x146_171 : mOps 146 171 = o_ial 172 := rfl
theorem x146_172 : mOps 146 172 = o_cV 175 65 2 11 := rfl
theorem x146_175 : mOps 146 175 = o_al 176 2 := rfl
theorem x146_176 : mOps 146 176 = o_al 177 0 := rfl
theorem x146_177 : mOps 146 177 = o_il 178 3 := rfl
theorem x146_178 : mOps 146 178 = o_ic 179 1 := rfl
theorem x146_179 : mOps 146 179 = o_ii 180 (fun x y => x + y) := rfl
theorem x146_180 : mOps 146 180 = o_ial 181 := rfl
theorem x146_181 : mOps 146 181 = o_al 182 0 := rfl
theorem x146_182 : mOps 146 182 = o_il 183 3 := rfl
theorem x146_183 : mOps 146 183 = o_ic 184 2 := rfl
theorem x146_184 : mOps 146 184 = o_ii 185 (fun x y => x + y) := rfl
theorem x146_185 : mOps 146 185 = o_ial 186 := rfl
theorem x146_186 : mOps 146 186 = o_cV 189 132 2 12 := rfl
theorem x146_189 : mOps 146 189 = o_eq 192 613 := rfl
theorem x146_192 : mOps 146 192 = o_ic 193 0 := rfl
theorem x146_193 : mOps 146 193 = o_rz := rfl
theorem x146_194 : mOps 146 194 = o_al 195 1 := rfl
theorem x146_195 : mOps 146 195 = o_al 196 0 := rfl
theorem x146_196 : mOps 146 196 = o_il 197 3 := rfl
theorem x146_197 : mOps 146 197 = o_ic 198 1 := rfl
theorem x146_198 : mOps 146 198 = o_ii 199 (fun x y => x + y) := rfl
theorem x146_199 : mOps 146 199 = o_ial 200 := rfl
theorem x146_200 : mOps 146 200 = o_al 201 0 := rfl
theorem x146_201 : mOps 146 201 = o_il 202 3 := rfl
theorem x146_202 : mOps 146 202 = o_ic 203 2 := rfl
theorem x146_203 : mOps 146 203 = o_ii 204 (fun x y => x + y) := rfl
theorem x146_204 : mOps 146 204 = o_ial 205 := rfl
theorem x146_205 : mOps 146 205 = o_al 206 0 := rfl
theorem x146_206 : mOps 146 206 = o_il 207 3 := rfl
theorem x146_207 : mOps 146 207 = o_ic 208 3 := rfl
theorem x146_208 : mOps 146 208 = o_ii 209 (fun x y => x + y) := rfl
theorem x146_209 : mOps 146 209 = o_ial 210 := rfl
theorem x146_210 : mOps 146 210 = o_cV 213 66 3 11 := rfl
theorem x146_213 : mOps 146 213 = o_al 214 2 := rfl
theorem x146_214 : mOps 146 214 = o_al 215 0 := rfl
theorem x146_215 : mOps 146 215 = o_il 216 3 := rfl
theorem x146_216 : mOps 146 216 = o_ic 217 1 := rfl
theorem x146_217 : mOps 146 217 = o_ii 218 (fun x y => x + y) := rfl
theorem x146_218 : mOps 146 218 = o_ial 219 := rfl
theorem x146_219 : mOps 146 219 = o_al 220 0 := rfl
theorem x146_220 : mOps 146 220 = o_il 221 3 := rfl
theorem x146_221 : mOps 146 221 = o_ic 222 2 := rfl
theorem x146_222 : mOps 146 222 = o_ii 223 (fun x y => x + y) := rfl
theorem x146_223 : mOps 146 223 = o_ial 224 := rfl
theorem x146_224 : mOps 146 224 = o_al 225 0 := rfl
theorem x146_225 : mOps 146 225 = o_il 226 3 := rfl
theorem x146_226 : mOps 146 226 = o_ic 227 3 := rfl
theorem x146_227 : mOps 146 227 = o_ii 228 (fun x y => x + y) := rfl
theorem x146_228 : mOps 146 228 = o_ial 229 := rfl
theorem x146_229 : mOps 146 229 = o_cV 232 133 3 12 := rfl
theorem x146_232 : mOps 146 232 = o_eq 235 613 := rfl
theorem x146_235 : mOps 146 235 = o_ic 236 0 := rfl
theorem x146_236 : mOps 146 236 = o_rz := rfl
theorem x146_237 : mOps 146 237 = o_al 238 1 := rfl
theorem x146_238 : mOps 146 238 = o_al 239 0 := rfl
theorem x146_239 : mOps 146 239 = o_il 240 3 := rfl
theorem x146_240 : mOps 146 240 = o_ic 241 1 := rfl
theorem x146_241 : mOps 146 241 = o_ii 242 (fun x y => x + y) := rfl
theorem x146_242 : mOps 146 242 = o_ial 243 := rfl
theorem x146_243 : mOps 146 243 = o_al 244 0 := rfl
theorem x146_244 : mOps 146 244 = o_il 245 3 := rfl
theorem x146_245 : mOps 146 245 = o_ic 246 2 := rfl
theorem x146_246 : mOps 146 246 = o_ii 247 (fun x y => x + y) := rfl
theorem x146_247 : mOps 146 247 = o_ial 248 := rfl
theorem x146_248 : mOps 146 248 = o_cV 251 67 2 11 := rfl
theorem x146_251 : mOps 146 251 = o_al 252 2 := rfl
theorem x146_252 : mOps 146 252 = o_al 253 0 := rfl
theorem x146_253 : mOps 146 253 = o_il 254 3 := rfl
theorem x146_254 : mOps 146 254 = o_ic 255 1 := rfl
theorem x146_255 : mOps 146 255 = o_ii 256 (fun x y => x + y) := rfl
theorem x146_256 : mOps 146 256 = o_ial 257 := rfl
theorem x146_257 : mOps 146 257 = o_al 258 0 := rfl
theorem x146_258 : mOps 146 258 = o_il 259 3 := rfl
theorem x146_259 : mOps 146 259 = o_ic 260 2 := rfl
theorem x146_260 : mOps 146 260 = o_ii 261 (fun x y => x + y) := rfl
theorem x146_261 : mOps 146 261 = o_ial 262 := rfl
theorem x146_262 : mOps 146 262 = o_cV 265 134 2 12 := rfl
theorem x146_265 : mOps 146 265 = o_eq 268 613 := rfl
theorem x146_268 : mOps 146 268 = o_ic 269 0 := rfl
theorem x146_269 : mOps 146 269 = o_rz := rfl
theorem x146_270 : mOps 146 270 = o_al 271 1 := rfl
theorem x146_271 : mOps 146 271 = o_al 272 0 := rfl
theorem x146_272 : mOps 146 272 = o_il 273 3 := rfl
theorem x146_273 : mOps 146 273 = o_ic 274 1 := rfl
theorem x146_274 : mOps 146 274 = o_ii 275 (fun x y => x + y) := rfl
theorem x146_275 : mOps 146 275 = o_ial 276 := rfl
theorem x146_276 : mOps 146 276 = o_al 277 0 := rfl
theorem x146_277 : mOps 146 277 = o_il 278 3 := rfl
theorem x146_278 : mOps 146 278 = o_ic 279 2 := rfl
theorem x146_279 : mOps 146 279 = o_ii 280 (fun x y => x + y) := rfl
theorem x146_280 : mOps 146 280 = o_ial 281 := rfl
theorem x146_281 : mOps 146 281 = o_cV 284 68 2 11 := rfl
theorem x146_284 : mOps 146 284 = o_al 285 2 := rfl
theorem x146_285 : mOps 146 285 = o_al 286 0 := rfl
theorem x146_286 : mOps 146 286 = o_il 287 3 := rfl
theorem x146_287 : mOps 146 287 = o_ic 288 1 := rfl
theorem x146_288 : mOps 146 288 = o_ii 289 (fun x y => x + y) := rfl
theorem x146_289 : mOps 146 289 = o_ial 290 := rfl
theorem x146_290 : mOps 146 290 = o_al 291 0 := rfl
theorem x146_291 : mOps 146 291 = o_il 292 3 := rfl
theorem x146_292 : mOps 146 292 = o_ic 293 2 := rfl
theorem x146_293 : mOps 146 293 = o_ii 294 (fun x y => x + y) := rfl
theorem x146_294 : mOps 146 294 = o_ial 295 := rfl
theorem x146_295 : mOps 146 295 = o_cV 298 135 2 12 := rfl
theorem x146_298 : mOps 146 298 = o_eq 301 613 := rfl
theorem x146_301 : mOps 146 301 = o_ic 302 0 := rfl
theorem x146_302 : mOps 146 302 = o_rz := rfl
theorem x146_303 : mOps 146 303 = o_al 304 1 := rfl
theorem x146_304 : mOps 146 304 = o_al 305 0 := rfl
theorem x146_305 : mOps 146 305 = o_il 306 3 := rfl
theorem x146_306 : mOps 146 306 = o_ic 307 1 := rfl
theorem x146_307 : mOps 146 307 = o_ii 308 (fun x y => x + y) := rfl
theorem x146_308 : mOps 146 308 = o_ial 309 := rfl
theorem x146_309 : mOps 146 309 = o_cV 312 69 1 11 := rfl
theorem x146_312 : mOps 146 312 = o_al 313 2 := rfl
theorem x146_313 : mOps 146 313 = o_al 314 0 := rfl
theorem x146_314 : mOps 146 314 = o_il 315 3 := rfl
theorem x146_315 : mOps 146 315 = o_ic 316 1 := rfl
theorem x146_316 : mOps 146 316 = o_ii 317 (fun x y => x + y) := rfl
theorem x146_317 : mOps 146 317 = o_ial 318 := rfl
theorem x146_318 : mOps 146 318 = o_cV 321 96 1 12 := rfl
theorem x146_321 : mOps 146 321 = o_eq 324 613 := rfl
theorem x146_324 : mOps 146 324 = o_ic 325 0 := rfl
theorem x146_325 : mOps 146 325 = o_rz := rfl
theorem x146_326 : mOps 146 326 = o_al 327 1 := rfl
theorem x146_327 : mOps 146 327 = o_al 328 0 := rfl
theorem x146_328 : mOps 146 328 = o_il 329 3 := rfl
theorem x146_329 : mOps 146 329 = o_ic 330 1 := rfl
theorem x146_330 : mOps 146 330 = o_ii 331 (fun x y => x + y) := rfl
theorem x146_331 : mOps 146 331 = o_ial 332 := rfl
theorem x146_332 : mOps 146 332 = o_cV 335 79 1 11 := rfl
theorem x146_335 : mOps 146 335 = o_al 336 2 := rfl
theorem x146_336 : mOps 146 336 = o_al 337 0 := rfl
theorem x146_337 : mOps 146 337 = o_il 338 3 := rfl
theorem x146_338 : mOps 146 338 = o_ic 339 1 := rfl
theorem x146_339 : mOps 146 339 = o_ii 340 (fun x y => x + y) := rfl
theorem x146_340 : mOps 146 340 = o_ial 341 := rfl
theorem x146_341 : mOps 146 341 = o_cV 344 136 1 12 := rfl
theorem x146_344 : mOps 146 344 = o_eq 347 613 := rfl
theorem x146_347 : mOps 146 347 = o_ic 348 0 := rfl
theorem x146_348 : mOps 146 348 = o_rz := rfl
theorem x146_349 : mOps 146 349 = o_al 350 1 := rfl
theorem x146_350 : mOps 146 350 = o_al 351 0 := rfl
theorem x146_351 : mOps 146 351 = o_il 352 3 := rfl
theorem x146_352 : mOps 146 352 = o_ic 353 1 := rfl
theorem x146_353 : mOps 146 353 = o_ii 354 (fun x y => x + y) := rfl
theorem x146_354 : mOps 146 354 = o_ial 355 := rfl
theorem x146_355 : mOps 146 355 = o_al 356 0 := rfl
theorem x146_356 : mOps 146 356 = o_il 357 3 := rfl
theorem x146_357 : mOps 146 357 = o_ic 358 2 := rfl
theorem x146_358 : mOps 146 358 = o_ii 359 (fun x y => x + y) := rfl
theorem x146_359 : mOps 146 359 = o_ial 360 := rfl
theorem x146_360 : mOps 146 360 = o_cV 363 81 2 11 := rfl
theorem x146_363 : mOps 146 363 = o_al 364 2 := rfl
theorem x146_364 : mOps 146 364 = o_al 365 0 := rfl
theorem x146_365 : mOps 146 365 = o_il 366 3 := rfl
theorem x146_366 : mOps 146 366 = o_ic 367 1 := rfl
theorem x146_367 : mOps 146 367 = o_ii 368 (fun x y => x + y) := rfl
theorem x146_368 : mOps 146 368 = o_ial 369 := rfl
theorem x146_369 : mOps 146 369 = o_al 370 0 := rfl
theorem x146_370 : mOps 146 370 = o_il 371 3 := rfl
theorem x146_371 : mOps 146 371 = o_ic 372 2 := rfl
theorem x146_372 : mOps 146 372 = o_ii 373 (fun x y => x + y) := rfl
theorem x146_373 : mOps 146 373 = o_ial 374 := rfl
theorem x146_374 : mOps 146 374 = o_cV 377 137 2 12 := rfl
theorem x146_377 : mOps 146 377 = o_eq 380 613 := rfl
theorem x146_380 : mOps 146 380 = o_ic 381 0 := rfl
theorem x146_381 : mOps 146 381 = o_rz := rfl
theorem x146_382 : mOps 146 382 = o_al 383 1 := rfl
theorem x146_383 : mOps 146 383 = o_al 384 0 := rfl
theorem x146_384 : mOps 146 384 = o_il 385 3 := rfl
theorem x146_385 : mOps 146 385 = o_ic 386 1 := rfl
theorem x146_386 : mOps 146 386 = o_ii 387 (fun x y => x + y) := rfl
theorem x146_387 : mOps 146 387 = o_ial 388 := rfl
theorem x146_388 : mOps 146 388 = o_al 389 0 := rfl
theorem x146_389 : mOps 146 389 = o_il 390 3 := rfl
theorem x146_390 : mOps 146 390 = o_ic 391 2 := rfl
theorem x146_391 : mOps 146 391 = o_ii 392 (fun x y => x + y) := rfl
theorem x146_392 : mOps 146 392 = o_ial 393 := rfl
theorem x146_393 : mOps 146 393 = o_al 394 0 := rfl
theorem x146_394 : mOps 146 394 = o_il 395 3 := rfl
theorem x146_395 : mOps 146 395 = o_ic 396 3 := rfl
theorem x146_396 : mOps 146 396 = o_ii 397 (fun x y => x + y) := rfl
theorem x146_397 : mOps 146 397 = o_ial 398 := rfl
theorem x146_398 : mOps 146 398 = o_al 399 0 := rfl
theorem x146_399 : mOps 146 399 = o_il 400 3 := rfl
theorem x146_400 : mOps 146 400 = o_ic 401 4 := rfl
theorem x146_401 : mOps 146 401 = o_ii 402 (fun x y => x + y) := rfl
theorem x146_402 : mOps 146 402 = o_ial 403 := rfl
theorem x146_403 : mOps 146 403 = o_cV 406 82 4 11 := rfl
theorem x146_406 : mOps 146 406 = o_al 407 2 := rfl
theorem x146_407 : mOps 146 407 = o_al 408 0 := rfl
theorem x146_408 : mOps 146 408 = o_il 409 3 := rfl
theorem x146_409 : mOps 146 409 = o_ic 410 1 := rfl
theorem x146_410 : mOps 146 410 = o_ii 411 (fun x y => x + y) := rfl
theorem x146_411 : mOps 146 411 = o_ial 412 := rfl
theorem x146_412 : mOps 146 412 = o_al 413 0 := rfl
theorem x146_413 : mOps 146 413 = o_il 414 3 := rfl
theorem x146_414 : mOps 146 414 = o_ic 415 2 := rfl
theorem x146_415 : mOps 146 415 = o_ii 416 (fun x y => x + y) := rfl
theorem x146_416 : mOps 146 416 = o_ial 417 := rfl
theorem x146_417 : mOps 146 417 = o_al 418 0 := rfl
theorem x146_418 : mOps 146 418 = o_il 419 3 := rfl
theorem x146_419 : mOps 146 419 = o_ic 420 3 := rfl
theorem x146_420 : mOps 146 420 = o_ii 421 (fun x y => x + y) := rfl
theorem x146_421 : mOps 146 421 = o_ial 422 := rfl
theorem x146_422 : mOps 146 422 = o_al 423 0 := rfl
theorem x146_423 : mOps 146 423 = o_il 424 3 := rfl
theorem x146_424 : mOps 146 424 = o_ic 425 4 := rfl
theorem x146_425 : mOps 146 425 = o_ii 426 (fun x y => x + y) := rfl
theorem x146_426 : mOps 146 426 = o_ial 427 := rfl
theorem x146_427 : mOps 146 427 = o_cV 430 138 4 12 := rfl
theorem x146_430 : mOps 146 430 = o_eq 433 613 := rfl
theorem x146_433 : mOps 146 433 = o_ic 434 0 := rfl
theorem x146_434 : mOps 146 434 = o_rz := rfl
theorem x146_435 : mOps 146 435 = o_al 436 1 := rfl
theorem x146_436 : mOps 146 436 = o_al 437 0 := rfl
theorem x146_437 : mOps 146 437 = o_il 438 3 := rfl
theorem x146_438 : mOps 146 438 = o_ic 439 1 := rfl
theorem x146_439 : mOps 146 439 = o_ii 440 (fun x y => x + y) := rfl
theorem x146_440 : mOps 146 440 = o_ial 441 := rfl
theorem x146_441 : mOps 146 441 = o_al 442 0 := rfl
theorem x146_442 : mOps 146 442 = o_il 443 3 := rfl
theorem x146_443 : mOps 146 443 = o_ic 444 2 := rfl
theorem x146_444 : mOps 146 444 = o_ii 445 (fun x y => x + y) := rfl
theorem x146_445 : mOps 146 445 = o_ial 446 := rfl
theorem x146_446 : mOps 146 446 = o_al 447 0 := rfl
theorem x146_447 : mOps 146 447 = o_il 448 3 := rfl
theorem x146_448 : mOps 146 448 = o_ic 449 3 := rfl
theorem x146_449 : mOps 146 449 = o_ii 450 (fun x y => x + y) := rfl
theorem x146_450 : mOps 146 450 = o_ial 451 := rfl
theorem x146_451 : mOps 146 451 = o_cV 454 83 3 11 := rfl
theorem x146_454 : mOps 146 454 = o_al 455 2 := rfl
theorem x146_455 : mOps 146 455 = o_al 456 0 := rfl
theorem x146_456 : mOps 146 456 = o_il 457 3 := rfl
theorem x146_457 : mOps 146 457 = o_ic 458 1 := rfl
theorem x146_458 : mOps 146 458 = o_ii 459 (fun x y => x + y) := rfl
theorem x146_459 : mOps 146 459 = o_ial 460 := rfl
theorem x146_460 : mOps 146 460 = o_al 461 0 := rfl
theorem x146_461 : mOps 146 461 = o_il 462 3 := rfl
theorem x146_462 : mOps 146 462 = o_ic 463 2 := rfl
theorem x146_463 : mOps 146 463 = o_ii 464 (fun x y => x + y) := rfl
theorem x146_464 : mOps 146 464 = o_ial 465 := rfl
theorem x146_465 : mOps 146 465 = o_al 466 0 := rfl
theorem x146_466 : mOps 146 466 = o_il 467 3 := rfl
theorem x146_467 : mOps 146 467 = o_ic 468 3 := rfl
theorem x146_468 : mOps 146 468 = o_ii 469 (fun x y => x + y) := rfl
theorem x146_469 : mOps 146 469 = o_ial 470 := rfl
theorem x146_470 : mOps 146 470 = o_cV 473 139 3 12 := rfl
theorem x146_473 : mOps 146 473 = o_eq 476 613 := rfl
theorem x146_476 : mOps 146 476 = o_ic 477 0 := rfl
theorem x146_477 : mOps 146 477 = o_rz := rfl
theorem x146_478 : mOps 146 478 = o_al 479 1 := rfl
theorem x146_479 : mOps 146 479 = o_al 480 0 := rfl
theorem x146_480 : mOps 146 480 = o_il 481 3 := rfl
theorem x146_481 : mOps 146 481 = o_ic 482 1 := rfl
theorem x146_482 : mOps 146 482 = o_ii 483 (fun x y => x + y) := rfl
theorem x146_483 : mOps 146 483 = o_ial 484 := rfl
theorem x146_484 : mOps 146 484 = o_cV 487 85 1 11 := rfl
theorem x146_487 : mOps 146 487 = o_al 488 2 := rfl
theorem x146_488 : mOps 146 488 = o_al 489 0 := rfl
theorem x146_489 : mOps 146 489 = o_il 490 3 := rfl
theorem x146_490 : mOps 146 490 = o_ic 491 1 := rfl
theorem x146_491 : mOps 146 491 = o_ii 492 (fun x y => x + y) := rfl
theorem x146_492 : mOps 146 492 = o_ial 493 := rfl
theorem x146_493 : mOps 146 493 = o_cV 496 140 1 12 := rfl
theorem x146_496 : mOps 146 496 = o_eq 499 613 := rfl
theorem x146_499 : mOps 146 499 = o_ic 500 0 := rfl
theorem x146_500 : mOps 146 500 = o_rz := rfl
theorem x146_501 : mOps 146 501 = o_al 502 1 := rfl
theorem x146_502 : mOps 146 502 = o_al 503 0 := rfl
theorem x146_503 : mOps 146 503 = o_il 504 3 := rfl
theorem x146_504 : mOps 146 504 = o_ic 505 1 := rfl
theorem x146_505 : mOps 146 505 = o_ii 506 (fun x y => x + y) := rfl
theorem x146_506 : mOps 146 506 = o_ial 507 := rfl
theorem x146_507 : mOps 146 507 = o_al 508 0 := rfl
theorem x146_508 : mOps 146 508 = o_il 509 3 := rfl
theorem x146_509 : mOps 146 509 = o_ic 510 2 := rfl
theorem x146_510 : mOps 146 510 = o_ii 511 (fun x y => x + y) := rfl
theorem x146_511 : mOps 146 511 = o_ial 512 := rfl
theorem x146_512 : mOps 146 512 = o_cV 515 86 2 11 := rfl
theorem x146_515 : mOps 146 515 = o_al 516 2 := rfl
theorem x146_516 : mOps 146 516 = o_al 517 0 := rfl
theorem x146_517 : mOps 146 517 = o_il 518 3 := rfl
theorem x146_518 : mOps 146 518 = o_ic 519 1 := rfl
theorem x146_519 : mOps 146 519 = o_ii 520 (fun x y => x + y) := rfl
theorem x146_520 : mOps 146 520 = o_ial 521 := rfl
theorem x146_521 : mOps 146 521 = o_al 522 0 := rfl
theorem x146_522 : mOps 146 522 = o_il 523 3 := rfl
theorem x146_523 : mOps 146 523 = o_ic 524 2 := rfl
theorem x146_524 : mOps 146 524 = o_ii 525 (fun x y => x + y) := rfl
theorem x146_525 : mOps 146 525 = o_ial 526 := rfl
theorem x146_526 : mOps 146 526 = o_cV 529 141 2 12 := rfl
theorem x146_529 : mOps 146 529 = o_eq 532 613 := rfl
theorem x146_532 : mOps 146 532 = o_ic 533 0 := rfl
theorem x146_533 : mOps 146 533 = o_rz := rfl
theorem x146_534 : mOps 146 534 = o_al 535 1 := rfl
theorem x146_535 : mOps 146 535 = o_al 536 0 := rfl
theorem x146_536 : mOps 146 536 = o_il 537 3 := rfl
theorem x146_537 : mOps 146 537 = o_ic 538 1 := rfl
theorem x146_538 : mOps 146 538 = o_ii 539 (fun x y => x + y) := rfl
theorem x146_539 : mOps 146 539 = o_ial 540 := rfl
theorem x146_540 : mOps 146 540 = o_cV 543 87 1 11 := rfl
theorem x146_543 : mOps 146 543 = o_al 544 2 := rfl
theorem x146_544 : mOps 146 544 = o_al 545 0 := rfl
theorem x146_545 : mOps 146 545 = o_il 546 3 := rfl
theorem x146_546 : mOps 146 546 = o_ic 547 1 := rfl
theorem x146_547 : mOps 146 547 = o_ii 548 (fun x y => x + y) := rfl
theorem x146_548 : mOps 146 548 = o_ial 549 := rfl
theorem x146_549 : mOps 146 549 = o_cV 552 142 1 12 := rfl
theorem x146_552 : mOps 146 552 = o_eq 555 613 := rfl
theorem x146_555 : mOps 146 555 = o_ic 556 0 := rfl
theorem x146_556 : mOps 146 556 = o_rz := rfl
theorem x146_557 : mOps 146 557 = o_al 558 1 := rfl
theorem x146_558 : mOps 146 558 = o_al 559 0 := rfl
theorem x146_559 : mOps 146 559 = o_il 560 3 := rfl
theorem x146_560 : mOps 146 560 = o_ic 561 1 := rfl
theorem x146_561 : mOps 146 561 = o_ii 562 (fun x y => x + y) := rfl
theorem x146_562 : mOps 146 562 = o_ial 563 := rfl
theorem x146_563 : mOps 146 563 = o_cV 566 88 1 11 := rfl
theorem x146_566 : mOps 146 566 = o_al 567 2 := rfl
theorem x146_567 : mOps 146 567 = o_al 568 0 := rfl
theorem x146_568 : mOps 146 568 = o_il 569 3 := rfl
theorem x146_569 : mOps 146 569 = o_ic 570 1 := rfl
theorem x146_570 : mOps 146 570 = o_ii 571 (fun x y => x + y) := rfl
theorem x146_571 : mOps 146 571 = o_ial 572 := rfl
theorem x146_572 : mOps 146 572 = o_cV 575 143 1 12 := rfl
theorem x146_575 : mOps 146 575 = o_eq 578 613 := rfl
theorem x146_578 : mOps 146 578 = o_ic 579 0 := rfl
theorem x146_579 : mOps 146 579 = o_rz := rfl
theorem x146_580 : mOps 146 580 = o_al 581 1 := rfl
theorem x146_581 : mOps 146 581 = o_al 582 0 := rfl
theorem x146_582 : mOps 146 582 = o_il 583 3 := rfl
theorem x146_583 : mOps 146 583 = o_ic 584 1 := rfl
theorem x146_584 : mOps 146 584 = o_ii 585 (fun x y => x + y) := rfl
theorem x146_585 : mOps 146 585 = o_ial 586 := rfl
theorem x146_586 : mOps 146 586 = o_al 587 0 := rfl
theorem x146_587 : mOps 146 587 = o_il 588 3 := rfl
theorem x146_588 : mOps 146 588 = o_ic 589 2 := rfl
theorem x146_589 : mOps 146 589 = o_ii 590 (fun x y => x + y) := rfl
theorem x146_590 : mOps 146 590 = o_ial 591 := rfl
theorem x146_591 : mOps 146 591 = o_cV 594 90 2 11 := rfl
theorem x146_594 : mOps 146 594 = o_al 595 2 := rfl
theorem x146_595 : mOps 146 595 = o_al 596 0 := rfl
theorem x146_596 : mOps 146 596 = o_il 597 3 := rfl
theorem x146_597 : mOps 146 597 = o_ic 598 1 := rfl
theorem x146_598 : mOps 146 598 = o_ii 599 (fun x y => x + y) := rfl
theorem x146_599 : mOps 146 599 = o_ial 600 := rfl
theorem x146_600 : mOps 146 600 = o_al 601 0 := rfl
theorem x146_601 : mOps 146 601 = o_il 602 3 := rfl
theorem x146_602 : mOps 146 602 = o_ic 603 2 := rfl
theorem x146_603 : mOps 146 603 = o_ii 604 (fun x y => x + y) := rfl
theorem x146_604 : mOps 146 604 = o_ial 605 := rfl
theorem x146_605 : mOps 146 605 = o_cV 608 144 2 12 := rfl
theorem x146_608 : mOps 146 608 = o_eq 611 613 := rfl
theorem x146_611 : mOps 146 611 = o_ic 612 0 := rfl
theorem x146_612 : mOps 146 612 = o_rz := rfl
theorem x146_613 : mOps 146 613 = o_inc 616 3 5 := rfl
theorem x146_616 : mOps 146 616 = o_back 38 [] := rfl
theorem x146_619 : mOps 146 619 = o_ic 620 1 := rfl
theorem x146_620 : mOps 146 620 = o_rz := rfl
