theorem d_Lm_init_0 : decode b_Lm_init 0 = .ok (.aload_n 0, 1) := by decide +kernel
theorem d_Lm_init_1 : decode b_Lm_init 1 = .ok (.invokespecial 1, 3) := by decide +kernel
theorem d_Lm_init_4 : decode b_Lm_init 4 = .ok (.aload_n 0, 1) := by decide +kernel
theorem d_Lm_init_5 : decode b_Lm_init 5 = .ok (.iconst 5, 1) := by decide +kernel
theorem d_Lm_init_6 : decode b_Lm_init 6 = .ok (.newarray .int, 2) := by decide +kernel
theorem d_Lm_init_8 : decode b_Lm_init 8 = .ok (.putfield 7, 3) := by decide +kernel
theorem d_Lm_init_11 : decode b_Lm_init 11 = .ok (.aload_n 0, 1) := by decide +kernel
theorem d_Lm_init_12 : decode b_Lm_init 12 = .ok (.bipush 40, 2) := by decide +kernel
theorem d_Lm_init_14 : decode b_Lm_init 14 = .ok (.newarray .boolean, 2) := by decide +kernel
theorem d_Lm_init_16 : decode b_Lm_init 16 = .ok (.putfield 13, 3) := by decide +kernel
theorem d_Lm_init_19 : decode b_Lm_init 19 = .ok (.aload_n 0, 1) := by decide +kernel
theorem d_Lm_init_20 : decode b_Lm_init 20 = .ok (.bipush 40, 2) := by decide +kernel
theorem d_Lm_init_22 : decode b_Lm_init 22 = .ok (.newarray .int, 2) := by decide +kernel
theorem d_Lm_init_24 : decode b_Lm_init 24 = .ok (.putfield 17, 3) := by decide +kernel
theorem d_Lm_init_27 : decode b_Lm_init 27 = .ok (.aload_n 0, 1) := by decide +kernel
theorem d_Lm_init_28 : decode b_Lm_init 28 = .ok (.bipush 40, 2) := by decide +kernel
theorem d_Lm_init_30 : decode b_Lm_init 30 = .ok (.newarray .int, 2) := by decide +kernel
theorem d_Lm_init_32 : decode b_Lm_init 32 = .ok (.putfield 20, 3) := by decide +kernel
theorem d_Lm_init_35 : decode b_Lm_init 35 = .ok (.aload_n 0, 1) := by decide +kernel
theorem d_Lm_init_36 : decode b_Lm_init 36 = .ok (.bipush 40, 2) := by decide +kernel
theorem d_Lm_init_38 : decode b_Lm_init 38 = .ok (.newarray .int, 2) := by decide +kernel
theorem d_Lm_init_40 : decode b_Lm_init 40 = .ok (.putfield 23, 3) := by decide +kernel
theorem d_Lm_init_43 : decode b_Lm_init 43 = .ok (.aload_n 0, 1) := by decide +kernel
theorem d_Lm_init_44 : decode b_Lm_init 44 = .ok (.bipush 40, 2) := by decide +kernel
theorem d_Lm_init_46 : decode b_Lm_init 46 = .ok (.newarray .int, 2) := by decide +kernel
theorem d_Lm_init_48 : decode b_Lm_init 48 = .ok (.putfield 26, 3) := by decide +kernel
theorem d_Lm_init_51 : decode b_Lm_init 51 = .ok (.aload_n 0, 1) := by decide +kernel
theorem d_Lm_init_52 : decode b_Lm_init 52 = .ok (.bipush 40, 2) := by decide +kernel
theorem d_Lm_init_54 : decode b_Lm_init 54 = .ok (.newarray .int, 2) := by decide +kernel
theorem d_Lm_init_56 : decode b_Lm_init 56 = .ok (.putfield 29, 3) := by decide +kernel
theorem d_Lm_init_59 : decode b_Lm_init 59 = .ok (.aload_n 0, 1) := by decide +kernel
theorem d_Lm_init_60 : decode b_Lm_init 60 = .ok (.bipush 40, 2) := by decide +kernel
theorem d_Lm_init_62 : decode b_Lm_init 62 = .ok (.newarray .int, 2) := by decide +kernel
theorem d_Lm_init_64 : decode b_Lm_init 64 = .ok (.putfield 32, 3) := by decide +kernel
theorem d_Lm_init_67 : decode b_Lm_init 67 = .ok (.aload_n 0, 1) := by decide +kernel
theorem d_Lm_init_68 : decode b_Lm_init 68 = .ok (.bipush 40, 2) := by decide +kernel
theorem d_Lm_init_70 : decode b_Lm_init 70 = .ok (.newarray .int, 2) := by decide +kernel
theorem d_Lm_init_72 : decode b_Lm_init 72 = .ok (.putfield 35, 3) := by decide +kernel
theorem d_Lm_init_75 : decode b_Lm_init 75 = .ok (.aload_n 0, 1) := by decide +kernel
theorem d_Lm_init_76 : decode b_Lm_init 76 = .ok (.bipush 40, 2) := by decide +kernel
theorem d_Lm_init_78 : decode b_Lm_init 78 = .ok (.newarray .boolean, 2) := by decide +kernel
theorem d_Lm_init_80 : decode b_Lm_init 80 = .ok (.putfield 38, 3) := by decide +kernel
theorem d_Lm_init_83 : decode b_Lm_init 83 = .ok (.aload_n 0, 1) := by decide +kernel
theorem d_Lm_init_84 : decode b_Lm_init 84 = .ok (.bipush 40, 2) := by decide +kernel
theorem d_Lm_init_86 : decode b_Lm_init 86 = .ok (.newarray .int, 2) := by decide +kernel
theorem d_Lm_init_88 : decode b_Lm_init 88 = .ok (.putfield 41, 3) := by decide +kernel
theorem d_Lm_init_91 : decode b_Lm_init 91 = .ok (.aload_n 0, 1) := by decide +kernel
theorem d_Lm_init_92 : decode b_Lm_init 92 = .ok (.bipush 31, 2) := by decide +kernel
theorem d_Lm_init_94 : decode b_Lm_init 94 = .ok (.newarray .int, 2) := by decide +kernel
theorem d_Lm_init_96 : decode b_Lm_init 96 = .ok (.putfield 44, 3) := by decide +kernel
theorem d_Lm_init_99 : decode b_Lm_init 99 = .ok (.aload_n 0, 1) := by decide +kernel
theorem d_Lm_init_100 : decode b_Lm_init 100 = .ok (.bipush 31, 2) := by decide +kernel
theorem d_Lm_init_102 : decode b_Lm_init 102 = .ok (.newarray .int, 2) := by decide +kernel
theorem d_Lm_init_104 : decode b_Lm_init 104 = .ok (.putfield 47, 3) := by decide +kernel
theorem d_Lm_init_107 : decode b_Lm_init 107 = .ok (.aload_n 0, 1) := by decide +kernel
theorem d_Lm_init_108 : decode b_Lm_init 108 = .ok (.bipush 31, 2) := by decide +kernel
theorem d_Lm_init_110 : decode b_Lm_init 110 = .ok (.newarray .int, 2) := by decide +kernel
theorem d_Lm_init_112 : decode b_Lm_init 112 = .ok (.putfield 50, 3) := by decide +kernel
theorem d_Lm_init_115 : decode b_Lm_init 115 = .ok (.aload_n 0, 1) := by decide +kernel
theorem d_Lm_init_116 : decode b_Lm_init 116 = .ok (.bipush 31, 2) := by decide +kernel
theorem d_Lm_init_118 : decode b_Lm_init 118 = .ok (.newarray .int, 2) := by decide +kernel
theorem d_Lm_init_120 : decode b_Lm_init 120 = .ok (.putfield 53, 3) := by decide +kernel
theorem d_Lm_init_123 : decode b_Lm_init 123 = .ok (.aload_n 0, 1) := by decide +kernel
theorem d_Lm_init_124 : decode b_Lm_init 124 = .ok (.bipush 31, 2) := by decide +kernel
theorem d_Lm_init_126 : decode b_Lm_init 126 = .ok (.newarray .int, 2) := by decide +kernel
theorem d_Lm_init_128 : decode b_Lm_init 128 = .ok (.putfield 56, 3) := by decide +kernel
theorem d_Lm_init_131 : decode b_Lm_init 131 = .ok (.aload_n 0, 1) := by decide +kernel
theorem d_Lm_init_132 : decode b_Lm_init 132 = .ok (.bipush 124, 2) := by decide +kernel
theorem d_Lm_init_134 : decode b_Lm_init 134 = .ok (.newarray .int, 2) := by decide +kernel
theorem d_Lm_init_136 : decode b_Lm_init 136 = .ok (.putfield 59, 3) := by decide +kernel
theorem d_Lm_init_139 : decode b_Lm_init 139 = .ok (.aload_n 0, 1) := by decide +kernel
theorem d_Lm_init_140 : decode b_Lm_init 140 = .ok (.bipush 124, 2) := by decide +kernel
theorem d_Lm_init_142 : decode b_Lm_init 142 = .ok (.newarray .int, 2) := by decide +kernel
theorem d_Lm_init_144 : decode b_Lm_init 144 = .ok (.putfield 62, 3) := by decide +kernel
theorem d_Lm_init_147 : decode b_Lm_init 147 = .ok (.aload_n 0, 1) := by decide +kernel
theorem d_Lm_init_148 : decode b_Lm_init 148 = .ok (.bipush 124, 2) := by decide +kernel
theorem d_Lm_init_150 : decode b_Lm_init 150 = .ok (.newarray .int, 2) := by decide +kernel
theorem d_Lm_init_152 : decode b_Lm_init 152 = .ok (.putfield 65, 3) := by decide +kernel
theorem d_Lm_init_155 : decode b_Lm_init 155 = .ok (.aload_n 0, 1) := by decide +kernel
theorem d_Lm_init_156 : decode b_Lm_init 156 = .ok (.bipush 41, 2) := by decide +kernel
theorem d_Lm_init_158 : decode b_Lm_init 158 = .ok (.newarray .int, 2) := by decide +kernel
theorem d_Lm_init_160 : decode b_Lm_init 160 = .ok (.putfield 68, 3) := by decide +kernel
theorem d_Lm_init_163 : decode b_Lm_init 163 = .ok (.aload_n 0, 1) := by decide +kernel
theorem d_Lm_init_164 : decode b_Lm_init 164 = .ok (.bipush 41, 2) := by decide +kernel
theorem d_Lm_init_166 : decode b_Lm_init 166 = .ok (.newarray .int, 2) := by decide +kernel
theorem d_Lm_init_168 : decode b_Lm_init 168 = .ok (.putfield 71, 3) := by decide +kernel
theorem d_Lm_init_171 : decode b_Lm_init 171 = .ok (.aload_n 0, 1) := by decide +kernel
theorem d_Lm_init_172 : decode b_Lm_init 172 = .ok (.bipush 41, 2) := by decide +kernel
theorem d_Lm_init_174 : decode b_Lm_init 174 = .ok (.newarray .int, 2) := by decide +kernel
theorem d_Lm_init_176 : decode b_Lm_init 176 = .ok (.putfield 74, 3) := by decide +kernel
theorem d_Lm_init_179 : decode b_Lm_init 179 = .ok (.iconst 0, 1) := by decide +kernel
theorem d_Lm_init_180 : decode b_Lm_init 180 = .ok (.istore_n 1, 1) := by decide +kernel
theorem d_Lm_init_181 : decode b_Lm_init 181 = .ok (.iload_n 1, 1) := by decide +kernel
theorem d_Lm_init_182 : decode b_Lm_init 182 = .ok (.iconst 5, 1) := by decide +kernel
theorem d_Lm_init_183 : decode b_Lm_init 183 = .ok (.if_icmp .ge 16, 3) := by decide +kernel
theorem d_Lm_init_186 : decode b_Lm_init 186 = .ok (.aload_n 0, 1) := by decide +kernel
theorem d_Lm_init_187 : decode b_Lm_init 187 = .ok (.getfield 7, 3) := by decide +kernel
theorem d_Lm_init_190 : decode b_Lm_init 190 = .ok (.iload_n 1, 1) := by decide +kernel
theorem d_Lm_init_191 : decode b_Lm_init 191 = .ok (.iconst (-1), 1) := by decide +kernel
theorem d_Lm_init_192 : decode b_Lm_init 192 = .ok (.iastore, 1) := by decide +kernel
theorem d_Lm_init_193 : decode b_Lm_init 193 = .ok (.iinc 1 1, 3) := by decide +kernel
theorem d_Lm_init_196 : decode b_Lm_init 196 = .ok (.goto (-15), 3) := by decide +kernel
theorem d_Lm_init_199 : decode b_Lm_init 199 = .ok (.iconst 0, 1) := by decide +kernel
theorem d_Lm_init_200 : decode b_Lm_init 200 = .ok (.istore_n 1, 1) := by decide +kernel
theorem d_Lm_init_201 : decode b_Lm_init 201 = .ok (.iload_n 1, 1) := by decide +kernel
theorem d_Lm_init_202 : decode b_Lm_init 202 = .ok (.bipush 40, 2) := by decide +kernel
theorem d_Lm_init_204 : decode b_Lm_init 204 = .ok (.if_icmp .ge 19, 3) := by decide +kernel
theorem d_Lm_init_207 : decode b_Lm_init 207 = .ok (.aload_n 0, 1) := by decide +kernel
theorem d_Lm_init_208 : decode b_Lm_init 208 = .ok (.getfield 41, 3) := by decide +kernel
theorem d_Lm_init_211 : decode b_Lm_init 211 = .ok (.iload_n 1, 1) := by decide +kernel
theorem d_Lm_init_212 : decode b_Lm_init 212 = .ok (.iload_n 1, 1) := by decide +kernel
theorem d_Lm_init_213 : decode b_Lm_init 213 = .ok (.bipush 8, 2) := by decide +kernel
theorem d_Lm_init_215 : decode b_Lm_init 215 = .ok (.idiv, 1) := by decide +kernel
theorem d_Lm_init_216 : decode b_Lm_init 216 = .ok (.iastore, 1) := by decide +kernel
theorem d_Lm_init_217 : decode b_Lm_init 217 = .ok (.iinc 1 1, 3) := by decide +kernel
theorem d_Lm_init_220 : decode b_Lm_init 220 = .ok (.goto (-19), 3) := by decide +kernel
theorem d_Lm_init_223 : decode b_Lm_init 223 = .ok (.return_, 1) := by decide +kernel
theorem d_Lm_in_0 : decode b_Lm_in 0 = .ok (.iload_n 0, 1) := by decide +kernel
theorem d_Lm_in_1 : decode b_Lm_in 1 = .ok (.iload_n 1, 1) := by decide +kernel
theorem d_Lm_in_2 : decode b_Lm_in 2 = .ok (.if_icmp .lt 12, 3) := by decide +kernel
theorem d_Lm_in_5 : decode b_Lm_in 5 = .ok (.iload_n 0, 1) := by decide +kernel
theorem d_Lm_in_6 : decode b_Lm_in 6 = .ok (.iload_n 2, 1) := by decide +kernel
theorem d_Lm_in_7 : decode b_Lm_in 7 = .ok (.if_icmp .gt 7, 3) := by decide +kernel
theorem d_Lm_in_10 : decode b_Lm_in 10 = .ok (.iconst 1, 1) := by decide +kernel
theorem d_Lm_in_11 : decode b_Lm_in 11 = .ok (.goto 4, 3) := by decide +kernel
theorem d_Lm_in_14 : decode b_Lm_in 14 = .ok (.iconst 0, 1) := by decide +kernel
theorem d_Lm_in_15 : decode b_Lm_in 15 = .ok (.ireturn, 1) := by decide +kernel
theorem d_Lm_place_0 : decode b_Lm_place 0 = .ok (.iload_n 0, 1) := by decide +kernel
theorem d_Lm_place_1 : decode b_Lm_place 1 = .ok (.iconst 0, 1) := by decide +kernel
theorem d_Lm_place_2 : decode b_Lm_place 2 = .ok (.iconst 4, 1) := by decide +kernel
theorem d_Lm_place_3 : decode b_Lm_place 3 = .ok (.invokestatic 77, 3) := by decide +kernel
theorem d_Lm_place_6 : decode b_Lm_place 6 = .ok (.ifCond .eq 17, 3) := by decide +kernel
theorem d_Lm_place_9 : decode b_Lm_place 9 = .ok (.iload_n 1, 1) := by decide +kernel
theorem d_Lm_place_10 : decode b_Lm_place 10 = .ok (.iconst 0, 1) := by decide +kernel
theorem d_Lm_place_11 : decode b_Lm_place 11 = .ok (.bipush 7, 2) := by decide +kernel
theorem d_Lm_place_13 : decode b_Lm_place 13 = .ok (.invokestatic 77, 3) := by decide +kernel
theorem d_Lm_place_16 : decode b_Lm_place 16 = .ok (.ifCond .eq 7, 3) := by decide +kernel
theorem d_Lm_place_19 : decode b_Lm_place 19 = .ok (.iconst 1, 1) := by decide +kernel
theorem d_Lm_place_20 : decode b_Lm_place 20 = .ok (.goto 4, 3) := by decide +kernel
theorem d_Lm_place_23 : decode b_Lm_place 23 = .ok (.iconst 0, 1) := by decide +kernel
theorem d_Lm_place_24 : decode b_Lm_place 24 = .ok (.ireturn, 1) := by decide +kernel
theorem d_Lm_parent_0 : decode b_Lm_parent 0 = .ok (.iload_n 1, 1) := by decide +kernel
theorem d_Lm_parent_1 : decode b_Lm_parent 1 = .ok (.iconst 1, 1) := by decide +kernel
theorem d_Lm_parent_2 : decode b_Lm_parent 2 = .ok (.iconst 4, 1) := by decide +kernel
theorem d_Lm_parent_3 : decode b_Lm_parent 3 = .ok (.invokestatic 77, 3) := by decide +kernel
theorem d_Lm_parent_6 : decode b_Lm_parent 6 = .ok (.ifCond .eq 14, 3) := by decide +kernel
theorem d_Lm_parent_9 : decode b_Lm_parent 9 = .ok (.iload_n 2, 1) := by decide +kernel
theorem d_Lm_parent_10 : decode b_Lm_parent 10 = .ok (.iconst (-1), 1) := by decide +kernel
theorem d_Lm_parent_11 : decode b_Lm_parent 11 = .ok (.iload_n 1, 1) := by decide +kernel
theorem d_Lm_parent_12 : decode b_Lm_parent 12 = .ok (.iconst 1, 1) := by decide +kernel
theorem d_Lm_parent_13 : decode b_Lm_parent 13 = .ok (.isub, 1) := by decide +kernel
theorem d_Lm_parent_14 : decode b_Lm_parent 14 = .ok (.invokestatic 77, 3) := by decide +kernel
theorem d_Lm_parent_17 : decode b_Lm_parent 17 = .ok (.ifCond .ne 5, 3) := by decide +kernel
theorem d_Lm_parent_20 : decode b_Lm_parent 20 = .ok (.iconst (-1), 1) := by decide +kernel
theorem d_Lm_parent_21 : decode b_Lm_parent 21 = .ok (.ireturn, 1) := by decide +kernel
theorem d_Lm_parent_22 : decode b_Lm_parent 22 = .ok (.aload_n 0, 1) := by decide +kernel
theorem d_Lm_parent_23 : decode b_Lm_parent 23 = .ok (.getfield 7, 3) := by decide +kernel
theorem d_Lm_parent_26 : decode b_Lm_parent 26 = .ok (.iload_n 1, 1) := by decide +kernel
theorem d_Lm_parent_27 : decode b_Lm_parent 27 = .ok (.iload_n 2, 1) := by decide +kernel
theorem d_Lm_parent_28 : decode b_Lm_parent 28 = .ok (.iastore, 1) := by decide +kernel
theorem d_Lm_parent_29 : decode b_Lm_parent 29 = .ok (.iconst 0, 1) := by decide +kernel
theorem d_Lm_parent_30 : decode b_Lm_parent 30 = .ok (.ireturn, 1) := by decide +kernel
theorem d_Lm_file_0 : decode b_Lm_file 0 = .ok (.iload_n 1, 1) := by decide +kernel
theorem d_Lm_file_1 : decode b_Lm_file 1 = .ok (.iload_n 2, 1) := by decide +kernel
theorem d_Lm_file_2 : decode b_Lm_file 2 = .ok (.invokestatic 81, 3) := by decide +kernel
theorem d_Lm_file_5 : decode b_Lm_file 5 = .ok (.ifCond .eq 34, 3) := by decide +kernel
theorem d_Lm_file_8 : decode b_Lm_file 8 = .ok (.iload_n 3, 1) := by decide +kernel
theorem d_Lm_file_9 : decode b_Lm_file 9 = .ok (.iconst 0, 1) := by decide +kernel
theorem d_Lm_file_10 : decode b_Lm_file 10 = .ok (.sipush 728, 3) := by decide +kernel
theorem d_Lm_file_13 : decode b_Lm_file 13 = .ok (.invokestatic 77, 3) := by decide +kernel
theorem d_Lm_file_16 : decode b_Lm_file 16 = .ok (.ifCond .eq 23, 3) := by decide +kernel
theorem d_Lm_file_19 : decode b_Lm_file 19 = .ok (.iload_n 3, 1) := by decide +kernel
theorem d_Lm_file_20 : decode b_Lm_file 20 = .ok (.bipush 9, 2) := by decide +kernel
theorem d_Lm_file_22 : decode b_Lm_file 22 = .ok (.irem, 1) := by decide +kernel
theorem d_Lm_file_23 : decode b_Lm_file 23 = .ok (.bipush 8, 2) := by decide +kernel
theorem d_Lm_file_25 : decode b_Lm_file 25 = .ok (.if_icmp .eq 14, 3) := by decide +kernel
theorem d_Lm_file_28 : decode b_Lm_file 28 = .ok (.iload 4, 2) := by decide +kernel
theorem d_Lm_file_30 : decode b_Lm_file 30 = .ok (.iconst 0, 1) := by decide +kernel
theorem d_Lm_file_31 : decode b_Lm_file 31 = .ok (.bipush 7, 2) := by decide +kernel
theorem d_Lm_file_33 : decode b_Lm_file 33 = .ok (.invokestatic 77, 3) := by decide +kernel
theorem d_Lm_file_36 : decode b_Lm_file 36 = .ok (.ifCond .ne 5, 3) := by decide +kernel
theorem d_Lm_file_39 : decode b_Lm_file 39 = .ok (.iconst (-1), 1) := by decide +kernel
theorem d_Lm_file_40 : decode b_Lm_file 40 = .ok (.ireturn, 1) := by decide +kernel
theorem d_Lm_file_41 : decode b_Lm_file 41 = .ok (.bipush 8, 2) := by decide +kernel
theorem d_Lm_file_43 : decode b_Lm_file 43 = .ok (.iload_n 1, 1) := by decide +kernel
theorem d_Lm_file_44 : decode b_Lm_file 44 = .ok (.imul, 1) := by decide +kernel
theorem d_Lm_file_45 : decode b_Lm_file 45 = .ok (.iload_n 2, 1) := by decide +kernel
theorem d_Lm_file_46 : decode b_Lm_file 46 = .ok (.iadd, 1) := by decide +kernel
theorem d_Lm_file_47 : decode b_Lm_file 47 = .ok (.istore 5, 2) := by decide +kernel
theorem d_Lm_file_49 : decode b_Lm_file 49 = .ok (.aload_n 0, 1) := by decide +kernel
theorem d_Lm_file_50 : decode b_Lm_file 50 = .ok (.getfield 13, 3) := by decide +kernel
theorem d_Lm_file_53 : decode b_Lm_file 53 = .ok (.iload 5, 2) := by decide +kernel
theorem d_Lm_file_55 : decode b_Lm_file 55 = .ok (.iconst 1, 1) := by decide +kernel
theorem d_Lm_file_56 : decode b_Lm_file 56 = .ok (.bastore, 1) := by decide +kernel
theorem d_Lm_file_57 : decode b_Lm_file 57 = .ok (.aload_n 0, 1) := by decide +kernel
theorem d_Lm_file_58 : decode b_Lm_file 58 = .ok (.getfield 17, 3) := by decide +kernel
theorem d_Lm_file_61 : decode b_Lm_file 61 = .ok (.iload 5, 2) := by decide +kernel
theorem d_Lm_file_63 : decode b_Lm_file 63 = .ok (.iload_n 3, 1) := by decide +kernel
theorem d_Lm_file_64 : decode b_Lm_file 64 = .ok (.bipush 9, 2) := by decide +kernel
theorem d_Lm_file_66 : decode b_Lm_file 66 = .ok (.irem, 1) := by decide +kernel
theorem d_Lm_file_67 : decode b_Lm_file 67 = .ok (.iastore, 1) := by decide +kernel
theorem d_Lm_file_68 : decode b_Lm_file 68 = .ok (.aload_n 0, 1) := by decide +kernel
theorem d_Lm_file_69 : decode b_Lm_file 69 = .ok (.getfield 20, 3) := by decide +kernel
theorem d_Lm_file_72 : decode b_Lm_file 72 = .ok (.iload 5, 2) := by decide +kernel
theorem d_Lm_file_74 : decode b_Lm_file 74 = .ok (.iload_n 3, 1) := by decide +kernel
theorem d_Lm_file_75 : decode b_Lm_file 75 = .ok (.bipush 9, 2) := by decide +kernel
theorem d_Lm_file_77 : decode b_Lm_file 77 = .ok (.idiv, 1) := by decide +kernel
theorem d_Lm_file_78 : decode b_Lm_file 78 = .ok (.bipush 9, 2) := by decide +kernel
theorem d_Lm_file_80 : decode b_Lm_file 80 = .ok (.irem, 1) := by decide +kernel
theorem d_Lm_file_81 : decode b_Lm_file 81 = .ok (.iastore, 1) := by decide +kernel
theorem d_Lm_file_82 : decode b_Lm_file 82 = .ok (.aload_n 0, 1) := by decide +kernel
theorem d_Lm_file_83 : decode b_Lm_file 83 = .ok (.getfield 23, 3) := by decide +kernel
theorem d_Lm_file_86 : decode b_Lm_file 86 = .ok (.iload 5, 2) := by decide +kernel
theorem d_Lm_file_88 : decode b_Lm_file 88 = .ok (.iload_n 3, 1) := by decide +kernel
theorem d_Lm_file_89 : decode b_Lm_file 89 = .ok (.bipush 81, 2) := by decide +kernel
theorem d_Lm_file_91 : decode b_Lm_file 91 = .ok (.idiv, 1) := by decide +kernel
theorem d_Lm_file_92 : decode b_Lm_file 92 = .ok (.iastore, 1) := by decide +kernel
theorem d_Lm_file_93 : decode b_Lm_file 93 = .ok (.aload_n 0, 1) := by decide +kernel
theorem d_Lm_file_94 : decode b_Lm_file 94 = .ok (.getfield 26, 3) := by decide +kernel
theorem d_Lm_file_97 : decode b_Lm_file 97 = .ok (.iload 5, 2) := by decide +kernel
theorem d_Lm_file_99 : decode b_Lm_file 99 = .ok (.iload 4, 2) := by decide +kernel
theorem d_Lm_file_101 : decode b_Lm_file 101 = .ok (.iastore, 1) := by decide +kernel
theorem d_Lm_file_102 : decode b_Lm_file 102 = .ok (.iconst 0, 1) := by decide +kernel
theorem d_Lm_file_103 : decode b_Lm_file 103 = .ok (.ireturn, 1) := by decide +kernel
theorem d_Lm_noFile_0 : decode b_Lm_noFile 0 = .ok (.iload_n 1, 1) := by decide +kernel
theorem d_Lm_noFile_1 : decode b_Lm_noFile 1 = .ok (.iload_n 2, 1) := by decide +kernel
theorem d_Lm_noFile_2 : decode b_Lm_noFile 2 = .ok (.invokestatic 81, 3) := by decide +kernel
theorem d_Lm_noFile_5 : decode b_Lm_noFile 5 = .ok (.ifCond .eq 17, 3) := by decide +kernel
theorem d_Lm_noFile_8 : decode b_Lm_noFile 8 = .ok (.aload_n 0, 1) := by decide +kernel
theorem d_Lm_noFile_9 : decode b_Lm_noFile 9 = .ok (.getfield 13, 3) := by decide +kernel
theorem d_Lm_noFile_12 : decode b_Lm_noFile 12 = .ok (.bipush 8, 2) := by decide +kernel
theorem d_Lm_noFile_14 : decode b_Lm_noFile 14 = .ok (.iload_n 1, 1) := by decide +kernel
theorem d_Lm_noFile_15 : decode b_Lm_noFile 15 = .ok (.imul, 1) := by decide +kernel
theorem d_Lm_noFile_16 : decode b_Lm_noFile 16 = .ok (.iload_n 2, 1) := by decide +kernel
theorem d_Lm_noFile_17 : decode b_Lm_noFile 17 = .ok (.iadd, 1) := by decide +kernel
theorem d_Lm_noFile_18 : decode b_Lm_noFile 18 = .ok (.baload, 1) := by decide +kernel
theorem d_Lm_noFile_19 : decode b_Lm_noFile 19 = .ok (.ifCond .ne 5, 3) := by decide +kernel
theorem d_Lm_noFile_22 : decode b_Lm_noFile 22 = .ok (.iconst (-1), 1) := by decide +kernel
theorem d_Lm_noFile_23 : decode b_Lm_noFile 23 = .ok (.ireturn, 1) := by decide +kernel
theorem d_Lm_noFile_24 : decode b_Lm_noFile 24 = .ok (.aload_n 0, 1) := by decide +kernel
theorem d_Lm_noFile_25 : decode b_Lm_noFile 25 = .ok (.getfield 13, 3) := by decide +kernel
theorem d_Lm_noFile_28 : decode b_Lm_noFile 28 = .ok (.bipush 8, 2) := by decide +kernel
theorem d_Lm_noFile_30 : decode b_Lm_noFile 30 = .ok (.iload_n 1, 1) := by decide +kernel
theorem d_Lm_noFile_31 : decode b_Lm_noFile 31 = .ok (.imul, 1) := by decide +kernel
theorem d_Lm_noFile_32 : decode b_Lm_noFile 32 = .ok (.iload_n 2, 1) := by decide +kernel
theorem d_Lm_noFile_33 : decode b_Lm_noFile 33 = .ok (.iadd, 1) := by decide +kernel
theorem d_Lm_noFile_34 : decode b_Lm_noFile 34 = .ok (.iconst 0, 1) := by decide +kernel
theorem d_Lm_noFile_35 : decode b_Lm_noFile 35 = .ok (.bastore, 1) := by decide +kernel
theorem d_Lm_noFile_36 : decode b_Lm_noFile 36 = .ok (.iconst 0, 1) := by decide +kernel
theorem d_Lm_noFile_37 : decode b_Lm_noFile 37 = .ok (.ireturn, 1) := by decide +kernel
theorem d_Lm_script_0 : decode b_Lm_script 0 = .ok (.iload_n 1, 1) := by decide +kernel
theorem d_Lm_script_1 : decode b_Lm_script 1 = .ok (.iload_n 2, 1) := by decide +kernel
theorem d_Lm_script_2 : decode b_Lm_script 2 = .ok (.invokestatic 81, 3) := by decide +kernel
theorem d_Lm_script_5 : decode b_Lm_script 5 = .ok (.ifCond .eq 50, 3) := by decide +kernel
theorem d_Lm_script_8 : decode b_Lm_script 8 = .ok (.iload_n 3, 1) := by decide +kernel
theorem d_Lm_script_9 : decode b_Lm_script 9 = .ok (.iconst 0, 1) := by decide +kernel
theorem d_Lm_script_10 : decode b_Lm_script 10 = .ok (.bipush 6, 2) := by decide +kernel
theorem d_Lm_script_12 : decode b_Lm_script 12 = .ok (.invokestatic 77, 3) := by decide +kernel
theorem d_Lm_script_15 : decode b_Lm_script 15 = .ok (.ifCond .eq 40, 3) := by decide +kernel
theorem d_Lm_script_18 : decode b_Lm_script 18 = .ok (.iload_n 3, 1) := by decide +kernel
theorem d_Lm_script_19 : decode b_Lm_script 19 = .ok (.iconst 2, 1) := by decide +kernel
theorem d_Lm_script_20 : decode b_Lm_script 20 = .ok (.if_icmp .ne 13, 3) := by decide +kernel
theorem d_Lm_script_23 : decode b_Lm_script 23 = .ok (.iload 4, 2) := by decide +kernel
theorem d_Lm_script_25 : decode b_Lm_script 25 = .ok (.iconst 0, 1) := by decide +kernel
theorem d_Lm_script_26 : decode b_Lm_script 26 = .ok (.iconst 4, 1) := by decide +kernel
theorem d_Lm_script_27 : decode b_Lm_script 27 = .ok (.invokestatic 77, 3) := by decide +kernel
theorem d_Lm_script_30 : decode b_Lm_script 30 = .ok (.ifCond .eq 25, 3) := by decide +kernel
theorem d_Lm_script_33 : decode b_Lm_script 33 = .ok (.iload_n 3, 1) := by decide +kernel
theorem d_Lm_script_34 : decode b_Lm_script 34 = .ok (.iconst 3, 1) := by decide +kernel
theorem d_Lm_script_35 : decode b_Lm_script 35 = .ok (.if_icmp .eq 9, 3) := by decide +kernel
theorem d_Lm_script_38 : decode b_Lm_script 38 = .ok (.iload_n 3, 1) := by decide +kernel
theorem d_Lm_script_39 : decode b_Lm_script 39 = .ok (.bipush 6, 2) := by decide +kernel
theorem d_Lm_script_41 : decode b_Lm_script 41 = .ok (.if_icmp .ne 16, 3) := by decide +kernel
theorem d_Lm_script_44 : decode b_Lm_script 44 = .ok (.iload 4, 2) := by decide +kernel
theorem d_Lm_script_46 : decode b_Lm_script 46 = .ok (.iconst 0, 1) := by decide +kernel
theorem d_Lm_script_47 : decode b_Lm_script 47 = .ok (.bipush 7, 2) := by decide +kernel
theorem d_Lm_script_49 : decode b_Lm_script 49 = .ok (.invokestatic 77, 3) := by decide +kernel
theorem d_Lm_script_52 : decode b_Lm_script 52 = .ok (.ifCond .ne 5, 3) := by decide +kernel
theorem d_Lm_script_55 : decode b_Lm_script 55 = .ok (.iconst (-1), 1) := by decide +kernel
theorem d_Lm_script_56 : decode b_Lm_script 56 = .ok (.ireturn, 1) := by decide +kernel
theorem d_Lm_script_57 : decode b_Lm_script 57 = .ok (.aload_n 0, 1) := by decide +kernel
theorem d_Lm_script_58 : decode b_Lm_script 58 = .ok (.getfield 29, 3) := by decide +kernel
theorem d_Lm_script_61 : decode b_Lm_script 61 = .ok (.bipush 8, 2) := by decide +kernel
theorem d_Lm_script_63 : decode b_Lm_script 63 = .ok (.iload_n 1, 1) := by decide +kernel
theorem d_Lm_script_64 : decode b_Lm_script 64 = .ok (.imul, 1) := by decide +kernel
theorem d_Lm_script_65 : decode b_Lm_script 65 = .ok (.iload_n 2, 1) := by decide +kernel
theorem d_Lm_script_66 : decode b_Lm_script 66 = .ok (.iadd, 1) := by decide +kernel
theorem d_Lm_script_67 : decode b_Lm_script 67 = .ok (.iload_n 3, 1) := by decide +kernel
theorem d_Lm_script_68 : decode b_Lm_script 68 = .ok (.iastore, 1) := by decide +kernel
theorem d_Lm_script_69 : decode b_Lm_script 69 = .ok (.aload_n 0, 1) := by decide +kernel
theorem d_Lm_script_70 : decode b_Lm_script 70 = .ok (.getfield 32, 3) := by decide +kernel
theorem d_Lm_script_73 : decode b_Lm_script 73 = .ok (.bipush 8, 2) := by decide +kernel
theorem d_Lm_script_75 : decode b_Lm_script 75 = .ok (.iload_n 1, 1) := by decide +kernel
theorem d_Lm_script_76 : decode b_Lm_script 76 = .ok (.imul, 1) := by decide +kernel
theorem d_Lm_script_77 : decode b_Lm_script 77 = .ok (.iload_n 2, 1) := by decide +kernel
theorem d_Lm_script_78 : decode b_Lm_script 78 = .ok (.iadd, 1) := by decide +kernel
theorem d_Lm_script_79 : decode b_Lm_script 79 = .ok (.iload 4, 2) := by decide +kernel
theorem d_Lm_script_81 : decode b_Lm_script 81 = .ok (.iastore, 1) := by decide +kernel
theorem d_Lm_script_82 : decode b_Lm_script 82 = .ok (.iconst 0, 1) := by decide +kernel
theorem d_Lm_script_83 : decode b_Lm_script 83 = .ok (.ireturn, 1) := by decide +kernel
theorem d_Lm_come_0 : decode b_Lm_come 0 = .ok (.aload_n 0, 1) := by decide +kernel
theorem d_Lm_come_1 : decode b_Lm_come 1 = .ok (.iload_n 1, 1) := by decide +kernel
theorem d_Lm_come_2 : decode b_Lm_come 2 = .ok (.putfield 85, 3) := by decide +kernel
theorem d_Lm_come_5 : decode b_Lm_come 5 = .ok (.aload_n 0, 1) := by decide +kernel
theorem d_Lm_come_6 : decode b_Lm_come 6 = .ok (.iload_n 2, 1) := by decide +kernel
theorem d_Lm_come_7 : decode b_Lm_come 7 = .ok (.putfield 89, 3) := by decide +kernel
theorem d_Lm_come_10 : decode b_Lm_come 10 = .ok (.return_, 1) := by decide +kernel
theorem d_Lm_begin_0 : decode b_Lm_begin 0 = .ok (.bipush 8, 2) := by decide +kernel
theorem d_Lm_begin_2 : decode b_Lm_begin 2 = .ok (.iload_n 1, 1) := by decide +kernel
theorem d_Lm_begin_3 : decode b_Lm_begin 3 = .ok (.imul, 1) := by decide +kernel
theorem d_Lm_begin_4 : decode b_Lm_begin 4 = .ok (.iload_n 2, 1) := by decide +kernel
theorem d_Lm_begin_5 : decode b_Lm_begin 5 = .ok (.iadd, 1) := by decide +kernel
theorem d_Lm_begin_6 : decode b_Lm_begin 6 = .ok (.istore_n 3, 1) := by decide +kernel
theorem d_Lm_begin_7 : decode b_Lm_begin 7 = .ok (.aload_n 0, 1) := by decide +kernel
theorem d_Lm_begin_8 : decode b_Lm_begin 8 = .ok (.dup, 1) := by decide +kernel
theorem d_Lm_begin_9 : decode b_Lm_begin 9 = .ok (.getfield 92, 3) := by decide +kernel
theorem d_Lm_begin_12 : decode b_Lm_begin 12 = .ok (.iconst 1, 1) := by decide +kernel
theorem d_Lm_begin_13 : decode b_Lm_begin 13 = .ok (.iadd, 1) := by decide +kernel
theorem d_Lm_begin_14 : decode b_Lm_begin 14 = .ok (.putfield 92, 3) := by decide +kernel
theorem d_Lm_begin_17 : decode b_Lm_begin 17 = .ok (.aload_n 0, 1) := by decide +kernel
theorem d_Lm_begin_18 : decode b_Lm_begin 18 = .ok (.getfield 35, 3) := by decide +kernel
theorem d_Lm_begin_21 : decode b_Lm_begin 21 = .ok (.iload_n 3, 1) := by decide +kernel
theorem d_Lm_begin_22 : decode b_Lm_begin 22 = .ok (.iaload, 1) := by decide +kernel
theorem d_Lm_begin_23 : decode b_Lm_begin 23 = .ok (.ifCond .le 17, 3) := by decide +kernel
theorem d_Lm_begin_26 : decode b_Lm_begin 26 = .ok (.aload_n 0, 1) := by decide +kernel
theorem d_Lm_begin_27 : decode b_Lm_begin 27 = .ok (.aload_n 0, 1) := by decide +kernel
theorem d_Lm_begin_28 : decode b_Lm_begin 28 = .ok (.getfield 35, 3) := by decide +kernel
theorem d_Lm_begin_31 : decode b_Lm_begin 31 = .ok (.iload_n 3, 1) := by decide +kernel
theorem d_Lm_begin_32 : decode b_Lm_begin 32 = .ok (.iaload, 1) := by decide +kernel
theorem d_Lm_begin_33 : decode b_Lm_begin 33 = .ok (.iconst 0, 1) := by decide +kernel
theorem d_Lm_begin_34 : decode b_Lm_begin 34 = .ok (.invokevirtual 95, 3) := by decide +kernel
theorem d_Lm_begin_37 : decode b_Lm_begin 37 = .ok (.goto 74, 3) := by decide +kernel
theorem d_Lm_begin_40 : decode b_Lm_begin 40 = .ok (.aload_n 0, 1) := by decide +kernel
theorem d_Lm_begin_41 : decode b_Lm_begin 41 = .ok (.getfield 38, 3) := by decide +kernel
theorem d_Lm_begin_44 : decode b_Lm_begin 44 = .ok (.iload_n 3, 1) := by decide +kernel
theorem d_Lm_begin_45 : decode b_Lm_begin 45 = .ok (.baload, 1) := by decide +kernel
theorem d_Lm_begin_46 : decode b_Lm_begin 46 = .ok (.ifCond .eq 13, 3) := by decide +kernel
theorem d_Lm_begin_49 : decode b_Lm_begin 49 = .ok (.aload_n 0, 1) := by decide +kernel
theorem d_Lm_begin_50 : decode b_Lm_begin 50 = .ok (.bipush (-10), 2) := by decide +kernel
theorem d_Lm_begin_52 : decode b_Lm_begin 52 = .ok (.iconst 0, 1) := by decide +kernel
theorem d_Lm_begin_53 : decode b_Lm_begin 53 = .ok (.invokevirtual 95, 3) := by decide +kernel
theorem d_Lm_begin_56 : decode b_Lm_begin 56 = .ok (.goto 55, 3) := by decide +kernel
theorem d_Lm_begin_59 : decode b_Lm_begin 59 = .ok (.aload_n 0, 1) := by decide +kernel
theorem d_Lm_begin_60 : decode b_Lm_begin 60 = .ok (.getfield 38, 3) := by decide +kernel
theorem d_Lm_begin_63 : decode b_Lm_begin 63 = .ok (.iload_n 3, 1) := by decide +kernel
theorem d_Lm_begin_64 : decode b_Lm_begin 64 = .ok (.iconst 1, 1) := by decide +kernel
theorem d_Lm_begin_65 : decode b_Lm_begin 65 = .ok (.bastore, 1) := by decide +kernel
theorem d_Lm_begin_66 : decode b_Lm_begin 66 = .ok (.aload_n 0, 1) := by decide +kernel
theorem d_Lm_begin_67 : decode b_Lm_begin 67 = .ok (.getfield 68, 3) := by decide +kernel
theorem d_Lm_begin_70 : decode b_Lm_begin 70 = .ok (.aload_n 0, 1) := by decide +kernel
theorem d_Lm_begin_71 : decode b_Lm_begin 71 = .ok (.getfield 99, 3) := by decide +kernel
theorem d_Lm_begin_74 : decode b_Lm_begin 74 = .ok (.iload_n 3, 1) := by decide +kernel
theorem d_Lm_begin_75 : decode b_Lm_begin 75 = .ok (.iastore, 1) := by decide +kernel
theorem d_Lm_begin_76 : decode b_Lm_begin 76 = .ok (.aload_n 0, 1) := by decide +kernel
theorem d_Lm_begin_77 : decode b_Lm_begin 77 = .ok (.getfield 71, 3) := by decide +kernel
theorem d_Lm_begin_80 : decode b_Lm_begin 80 = .ok (.aload_n 0, 1) := by decide +kernel
theorem d_Lm_begin_81 : decode b_Lm_begin 81 = .ok (.getfield 99, 3) := by decide +kernel
theorem d_Lm_begin_84 : decode b_Lm_begin 84 = .ok (.iconst 0, 1) := by decide +kernel
theorem d_Lm_begin_85 : decode b_Lm_begin 85 = .ok (.iastore, 1) := by decide +kernel
theorem d_Lm_begin_86 : decode b_Lm_begin 86 = .ok (.aload_n 0, 1) := by decide +kernel
theorem d_Lm_begin_87 : decode b_Lm_begin 87 = .ok (.getfield 74, 3) := by decide +kernel
theorem d_Lm_begin_90 : decode b_Lm_begin 90 = .ok (.aload_n 0, 1) := by decide +kernel
theorem d_Lm_begin_91 : decode b_Lm_begin 91 = .ok (.getfield 99, 3) := by decide +kernel
theorem d_Lm_begin_94 : decode b_Lm_begin 94 = .ok (.iconst 0, 1) := by decide +kernel
theorem d_Lm_begin_95 : decode b_Lm_begin 95 = .ok (.iastore, 1) := by decide +kernel
theorem d_Lm_begin_96 : decode b_Lm_begin 96 = .ok (.aload_n 0, 1) := by decide +kernel
theorem d_Lm_begin_97 : decode b_Lm_begin 97 = .ok (.dup, 1) := by decide +kernel
theorem d_Lm_begin_98 : decode b_Lm_begin 98 = .ok (.getfield 99, 3) := by decide +kernel
theorem d_Lm_begin_101 : decode b_Lm_begin 101 = .ok (.iconst 1, 1) := by decide +kernel
theorem d_Lm_begin_102 : decode b_Lm_begin 102 = .ok (.iadd, 1) := by decide +kernel
theorem d_Lm_begin_103 : decode b_Lm_begin 103 = .ok (.putfield 99, 3) := by decide +kernel
theorem d_Lm_begin_106 : decode b_Lm_begin 106 = .ok (.aload_n 0, 1) := by decide +kernel
theorem d_Lm_begin_107 : decode b_Lm_begin 107 = .ok (.iconst 0, 1) := by decide +kernel
theorem d_Lm_begin_108 : decode b_Lm_begin 108 = .ok (.putfield 85, 3) := by decide +kernel
theorem d_Lm_begin_111 : decode b_Lm_begin 111 = .ok (.return_, 1) := by decide +kernel
theorem d_Lm_end_0 : decode b_Lm_end 0 = .ok (.aload_n 0, 1) := by decide +kernel
theorem d_Lm_end_1 : decode b_Lm_end 1 = .ok (.dup, 1) := by decide +kernel
theorem d_Lm_end_2 : decode b_Lm_end 2 = .ok (.getfield 99, 3) := by decide +kernel
theorem d_Lm_end_5 : decode b_Lm_end 5 = .ok (.iconst 1, 1) := by decide +kernel
theorem d_Lm_end_6 : decode b_Lm_end 6 = .ok (.isub, 1) := by decide +kernel
theorem d_Lm_end_7 : decode b_Lm_end 7 = .ok (.putfield 99, 3) := by decide +kernel
theorem d_Lm_end_10 : decode b_Lm_end 10 = .ok (.aload_n 0, 1) := by decide +kernel
theorem d_Lm_end_11 : decode b_Lm_end 11 = .ok (.getfield 38, 3) := by decide +kernel
theorem d_Lm_end_14 : decode b_Lm_end 14 = .ok (.aload_n 0, 1) := by decide +kernel
theorem d_Lm_end_15 : decode b_Lm_end 15 = .ok (.getfield 68, 3) := by decide +kernel
theorem d_Lm_end_18 : decode b_Lm_end 18 = .ok (.aload_n 0, 1) := by decide +kernel
theorem d_Lm_end_19 : decode b_Lm_end 19 = .ok (.getfield 99, 3) := by decide +kernel
theorem d_Lm_end_22 : decode b_Lm_end 22 = .ok (.iaload, 1) := by decide +kernel
theorem d_Lm_end_23 : decode b_Lm_end 23 = .ok (.iconst 0, 1) := by decide +kernel
theorem d_Lm_end_24 : decode b_Lm_end 24 = .ok (.bastore, 1) := by decide +kernel
theorem d_Lm_end_25 : decode b_Lm_end 25 = .ok (.aload_n 0, 1) := by decide +kernel
theorem d_Lm_end_26 : decode b_Lm_end 26 = .ok (.iload_n 1, 1) := by decide +kernel
theorem d_Lm_end_27 : decode b_Lm_end 27 = .ok (.iload_n 2, 1) := by decide +kernel
theorem d_Lm_end_28 : decode b_Lm_end 28 = .ok (.invokevirtual 95, 3) := by decide +kernel
theorem d_Lm_end_31 : decode b_Lm_end 31 = .ok (.return_, 1) := by decide +kernel
theorem d_Lm_run_0 : decode b_Lm_run 0 = .ok (.aload_n 0, 1) := by decide +kernel
theorem d_Lm_run_1 : decode b_Lm_run 1 = .ok (.getfield 99, 3) := by decide +kernel
theorem d_Lm_run_4 : decode b_Lm_run 4 = .ok (.ifCond .le 140, 3) := by decide +kernel
theorem d_Lm_run_7 : decode b_Lm_run 7 = .ok (.aload_n 0, 1) := by decide +kernel
theorem d_Lm_run_8 : decode b_Lm_run 8 = .ok (.getfield 68, 3) := by decide +kernel
theorem d_Lm_run_11 : decode b_Lm_run 11 = .ok (.aload_n 0, 1) := by decide +kernel
theorem d_Lm_run_12 : decode b_Lm_run 12 = .ok (.getfield 99, 3) := by decide +kernel
theorem d_Lm_run_15 : decode b_Lm_run 15 = .ok (.iconst 1, 1) := by decide +kernel
theorem d_Lm_run_16 : decode b_Lm_run 16 = .ok (.isub, 1) := by decide +kernel
theorem d_Lm_run_17 : decode b_Lm_run 17 = .ok (.iaload, 1) := by decide +kernel
theorem d_Lm_run_18 : decode b_Lm_run 18 = .ok (.istore_n 1, 1) := by decide +kernel
theorem d_Lm_run_19 : decode b_Lm_run 19 = .ok (.aload_n 0, 1) := by decide +kernel
theorem d_Lm_run_20 : decode b_Lm_run 20 = .ok (.getfield 71, 3) := by decide +kernel
theorem d_Lm_run_23 : decode b_Lm_run 23 = .ok (.aload_n 0, 1) := by decide +kernel
theorem d_Lm_run_24 : decode b_Lm_run 24 = .ok (.getfield 99, 3) := by decide +kernel
theorem d_Lm_run_27 : decode b_Lm_run 27 = .ok (.iconst 1, 1) := by decide +kernel
theorem d_Lm_run_28 : decode b_Lm_run 28 = .ok (.isub, 1) := by decide +kernel
theorem d_Lm_run_29 : decode b_Lm_run 29 = .ok (.iaload, 1) := by decide +kernel
theorem d_Lm_run_30 : decode b_Lm_run 30 = .ok (.istore_n 2, 1) := by decide +kernel
theorem d_Lm_run_31 : decode b_Lm_run 31 = .ok (.iload_n 2, 1) := by decide +kernel
theorem d_Lm_run_32 : decode b_Lm_run 32 = .ok (.ifCond .ne 11, 3) := by decide +kernel
theorem d_Lm_run_35 : decode b_Lm_run 35 = .ok (.aload_n 0, 1) := by decide +kernel
theorem d_Lm_run_36 : decode b_Lm_run 36 = .ok (.iload_n 1, 1) := by decide +kernel
theorem d_Lm_run_37 : decode b_Lm_run 37 = .ok (.invokevirtual 102, 3) := by decide +kernel
theorem d_Lm_run_40 : decode b_Lm_run 40 = .ok (.goto 101, 3) := by decide +kernel
theorem d_Lm_run_43 : decode b_Lm_run 43 = .ok (.iload_n 2, 1) := by decide +kernel
theorem d_Lm_run_44 : decode b_Lm_run 44 = .ok (.iconst 1, 1) := by decide +kernel
theorem d_Lm_run_45 : decode b_Lm_run 45 = .ok (.if_icmp .ne 10, 3) := by decide +kernel
theorem d_Lm_run_48 : decode b_Lm_run 48 = .ok (.aload_n 0, 1) := by decide +kernel
theorem d_Lm_run_49 : decode b_Lm_run 49 = .ok (.invokevirtual 106, 3) := by decide +kernel
theorem d_Lm_run_52 : decode b_Lm_run 52 = .ok (.goto 89, 3) := by decide +kernel
theorem d_Lm_run_55 : decode b_Lm_run 55 = .ok (.iload_n 2, 1) := by decide +kernel
theorem d_Lm_run_56 : decode b_Lm_run 56 = .ok (.iconst 2, 1) := by decide +kernel
theorem d_Lm_run_57 : decode b_Lm_run 57 = .ok (.if_icmp .ne 11, 3) := by decide +kernel
theorem d_Lm_run_60 : decode b_Lm_run 60 = .ok (.aload_n 0, 1) := by decide +kernel
theorem d_Lm_run_61 : decode b_Lm_run 61 = .ok (.iload_n 1, 1) := by decide +kernel
theorem d_Lm_run_62 : decode b_Lm_run 62 = .ok (.invokevirtual 109, 3) := by decide +kernel
theorem d_Lm_run_65 : decode b_Lm_run 65 = .ok (.goto 76, 3) := by decide +kernel
theorem d_Lm_run_68 : decode b_Lm_run 68 = .ok (.iload_n 2, 1) := by decide +kernel
theorem d_Lm_run_69 : decode b_Lm_run 69 = .ok (.iconst 3, 1) := by decide +kernel
theorem d_Lm_run_70 : decode b_Lm_run 70 = .ok (.if_icmp .ne 11, 3) := by decide +kernel
theorem d_Lm_run_73 : decode b_Lm_run 73 = .ok (.aload_n 0, 1) := by decide +kernel
theorem d_Lm_run_74 : decode b_Lm_run 74 = .ok (.iload_n 1, 1) := by decide +kernel
theorem d_Lm_run_75 : decode b_Lm_run 75 = .ok (.invokevirtual 112, 3) := by decide +kernel
theorem d_Lm_run_78 : decode b_Lm_run 78 = .ok (.goto 63, 3) := by decide +kernel
theorem d_Lm_run_81 : decode b_Lm_run 81 = .ok (.iload_n 2, 1) := by decide +kernel
theorem d_Lm_run_82 : decode b_Lm_run 82 = .ok (.iconst 4, 1) := by decide +kernel
theorem d_Lm_run_83 : decode b_Lm_run 83 = .ok (.if_icmp .ne 11, 3) := by decide +kernel
theorem d_Lm_run_86 : decode b_Lm_run 86 = .ok (.aload_n 0, 1) := by decide +kernel
theorem d_Lm_run_87 : decode b_Lm_run 87 = .ok (.iload_n 1, 1) := by decide +kernel
theorem d_Lm_run_88 : decode b_Lm_run 88 = .ok (.invokevirtual 115, 3) := by decide +kernel
theorem d_Lm_run_91 : decode b_Lm_run 91 = .ok (.goto 50, 3) := by decide +kernel
theorem d_Lm_run_94 : decode b_Lm_run 94 = .ok (.iload_n 2, 1) := by decide +kernel
theorem d_Lm_run_95 : decode b_Lm_run 95 = .ok (.iconst 5, 1) := by decide +kernel
theorem d_Lm_run_96 : decode b_Lm_run 96 = .ok (.if_icmp .eq 9, 3) := by decide +kernel
theorem d_Lm_run_99 : decode b_Lm_run 99 = .ok (.iload_n 2, 1) := by decide +kernel
theorem d_Lm_run_100 : decode b_Lm_run 100 = .ok (.bipush 6, 2) := by decide +kernel
theorem d_Lm_run_102 : decode b_Lm_run 102 = .ok (.if_icmp .ne 12, 3) := by decide +kernel
theorem d_Lm_run_105 : decode b_Lm_run 105 = .ok (.aload_n 0, 1) := by decide +kernel
theorem d_Lm_run_106 : decode b_Lm_run 106 = .ok (.iload_n 1, 1) := by decide +kernel
theorem d_Lm_run_107 : decode b_Lm_run 107 = .ok (.iload_n 2, 1) := by decide +kernel
theorem d_Lm_run_108 : decode b_Lm_run 108 = .ok (.invokevirtual 118, 3) := by decide +kernel
theorem d_Lm_run_111 : decode b_Lm_run 111 = .ok (.goto 30, 3) := by decide +kernel
theorem d_Lm_run_114 : decode b_Lm_run 114 = .ok (.iload_n 2, 1) := by decide +kernel
theorem d_Lm_run_115 : decode b_Lm_run 115 = .ok (.bipush 7, 2) := by decide +kernel
theorem d_Lm_run_117 : decode b_Lm_run 117 = .ok (.if_icmp .ne 19, 3) := by decide +kernel
theorem d_Lm_run_120 : decode b_Lm_run 120 = .ok (.aload_n 0, 1) := by decide +kernel
theorem d_Lm_run_121 : decode b_Lm_run 121 = .ok (.iload_n 1, 1) := by decide +kernel
theorem d_Lm_run_122 : decode b_Lm_run 122 = .ok (.aload_n 0, 1) := by decide +kernel
theorem d_Lm_run_123 : decode b_Lm_run 123 = .ok (.getfield 23, 3) := by decide +kernel
theorem d_Lm_run_126 : decode b_Lm_run 126 = .ok (.iload_n 1, 1) := by decide +kernel
theorem d_Lm_run_127 : decode b_Lm_run 127 = .ok (.iaload, 1) := by decide +kernel
theorem d_Lm_run_128 : decode b_Lm_run 128 = .ok (.bipush 6, 2) := by decide +kernel
theorem d_Lm_run_130 : decode b_Lm_run 130 = .ok (.invokevirtual 121, 3) := by decide +kernel
theorem d_Lm_run_133 : decode b_Lm_run 133 = .ok (.goto 8, 3) := by decide +kernel
theorem d_Lm_run_136 : decode b_Lm_run 136 = .ok (.aload_n 0, 1) := by decide +kernel
theorem d_Lm_run_137 : decode b_Lm_run 137 = .ok (.iload_n 1, 1) := by decide +kernel
theorem d_Lm_run_138 : decode b_Lm_run 138 = .ok (.invokevirtual 125, 3) := by decide +kernel
theorem d_Lm_run_141 : decode b_Lm_run 141 = .ok (.goto (-141), 3) := by decide +kernel
theorem d_Lm_run_144 : decode b_Lm_run 144 = .ok (.return_, 1) := by decide +kernel
theorem d_Lm_go_0 : decode b_Lm_go 0 = .ok (.aload_n 0, 1) := by decide +kernel
theorem d_Lm_go_1 : decode b_Lm_go 1 = .ok (.getfield 71, 3) := by decide +kernel
theorem d_Lm_go_4 : decode b_Lm_go 4 = .ok (.aload_n 0, 1) := by decide +kernel
theorem d_Lm_go_5 : decode b_Lm_go 5 = .ok (.getfield 99, 3) := by decide +kernel
theorem d_Lm_go_8 : decode b_Lm_go 8 = .ok (.iconst 1, 1) := by decide +kernel
theorem d_Lm_go_9 : decode b_Lm_go 9 = .ok (.isub, 1) := by decide +kernel
theorem d_Lm_go_10 : decode b_Lm_go 10 = .ok (.iload_n 1, 1) := by decide +kernel
theorem d_Lm_go_11 : decode b_Lm_go 11 = .ok (.iastore, 1) := by decide +kernel
theorem d_Lm_go_12 : decode b_Lm_go 12 = .ok (.return_, 1) := by decide +kernel
theorem d_Lm_start_0 : decode b_Lm_start 0 = .ok (.iload_n 1, 1) := by decide +kernel
theorem d_Lm_start_1 : decode b_Lm_start 1 = .ok (.bipush 8, 2) := by decide +kernel
theorem d_Lm_start_3 : decode b_Lm_start 3 = .ok (.idiv, 1) := by decide +kernel
theorem d_Lm_start_4 : decode b_Lm_start 4 = .ok (.istore_n 2, 1) := by decide +kernel
theorem d_Lm_start_5 : decode b_Lm_start 5 = .ok (.iload_n 1, 1) := by decide +kernel
theorem d_Lm_start_6 : decode b_Lm_start 6 = .ok (.bipush 8, 2) := by decide +kernel
theorem d_Lm_start_8 : decode b_Lm_start 8 = .ok (.irem, 1) := by decide +kernel
theorem d_Lm_start_9 : decode b_Lm_start 9 = .ok (.istore_n 3, 1) := by decide +kernel
theorem d_Lm_start_10 : decode b_Lm_start 10 = .ok (.aload_n 0, 1) := by decide +kernel
theorem d_Lm_start_11 : decode b_Lm_start 11 = .ok (.getfield 29, 3) := by decide +kernel
theorem d_Lm_start_14 : decode b_Lm_start 14 = .ok (.iload_n 1, 1) := by decide +kernel
theorem d_Lm_start_15 : decode b_Lm_start 15 = .ok (.iaload, 1) := by decide +kernel
theorem d_Lm_start_16 : decode b_Lm_start 16 = .ok (.tableswitch 150 0 5 #[40, 49, 100, 115, 130, 140], 40) := by decide +kernel
theorem d_Lm_start_56 : decode b_Lm_start 56 = .ok (.aload_n 0, 1) := by decide +kernel
theorem d_Lm_start_57 : decode b_Lm_start 57 = .ok (.iload_n 2, 1) := by decide +kernel
theorem d_Lm_start_58 : decode b_Lm_start 58 = .ok (.iload_n 3, 1) := by decide +kernel
theorem d_Lm_start_59 : decode b_Lm_start 59 = .ok (.invokevirtual 128, 3) := by decide +kernel
theorem d_Lm_start_62 : decode b_Lm_start 62 = .ok (.goto 116, 3) := by decide +kernel
theorem d_Lm_start_65 : decode b_Lm_start 65 = .ok (.aload_n 0, 1) := by decide +kernel
theorem d_Lm_start_66 : decode b_Lm_start 66 = .ok (.getfield 13, 3) := by decide +kernel
theorem d_Lm_start_69 : decode b_Lm_start 69 = .ok (.iload_n 1, 1) := by decide +kernel
theorem d_Lm_start_70 : decode b_Lm_start 70 = .ok (.baload, 1) := by decide +kernel
theorem d_Lm_start_71 : decode b_Lm_start 71 = .ok (.ifCond .eq 11, 3) := by decide +kernel
theorem d_Lm_start_74 : decode b_Lm_start 74 = .ok (.aload_n 0, 1) := by decide +kernel
theorem d_Lm_start_75 : decode b_Lm_start 75 = .ok (.iconst 4, 1) := by decide +kernel
theorem d_Lm_start_76 : decode b_Lm_start 76 = .ok (.invokevirtual 131, 3) := by decide +kernel
theorem d_Lm_start_79 : decode b_Lm_start 79 = .ok (.goto 99, 3) := by decide +kernel
theorem d_Lm_start_82 : decode b_Lm_start 82 = .ok (.aload_n 0, 1) := by decide +kernel
theorem d_Lm_start_83 : decode b_Lm_start 83 = .ok (.getfield 7, 3) := by decide +kernel
theorem d_Lm_start_86 : decode b_Lm_start 86 = .ok (.iload_n 2, 1) := by decide +kernel
theorem d_Lm_start_87 : decode b_Lm_start 87 = .ok (.iaload, 1) := by decide +kernel
theorem d_Lm_start_88 : decode b_Lm_start 88 = .ok (.ifCond .ge 13, 3) := by decide +kernel
theorem d_Lm_start_91 : decode b_Lm_start 91 = .ok (.aload_n 0, 1) := by decide +kernel
theorem d_Lm_start_92 : decode b_Lm_start 92 = .ok (.bipush (-3), 2) := by decide +kernel
theorem d_Lm_start_94 : decode b_Lm_start 94 = .ok (.iconst 0, 1) := by decide +kernel
theorem d_Lm_start_95 : decode b_Lm_start 95 = .ok (.invokevirtual 134, 3) := by decide +kernel
theorem d_Lm_start_98 : decode b_Lm_start 98 = .ok (.goto 80, 3) := by decide +kernel
theorem d_Lm_start_101 : decode b_Lm_start 101 = .ok (.aload_n 0, 1) := by decide +kernel
theorem d_Lm_start_102 : decode b_Lm_start 102 = .ok (.aload_n 0, 1) := by decide +kernel
theorem d_Lm_start_103 : decode b_Lm_start 103 = .ok (.getfield 7, 3) := by decide +kernel
theorem d_Lm_start_106 : decode b_Lm_start 106 = .ok (.iload_n 2, 1) := by decide +kernel
theorem d_Lm_start_107 : decode b_Lm_start 107 = .ok (.iaload, 1) := by decide +kernel
theorem d_Lm_start_108 : decode b_Lm_start 108 = .ok (.iload_n 3, 1) := by decide +kernel
theorem d_Lm_start_109 : decode b_Lm_start 109 = .ok (.iconst 2, 1) := by decide +kernel
theorem d_Lm_start_110 : decode b_Lm_start 110 = .ok (.invokevirtual 137, 3) := by decide +kernel
theorem d_Lm_start_113 : decode b_Lm_start 113 = .ok (.goto 65, 3) := by decide +kernel
theorem d_Lm_start_116 : decode b_Lm_start 116 = .ok (.aload_n 0, 1) := by decide +kernel
theorem d_Lm_start_117 : decode b_Lm_start 117 = .ok (.aload_n 0, 1) := by decide +kernel
theorem d_Lm_start_118 : decode b_Lm_start 118 = .ok (.getfield 32, 3) := by decide +kernel
theorem d_Lm_start_121 : decode b_Lm_start 121 = .ok (.iload_n 1, 1) := by decide +kernel
theorem d_Lm_start_122 : decode b_Lm_start 122 = .ok (.iaload, 1) := by decide +kernel
theorem d_Lm_start_123 : decode b_Lm_start 123 = .ok (.iload_n 3, 1) := by decide +kernel
theorem d_Lm_start_124 : decode b_Lm_start 124 = .ok (.iconst 2, 1) := by decide +kernel
theorem d_Lm_start_125 : decode b_Lm_start 125 = .ok (.invokevirtual 137, 3) := by decide +kernel
theorem d_Lm_start_128 : decode b_Lm_start 128 = .ok (.goto 50, 3) := by decide +kernel
theorem d_Lm_start_131 : decode b_Lm_start 131 = .ok (.aload_n 0, 1) := by decide +kernel
theorem d_Lm_start_132 : decode b_Lm_start 132 = .ok (.iload_n 2, 1) := by decide +kernel
theorem d_Lm_start_133 : decode b_Lm_start 133 = .ok (.aload_n 0, 1) := by decide +kernel
theorem d_Lm_start_134 : decode b_Lm_start 134 = .ok (.getfield 32, 3) := by decide +kernel
theorem d_Lm_start_137 : decode b_Lm_start 137 = .ok (.iload_n 1, 1) := by decide +kernel
theorem d_Lm_start_138 : decode b_Lm_start 138 = .ok (.iaload, 1) := by decide +kernel
theorem d_Lm_start_139 : decode b_Lm_start 139 = .ok (.iconst 2, 1) := by decide +kernel
theorem d_Lm_start_140 : decode b_Lm_start 140 = .ok (.invokevirtual 137, 3) := by decide +kernel
theorem d_Lm_start_143 : decode b_Lm_start 143 = .ok (.goto 35, 3) := by decide +kernel
theorem d_Lm_start_146 : decode b_Lm_start 146 = .ok (.aload_n 0, 1) := by decide +kernel
theorem d_Lm_start_147 : decode b_Lm_start 147 = .ok (.bipush (-4), 2) := by decide +kernel
theorem d_Lm_start_149 : decode b_Lm_start 149 = .ok (.iconst 0, 1) := by decide +kernel
theorem d_Lm_start_150 : decode b_Lm_start 150 = .ok (.invokevirtual 134, 3) := by decide +kernel
theorem d_Lm_start_153 : decode b_Lm_start 153 = .ok (.goto 25, 3) := by decide +kernel
theorem d_Lm_start_156 : decode b_Lm_start 156 = .ok (.aload_n 0, 1) := by decide +kernel
theorem d_Lm_start_157 : decode b_Lm_start 157 = .ok (.bipush (-11), 2) := by decide +kernel
theorem d_Lm_start_159 : decode b_Lm_start 159 = .ok (.iconst 0, 1) := by decide +kernel
theorem d_Lm_start_160 : decode b_Lm_start 160 = .ok (.invokevirtual 134, 3) := by decide +kernel
theorem d_Lm_start_163 : decode b_Lm_start 163 = .ok (.goto 15, 3) := by decide +kernel
theorem d_Lm_start_166 : decode b_Lm_start 166 = .ok (.aload_n 0, 1) := by decide +kernel
theorem d_Lm_start_167 : decode b_Lm_start 167 = .ok (.iload_n 2, 1) := by decide +kernel
theorem d_Lm_start_168 : decode b_Lm_start 168 = .ok (.aload_n 0, 1) := by decide +kernel
theorem d_Lm_start_169 : decode b_Lm_start 169 = .ok (.getfield 32, 3) := by decide +kernel
theorem d_Lm_start_172 : decode b_Lm_start 172 = .ok (.iload_n 1, 1) := by decide +kernel
theorem d_Lm_start_173 : decode b_Lm_start 173 = .ok (.iaload, 1) := by decide +kernel
theorem d_Lm_start_174 : decode b_Lm_start 174 = .ok (.iconst 3, 1) := by decide +kernel
theorem d_Lm_start_175 : decode b_Lm_start 175 = .ok (.invokevirtual 137, 3) := by decide +kernel
theorem d_Lm_start_178 : decode b_Lm_start 178 = .ok (.return_, 1) := by decide +kernel
theorem d_Lm_ask_0 : decode b_Lm_ask 0 = .ok (.aload_n 0, 1) := by decide +kernel
theorem d_Lm_ask_1 : decode b_Lm_ask 1 = .ok (.iload_n 3, 1) := by decide +kernel
theorem d_Lm_ask_2 : decode b_Lm_ask 2 = .ok (.invokevirtual 131, 3) := by decide +kernel
theorem d_Lm_ask_5 : decode b_Lm_ask 5 = .ok (.aload_n 0, 1) := by decide +kernel
theorem d_Lm_ask_6 : decode b_Lm_ask 6 = .ok (.iload_n 1, 1) := by decide +kernel
theorem d_Lm_ask_7 : decode b_Lm_ask 7 = .ok (.iload_n 2, 1) := by decide +kernel
theorem d_Lm_ask_8 : decode b_Lm_ask 8 = .ok (.invokevirtual 140, 3) := by decide +kernel
theorem d_Lm_ask_11 : decode b_Lm_ask 11 = .ok (.return_, 1) := by decide +kernel
theorem d_Lm_toParent_0 : decode b_Lm_toParent 0 = .ok (.aload_n 0, 1) := by decide +kernel
theorem d_Lm_toParent_1 : decode b_Lm_toParent 1 = .ok (.getfield 7, 3) := by decide +kernel
theorem d_Lm_toParent_4 : decode b_Lm_toParent 4 = .ok (.iload_n 1, 1) := by decide +kernel
theorem d_Lm_toParent_5 : decode b_Lm_toParent 5 = .ok (.iaload, 1) := by decide +kernel
theorem d_Lm_toParent_6 : decode b_Lm_toParent 6 = .ok (.ifCond .ge 11, 3) := by decide +kernel
theorem d_Lm_toParent_9 : decode b_Lm_toParent 9 = .ok (.aload_n 0, 1) := by decide +kernel
theorem d_Lm_toParent_10 : decode b_Lm_toParent 10 = .ok (.iconst 4, 1) := by decide +kernel
theorem d_Lm_toParent_11 : decode b_Lm_toParent 11 = .ok (.invokevirtual 131, 3) := by decide +kernel
theorem d_Lm_toParent_14 : decode b_Lm_toParent 14 = .ok (.goto 15, 3) := by decide +kernel
theorem d_Lm_toParent_17 : decode b_Lm_toParent 17 = .ok (.aload_n 0, 1) := by decide +kernel
theorem d_Lm_toParent_18 : decode b_Lm_toParent 18 = .ok (.aload_n 0, 1) := by decide +kernel
theorem d_Lm_toParent_19 : decode b_Lm_toParent 19 = .ok (.getfield 7, 3) := by decide +kernel
theorem d_Lm_toParent_22 : decode b_Lm_toParent 22 = .ok (.iload_n 1, 1) := by decide +kernel
theorem d_Lm_toParent_23 : decode b_Lm_toParent 23 = .ok (.iaload, 1) := by decide +kernel
theorem d_Lm_toParent_24 : decode b_Lm_toParent 24 = .ok (.iload_n 2, 1) := by decide +kernel
theorem d_Lm_toParent_25 : decode b_Lm_toParent 25 = .ok (.iconst 1, 1) := by decide +kernel
theorem d_Lm_toParent_26 : decode b_Lm_toParent 26 = .ok (.invokevirtual 137, 3) := by decide +kernel
theorem d_Lm_toParent_29 : decode b_Lm_toParent 29 = .ok (.return_, 1) := by decide +kernel
theorem d_Lm_parentAnswers_0 : decode b_Lm_parentAnswers 0 = .ok (.aload_n 0, 1) := by decide +kernel
theorem d_Lm_parentAnswers_1 : decode b_Lm_parentAnswers 1 = .ok (.getfield 85, 3) := by decide +kernel
theorem d_Lm_parentAnswers_4 : decode b_Lm_parentAnswers 4 = .ok (.bipush (-3), 2) := by decide +kernel
theorem d_Lm_parentAnswers_6 : decode b_Lm_parentAnswers 6 = .ok (.if_icmp .ne 11, 3) := by decide +kernel
theorem d_Lm_parentAnswers_9 : decode b_Lm_parentAnswers 9 = .ok (.aload_n 0, 1) := by decide +kernel
theorem d_Lm_parentAnswers_10 : decode b_Lm_parentAnswers 10 = .ok (.iconst 4, 1) := by decide +kernel
theorem d_Lm_parentAnswers_11 : decode b_Lm_parentAnswers 11 = .ok (.invokevirtual 131, 3) := by decide +kernel
theorem d_Lm_parentAnswers_14 : decode b_Lm_parentAnswers 14 = .ok (.goto 8, 3) := by decide +kernel
theorem d_Lm_parentAnswers_17 : decode b_Lm_parentAnswers 17 = .ok (.aload_n 0, 1) := by decide +kernel
theorem d_Lm_parentAnswers_18 : decode b_Lm_parentAnswers 18 = .ok (.iconst 2, 1) := by decide +kernel
theorem d_Lm_parentAnswers_19 : decode b_Lm_parentAnswers 19 = .ok (.invokevirtual 131, 3) := by decide +kernel
theorem d_Lm_parentAnswers_22 : decode b_Lm_parentAnswers 22 = .ok (.return_, 1) := by decide +kernel
theorem d_Lm_unused_0 : decode b_Lm_unused 0 = .ok (.aload_n 0, 1) := by decide +kernel
theorem d_Lm_unused_1 : decode b_Lm_unused 1 = .ok (.getfield 85, 3) := by decide +kernel
theorem d_Lm_unused_4 : decode b_Lm_unused 4 = .ok (.ifCond .ge 18, 3) := by decide +kernel
theorem d_Lm_unused_7 : decode b_Lm_unused 7 = .ok (.aload_n 0, 1) := by decide +kernel
theorem d_Lm_unused_8 : decode b_Lm_unused 8 = .ok (.aload_n 0, 1) := by decide +kernel
theorem d_Lm_unused_9 : decode b_Lm_unused 9 = .ok (.getfield 85, 3) := by decide +kernel
theorem d_Lm_unused_12 : decode b_Lm_unused 12 = .ok (.aload_n 0, 1) := by decide +kernel
theorem d_Lm_unused_13 : decode b_Lm_unused 13 = .ok (.getfield 89, 3) := by decide +kernel
theorem d_Lm_unused_16 : decode b_Lm_unused 16 = .ok (.invokevirtual 134, 3) := by decide +kernel
theorem d_Lm_unused_19 : decode b_Lm_unused 19 = .ok (.goto 15, 3) := by decide +kernel
theorem d_Lm_unused_22 : decode b_Lm_unused 22 = .ok (.aload_n 0, 1) := by decide +kernel
theorem d_Lm_unused_23 : decode b_Lm_unused 23 = .ok (.iload_n 1, 1) := by decide +kernel
theorem d_Lm_unused_24 : decode b_Lm_unused 24 = .ok (.bipush 8, 2) := by decide +kernel
theorem d_Lm_unused_26 : decode b_Lm_unused 26 = .ok (.idiv, 1) := by decide +kernel
theorem d_Lm_unused_27 : decode b_Lm_unused 27 = .ok (.iload_n 1, 1) := by decide +kernel
theorem d_Lm_unused_28 : decode b_Lm_unused 28 = .ok (.bipush 8, 2) := by decide +kernel
theorem d_Lm_unused_30 : decode b_Lm_unused 30 = .ok (.irem, 1) := by decide +kernel
theorem d_Lm_unused_31 : decode b_Lm_unused 31 = .ok (.invokevirtual 128, 3) := by decide +kernel
theorem d_Lm_unused_34 : decode b_Lm_unused 34 = .ok (.return_, 1) := by decide +kernel
theorem d_Lm_answered_0 : decode b_Lm_answered 0 = .ok (.aload_n 0, 1) := by decide +kernel
theorem d_Lm_answered_1 : decode b_Lm_answered 1 = .ok (.getfield 85, 3) := by decide +kernel
theorem d_Lm_answered_4 : decode b_Lm_answered 4 = .ok (.ifCond .ge 18, 3) := by decide +kernel
theorem d_Lm_answered_7 : decode b_Lm_answered 7 = .ok (.aload_n 0, 1) := by decide +kernel
theorem d_Lm_answered_8 : decode b_Lm_answered 8 = .ok (.aload_n 0, 1) := by decide +kernel
theorem d_Lm_answered_9 : decode b_Lm_answered 9 = .ok (.getfield 85, 3) := by decide +kernel
theorem d_Lm_answered_12 : decode b_Lm_answered 12 = .ok (.aload_n 0, 1) := by decide +kernel
theorem d_Lm_answered_13 : decode b_Lm_answered 13 = .ok (.getfield 89, 3) := by decide +kernel
theorem d_Lm_answered_16 : decode b_Lm_answered 16 = .ok (.invokevirtual 134, 3) := by decide +kernel
theorem d_Lm_answered_19 : decode b_Lm_answered 19 = .ok (.goto 70, 3) := by decide +kernel
theorem d_Lm_answered_22 : decode b_Lm_answered 22 = .ok (.aload_n 0, 1) := by decide +kernel
theorem d_Lm_answered_23 : decode b_Lm_answered 23 = .ok (.getfield 44, 3) := by decide +kernel
theorem d_Lm_answered_26 : decode b_Lm_answered 26 = .ok (.aload_n 0, 1) := by decide +kernel
theorem d_Lm_answered_27 : decode b_Lm_answered 27 = .ok (.getfield 85, 3) := by decide +kernel
theorem d_Lm_answered_30 : decode b_Lm_answered 30 = .ok (.iaload, 1) := by decide +kernel
theorem d_Lm_answered_31 : decode b_Lm_answered 31 = .ok (.iload_n 1, 1) := by decide +kernel
theorem d_Lm_answered_32 : decode b_Lm_answered 32 = .ok (.bipush 8, 2) := by decide +kernel
theorem d_Lm_answered_34 : decode b_Lm_answered 34 = .ok (.irem, 1) := by decide +kernel
theorem d_Lm_answered_35 : decode b_Lm_answered 35 = .ok (.if_icmp .eq 13, 3) := by decide +kernel
theorem d_Lm_answered_38 : decode b_Lm_answered 38 = .ok (.aload_n 0, 1) := by decide +kernel
theorem d_Lm_answered_39 : decode b_Lm_answered 39 = .ok (.bipush (-5), 2) := by decide +kernel
theorem d_Lm_answered_41 : decode b_Lm_answered 41 = .ok (.iconst 0, 1) := by decide +kernel
theorem d_Lm_answered_42 : decode b_Lm_answered 42 = .ok (.invokevirtual 134, 3) := by decide +kernel
theorem d_Lm_answered_45 : decode b_Lm_answered 45 = .ok (.goto 44, 3) := by decide +kernel
theorem d_Lm_answered_48 : decode b_Lm_answered 48 = .ok (.aload_n 0, 1) := by decide +kernel
theorem d_Lm_answered_49 : decode b_Lm_answered 49 = .ok (.iload_n 1, 1) := by decide +kernel
theorem d_Lm_answered_50 : decode b_Lm_answered 50 = .ok (.aload_n 0, 1) := by decide +kernel
theorem d_Lm_answered_51 : decode b_Lm_answered 51 = .ok (.getfield 85, 3) := by decide +kernel
theorem d_Lm_answered_54 : decode b_Lm_answered 54 = .ok (.invokevirtual 143, 3) := by decide +kernel
theorem d_Lm_answered_57 : decode b_Lm_answered 57 = .ok (.ifCond .eq 13, 3) := by decide +kernel
theorem d_Lm_answered_60 : decode b_Lm_answered 60 = .ok (.aload_n 0, 1) := by decide +kernel
theorem d_Lm_answered_61 : decode b_Lm_answered 61 = .ok (.bipush (-9), 2) := by decide +kernel
theorem d_Lm_answered_63 : decode b_Lm_answered 63 = .ok (.iconst 0, 1) := by decide +kernel
theorem d_Lm_answered_64 : decode b_Lm_answered 64 = .ok (.invokevirtual 134, 3) := by decide +kernel
theorem d_Lm_answered_67 : decode b_Lm_answered 67 = .ok (.goto 22, 3) := by decide +kernel
theorem d_Lm_answered_70 : decode b_Lm_answered 70 = .ok (.aload_n 0, 1) := by decide +kernel
theorem d_Lm_answered_71 : decode b_Lm_answered 71 = .ok (.getfield 35, 3) := by decide +kernel
theorem d_Lm_answered_74 : decode b_Lm_answered 74 = .ok (.iload_n 1, 1) := by decide +kernel
theorem d_Lm_answered_75 : decode b_Lm_answered 75 = .ok (.aload_n 0, 1) := by decide +kernel
theorem d_Lm_answered_76 : decode b_Lm_answered 76 = .ok (.getfield 85, 3) := by decide +kernel
theorem d_Lm_answered_79 : decode b_Lm_answered 79 = .ok (.iastore, 1) := by decide +kernel
theorem d_Lm_answered_80 : decode b_Lm_answered 80 = .ok (.aload_n 0, 1) := by decide +kernel
theorem d_Lm_answered_81 : decode b_Lm_answered 81 = .ok (.aload_n 0, 1) := by decide +kernel
theorem d_Lm_answered_82 : decode b_Lm_answered 82 = .ok (.getfield 85, 3) := by decide +kernel
theorem d_Lm_answered_85 : decode b_Lm_answered 85 = .ok (.iconst 0, 1) := by decide +kernel
theorem d_Lm_answered_86 : decode b_Lm_answered 86 = .ok (.invokevirtual 134, 3) := by decide +kernel
theorem d_Lm_answered_89 : decode b_Lm_answered 89 = .ok (.return_, 1) := by decide +kernel
theorem d_Lm_breaks_0 : decode b_Lm_breaks 0 = .ok (.iconst 0, 1) := by decide +kernel
theorem d_Lm_breaks_1 : decode b_Lm_breaks 1 = .ok (.istore_n 3, 1) := by decide +kernel
theorem d_Lm_breaks_2 : decode b_Lm_breaks 2 = .ok (.iload_n 3, 1) := by decide +kernel
theorem d_Lm_breaks_3 : decode b_Lm_breaks 3 = .ok (.iconst 5, 1) := by decide +kernel
theorem d_Lm_breaks_4 : decode b_Lm_breaks 4 = .ok (.if_icmp .ge 59, 3) := by decide +kernel
theorem d_Lm_breaks_7 : decode b_Lm_breaks 7 = .ok (.bipush 8, 2) := by decide +kernel
theorem d_Lm_breaks_9 : decode b_Lm_breaks 9 = .ok (.iload_n 3, 1) := by decide +kernel
theorem d_Lm_breaks_10 : decode b_Lm_breaks 10 = .ok (.imul, 1) := by decide +kernel
theorem d_Lm_breaks_11 : decode b_Lm_breaks 11 = .ok (.iload_n 1, 1) := by decide +kernel
theorem d_Lm_breaks_12 : decode b_Lm_breaks 12 = .ok (.bipush 8, 2) := by decide +kernel
theorem d_Lm_breaks_14 : decode b_Lm_breaks 14 = .ok (.irem, 1) := by decide +kernel
theorem d_Lm_breaks_15 : decode b_Lm_breaks 15 = .ok (.iadd, 1) := by decide +kernel
theorem d_Lm_breaks_16 : decode b_Lm_breaks 16 = .ok (.istore 4, 2) := by decide +kernel
theorem d_Lm_breaks_18 : decode b_Lm_breaks 18 = .ok (.aload_n 0, 1) := by decide +kernel
theorem d_Lm_breaks_19 : decode b_Lm_breaks 19 = .ok (.getfield 41, 3) := by decide +kernel
theorem d_Lm_breaks_22 : decode b_Lm_breaks 22 = .ok (.iload 4, 2) := by decide +kernel
theorem d_Lm_breaks_24 : decode b_Lm_breaks 24 = .ok (.iaload, 1) := by decide +kernel
theorem d_Lm_breaks_25 : decode b_Lm_breaks 25 = .ok (.aload_n 0, 1) := by decide +kernel
theorem d_Lm_breaks_26 : decode b_Lm_breaks 26 = .ok (.getfield 41, 3) := by decide +kernel
theorem d_Lm_breaks_29 : decode b_Lm_breaks 29 = .ok (.iload_n 1, 1) := by decide +kernel
theorem d_Lm_breaks_30 : decode b_Lm_breaks 30 = .ok (.iaload, 1) := by decide +kernel
theorem d_Lm_breaks_31 : decode b_Lm_breaks 31 = .ok (.if_icmp .ne 26, 3) := by decide +kernel
theorem d_Lm_breaks_34 : decode b_Lm_breaks 34 = .ok (.aload_n 0, 1) := by decide +kernel
theorem d_Lm_breaks_35 : decode b_Lm_breaks 35 = .ok (.getfield 35, 3) := by decide +kernel
theorem d_Lm_breaks_38 : decode b_Lm_breaks 38 = .ok (.iload 4, 2) := by decide +kernel
theorem d_Lm_breaks_40 : decode b_Lm_breaks 40 = .ok (.iaload, 1) := by decide +kernel
theorem d_Lm_breaks_41 : decode b_Lm_breaks 41 = .ok (.ifCond .le 16, 3) := by decide +kernel
theorem d_Lm_breaks_44 : decode b_Lm_breaks 44 = .ok (.aload_n 0, 1) := by decide +kernel
theorem d_Lm_breaks_45 : decode b_Lm_breaks 45 = .ok (.getfield 35, 3) := by decide +kernel
theorem d_Lm_breaks_48 : decode b_Lm_breaks 48 = .ok (.iload 4, 2) := by decide +kernel
theorem d_Lm_breaks_50 : decode b_Lm_breaks 50 = .ok (.iaload, 1) := by decide +kernel
theorem d_Lm_breaks_51 : decode b_Lm_breaks 51 = .ok (.iload_n 2, 1) := by decide +kernel
theorem d_Lm_breaks_52 : decode b_Lm_breaks 52 = .ok (.if_icmp .eq 5, 3) := by decide +kernel
theorem d_Lm_breaks_55 : decode b_Lm_breaks 55 = .ok (.iconst 1, 1) := by decide +kernel
theorem d_Lm_breaks_56 : decode b_Lm_breaks 56 = .ok (.ireturn, 1) := by decide +kernel
theorem d_Lm_breaks_57 : decode b_Lm_breaks 57 = .ok (.iinc 3 1, 3) := by decide +kernel
theorem d_Lm_breaks_60 : decode b_Lm_breaks 60 = .ok (.goto (-58), 3) := by decide +kernel
theorem d_Lm_breaks_63 : decode b_Lm_breaks 63 = .ok (.iconst 0, 1) := by decide +kernel
theorem d_Lm_breaks_64 : decode b_Lm_breaks 64 = .ok (.ireturn, 1) := by decide +kernel
theorem d_Lm_define_0 : decode b_Lm_define 0 = .ok (.aload_n 0, 1) := by decide +kernel
theorem d_Lm_define_1 : decode b_Lm_define 1 = .ok (.getfield 13, 3) := by decide +kernel
theorem d_Lm_define_4 : decode b_Lm_define 4 = .ok (.iload_n 1, 1) := by decide +kernel
theorem d_Lm_define_5 : decode b_Lm_define 5 = .ok (.baload, 1) := by decide +kernel
theorem d_Lm_define_6 : decode b_Lm_define 6 = .ok (.ifCond .ne 13, 3) := by decide +kernel
theorem d_Lm_define_9 : decode b_Lm_define 9 = .ok (.aload_n 0, 1) := by decide +kernel
theorem d_Lm_define_10 : decode b_Lm_define 10 = .ok (.bipush (-3), 2) := by decide +kernel
theorem d_Lm_define_12 : decode b_Lm_define 12 = .ok (.iconst 0, 1) := by decide +kernel
theorem d_Lm_define_13 : decode b_Lm_define 13 = .ok (.invokevirtual 134, 3) := by decide +kernel
theorem d_Lm_define_16 : decode b_Lm_define 16 = .ok (.goto 59, 3) := by decide +kernel
theorem d_Lm_define_19 : decode b_Lm_define 19 = .ok (.aload_n 0, 1) := by decide +kernel
theorem d_Lm_define_20 : decode b_Lm_define 20 = .ok (.getfield 26, 3) := by decide +kernel
theorem d_Lm_define_23 : decode b_Lm_define 23 = .ok (.iload_n 1, 1) := by decide +kernel
theorem d_Lm_define_24 : decode b_Lm_define 24 = .ok (.iaload, 1) := by decide +kernel
theorem d_Lm_define_25 : decode b_Lm_define 25 = .ok (.iconst 4, 1) := by decide +kernel
theorem d_Lm_define_26 : decode b_Lm_define 26 = .ok (.iand, 1) := by decide +kernel
theorem d_Lm_define_27 : decode b_Lm_define 27 = .ok (.ifCond .eq 13, 3) := by decide +kernel
theorem d_Lm_define_30 : decode b_Lm_define 30 = .ok (.aload_n 0, 1) := by decide +kernel
theorem d_Lm_define_31 : decode b_Lm_define 31 = .ok (.bipush (-6), 2) := by decide +kernel
theorem d_Lm_define_33 : decode b_Lm_define 33 = .ok (.iconst 0, 1) := by decide +kernel
theorem d_Lm_define_34 : decode b_Lm_define 34 = .ok (.invokevirtual 134, 3) := by decide +kernel
theorem d_Lm_define_37 : decode b_Lm_define 37 = .ok (.goto 38, 3) := by decide +kernel
theorem d_Lm_define_40 : decode b_Lm_define 40 = .ok (.aload_n 0, 1) := by decide +kernel
theorem d_Lm_define_41 : decode b_Lm_define 41 = .ok (.getfield 17, 3) := by decide +kernel
theorem d_Lm_define_44 : decode b_Lm_define 44 = .ok (.iload_n 1, 1) := by decide +kernel
theorem d_Lm_define_45 : decode b_Lm_define 45 = .ok (.iaload, 1) := by decide +kernel
theorem d_Lm_define_46 : decode b_Lm_define 46 = .ok (.iload_n 1, 1) := by decide +kernel
theorem d_Lm_define_47 : decode b_Lm_define 47 = .ok (.bipush 8, 2) := by decide +kernel
theorem d_Lm_define_49 : decode b_Lm_define 49 = .ok (.irem, 1) := by decide +kernel
theorem d_Lm_define_50 : decode b_Lm_define 50 = .ok (.if_icmp .eq 13, 3) := by decide +kernel
theorem d_Lm_define_53 : decode b_Lm_define 53 = .ok (.aload_n 0, 1) := by decide +kernel
theorem d_Lm_define_54 : decode b_Lm_define 54 = .ok (.bipush (-5), 2) := by decide +kernel
theorem d_Lm_define_56 : decode b_Lm_define 56 = .ok (.iconst 0, 1) := by decide +kernel
theorem d_Lm_define_57 : decode b_Lm_define 57 = .ok (.invokevirtual 134, 3) := by decide +kernel
theorem d_Lm_define_60 : decode b_Lm_define 60 = .ok (.goto 15, 3) := by decide +kernel
theorem d_Lm_define_63 : decode b_Lm_define 63 = .ok (.aload_n 0, 1) := by decide +kernel
theorem d_Lm_define_64 : decode b_Lm_define 64 = .ok (.iload_n 1, 1) := by decide +kernel
theorem d_Lm_define_65 : decode b_Lm_define 65 = .ok (.aload_n 0, 1) := by decide +kernel
theorem d_Lm_define_66 : decode b_Lm_define 66 = .ok (.getfield 20, 3) := by decide +kernel
theorem d_Lm_define_69 : decode b_Lm_define 69 = .ok (.iload_n 1, 1) := by decide +kernel
theorem d_Lm_define_70 : decode b_Lm_define 70 = .ok (.iaload, 1) := by decide +kernel
theorem d_Lm_define_71 : decode b_Lm_define 71 = .ok (.iconst 5, 1) := by decide +kernel
theorem d_Lm_define_72 : decode b_Lm_define 72 = .ok (.invokevirtual 121, 3) := by decide +kernel
theorem d_Lm_define_75 : decode b_Lm_define 75 = .ok (.return_, 1) := by decide +kernel
theorem d_Lm_askFor_0 : decode b_Lm_askFor 0 = .ok (.iload_n 2, 1) := by decide +kernel
theorem d_Lm_askFor_1 : decode b_Lm_askFor 1 = .ok (.bipush 8, 2) := by decide +kernel
theorem d_Lm_askFor_3 : decode b_Lm_askFor 3 = .ok (.if_icmp .ne 22, 3) := by decide +kernel
theorem d_Lm_askFor_6 : decode b_Lm_askFor 6 = .ok (.aload_n 0, 1) := by decide +kernel
theorem d_Lm_askFor_7 : decode b_Lm_askFor 7 = .ok (.iload_n 3, 1) := by decide +kernel
theorem d_Lm_askFor_8 : decode b_Lm_askFor 8 = .ok (.iconst 5, 1) := by decide +kernel
theorem d_Lm_askFor_9 : decode b_Lm_askFor 9 = .ok (.if_icmp .ne 8, 3) := by decide +kernel
theorem d_Lm_askFor_12 : decode b_Lm_askFor 12 = .ok (.bipush 7, 2) := by decide +kernel
theorem d_Lm_askFor_14 : decode b_Lm_askFor 14 = .ok (.goto 5, 3) := by decide +kernel
theorem d_Lm_askFor_17 : decode b_Lm_askFor 17 = .ok (.bipush 8, 2) := by decide +kernel
theorem d_Lm_askFor_19 : decode b_Lm_askFor 19 = .ok (.invokevirtual 131, 3) := by decide +kernel
theorem d_Lm_askFor_22 : decode b_Lm_askFor 22 = .ok (.goto 40, 3) := by decide +kernel
theorem d_Lm_askFor_25 : decode b_Lm_askFor 25 = .ok (.aload_n 0, 1) := by decide +kernel
theorem d_Lm_askFor_26 : decode b_Lm_askFor 26 = .ok (.getfield 38, 3) := by decide +kernel
theorem d_Lm_askFor_29 : decode b_Lm_askFor 29 = .ok (.iload_n 1, 1) := by decide +kernel
theorem d_Lm_askFor_30 : decode b_Lm_askFor 30 = .ok (.bipush 8, 2) := by decide +kernel
theorem d_Lm_askFor_32 : decode b_Lm_askFor 32 = .ok (.idiv, 1) := by decide +kernel
theorem d_Lm_askFor_33 : decode b_Lm_askFor 33 = .ok (.bipush 8, 2) := by decide +kernel
theorem d_Lm_askFor_35 : decode b_Lm_askFor 35 = .ok (.imul, 1) := by decide +kernel
theorem d_Lm_askFor_36 : decode b_Lm_askFor 36 = .ok (.iload_n 2, 1) := by decide +kernel
theorem d_Lm_askFor_37 : decode b_Lm_askFor 37 = .ok (.iadd, 1) := by decide +kernel
theorem d_Lm_askFor_38 : decode b_Lm_askFor 38 = .ok (.baload, 1) := by decide +kernel
theorem d_Lm_askFor_39 : decode b_Lm_askFor 39 = .ok (.ifCond .eq 13, 3) := by decide +kernel
theorem d_Lm_askFor_42 : decode b_Lm_askFor 42 = .ok (.aload_n 0, 1) := by decide +kernel
theorem d_Lm_askFor_43 : decode b_Lm_askFor 43 = .ok (.bipush (-7), 2) := by decide +kernel
theorem d_Lm_askFor_45 : decode b_Lm_askFor 45 = .ok (.iconst 0, 1) := by decide +kernel
theorem d_Lm_askFor_46 : decode b_Lm_askFor 46 = .ok (.invokevirtual 134, 3) := by decide +kernel
theorem d_Lm_askFor_49 : decode b_Lm_askFor 49 = .ok (.goto 13, 3) := by decide +kernel
theorem d_Lm_askFor_52 : decode b_Lm_askFor 52 = .ok (.aload_n 0, 1) := by decide +kernel
theorem d_Lm_askFor_53 : decode b_Lm_askFor 53 = .ok (.iload_n 1, 1) := by decide +kernel
theorem d_Lm_askFor_54 : decode b_Lm_askFor 54 = .ok (.bipush 8, 2) := by decide +kernel
theorem d_Lm_askFor_56 : decode b_Lm_askFor 56 = .ok (.idiv, 1) := by decide +kernel
theorem d_Lm_askFor_57 : decode b_Lm_askFor 57 = .ok (.iload_n 2, 1) := by decide +kernel
theorem d_Lm_askFor_58 : decode b_Lm_askFor 58 = .ok (.iload_n 3, 1) := by decide +kernel
theorem d_Lm_askFor_59 : decode b_Lm_askFor 59 = .ok (.invokevirtual 137, 3) := by decide +kernel
theorem d_Lm_askFor_62 : decode b_Lm_askFor 62 = .ok (.return_, 1) := by decide +kernel
theorem d_Lm_resolved_0 : decode b_Lm_resolved 0 = .ok (.aload_n 0, 1) := by decide +kernel
theorem d_Lm_resolved_1 : decode b_Lm_resolved 1 = .ok (.getfield 85, 3) := by decide +kernel
theorem d_Lm_resolved_4 : decode b_Lm_resolved 4 = .ok (.bipush (-3), 2) := by decide +kernel
theorem d_Lm_resolved_6 : decode b_Lm_resolved 6 = .ok (.if_icmp .ne 14, 3) := by decide +kernel
theorem d_Lm_resolved_9 : decode b_Lm_resolved 9 = .ok (.aload_n 0, 1) := by decide +kernel
theorem d_Lm_resolved_10 : decode b_Lm_resolved 10 = .ok (.bipush (-4), 2) := by decide +kernel
theorem d_Lm_resolved_12 : decode b_Lm_resolved 12 = .ok (.bipush (-3), 2) := by decide +kernel
theorem d_Lm_resolved_14 : decode b_Lm_resolved 14 = .ok (.invokevirtual 134, 3) := by decide +kernel
theorem d_Lm_resolved_17 : decode b_Lm_resolved 17 = .ok (.goto 129, 3) := by decide +kernel
theorem d_Lm_resolved_20 : decode b_Lm_resolved 20 = .ok (.aload_n 0, 1) := by decide +kernel
theorem d_Lm_resolved_21 : decode b_Lm_resolved 21 = .ok (.getfield 85, 3) := by decide +kernel
theorem d_Lm_resolved_24 : decode b_Lm_resolved 24 = .ok (.ifCond .ge 18, 3) := by decide +kernel
theorem d_Lm_resolved_27 : decode b_Lm_resolved 27 = .ok (.aload_n 0, 1) := by decide +kernel
theorem d_Lm_resolved_28 : decode b_Lm_resolved 28 = .ok (.aload_n 0, 1) := by decide +kernel
theorem d_Lm_resolved_29 : decode b_Lm_resolved 29 = .ok (.getfield 85, 3) := by decide +kernel
theorem d_Lm_resolved_32 : decode b_Lm_resolved 32 = .ok (.aload_n 0, 1) := by decide +kernel
theorem d_Lm_resolved_33 : decode b_Lm_resolved 33 = .ok (.getfield 89, 3) := by decide +kernel
theorem d_Lm_resolved_36 : decode b_Lm_resolved 36 = .ok (.invokevirtual 134, 3) := by decide +kernel
theorem d_Lm_resolved_39 : decode b_Lm_resolved 39 = .ok (.goto 107, 3) := by decide +kernel
theorem d_Lm_resolved_42 : decode b_Lm_resolved 42 = .ok (.iload_n 2, 1) := by decide +kernel
theorem d_Lm_resolved_43 : decode b_Lm_resolved 43 = .ok (.iconst 5, 1) := by decide +kernel
theorem d_Lm_resolved_44 : decode b_Lm_resolved 44 = .ok (.if_icmp .ne 51, 3) := by decide +kernel
theorem d_Lm_resolved_47 : decode b_Lm_resolved 47 = .ok (.aload_n 0, 1) := by decide +kernel
theorem d_Lm_resolved_48 : decode b_Lm_resolved 48 = .ok (.getfield 56, 3) := by decide +kernel
theorem d_Lm_resolved_51 : decode b_Lm_resolved 51 = .ok (.aload_n 0, 1) := by decide +kernel
theorem d_Lm_resolved_52 : decode b_Lm_resolved 52 = .ok (.getfield 85, 3) := by decide +kernel
theorem d_Lm_resolved_55 : decode b_Lm_resolved 55 = .ok (.iaload, 1) := by decide +kernel
theorem d_Lm_resolved_56 : decode b_Lm_resolved 56 = .ok (.iconst 3, 1) := by decide +kernel
theorem d_Lm_resolved_57 : decode b_Lm_resolved 57 = .ok (.iand, 1) := by decide +kernel
theorem d_Lm_resolved_58 : decode b_Lm_resolved 58 = .ok (.ifCond .eq 13, 3) := by decide +kernel
theorem d_Lm_resolved_61 : decode b_Lm_resolved 61 = .ok (.aload_n 0, 1) := by decide +kernel
theorem d_Lm_resolved_62 : decode b_Lm_resolved 62 = .ok (.bipush (-8), 2) := by decide +kernel
theorem d_Lm_resolved_64 : decode b_Lm_resolved 64 = .ok (.iconst 0, 1) := by decide +kernel
theorem d_Lm_resolved_65 : decode b_Lm_resolved 65 = .ok (.invokevirtual 134, 3) := by decide +kernel
theorem d_Lm_resolved_68 : decode b_Lm_resolved 68 = .ok (.goto 78, 3) := by decide +kernel
theorem d_Lm_resolved_71 : decode b_Lm_resolved 71 = .ok (.aload_n 0, 1) := by decide +kernel
theorem d_Lm_resolved_72 : decode b_Lm_resolved 72 = .ok (.getfield 74, 3) := by decide +kernel
theorem d_Lm_resolved_75 : decode b_Lm_resolved 75 = .ok (.aload_n 0, 1) := by decide +kernel
theorem d_Lm_resolved_76 : decode b_Lm_resolved 76 = .ok (.getfield 99, 3) := by decide +kernel
theorem d_Lm_resolved_79 : decode b_Lm_resolved 79 = .ok (.iconst 1, 1) := by decide +kernel
theorem d_Lm_resolved_80 : decode b_Lm_resolved 80 = .ok (.isub, 1) := by decide +kernel
theorem d_Lm_resolved_81 : decode b_Lm_resolved 81 = .ok (.aload_n 0, 1) := by decide +kernel
theorem d_Lm_resolved_82 : decode b_Lm_resolved 82 = .ok (.getfield 85, 3) := by decide +kernel
theorem d_Lm_resolved_85 : decode b_Lm_resolved 85 = .ok (.iastore, 1) := by decide +kernel
theorem d_Lm_resolved_86 : decode b_Lm_resolved 86 = .ok (.aload_n 0, 1) := by decide +kernel
theorem d_Lm_resolved_87 : decode b_Lm_resolved 87 = .ok (.bipush 7, 2) := by decide +kernel
theorem d_Lm_resolved_89 : decode b_Lm_resolved 89 = .ok (.invokevirtual 131, 3) := by decide +kernel
theorem d_Lm_resolved_92 : decode b_Lm_resolved 92 = .ok (.goto 54, 3) := by decide +kernel
theorem d_Lm_resolved_95 : decode b_Lm_resolved 95 = .ok (.aload_n 0, 1) := by decide +kernel
theorem d_Lm_resolved_96 : decode b_Lm_resolved 96 = .ok (.getfield 56, 3) := by decide +kernel
theorem d_Lm_resolved_99 : decode b_Lm_resolved 99 = .ok (.aload_n 0, 1) := by decide +kernel
theorem d_Lm_resolved_100 : decode b_Lm_resolved 100 = .ok (.getfield 85, 3) := by decide +kernel
theorem d_Lm_resolved_103 : decode b_Lm_resolved 103 = .ok (.iaload, 1) := by decide +kernel
theorem d_Lm_resolved_104 : decode b_Lm_resolved 104 = .ok (.iconst 1, 1) := by decide +kernel
theorem d_Lm_resolved_105 : decode b_Lm_resolved 105 = .ok (.iand, 1) := by decide +kernel
theorem d_Lm_resolved_106 : decode b_Lm_resolved 106 = .ok (.ifCond .ne 13, 3) := by decide +kernel
theorem d_Lm_resolved_109 : decode b_Lm_resolved 109 = .ok (.aload_n 0, 1) := by decide +kernel
theorem d_Lm_resolved_110 : decode b_Lm_resolved 110 = .ok (.bipush (-8), 2) := by decide +kernel
theorem d_Lm_resolved_112 : decode b_Lm_resolved 112 = .ok (.iconst 0, 1) := by decide +kernel
theorem d_Lm_resolved_113 : decode b_Lm_resolved 113 = .ok (.invokevirtual 134, 3) := by decide +kernel
theorem d_Lm_resolved_116 : decode b_Lm_resolved 116 = .ok (.goto 30, 3) := by decide +kernel
theorem d_Lm_resolved_119 : decode b_Lm_resolved 119 = .ok (.aload_n 0, 1) := by decide +kernel
theorem d_Lm_resolved_120 : decode b_Lm_resolved 120 = .ok (.getfield 74, 3) := by decide +kernel
theorem d_Lm_resolved_123 : decode b_Lm_resolved 123 = .ok (.aload_n 0, 1) := by decide +kernel
theorem d_Lm_resolved_124 : decode b_Lm_resolved 124 = .ok (.getfield 99, 3) := by decide +kernel
theorem d_Lm_resolved_127 : decode b_Lm_resolved 127 = .ok (.iconst 1, 1) := by decide +kernel
theorem d_Lm_resolved_128 : decode b_Lm_resolved 128 = .ok (.isub, 1) := by decide +kernel
theorem d_Lm_resolved_129 : decode b_Lm_resolved 129 = .ok (.dup2, 1) := by decide +kernel
theorem d_Lm_resolved_130 : decode b_Lm_resolved 130 = .ok (.iaload, 1) := by decide +kernel
theorem d_Lm_resolved_131 : decode b_Lm_resolved 131 = .ok (.bipush 100, 2) := by decide +kernel
theorem d_Lm_resolved_133 : decode b_Lm_resolved 133 = .ok (.aload_n 0, 1) := by decide +kernel
theorem d_Lm_resolved_134 : decode b_Lm_resolved 134 = .ok (.getfield 85, 3) := by decide +kernel
theorem d_Lm_resolved_137 : decode b_Lm_resolved 137 = .ok (.imul, 1) := by decide +kernel
theorem d_Lm_resolved_138 : decode b_Lm_resolved 138 = .ok (.iadd, 1) := by decide +kernel
theorem d_Lm_resolved_139 : decode b_Lm_resolved 139 = .ok (.iastore, 1) := by decide +kernel
theorem d_Lm_resolved_140 : decode b_Lm_resolved 140 = .ok (.aload_n 0, 1) := by decide +kernel
theorem d_Lm_resolved_141 : decode b_Lm_resolved 141 = .ok (.bipush 8, 2) := by decide +kernel
theorem d_Lm_resolved_143 : decode b_Lm_resolved 143 = .ok (.invokevirtual 131, 3) := by decide +kernel
theorem d_Lm_resolved_146 : decode b_Lm_resolved 146 = .ok (.return_, 1) := by decide +kernel
theorem d_Lm_make_0 : decode b_Lm_make 0 = .ok (.aload_n 0, 1) := by decide +kernel
theorem d_Lm_make_1 : decode b_Lm_make 1 = .ok (.getfield 146, 3) := by decide +kernel
theorem d_Lm_make_4 : decode b_Lm_make 4 = .ok (.bipush 30, 2) := by decide +kernel
theorem d_Lm_make_6 : decode b_Lm_make 6 = .ok (.if_icmp .ne 11, 3) := by decide +kernel
theorem d_Lm_make_9 : decode b_Lm_make 9 = .ok (.aload_n 0, 1) := by decide +kernel
theorem d_Lm_make_10 : decode b_Lm_make 10 = .ok (.bipush (-2), 2) := by decide +kernel
theorem d_Lm_make_12 : decode b_Lm_make 12 = .ok (.iconst 0, 1) := by decide +kernel
theorem d_Lm_make_13 : decode b_Lm_make 13 = .ok (.invokevirtual 134, 3) := by decide +kernel
theorem d_Lm_make_16 : decode b_Lm_make 16 = .ok (.return_, 1) := by decide +kernel
theorem d_Lm_make_17 : decode b_Lm_make 17 = .ok (.aload_n 0, 1) := by decide +kernel
theorem d_Lm_make_18 : decode b_Lm_make 18 = .ok (.dup, 1) := by decide +kernel
theorem d_Lm_make_19 : decode b_Lm_make 19 = .ok (.getfield 146, 3) := by decide +kernel
theorem d_Lm_make_22 : decode b_Lm_make 22 = .ok (.iconst 1, 1) := by decide +kernel
theorem d_Lm_make_23 : decode b_Lm_make 23 = .ok (.iadd, 1) := by decide +kernel
theorem d_Lm_make_24 : decode b_Lm_make 24 = .ok (.putfield 146, 3) := by decide +kernel
theorem d_Lm_make_27 : decode b_Lm_make 27 = .ok (.aload_n 0, 1) := by decide +kernel
theorem d_Lm_make_28 : decode b_Lm_make 28 = .ok (.getfield 44, 3) := by decide +kernel
theorem d_Lm_make_31 : decode b_Lm_make 31 = .ok (.aload_n 0, 1) := by decide +kernel
theorem d_Lm_make_32 : decode b_Lm_make 32 = .ok (.getfield 146, 3) := by decide +kernel
theorem d_Lm_make_35 : decode b_Lm_make 35 = .ok (.iload_n 1, 1) := by decide +kernel
theorem d_Lm_make_36 : decode b_Lm_make 36 = .ok (.bipush 8, 2) := by decide +kernel
theorem d_Lm_make_38 : decode b_Lm_make 38 = .ok (.irem, 1) := by decide +kernel
theorem d_Lm_make_39 : decode b_Lm_make 39 = .ok (.iastore, 1) := by decide +kernel
theorem d_Lm_make_40 : decode b_Lm_make 40 = .ok (.aload_n 0, 1) := by decide +kernel
theorem d_Lm_make_41 : decode b_Lm_make 41 = .ok (.getfield 47, 3) := by decide +kernel
theorem d_Lm_make_44 : decode b_Lm_make 44 = .ok (.aload_n 0, 1) := by decide +kernel
theorem d_Lm_make_45 : decode b_Lm_make 45 = .ok (.getfield 146, 3) := by decide +kernel
theorem d_Lm_make_48 : decode b_Lm_make 48 = .ok (.iload_n 1, 1) := by decide +kernel
theorem d_Lm_make_49 : decode b_Lm_make 49 = .ok (.bipush 8, 2) := by decide +kernel
theorem d_Lm_make_51 : decode b_Lm_make 51 = .ok (.idiv, 1) := by decide +kernel
theorem d_Lm_make_52 : decode b_Lm_make 52 = .ok (.iastore, 1) := by decide +kernel
theorem d_Lm_make_53 : decode b_Lm_make 53 = .ok (.aload_n 0, 1) := by decide +kernel
theorem d_Lm_make_54 : decode b_Lm_make 54 = .ok (.getfield 50, 3) := by decide +kernel
theorem d_Lm_make_57 : decode b_Lm_make 57 = .ok (.aload_n 0, 1) := by decide +kernel
theorem d_Lm_make_58 : decode b_Lm_make 58 = .ok (.getfield 146, 3) := by decide +kernel
theorem d_Lm_make_61 : decode b_Lm_make 61 = .ok (.aload_n 0, 1) := by decide +kernel
theorem d_Lm_make_62 : decode b_Lm_make 62 = .ok (.getfield 74, 3) := by decide +kernel
theorem d_Lm_make_65 : decode b_Lm_make 65 = .ok (.aload_n 0, 1) := by decide +kernel
theorem d_Lm_make_66 : decode b_Lm_make 66 = .ok (.getfield 99, 3) := by decide +kernel
theorem d_Lm_make_69 : decode b_Lm_make 69 = .ok (.iconst 1, 1) := by decide +kernel
theorem d_Lm_make_70 : decode b_Lm_make 70 = .ok (.isub, 1) := by decide +kernel
theorem d_Lm_make_71 : decode b_Lm_make 71 = .ok (.iaload, 1) := by decide +kernel
theorem d_Lm_make_72 : decode b_Lm_make 72 = .ok (.bipush 100, 2) := by decide +kernel
theorem d_Lm_make_74 : decode b_Lm_make 74 = .ok (.irem, 1) := by decide +kernel
theorem d_Lm_make_75 : decode b_Lm_make 75 = .ok (.iastore, 1) := by decide +kernel
theorem d_Lm_make_76 : decode b_Lm_make 76 = .ok (.aload_n 0, 1) := by decide +kernel
theorem d_Lm_make_77 : decode b_Lm_make 77 = .ok (.getfield 53, 3) := by decide +kernel
theorem d_Lm_make_80 : decode b_Lm_make 80 = .ok (.aload_n 0, 1) := by decide +kernel
theorem d_Lm_make_81 : decode b_Lm_make 81 = .ok (.getfield 146, 3) := by decide +kernel
theorem d_Lm_make_84 : decode b_Lm_make 84 = .ok (.aload_n 0, 1) := by decide +kernel
theorem d_Lm_make_85 : decode b_Lm_make 85 = .ok (.getfield 74, 3) := by decide +kernel
theorem d_Lm_make_88 : decode b_Lm_make 88 = .ok (.aload_n 0, 1) := by decide +kernel
theorem d_Lm_make_89 : decode b_Lm_make 89 = .ok (.getfield 99, 3) := by decide +kernel
theorem d_Lm_make_92 : decode b_Lm_make 92 = .ok (.iconst 1, 1) := by decide +kernel
theorem d_Lm_make_93 : decode b_Lm_make 93 = .ok (.isub, 1) := by decide +kernel
theorem d_Lm_make_94 : decode b_Lm_make 94 = .ok (.iaload, 1) := by decide +kernel
theorem d_Lm_make_95 : decode b_Lm_make 95 = .ok (.bipush 100, 2) := by decide +kernel
theorem d_Lm_make_97 : decode b_Lm_make 97 = .ok (.idiv, 1) := by decide +kernel
theorem d_Lm_make_98 : decode b_Lm_make 98 = .ok (.iastore, 1) := by decide +kernel
theorem d_Lm_make_99 : decode b_Lm_make 99 = .ok (.aload_n 0, 1) := by decide +kernel
theorem d_Lm_make_100 : decode b_Lm_make 100 = .ok (.getfield 56, 3) := by decide +kernel
theorem d_Lm_make_103 : decode b_Lm_make 103 = .ok (.aload_n 0, 1) := by decide +kernel
theorem d_Lm_make_104 : decode b_Lm_make 104 = .ok (.getfield 146, 3) := by decide +kernel
theorem d_Lm_make_107 : decode b_Lm_make 107 = .ok (.aload_n 0, 1) := by decide +kernel
theorem d_Lm_make_108 : decode b_Lm_make 108 = .ok (.getfield 26, 3) := by decide +kernel
theorem d_Lm_make_111 : decode b_Lm_make 111 = .ok (.iload_n 1, 1) := by decide +kernel
theorem d_Lm_make_112 : decode b_Lm_make 112 = .ok (.iaload, 1) := by decide +kernel
theorem d_Lm_make_113 : decode b_Lm_make 113 = .ok (.iastore, 1) := by decide +kernel
theorem d_Lm_make_114 : decode b_Lm_make 114 = .ok (.aload_n 0, 1) := by decide +kernel
theorem d_Lm_make_115 : decode b_Lm_make 115 = .ok (.aload_n 0, 1) := by decide +kernel
theorem d_Lm_make_116 : decode b_Lm_make 116 = .ok (.getfield 146, 3) := by decide +kernel
theorem d_Lm_make_119 : decode b_Lm_make 119 = .ok (.iconst 0, 1) := by decide +kernel
theorem d_Lm_make_120 : decode b_Lm_make 120 = .ok (.invokevirtual 95, 3) := by decide +kernel
theorem d_Lm_make_123 : decode b_Lm_make 123 = .ok (.aload_n 0, 1) := by decide +kernel
theorem d_Lm_make_124 : decode b_Lm_make 124 = .ok (.iconst 2, 1) := by decide +kernel
theorem d_Lm_make_125 : decode b_Lm_make 125 = .ok (.invokevirtual 131, 3) := by decide +kernel
theorem d_Lm_make_128 : decode b_Lm_make 128 = .ok (.return_, 1) := by decide +kernel
theorem d_Lm_finish_0 : decode b_Lm_finish 0 = .ok (.aload_n 0, 1) := by decide +kernel
theorem d_Lm_finish_1 : decode b_Lm_finish 1 = .ok (.aload_n 0, 1) := by decide +kernel
theorem d_Lm_finish_2 : decode b_Lm_finish 2 = .ok (.getfield 85, 3) := by decide +kernel
theorem d_Lm_finish_5 : decode b_Lm_finish 5 = .ok (.ifCond .ge 10, 3) := by decide +kernel
theorem d_Lm_finish_8 : decode b_Lm_finish 8 = .ok (.aload_n 0, 1) := by decide +kernel
theorem d_Lm_finish_9 : decode b_Lm_finish 9 = .ok (.getfield 85, 3) := by decide +kernel
theorem d_Lm_finish_12 : decode b_Lm_finish 12 = .ok (.goto 4, 3) := by decide +kernel
theorem d_Lm_finish_15 : decode b_Lm_finish 15 = .ok (.iconst 0, 1) := by decide +kernel
theorem d_Lm_finish_16 : decode b_Lm_finish 16 = .ok (.putfield 149, 3) := by decide +kernel
theorem d_Lm_finish_19 : decode b_Lm_finish 19 = .ok (.aload_n 0, 1) := by decide +kernel
theorem d_Lm_finish_20 : decode b_Lm_finish 20 = .ok (.aload_n 0, 1) := by decide +kernel
theorem d_Lm_finish_21 : decode b_Lm_finish 21 = .ok (.getfield 85, 3) := by decide +kernel
theorem d_Lm_finish_24 : decode b_Lm_finish 24 = .ok (.ifCond .ge 10, 3) := by decide +kernel
theorem d_Lm_finish_27 : decode b_Lm_finish 27 = .ok (.aload_n 0, 1) := by decide +kernel
theorem d_Lm_finish_28 : decode b_Lm_finish 28 = .ok (.getfield 89, 3) := by decide +kernel
theorem d_Lm_finish_31 : decode b_Lm_finish 31 = .ok (.goto 4, 3) := by decide +kernel
theorem d_Lm_finish_34 : decode b_Lm_finish 34 = .ok (.iconst 0, 1) := by decide +kernel
theorem d_Lm_finish_35 : decode b_Lm_finish 35 = .ok (.putfield 152, 3) := by decide +kernel
theorem d_Lm_finish_38 : decode b_Lm_finish 38 = .ok (.aload_n 0, 1) := by decide +kernel
theorem d_Lm_finish_39 : decode b_Lm_finish 39 = .ok (.getfield 85, 3) := by decide +kernel
theorem d_Lm_finish_42 : decode b_Lm_finish 42 = .ok (.ireturn, 1) := by decide +kernel
theorem d_Lm_load_0 : decode b_Lm_load 0 = .ok (.iload_n 1, 1) := by decide +kernel
theorem d_Lm_load_1 : decode b_Lm_load 1 = .ok (.iload_n 2, 1) := by decide +kernel
theorem d_Lm_load_2 : decode b_Lm_load 2 = .ok (.invokestatic 81, 3) := by decide +kernel
theorem d_Lm_load_5 : decode b_Lm_load 5 = .ok (.ifCond .ne 5, 3) := by decide +kernel
theorem d_Lm_load_8 : decode b_Lm_load 8 = .ok (.iconst (-1), 1) := by decide +kernel
theorem d_Lm_load_9 : decode b_Lm_load 9 = .ok (.ireturn, 1) := by decide +kernel
theorem d_Lm_load_10 : decode b_Lm_load 10 = .ok (.aload_n 0, 1) := by decide +kernel
theorem d_Lm_load_11 : decode b_Lm_load 11 = .ok (.iconst 0, 1) := by decide +kernel
theorem d_Lm_load_12 : decode b_Lm_load 12 = .ok (.putfield 92, 3) := by decide +kernel
theorem d_Lm_load_15 : decode b_Lm_load 15 = .ok (.aload_n 0, 1) := by decide +kernel
theorem d_Lm_load_16 : decode b_Lm_load 16 = .ok (.iload_n 1, 1) := by decide +kernel
theorem d_Lm_load_17 : decode b_Lm_load 17 = .ok (.iload_n 2, 1) := by decide +kernel
theorem d_Lm_load_18 : decode b_Lm_load 18 = .ok (.invokevirtual 140, 3) := by decide +kernel
theorem d_Lm_load_21 : decode b_Lm_load 21 = .ok (.aload_n 0, 1) := by decide +kernel
theorem d_Lm_load_22 : decode b_Lm_load 22 = .ok (.invokevirtual 155, 3) := by decide +kernel
theorem d_Lm_load_25 : decode b_Lm_load 25 = .ok (.aload_n 0, 1) := by decide +kernel
theorem d_Lm_load_26 : decode b_Lm_load 26 = .ok (.invokevirtual 158, 3) := by decide +kernel
theorem d_Lm_load_29 : decode b_Lm_load 29 = .ok (.ireturn, 1) := by decide +kernel
theorem d_Lm_refer_0 : decode b_Lm_refer 0 = .ok (.iload_n 1, 1) := by decide +kernel
theorem d_Lm_refer_1 : decode b_Lm_refer 1 = .ok (.iconst 1, 1) := by decide +kernel
theorem d_Lm_refer_2 : decode b_Lm_refer 2 = .ok (.aload_n 0, 1) := by decide +kernel
theorem d_Lm_refer_3 : decode b_Lm_refer 3 = .ok (.getfield 146, 3) := by decide +kernel
theorem d_Lm_refer_6 : decode b_Lm_refer 6 = .ok (.invokestatic 77, 3) := by decide +kernel
theorem d_Lm_refer_9 : decode b_Lm_refer 9 = .ok (.ifCond .eq 37, 3) := by decide +kernel
theorem d_Lm_refer_12 : decode b_Lm_refer 12 = .ok (.iload_n 2, 1) := by decide +kernel
theorem d_Lm_refer_13 : decode b_Lm_refer 13 = .ok (.iconst 0, 1) := by decide +kernel
theorem d_Lm_refer_14 : decode b_Lm_refer 14 = .ok (.iconst 3, 1) := by decide +kernel
theorem d_Lm_refer_15 : decode b_Lm_refer 15 = .ok (.invokestatic 77, 3) := by decide +kernel
theorem d_Lm_refer_18 : decode b_Lm_refer 18 = .ok (.ifCond .eq 28, 3) := by decide +kernel
theorem d_Lm_refer_21 : decode b_Lm_refer 21 = .ok (.iload_n 3, 1) := by decide +kernel
theorem d_Lm_refer_22 : decode b_Lm_refer 22 = .ok (.iconst 0, 1) := by decide +kernel
theorem d_Lm_refer_23 : decode b_Lm_refer 23 = .ok (.bipush 7, 2) := by decide +kernel
theorem d_Lm_refer_25 : decode b_Lm_refer 25 = .ok (.invokestatic 77, 3) := by decide +kernel
theorem d_Lm_refer_28 : decode b_Lm_refer 28 = .ok (.ifCond .eq 18, 3) := by decide +kernel
theorem d_Lm_refer_31 : decode b_Lm_refer 31 = .ok (.aload_n 0, 1) := by decide +kernel
theorem d_Lm_refer_32 : decode b_Lm_refer 32 = .ok (.getfield 62, 3) := by decide +kernel
theorem d_Lm_refer_35 : decode b_Lm_refer 35 = .ok (.iconst 4, 1) := by decide +kernel
theorem d_Lm_refer_36 : decode b_Lm_refer 36 = .ok (.iload_n 1, 1) := by decide +kernel
theorem d_Lm_refer_37 : decode b_Lm_refer 37 = .ok (.imul, 1) := by decide +kernel
theorem d_Lm_refer_38 : decode b_Lm_refer 38 = .ok (.iload_n 2, 1) := by decide +kernel
theorem d_Lm_refer_39 : decode b_Lm_refer 39 = .ok (.iadd, 1) := by decide +kernel
theorem d_Lm_refer_40 : decode b_Lm_refer 40 = .ok (.iconst 4, 1) := by decide +kernel
theorem d_Lm_refer_41 : decode b_Lm_refer 41 = .ok (.isub, 1) := by decide +kernel
theorem d_Lm_refer_42 : decode b_Lm_refer 42 = .ok (.iaload, 1) := by decide +kernel
theorem d_Lm_refer_43 : decode b_Lm_refer 43 = .ok (.ifCond .eq 5, 3) := by decide +kernel
theorem d_Lm_refer_46 : decode b_Lm_refer 46 = .ok (.iconst (-1), 1) := by decide +kernel
theorem d_Lm_refer_47 : decode b_Lm_refer 47 = .ok (.ireturn, 1) := by decide +kernel
theorem d_Lm_refer_48 : decode b_Lm_refer 48 = .ok (.aload_n 0, 1) := by decide +kernel
theorem d_Lm_refer_49 : decode b_Lm_refer 49 = .ok (.getfield 59, 3) := by decide +kernel
theorem d_Lm_refer_52 : decode b_Lm_refer 52 = .ok (.iconst 4, 1) := by decide +kernel
theorem d_Lm_refer_53 : decode b_Lm_refer 53 = .ok (.iload_n 1, 1) := by decide +kernel
theorem d_Lm_refer_54 : decode b_Lm_refer 54 = .ok (.imul, 1) := by decide +kernel
theorem d_Lm_refer_55 : decode b_Lm_refer 55 = .ok (.iload_n 2, 1) := by decide +kernel
theorem d_Lm_refer_56 : decode b_Lm_refer 56 = .ok (.iadd, 1) := by decide +kernel
theorem d_Lm_refer_57 : decode b_Lm_refer 57 = .ok (.iconst 4, 1) := by decide +kernel
theorem d_Lm_refer_58 : decode b_Lm_refer 58 = .ok (.isub, 1) := by decide +kernel
theorem d_Lm_refer_59 : decode b_Lm_refer 59 = .ok (.iload_n 3, 1) := by decide +kernel
theorem d_Lm_refer_60 : decode b_Lm_refer 60 = .ok (.iconst 1, 1) := by decide +kernel
theorem d_Lm_refer_61 : decode b_Lm_refer 61 = .ok (.iadd, 1) := by decide +kernel
theorem d_Lm_refer_62 : decode b_Lm_refer 62 = .ok (.iastore, 1) := by decide +kernel
theorem d_Lm_refer_63 : decode b_Lm_refer 63 = .ok (.iconst 0, 1) := by decide +kernel
theorem d_Lm_refer_64 : decode b_Lm_refer 64 = .ok (.ireturn, 1) := by decide +kernel
theorem d_Lm_resolve_0 : decode b_Lm_resolve 0 = .ok (.iload_n 1, 1) := by decide +kernel
theorem d_Lm_resolve_1 : decode b_Lm_resolve 1 = .ok (.iconst 1, 1) := by decide +kernel
theorem d_Lm_resolve_2 : decode b_Lm_resolve 2 = .ok (.aload_n 0, 1) := by decide +kernel
theorem d_Lm_resolve_3 : decode b_Lm_resolve 3 = .ok (.getfield 146, 3) := by decide +kernel
theorem d_Lm_resolve_6 : decode b_Lm_resolve 6 = .ok (.invokestatic 77, 3) := by decide +kernel
theorem d_Lm_resolve_9 : decode b_Lm_resolve 9 = .ok (.ifCond .eq 27, 3) := by decide +kernel
theorem d_Lm_resolve_12 : decode b_Lm_resolve 12 = .ok (.iload_n 2, 1) := by decide +kernel
theorem d_Lm_resolve_13 : decode b_Lm_resolve 13 = .ok (.iconst 0, 1) := by decide +kernel
theorem d_Lm_resolve_14 : decode b_Lm_resolve 14 = .ok (.iconst 3, 1) := by decide +kernel
theorem d_Lm_resolve_15 : decode b_Lm_resolve 15 = .ok (.invokestatic 77, 3) := by decide +kernel
theorem d_Lm_resolve_18 : decode b_Lm_resolve 18 = .ok (.ifCond .eq 18, 3) := by decide +kernel
theorem d_Lm_resolve_21 : decode b_Lm_resolve 21 = .ok (.aload_n 0, 1) := by decide +kernel
theorem d_Lm_resolve_22 : decode b_Lm_resolve 22 = .ok (.getfield 59, 3) := by decide +kernel
theorem d_Lm_resolve_25 : decode b_Lm_resolve 25 = .ok (.iconst 4, 1) := by decide +kernel
theorem d_Lm_resolve_26 : decode b_Lm_resolve 26 = .ok (.iload_n 1, 1) := by decide +kernel
theorem d_Lm_resolve_27 : decode b_Lm_resolve 27 = .ok (.imul, 1) := by decide +kernel
theorem d_Lm_resolve_28 : decode b_Lm_resolve 28 = .ok (.iload_n 2, 1) := by decide +kernel
theorem d_Lm_resolve_29 : decode b_Lm_resolve 29 = .ok (.iadd, 1) := by decide +kernel
theorem d_Lm_resolve_30 : decode b_Lm_resolve 30 = .ok (.iconst 4, 1) := by decide +kernel
theorem d_Lm_resolve_31 : decode b_Lm_resolve 31 = .ok (.isub, 1) := by decide +kernel
theorem d_Lm_resolve_32 : decode b_Lm_resolve 32 = .ok (.iaload, 1) := by decide +kernel
theorem d_Lm_resolve_33 : decode b_Lm_resolve 33 = .ok (.ifCond .ne 5, 3) := by decide +kernel
theorem d_Lm_resolve_36 : decode b_Lm_resolve 36 = .ok (.iconst (-1), 1) := by decide +kernel
theorem d_Lm_resolve_37 : decode b_Lm_resolve 37 = .ok (.ireturn, 1) := by decide +kernel
theorem d_Lm_resolve_38 : decode b_Lm_resolve 38 = .ok (.iconst 4, 1) := by decide +kernel
theorem d_Lm_resolve_39 : decode b_Lm_resolve 39 = .ok (.iload_n 1, 1) := by decide +kernel
theorem d_Lm_resolve_40 : decode b_Lm_resolve 40 = .ok (.imul, 1) := by decide +kernel
theorem d_Lm_resolve_41 : decode b_Lm_resolve 41 = .ok (.iload_n 2, 1) := by decide +kernel
theorem d_Lm_resolve_42 : decode b_Lm_resolve 42 = .ok (.iadd, 1) := by decide +kernel
theorem d_Lm_resolve_43 : decode b_Lm_resolve 43 = .ok (.iconst 4, 1) := by decide +kernel
theorem d_Lm_resolve_44 : decode b_Lm_resolve 44 = .ok (.isub, 1) := by decide +kernel
theorem d_Lm_resolve_45 : decode b_Lm_resolve 45 = .ok (.istore_n 3, 1) := by decide +kernel
theorem d_Lm_resolve_46 : decode b_Lm_resolve 46 = .ok (.aload_n 0, 1) := by decide +kernel
theorem d_Lm_resolve_47 : decode b_Lm_resolve 47 = .ok (.iconst 0, 1) := by decide +kernel
theorem d_Lm_resolve_48 : decode b_Lm_resolve 48 = .ok (.putfield 92, 3) := by decide +kernel
theorem d_Lm_resolve_51 : decode b_Lm_resolve 51 = .ok (.aload_n 0, 1) := by decide +kernel
theorem d_Lm_resolve_52 : decode b_Lm_resolve 52 = .ok (.getfield 62, 3) := by decide +kernel
theorem d_Lm_resolve_55 : decode b_Lm_resolve 55 = .ok (.iload_n 3, 1) := by decide +kernel
theorem d_Lm_resolve_56 : decode b_Lm_resolve 56 = .ok (.iaload, 1) := by decide +kernel
theorem d_Lm_resolve_57 : decode b_Lm_resolve 57 = .ok (.ifCond .ne 73, 3) := by decide +kernel
theorem d_Lm_resolve_60 : decode b_Lm_resolve 60 = .ok (.aload_n 0, 1) := by decide +kernel
theorem d_Lm_resolve_61 : decode b_Lm_resolve 61 = .ok (.aload_n 0, 1) := by decide +kernel
theorem d_Lm_resolve_62 : decode b_Lm_resolve 62 = .ok (.getfield 47, 3) := by decide +kernel
theorem d_Lm_resolve_65 : decode b_Lm_resolve 65 = .ok (.iload_n 1, 1) := by decide +kernel
theorem d_Lm_resolve_66 : decode b_Lm_resolve 66 = .ok (.iaload, 1) := by decide +kernel
theorem d_Lm_resolve_67 : decode b_Lm_resolve 67 = .ok (.aload_n 0, 1) := by decide +kernel
theorem d_Lm_resolve_68 : decode b_Lm_resolve 68 = .ok (.getfield 59, 3) := by decide +kernel
theorem d_Lm_resolve_71 : decode b_Lm_resolve 71 = .ok (.iload_n 3, 1) := by decide +kernel
theorem d_Lm_resolve_72 : decode b_Lm_resolve 72 = .ok (.iaload, 1) := by decide +kernel
theorem d_Lm_resolve_73 : decode b_Lm_resolve 73 = .ok (.iconst 1, 1) := by decide +kernel
theorem d_Lm_resolve_74 : decode b_Lm_resolve 74 = .ok (.isub, 1) := by decide +kernel
theorem d_Lm_resolve_75 : decode b_Lm_resolve 75 = .ok (.invokevirtual 140, 3) := by decide +kernel
theorem d_Lm_resolve_78 : decode b_Lm_resolve 78 = .ok (.aload_n 0, 1) := by decide +kernel
theorem d_Lm_resolve_79 : decode b_Lm_resolve 79 = .ok (.invokevirtual 155, 3) := by decide +kernel
theorem d_Lm_resolve_82 : decode b_Lm_resolve 82 = .ok (.aload_n 0, 1) := by decide +kernel
theorem d_Lm_resolve_83 : decode b_Lm_resolve 83 = .ok (.getfield 85, 3) := by decide +kernel
theorem d_Lm_resolve_86 : decode b_Lm_resolve 86 = .ok (.bipush (-3), 2) := by decide +kernel
theorem d_Lm_resolve_88 : decode b_Lm_resolve 88 = .ok (.if_icmp .ne 11, 3) := by decide +kernel
theorem d_Lm_resolve_91 : decode b_Lm_resolve 91 = .ok (.aload_n 0, 1) := by decide +kernel
theorem d_Lm_resolve_92 : decode b_Lm_resolve 92 = .ok (.bipush (-4), 2) := by decide +kernel
theorem d_Lm_resolve_94 : decode b_Lm_resolve 94 = .ok (.bipush (-3), 2) := by decide +kernel
theorem d_Lm_resolve_96 : decode b_Lm_resolve 96 = .ok (.invokevirtual 95, 3) := by decide +kernel
theorem d_Lm_resolve_99 : decode b_Lm_resolve 99 = .ok (.aload_n 0, 1) := by decide +kernel
theorem d_Lm_resolve_100 : decode b_Lm_resolve 100 = .ok (.getfield 62, 3) := by decide +kernel
theorem d_Lm_resolve_103 : decode b_Lm_resolve 103 = .ok (.iload_n 3, 1) := by decide +kernel
theorem d_Lm_resolve_104 : decode b_Lm_resolve 104 = .ok (.aload_n 0, 1) := by decide +kernel
theorem d_Lm_resolve_105 : decode b_Lm_resolve 105 = .ok (.getfield 85, 3) := by decide +kernel
theorem d_Lm_resolve_108 : decode b_Lm_resolve 108 = .ok (.iastore, 1) := by decide +kernel
theorem d_Lm_resolve_109 : decode b_Lm_resolve 109 = .ok (.aload_n 0, 1) := by decide +kernel
theorem d_Lm_resolve_110 : decode b_Lm_resolve 110 = .ok (.getfield 65, 3) := by decide +kernel
theorem d_Lm_resolve_113 : decode b_Lm_resolve 113 = .ok (.iload_n 3, 1) := by decide +kernel
theorem d_Lm_resolve_114 : decode b_Lm_resolve 114 = .ok (.aload_n 0, 1) := by decide +kernel
theorem d_Lm_resolve_115 : decode b_Lm_resolve 115 = .ok (.getfield 85, 3) := by decide +kernel
theorem d_Lm_resolve_118 : decode b_Lm_resolve 118 = .ok (.ifCond .ge 10, 3) := by decide +kernel
theorem d_Lm_resolve_121 : decode b_Lm_resolve 121 = .ok (.aload_n 0, 1) := by decide +kernel
theorem d_Lm_resolve_122 : decode b_Lm_resolve 122 = .ok (.getfield 89, 3) := by decide +kernel
theorem d_Lm_resolve_125 : decode b_Lm_resolve 125 = .ok (.goto 4, 3) := by decide +kernel
theorem d_Lm_resolve_128 : decode b_Lm_resolve 128 = .ok (.iconst 0, 1) := by decide +kernel
theorem d_Lm_resolve_129 : decode b_Lm_resolve 129 = .ok (.iastore, 1) := by decide +kernel
theorem d_Lm_resolve_130 : decode b_Lm_resolve 130 = .ok (.aload_n 0, 1) := by decide +kernel
theorem d_Lm_resolve_131 : decode b_Lm_resolve 131 = .ok (.aload_n 0, 1) := by decide +kernel
theorem d_Lm_resolve_132 : decode b_Lm_resolve 132 = .ok (.getfield 62, 3) := by decide +kernel
theorem d_Lm_resolve_135 : decode b_Lm_resolve 135 = .ok (.iload_n 3, 1) := by decide +kernel
theorem d_Lm_resolve_136 : decode b_Lm_resolve 136 = .ok (.iaload, 1) := by decide +kernel
theorem d_Lm_resolve_137 : decode b_Lm_resolve 137 = .ok (.aload_n 0, 1) := by decide +kernel
theorem d_Lm_resolve_138 : decode b_Lm_resolve 138 = .ok (.getfield 65, 3) := by decide +kernel
theorem d_Lm_resolve_141 : decode b_Lm_resolve 141 = .ok (.iload_n 3, 1) := by decide +kernel
theorem d_Lm_resolve_142 : decode b_Lm_resolve 142 = .ok (.iaload, 1) := by decide +kernel
theorem d_Lm_resolve_143 : decode b_Lm_resolve 143 = .ok (.invokevirtual 95, 3) := by decide +kernel
theorem d_Lm_resolve_146 : decode b_Lm_resolve 146 = .ok (.aload_n 0, 1) := by decide +kernel
theorem d_Lm_resolve_147 : decode b_Lm_resolve 147 = .ok (.invokevirtual 158, 3) := by decide +kernel
theorem d_Lm_resolve_150 : decode b_Lm_resolve 150 = .ok (.ireturn, 1) := by decide +kernel
theorem d_Lm_constrain_0 : decode b_Lm_constrain 0 = .ok (.iload_n 1, 1) := by decide +kernel
theorem d_Lm_constrain_1 : decode b_Lm_constrain 1 = .ok (.iload_n 3, 1) := by decide +kernel
theorem d_Lm_constrain_2 : decode b_Lm_constrain 2 = .ok (.invokestatic 81, 3) := by decide +kernel
theorem d_Lm_constrain_5 : decode b_Lm_constrain 5 = .ok (.ifCond .eq 12, 3) := by decide +kernel
theorem d_Lm_constrain_8 : decode b_Lm_constrain 8 = .ok (.iload_n 2, 1) := by decide +kernel
theorem d_Lm_constrain_9 : decode b_Lm_constrain 9 = .ok (.iconst 0, 1) := by decide +kernel
theorem d_Lm_constrain_10 : decode b_Lm_constrain 10 = .ok (.iconst 4, 1) := by decide +kernel
theorem d_Lm_constrain_11 : decode b_Lm_constrain 11 = .ok (.invokestatic 77, 3) := by decide +kernel
theorem d_Lm_constrain_14 : decode b_Lm_constrain 14 = .ok (.ifCond .ne 5, 3) := by decide +kernel
theorem d_Lm_constrain_17 : decode b_Lm_constrain 17 = .ok (.iconst (-1), 1) := by decide +kernel
theorem d_Lm_constrain_18 : decode b_Lm_constrain 18 = .ok (.ireturn, 1) := by decide +kernel
theorem d_Lm_constrain_19 : decode b_Lm_constrain 19 = .ok (.aload_n 0, 1) := by decide +kernel
theorem d_Lm_constrain_20 : decode b_Lm_constrain 20 = .ok (.getfield 41, 3) := by decide +kernel
theorem d_Lm_constrain_23 : decode b_Lm_constrain 23 = .ok (.bipush 8, 2) := by decide +kernel
theorem d_Lm_constrain_25 : decode b_Lm_constrain 25 = .ok (.iload_n 1, 1) := by decide +kernel
theorem d_Lm_constrain_26 : decode b_Lm_constrain 26 = .ok (.imul, 1) := by decide +kernel
theorem d_Lm_constrain_27 : decode b_Lm_constrain 27 = .ok (.iload_n 3, 1) := by decide +kernel
theorem d_Lm_constrain_28 : decode b_Lm_constrain 28 = .ok (.iadd, 1) := by decide +kernel
theorem d_Lm_constrain_29 : decode b_Lm_constrain 29 = .ok (.iaload, 1) := by decide +kernel
theorem d_Lm_constrain_30 : decode b_Lm_constrain 30 = .ok (.istore 4, 2) := by decide +kernel
theorem d_Lm_constrain_32 : decode b_Lm_constrain 32 = .ok (.aload_n 0, 1) := by decide +kernel
theorem d_Lm_constrain_33 : decode b_Lm_constrain 33 = .ok (.getfield 41, 3) := by decide +kernel
theorem d_Lm_constrain_36 : decode b_Lm_constrain 36 = .ok (.bipush 8, 2) := by decide +kernel
theorem d_Lm_constrain_38 : decode b_Lm_constrain 38 = .ok (.iload_n 2, 1) := by decide +kernel
theorem d_Lm_constrain_39 : decode b_Lm_constrain 39 = .ok (.imul, 1) := by decide +kernel
theorem d_Lm_constrain_40 : decode b_Lm_constrain 40 = .ok (.iload_n 3, 1) := by decide +kernel
theorem d_Lm_constrain_41 : decode b_Lm_constrain 41 = .ok (.iadd, 1) := by decide +kernel
theorem d_Lm_constrain_42 : decode b_Lm_constrain 42 = .ok (.iaload, 1) := by decide +kernel
theorem d_Lm_constrain_43 : decode b_Lm_constrain 43 = .ok (.istore 5, 2) := by decide +kernel
theorem d_Lm_constrain_45 : decode b_Lm_constrain 45 = .ok (.iconst 0, 1) := by decide +kernel
theorem d_Lm_constrain_46 : decode b_Lm_constrain 46 = .ok (.istore 6, 2) := by decide +kernel
theorem d_Lm_constrain_48 : decode b_Lm_constrain 48 = .ok (.iconst 0, 1) := by decide +kernel
theorem d_Lm_constrain_49 : decode b_Lm_constrain 49 = .ok (.istore 7, 2) := by decide +kernel
theorem d_Lm_constrain_51 : decode b_Lm_constrain 51 = .ok (.iload 7, 2) := by decide +kernel
theorem d_Lm_constrain_53 : decode b_Lm_constrain 53 = .ok (.iconst 5, 1) := by decide +kernel
theorem d_Lm_constrain_54 : decode b_Lm_constrain 54 = .ok (.if_icmp .ge 84, 3) := by decide +kernel
theorem d_Lm_constrain_57 : decode b_Lm_constrain 57 = .ok (.bipush 8, 2) := by decide +kernel
theorem d_Lm_constrain_59 : decode b_Lm_constrain 59 = .ok (.iload 7, 2) := by decide +kernel
theorem d_Lm_constrain_61 : decode b_Lm_constrain 61 = .ok (.imul, 1) := by decide +kernel
theorem d_Lm_constrain_62 : decode b_Lm_constrain 62 = .ok (.iload_n 3, 1) := by decide +kernel
theorem d_Lm_constrain_63 : decode b_Lm_constrain 63 = .ok (.iadd, 1) := by decide +kernel
theorem d_Lm_constrain_64 : decode b_Lm_constrain 64 = .ok (.istore 8, 2) := by decide +kernel
theorem d_Lm_constrain_66 : decode b_Lm_constrain 66 = .ok (.aload_n 0, 1) := by decide +kernel
theorem d_Lm_constrain_67 : decode b_Lm_constrain 67 = .ok (.getfield 41, 3) := by decide +kernel
theorem d_Lm_constrain_70 : decode b_Lm_constrain 70 = .ok (.iload 8, 2) := by decide +kernel
theorem d_Lm_constrain_72 : decode b_Lm_constrain 72 = .ok (.iaload, 1) := by decide +kernel
theorem d_Lm_constrain_73 : decode b_Lm_constrain 73 = .ok (.iload 4, 2) := by decide +kernel
theorem d_Lm_constrain_75 : decode b_Lm_constrain 75 = .ok (.if_icmp .eq 15, 3) := by decide +kernel
theorem d_Lm_constrain_78 : decode b_Lm_constrain 78 = .ok (.aload_n 0, 1) := by decide +kernel
theorem d_Lm_constrain_79 : decode b_Lm_constrain 79 = .ok (.getfield 41, 3) := by decide +kernel
theorem d_Lm_constrain_82 : decode b_Lm_constrain 82 = .ok (.iload 8, 2) := by decide +kernel
theorem d_Lm_constrain_84 : decode b_Lm_constrain 84 = .ok (.iaload, 1) := by decide +kernel
theorem d_Lm_constrain_85 : decode b_Lm_constrain 85 = .ok (.iload 5, 2) := by decide +kernel
theorem d_Lm_constrain_87 : decode b_Lm_constrain 87 = .ok (.if_icmp .ne 45, 3) := by decide +kernel
theorem d_Lm_constrain_90 : decode b_Lm_constrain 90 = .ok (.aload_n 0, 1) := by decide +kernel
theorem d_Lm_constrain_91 : decode b_Lm_constrain 91 = .ok (.getfield 35, 3) := by decide +kernel
theorem d_Lm_constrain_94 : decode b_Lm_constrain 94 = .ok (.iload 8, 2) := by decide +kernel
theorem d_Lm_constrain_96 : decode b_Lm_constrain 96 = .ok (.iaload, 1) := by decide +kernel
theorem d_Lm_constrain_97 : decode b_Lm_constrain 97 = .ok (.ifCond .ne 6, 3) := by decide +kernel
theorem d_Lm_constrain_100 : decode b_Lm_constrain 100 = .ok (.goto 32, 3) := by decide +kernel
theorem d_Lm_constrain_103 : decode b_Lm_constrain 103 = .ok (.iload 6, 2) := by decide +kernel
theorem d_Lm_constrain_105 : decode b_Lm_constrain 105 = .ok (.ifCond .le 18, 3) := by decide +kernel
theorem d_Lm_constrain_108 : decode b_Lm_constrain 108 = .ok (.aload_n 0, 1) := by decide +kernel
theorem d_Lm_constrain_109 : decode b_Lm_constrain 109 = .ok (.getfield 35, 3) := by decide +kernel
theorem d_Lm_constrain_112 : decode b_Lm_constrain 112 = .ok (.iload 8, 2) := by decide +kernel
theorem d_Lm_constrain_114 : decode b_Lm_constrain 114 = .ok (.iaload, 1) := by decide +kernel
theorem d_Lm_constrain_115 : decode b_Lm_constrain 115 = .ok (.iload 6, 2) := by decide +kernel
theorem d_Lm_constrain_117 : decode b_Lm_constrain 117 = .ok (.if_icmp .eq 6, 3) := by decide +kernel
theorem d_Lm_constrain_120 : decode b_Lm_constrain 120 = .ok (.bipush (-9), 2) := by decide +kernel
theorem d_Lm_constrain_122 : decode b_Lm_constrain 122 = .ok (.ireturn, 1) := by decide +kernel
theorem d_Lm_constrain_123 : decode b_Lm_constrain 123 = .ok (.aload_n 0, 1) := by decide +kernel
theorem d_Lm_constrain_124 : decode b_Lm_constrain 124 = .ok (.getfield 35, 3) := by decide +kernel
theorem d_Lm_constrain_127 : decode b_Lm_constrain 127 = .ok (.iload 8, 2) := by decide +kernel
theorem d_Lm_constrain_129 : decode b_Lm_constrain 129 = .ok (.iaload, 1) := by decide +kernel
theorem d_Lm_constrain_130 : decode b_Lm_constrain 130 = .ok (.istore 6, 2) := by decide +kernel
theorem d_Lm_constrain_132 : decode b_Lm_constrain 132 = .ok (.iinc 7 1, 3) := by decide +kernel
theorem d_Lm_constrain_135 : decode b_Lm_constrain 135 = .ok (.goto (-84), 3) := by decide +kernel
theorem d_Lm_constrain_138 : decode b_Lm_constrain 138 = .ok (.iconst 0, 1) := by decide +kernel
theorem d_Lm_constrain_139 : decode b_Lm_constrain 139 = .ok (.istore 7, 2) := by decide +kernel
theorem d_Lm_constrain_141 : decode b_Lm_constrain 141 = .ok (.iload 7, 2) := by decide +kernel
theorem d_Lm_constrain_143 : decode b_Lm_constrain 143 = .ok (.iconst 5, 1) := by decide +kernel
theorem d_Lm_constrain_144 : decode b_Lm_constrain 144 = .ok (.if_icmp .ge 69, 3) := by decide +kernel
theorem d_Lm_constrain_147 : decode b_Lm_constrain 147 = .ok (.aload_n 0, 1) := by decide +kernel
theorem d_Lm_constrain_148 : decode b_Lm_constrain 148 = .ok (.getfield 41, 3) := by decide +kernel
theorem d_Lm_constrain_151 : decode b_Lm_constrain 151 = .ok (.bipush 8, 2) := by decide +kernel
theorem d_Lm_constrain_153 : decode b_Lm_constrain 153 = .ok (.iload 7, 2) := by decide +kernel
theorem d_Lm_constrain_155 : decode b_Lm_constrain 155 = .ok (.imul, 1) := by decide +kernel
theorem d_Lm_constrain_156 : decode b_Lm_constrain 156 = .ok (.iload_n 3, 1) := by decide +kernel
theorem d_Lm_constrain_157 : decode b_Lm_constrain 157 = .ok (.iadd, 1) := by decide +kernel
theorem d_Lm_constrain_158 : decode b_Lm_constrain 158 = .ok (.iaload, 1) := by decide +kernel
theorem d_Lm_constrain_159 : decode b_Lm_constrain 159 = .ok (.iload 4, 2) := by decide +kernel
theorem d_Lm_constrain_161 : decode b_Lm_constrain 161 = .ok (.if_icmp .eq 20, 3) := by decide +kernel
theorem d_Lm_constrain_164 : decode b_Lm_constrain 164 = .ok (.aload_n 0, 1) := by decide +kernel
theorem d_Lm_constrain_165 : decode b_Lm_constrain 165 = .ok (.getfield 41, 3) := by decide +kernel
theorem d_Lm_constrain_168 : decode b_Lm_constrain 168 = .ok (.bipush 8, 2) := by decide +kernel
theorem d_Lm_constrain_170 : decode b_Lm_constrain 170 = .ok (.iload 7, 2) := by decide +kernel
theorem d_Lm_constrain_172 : decode b_Lm_constrain 172 = .ok (.imul, 1) := by decide +kernel
theorem d_Lm_constrain_173 : decode b_Lm_constrain 173 = .ok (.iload_n 3, 1) := by decide +kernel
theorem d_Lm_constrain_174 : decode b_Lm_constrain 174 = .ok (.iadd, 1) := by decide +kernel
theorem d_Lm_constrain_175 : decode b_Lm_constrain 175 = .ok (.iaload, 1) := by decide +kernel
theorem d_Lm_constrain_176 : decode b_Lm_constrain 176 = .ok (.iload 5, 2) := by decide +kernel
theorem d_Lm_constrain_178 : decode b_Lm_constrain 178 = .ok (.if_icmp .ne 29, 3) := by decide +kernel
theorem d_Lm_constrain_181 : decode b_Lm_constrain 181 = .ok (.aload_n 0, 1) := by decide +kernel
theorem d_Lm_constrain_182 : decode b_Lm_constrain 182 = .ok (.getfield 41, 3) := by decide +kernel
theorem d_Lm_constrain_185 : decode b_Lm_constrain 185 = .ok (.bipush 8, 2) := by decide +kernel
theorem d_Lm_constrain_187 : decode b_Lm_constrain 187 = .ok (.iload 7, 2) := by decide +kernel
theorem d_Lm_constrain_189 : decode b_Lm_constrain 189 = .ok (.imul, 1) := by decide +kernel
theorem d_Lm_constrain_190 : decode b_Lm_constrain 190 = .ok (.iload_n 3, 1) := by decide +kernel
theorem d_Lm_constrain_191 : decode b_Lm_constrain 191 = .ok (.iadd, 1) := by decide +kernel
theorem d_Lm_constrain_192 : decode b_Lm_constrain 192 = .ok (.iload 4, 2) := by decide +kernel
theorem d_Lm_constrain_194 : decode b_Lm_constrain 194 = .ok (.iload 5, 2) := by decide +kernel
theorem d_Lm_constrain_196 : decode b_Lm_constrain 196 = .ok (.if_icmp .ge 8, 3) := by decide +kernel
theorem d_Lm_constrain_199 : decode b_Lm_constrain 199 = .ok (.iload 4, 2) := by decide +kernel
theorem d_Lm_constrain_201 : decode b_Lm_constrain 201 = .ok (.goto 5, 3) := by decide +kernel
theorem d_Lm_constrain_204 : decode b_Lm_constrain 204 = .ok (.iload 5, 2) := by decide +kernel
theorem d_Lm_constrain_206 : decode b_Lm_constrain 206 = .ok (.iastore, 1) := by decide +kernel
theorem d_Lm_constrain_207 : decode b_Lm_constrain 207 = .ok (.iinc 7 1, 3) := by decide +kernel
theorem d_Lm_constrain_210 : decode b_Lm_constrain 210 = .ok (.goto (-69), 3) := by decide +kernel
theorem d_Lm_constrain_213 : decode b_Lm_constrain 213 = .ok (.iconst 0, 1) := by decide +kernel
theorem d_Lm_constrain_214 : decode b_Lm_constrain 214 = .ok (.ireturn, 1) := by decide +kernel
theorem d_Lm_agree_0 : decode b_Lm_agree 0 = .ok (.iload_n 1, 1) := by decide +kernel
theorem d_Lm_agree_1 : decode b_Lm_agree 1 = .ok (.iload_n 3, 1) := by decide +kernel
theorem d_Lm_agree_2 : decode b_Lm_agree 2 = .ok (.invokestatic 81, 3) := by decide +kernel
theorem d_Lm_agree_5 : decode b_Lm_agree 5 = .ok (.ifCond .eq 41, 3) := by decide +kernel
theorem d_Lm_agree_8 : decode b_Lm_agree 8 = .ok (.iload_n 2, 1) := by decide +kernel
theorem d_Lm_agree_9 : decode b_Lm_agree 9 = .ok (.iconst 0, 1) := by decide +kernel
theorem d_Lm_agree_10 : decode b_Lm_agree 10 = .ok (.iconst 4, 1) := by decide +kernel
theorem d_Lm_agree_11 : decode b_Lm_agree 11 = .ok (.invokestatic 77, 3) := by decide +kernel
theorem d_Lm_agree_14 : decode b_Lm_agree 14 = .ok (.ifCond .eq 32, 3) := by decide +kernel
theorem d_Lm_agree_17 : decode b_Lm_agree 17 = .ok (.aload_n 0, 1) := by decide +kernel
theorem d_Lm_agree_18 : decode b_Lm_agree 18 = .ok (.getfield 41, 3) := by decide +kernel
theorem d_Lm_agree_21 : decode b_Lm_agree 21 = .ok (.bipush 8, 2) := by decide +kernel
theorem d_Lm_agree_23 : decode b_Lm_agree 23 = .ok (.iload_n 1, 1) := by decide +kernel
theorem d_Lm_agree_24 : decode b_Lm_agree 24 = .ok (.imul, 1) := by decide +kernel
theorem d_Lm_agree_25 : decode b_Lm_agree 25 = .ok (.iload_n 3, 1) := by decide +kernel
theorem d_Lm_agree_26 : decode b_Lm_agree 26 = .ok (.iadd, 1) := by decide +kernel
theorem d_Lm_agree_27 : decode b_Lm_agree 27 = .ok (.iaload, 1) := by decide +kernel
theorem d_Lm_agree_28 : decode b_Lm_agree 28 = .ok (.aload_n 0, 1) := by decide +kernel
theorem d_Lm_agree_29 : decode b_Lm_agree 29 = .ok (.getfield 41, 3) := by decide +kernel
theorem d_Lm_agree_32 : decode b_Lm_agree 32 = .ok (.bipush 8, 2) := by decide +kernel
theorem d_Lm_agree_34 : decode b_Lm_agree 34 = .ok (.iload_n 2, 1) := by decide +kernel
theorem d_Lm_agree_35 : decode b_Lm_agree 35 = .ok (.imul, 1) := by decide +kernel
theorem d_Lm_agree_36 : decode b_Lm_agree 36 = .ok (.iload_n 3, 1) := by decide +kernel
theorem d_Lm_agree_37 : decode b_Lm_agree 37 = .ok (.iadd, 1) := by decide +kernel
theorem d_Lm_agree_38 : decode b_Lm_agree 38 = .ok (.iaload, 1) := by decide +kernel
theorem d_Lm_agree_39 : decode b_Lm_agree 39 = .ok (.if_icmp .ne 7, 3) := by decide +kernel
theorem d_Lm_agree_42 : decode b_Lm_agree 42 = .ok (.iconst 1, 1) := by decide +kernel
theorem d_Lm_agree_43 : decode b_Lm_agree 43 = .ok (.goto 4, 3) := by decide +kernel
theorem d_Lm_agree_46 : decode b_Lm_agree 46 = .ok (.iconst 0, 1) := by decide +kernel
theorem d_Lm_agree_47 : decode b_Lm_agree 47 = .ok (.ireturn, 1) := by decide +kernel
theorem d_Lm_cause_0 : decode b_Lm_cause 0 = .ok (.iload_n 1, 1) := by decide +kernel
theorem d_Lm_cause_1 : decode b_Lm_cause 1 = .ok (.ifCond .ne 15, 3) := by decide +kernel
theorem d_Lm_cause_4 : decode b_Lm_cause 4 = .ok (.aload_n 0, 1) := by decide +kernel
theorem d_Lm_cause_5 : decode b_Lm_cause 5 = .ok (.getfield 149, 3) := by decide +kernel
theorem d_Lm_cause_8 : decode b_Lm_cause 8 = .ok (.ifCond .eq 8, 3) := by decide +kernel
theorem d_Lm_cause_11 : decode b_Lm_cause 11 = .ok (.aload_n 0, 1) := by decide +kernel
theorem d_Lm_cause_12 : decode b_Lm_cause 12 = .ok (.getfield 149, 3) := by decide +kernel
theorem d_Lm_cause_15 : decode b_Lm_cause 15 = .ok (.ireturn, 1) := by decide +kernel
theorem d_Lm_cause_16 : decode b_Lm_cause 16 = .ok (.iload_n 1, 1) := by decide +kernel
theorem d_Lm_cause_17 : decode b_Lm_cause 17 = .ok (.iconst 1, 1) := by decide +kernel
theorem d_Lm_cause_18 : decode b_Lm_cause 18 = .ok (.if_icmp .ne 17, 3) := by decide +kernel
theorem d_Lm_cause_21 : decode b_Lm_cause 21 = .ok (.aload_n 0, 1) := by decide +kernel
theorem d_Lm_cause_22 : decode b_Lm_cause 22 = .ok (.getfield 152, 3) := by decide +kernel
theorem d_Lm_cause_25 : decode b_Lm_cause 25 = .ok (.ifCond .eq 10, 3) := by decide +kernel
theorem d_Lm_cause_28 : decode b_Lm_cause 28 = .ok (.aload_n 0, 1) := by decide +kernel
theorem d_Lm_cause_29 : decode b_Lm_cause 29 = .ok (.getfield 152, 3) := by decide +kernel
theorem d_Lm_cause_32 : decode b_Lm_cause 32 = .ok (.goto 4, 3) := by decide +kernel
theorem d_Lm_cause_35 : decode b_Lm_cause 35 = .ok (.iconst (-1), 1) := by decide +kernel
theorem d_Lm_cause_36 : decode b_Lm_cause 36 = .ok (.ireturn, 1) := by decide +kernel
theorem d_Lm_requests_0 : decode b_Lm_requests 0 = .ok (.aload_n 0, 1) := by decide +kernel
theorem d_Lm_requests_1 : decode b_Lm_requests 1 = .ok (.getfield 92, 3) := by decide +kernel
theorem d_Lm_requests_4 : decode b_Lm_requests 4 = .ok (.ireturn, 1) := by decide +kernel
theorem d_Lm_recorded_0 : decode b_Lm_recorded 0 = .ok (.iload_n 1, 1) := by decide +kernel
theorem d_Lm_recorded_1 : decode b_Lm_recorded 1 = .ok (.iload_n 2, 1) := by decide +kernel
theorem d_Lm_recorded_2 : decode b_Lm_recorded 2 = .ok (.invokestatic 81, 3) := by decide +kernel
theorem d_Lm_recorded_5 : decode b_Lm_recorded 5 = .ok (.ifCond .eq 17, 3) := by decide +kernel
theorem d_Lm_recorded_8 : decode b_Lm_recorded 8 = .ok (.aload_n 0, 1) := by decide +kernel
theorem d_Lm_recorded_9 : decode b_Lm_recorded 9 = .ok (.getfield 35, 3) := by decide +kernel
theorem d_Lm_recorded_12 : decode b_Lm_recorded 12 = .ok (.bipush 8, 2) := by decide +kernel
theorem d_Lm_recorded_14 : decode b_Lm_recorded 14 = .ok (.iload_n 1, 1) := by decide +kernel
theorem d_Lm_recorded_15 : decode b_Lm_recorded 15 = .ok (.imul, 1) := by decide +kernel
theorem d_Lm_recorded_16 : decode b_Lm_recorded 16 = .ok (.iload_n 2, 1) := by decide +kernel
theorem d_Lm_recorded_17 : decode b_Lm_recorded 17 = .ok (.iadd, 1) := by decide +kernel
theorem d_Lm_recorded_18 : decode b_Lm_recorded 18 = .ok (.iaload, 1) := by decide +kernel
theorem d_Lm_recorded_19 : decode b_Lm_recorded 19 = .ok (.goto 4, 3) := by decide +kernel
theorem d_Lm_recorded_22 : decode b_Lm_recorded 22 = .ok (.iconst (-1), 1) := by decide +kernel
theorem d_Lm_recorded_23 : decode b_Lm_recorded 23 = .ok (.ireturn, 1) := by decide +kernel
theorem d_Lm_of_0 : decode b_Lm_of 0 = .ok (.iload_n 1, 1) := by decide +kernel
theorem d_Lm_of_1 : decode b_Lm_of 1 = .ok (.iconst 1, 1) := by decide +kernel
theorem d_Lm_of_2 : decode b_Lm_of 2 = .ok (.aload_n 0, 1) := by decide +kernel
theorem d_Lm_of_3 : decode b_Lm_of 3 = .ok (.getfield 146, 3) := by decide +kernel
theorem d_Lm_of_6 : decode b_Lm_of 6 = .ok (.invokestatic 77, 3) := by decide +kernel
theorem d_Lm_of_9 : decode b_Lm_of 9 = .ok (.ifCond .ne 5, 3) := by decide +kernel
theorem d_Lm_of_12 : decode b_Lm_of 12 = .ok (.iconst (-1), 1) := by decide +kernel
theorem d_Lm_of_13 : decode b_Lm_of 13 = .ok (.ireturn, 1) := by decide +kernel
theorem d_Lm_of_14 : decode b_Lm_of 14 = .ok (.iload_n 2, 1) := by decide +kernel
theorem d_Lm_of_15 : decode b_Lm_of 15 = .ok (.tableswitch 98 0 8 #[49, 56, 63, 70, 77, 84, 84, 84, 84], 49) := by decide +kernel
theorem d_Lm_of_64 : decode b_Lm_of 64 = .ok (.aload_n 0, 1) := by decide +kernel
theorem d_Lm_of_65 : decode b_Lm_of 65 = .ok (.getfield 44, 3) := by decide +kernel
theorem d_Lm_of_68 : decode b_Lm_of 68 = .ok (.iload_n 1, 1) := by decide +kernel
theorem d_Lm_of_69 : decode b_Lm_of 69 = .ok (.iaload, 1) := by decide +kernel
theorem d_Lm_of_70 : decode b_Lm_of 70 = .ok (.ireturn, 1) := by decide +kernel
theorem d_Lm_of_71 : decode b_Lm_of 71 = .ok (.aload_n 0, 1) := by decide +kernel
theorem d_Lm_of_72 : decode b_Lm_of 72 = .ok (.getfield 47, 3) := by decide +kernel
theorem d_Lm_of_75 : decode b_Lm_of 75 = .ok (.iload_n 1, 1) := by decide +kernel
theorem d_Lm_of_76 : decode b_Lm_of 76 = .ok (.iaload, 1) := by decide +kernel
theorem d_Lm_of_77 : decode b_Lm_of 77 = .ok (.ireturn, 1) := by decide +kernel
theorem d_Lm_of_78 : decode b_Lm_of 78 = .ok (.aload_n 0, 1) := by decide +kernel
theorem d_Lm_of_79 : decode b_Lm_of 79 = .ok (.getfield 50, 3) := by decide +kernel
theorem d_Lm_of_82 : decode b_Lm_of 82 = .ok (.iload_n 1, 1) := by decide +kernel
theorem d_Lm_of_83 : decode b_Lm_of 83 = .ok (.iaload, 1) := by decide +kernel
theorem d_Lm_of_84 : decode b_Lm_of 84 = .ok (.ireturn, 1) := by decide +kernel
theorem d_Lm_of_85 : decode b_Lm_of 85 = .ok (.aload_n 0, 1) := by decide +kernel
theorem d_Lm_of_86 : decode b_Lm_of 86 = .ok (.getfield 53, 3) := by decide +kernel
theorem d_Lm_of_89 : decode b_Lm_of 89 = .ok (.iload_n 1, 1) := by decide +kernel
theorem d_Lm_of_90 : decode b_Lm_of 90 = .ok (.iaload, 1) := by decide +kernel
theorem d_Lm_of_91 : decode b_Lm_of 91 = .ok (.ireturn, 1) := by decide +kernel
theorem d_Lm_of_92 : decode b_Lm_of 92 = .ok (.aload_n 0, 1) := by decide +kernel
theorem d_Lm_of_93 : decode b_Lm_of 93 = .ok (.getfield 56, 3) := by decide +kernel
theorem d_Lm_of_96 : decode b_Lm_of 96 = .ok (.iload_n 1, 1) := by decide +kernel
theorem d_Lm_of_97 : decode b_Lm_of 97 = .ok (.iaload, 1) := by decide +kernel
theorem d_Lm_of_98 : decode b_Lm_of 98 = .ok (.ireturn, 1) := by decide +kernel
theorem d_Lm_of_99 : decode b_Lm_of 99 = .ok (.aload_n 0, 1) := by decide +kernel
theorem d_Lm_of_100 : decode b_Lm_of 100 = .ok (.getfield 62, 3) := by decide +kernel
theorem d_Lm_of_103 : decode b_Lm_of 103 = .ok (.iconst 4, 1) := by decide +kernel
theorem d_Lm_of_104 : decode b_Lm_of 104 = .ok (.iload_n 1, 1) := by decide +kernel
theorem d_Lm_of_105 : decode b_Lm_of 105 = .ok (.imul, 1) := by decide +kernel
theorem d_Lm_of_106 : decode b_Lm_of 106 = .ok (.iload_n 2, 1) := by decide +kernel
theorem d_Lm_of_107 : decode b_Lm_of 107 = .ok (.iadd, 1) := by decide +kernel
theorem d_Lm_of_108 : decode b_Lm_of 108 = .ok (.bipush 9, 2) := by decide +kernel
theorem d_Lm_of_110 : decode b_Lm_of 110 = .ok (.isub, 1) := by decide +kernel
theorem d_Lm_of_111 : decode b_Lm_of 111 = .ok (.iaload, 1) := by decide +kernel
theorem d_Lm_of_112 : decode b_Lm_of 112 = .ok (.ireturn, 1) := by decide +kernel
theorem d_Lm_of_113 : decode b_Lm_of 113 = .ok (.iconst (-1), 1) := by decide +kernel
theorem d_Lm_of_114 : decode b_Lm_of 114 = .ok (.ireturn, 1) := by decide +kernel
theorem d_Lm_isA_0 : decode b_Lm_isA 0 = .ok (.iload_n 1, 1) := by decide +kernel
theorem d_Lm_isA_1 : decode b_Lm_isA 1 = .ok (.iconst 1, 1) := by decide +kernel
theorem d_Lm_isA_2 : decode b_Lm_isA 2 = .ok (.aload_n 0, 1) := by decide +kernel
theorem d_Lm_isA_3 : decode b_Lm_isA 3 = .ok (.getfield 146, 3) := by decide +kernel
theorem d_Lm_isA_6 : decode b_Lm_isA 6 = .ok (.invokestatic 77, 3) := by decide +kernel
theorem d_Lm_isA_9 : decode b_Lm_isA 9 = .ok (.ifCond .eq 15, 3) := by decide +kernel
theorem d_Lm_isA_12 : decode b_Lm_isA 12 = .ok (.iload_n 2, 1) := by decide +kernel
theorem d_Lm_isA_13 : decode b_Lm_isA 13 = .ok (.iconst 1, 1) := by decide +kernel
theorem d_Lm_isA_14 : decode b_Lm_isA 14 = .ok (.aload_n 0, 1) := by decide +kernel
theorem d_Lm_isA_15 : decode b_Lm_isA 15 = .ok (.getfield 146, 3) := by decide +kernel
theorem d_Lm_isA_18 : decode b_Lm_isA 18 = .ok (.invokestatic 77, 3) := by decide +kernel
theorem d_Lm_isA_21 : decode b_Lm_isA 21 = .ok (.ifCond .ne 5, 3) := by decide +kernel
theorem d_Lm_isA_24 : decode b_Lm_isA 24 = .ok (.iconst 0, 1) := by decide +kernel
theorem d_Lm_isA_25 : decode b_Lm_isA 25 = .ok (.ireturn, 1) := by decide +kernel
theorem d_Lm_isA_26 : decode b_Lm_isA 26 = .ok (.iconst 1, 1) := by decide +kernel
theorem d_Lm_isA_27 : decode b_Lm_isA 27 = .ok (.iload_n 1, 1) := by decide +kernel
theorem d_Lm_isA_28 : decode b_Lm_isA 28 = .ok (.ishl, 1) := by decide +kernel
theorem d_Lm_isA_29 : decode b_Lm_isA 29 = .ok (.istore_n 3, 1) := by decide +kernel
theorem d_Lm_isA_30 : decode b_Lm_isA 30 = .ok (.iload_n 1, 1) := by decide +kernel
theorem d_Lm_isA_31 : decode b_Lm_isA 31 = .ok (.istore 4, 2) := by decide +kernel
theorem d_Lm_isA_33 : decode b_Lm_isA 33 = .ok (.iload 4, 2) := by decide +kernel
theorem d_Lm_isA_35 : decode b_Lm_isA 35 = .ok (.ifCond .le 40, 3) := by decide +kernel
theorem d_Lm_isA_38 : decode b_Lm_isA 38 = .ok (.iload_n 3, 1) := by decide +kernel
theorem d_Lm_isA_39 : decode b_Lm_isA 39 = .ok (.iload 4, 2) := by decide +kernel
theorem d_Lm_isA_41 : decode b_Lm_isA 41 = .ok (.ishr, 1) := by decide +kernel
theorem d_Lm_isA_42 : decode b_Lm_isA 42 = .ok (.iconst 1, 1) := by decide +kernel
theorem d_Lm_isA_43 : decode b_Lm_isA 43 = .ok (.iand, 1) := by decide +kernel
theorem d_Lm_isA_44 : decode b_Lm_isA 44 = .ok (.ifCond .eq 25, 3) := by decide +kernel
theorem d_Lm_isA_47 : decode b_Lm_isA 47 = .ok (.iload_n 3, 1) := by decide +kernel
theorem d_Lm_isA_48 : decode b_Lm_isA 48 = .ok (.iconst 1, 1) := by decide +kernel
theorem d_Lm_isA_49 : decode b_Lm_isA 49 = .ok (.aload_n 0, 1) := by decide +kernel
theorem d_Lm_isA_50 : decode b_Lm_isA 50 = .ok (.getfield 50, 3) := by decide +kernel
theorem d_Lm_isA_53 : decode b_Lm_isA 53 = .ok (.iload 4, 2) := by decide +kernel
theorem d_Lm_isA_55 : decode b_Lm_isA 55 = .ok (.iaload, 1) := by decide +kernel
theorem d_Lm_isA_56 : decode b_Lm_isA 56 = .ok (.ishl, 1) := by decide +kernel
theorem d_Lm_isA_57 : decode b_Lm_isA 57 = .ok (.iconst 1, 1) := by decide +kernel
theorem d_Lm_isA_58 : decode b_Lm_isA 58 = .ok (.aload_n 0, 1) := by decide +kernel
theorem d_Lm_isA_59 : decode b_Lm_isA 59 = .ok (.getfield 53, 3) := by decide +kernel
theorem d_Lm_isA_62 : decode b_Lm_isA 62 = .ok (.iload 4, 2) := by decide +kernel
theorem d_Lm_isA_64 : decode b_Lm_isA 64 = .ok (.iaload, 1) := by decide +kernel
theorem d_Lm_isA_65 : decode b_Lm_isA 65 = .ok (.ishl, 1) := by decide +kernel
theorem d_Lm_isA_66 : decode b_Lm_isA 66 = .ok (.ior, 1) := by decide +kernel
theorem d_Lm_isA_67 : decode b_Lm_isA 67 = .ok (.ior, 1) := by decide +kernel
theorem d_Lm_isA_68 : decode b_Lm_isA 68 = .ok (.istore_n 3, 1) := by decide +kernel
theorem d_Lm_isA_69 : decode b_Lm_isA 69 = .ok (.iinc 4 (-1), 3) := by decide +kernel
theorem d_Lm_isA_72 : decode b_Lm_isA 72 = .ok (.goto (-39), 3) := by decide +kernel
theorem d_Lm_isA_75 : decode b_Lm_isA 75 = .ok (.iload_n 3, 1) := by decide +kernel
theorem d_Lm_isA_76 : decode b_Lm_isA 76 = .ok (.iload_n 2, 1) := by decide +kernel
theorem d_Lm_isA_77 : decode b_Lm_isA 77 = .ok (.ishr, 1) := by decide +kernel
theorem d_Lm_isA_78 : decode b_Lm_isA 78 = .ok (.iconst 1, 1) := by decide +kernel
theorem d_Lm_isA_79 : decode b_Lm_isA 79 = .ok (.iand, 1) := by decide +kernel
theorem d_Lm_isA_80 : decode b_Lm_isA 80 = .ok (.ifCond .eq 7, 3) := by decide +kernel
theorem d_Lm_isA_83 : decode b_Lm_isA 83 = .ok (.iconst 1, 1) := by decide +kernel
theorem d_Lm_isA_84 : decode b_Lm_isA 84 = .ok (.goto 4, 3) := by decide +kernel
theorem d_Lm_isA_87 : decode b_Lm_isA 87 = .ok (.iconst 0, 1) := by decide +kernel
theorem d_Lm_isA_88 : decode b_Lm_isA 88 = .ok (.ireturn, 1) := by decide +kernel
theorem d_Lm_count_0 : decode b_Lm_count 0 = .ok (.iconst 0, 1) := by decide +kernel
theorem d_Lm_count_1 : decode b_Lm_count 1 = .ok (.istore_n 2, 1) := by decide +kernel
theorem d_Lm_count_2 : decode b_Lm_count 2 = .ok (.iconst 0, 1) := by decide +kernel
theorem d_Lm_count_3 : decode b_Lm_count 3 = .ok (.istore_n 3, 1) := by decide +kernel
theorem d_Lm_count_4 : decode b_Lm_count 4 = .ok (.iload_n 3, 1) := by decide +kernel
theorem d_Lm_count_5 : decode b_Lm_count 5 = .ok (.bipush 40, 2) := by decide +kernel
theorem d_Lm_count_7 : decode b_Lm_count 7 = .ok (.if_icmp .ge 83, 3) := by decide +kernel
theorem d_Lm_count_10 : decode b_Lm_count 10 = .ok (.iload_n 1, 1) := by decide +kernel
theorem d_Lm_count_11 : decode b_Lm_count 11 = .ok (.iconst 1, 1) := by decide +kernel
theorem d_Lm_count_12 : decode b_Lm_count 12 = .ok (.if_icmp .ne 12, 3) := by decide +kernel
theorem d_Lm_count_15 : decode b_Lm_count 15 = .ok (.aload_n 0, 1) := by decide +kernel
theorem d_Lm_count_16 : decode b_Lm_count 16 = .ok (.getfield 35, 3) := by decide +kernel
theorem d_Lm_count_19 : decode b_Lm_count 19 = .ok (.iload_n 3, 1) := by decide +kernel
theorem d_Lm_count_20 : decode b_Lm_count 20 = .ok (.iaload, 1) := by decide +kernel
theorem d_Lm_count_21 : decode b_Lm_count 21 = .ok (.ifCond .gt 17, 3) := by decide +kernel
theorem d_Lm_count_24 : decode b_Lm_count 24 = .ok (.iload_n 1, 1) := by decide +kernel
theorem d_Lm_count_25 : decode b_Lm_count 25 = .ok (.iconst 2, 1) := by decide +kernel
theorem d_Lm_count_26 : decode b_Lm_count 26 = .ok (.if_icmp .ne 15, 3) := by decide +kernel
theorem d_Lm_count_29 : decode b_Lm_count 29 = .ok (.aload_n 0, 1) := by decide +kernel
theorem d_Lm_count_30 : decode b_Lm_count 30 = .ok (.getfield 13, 3) := by decide +kernel
theorem d_Lm_count_33 : decode b_Lm_count 33 = .ok (.iload_n 3, 1) := by decide +kernel
theorem d_Lm_count_34 : decode b_Lm_count 34 = .ok (.baload, 1) := by decide +kernel
theorem d_Lm_count_35 : decode b_Lm_count 35 = .ok (.ifCond .eq 6, 3) := by decide +kernel
theorem d_Lm_count_38 : decode b_Lm_count 38 = .ok (.iinc 2 1, 3) := by decide +kernel
theorem d_Lm_count_41 : decode b_Lm_count 41 = .ok (.iload_n 3, 1) := by decide +kernel
theorem d_Lm_count_42 : decode b_Lm_count 42 = .ok (.bipush 8, 2) := by decide +kernel
theorem d_Lm_count_44 : decode b_Lm_count 44 = .ok (.iadd, 1) := by decide +kernel
theorem d_Lm_count_45 : decode b_Lm_count 45 = .ok (.istore 4, 2) := by decide +kernel
theorem d_Lm_count_47 : decode b_Lm_count 47 = .ok (.iload 4, 2) := by decide +kernel
theorem d_Lm_count_49 : decode b_Lm_count 49 = .ok (.bipush 40, 2) := by decide +kernel
theorem d_Lm_count_51 : decode b_Lm_count 51 = .ok (.if_icmp .ge 33, 3) := by decide +kernel
theorem d_Lm_count_54 : decode b_Lm_count 54 = .ok (.iload_n 1, 1) := by decide +kernel
theorem d_Lm_count_55 : decode b_Lm_count 55 = .ok (.iconst 3, 1) := by decide +kernel
theorem d_Lm_count_56 : decode b_Lm_count 56 = .ok (.if_icmp .ne 28, 3) := by decide +kernel
theorem d_Lm_count_59 : decode b_Lm_count 59 = .ok (.aload_n 0, 1) := by decide +kernel
theorem d_Lm_count_60 : decode b_Lm_count 60 = .ok (.getfield 41, 3) := by decide +kernel
theorem d_Lm_count_63 : decode b_Lm_count 63 = .ok (.iload 4, 2) := by decide +kernel
theorem d_Lm_count_65 : decode b_Lm_count 65 = .ok (.iaload, 1) := by decide +kernel
theorem d_Lm_count_66 : decode b_Lm_count 66 = .ok (.aload_n 0, 1) := by decide +kernel
theorem d_Lm_count_67 : decode b_Lm_count 67 = .ok (.getfield 41, 3) := by decide +kernel
theorem d_Lm_count_70 : decode b_Lm_count 70 = .ok (.iload_n 3, 1) := by decide +kernel
theorem d_Lm_count_71 : decode b_Lm_count 71 = .ok (.iaload, 1) := by decide +kernel
theorem d_Lm_count_72 : decode b_Lm_count 72 = .ok (.if_icmp .ne 6, 3) := by decide +kernel
theorem d_Lm_count_75 : decode b_Lm_count 75 = .ok (.iinc 2 1, 3) := by decide +kernel
theorem d_Lm_count_78 : decode b_Lm_count 78 = .ok (.iinc 4 8, 3) := by decide +kernel
theorem d_Lm_count_81 : decode b_Lm_count 81 = .ok (.goto (-34), 3) := by decide +kernel
theorem d_Lm_count_84 : decode b_Lm_count 84 = .ok (.iinc 3 1, 3) := by decide +kernel
theorem d_Lm_count_87 : decode b_Lm_count 87 = .ok (.goto (-83), 3) := by decide +kernel
theorem d_Lm_count_90 : decode b_Lm_count 90 = .ok (.iload_n 1, 1) := by decide +kernel
theorem d_Lm_count_91 : decode b_Lm_count 91 = .ok (.ifCond .ne 10, 3) := by decide +kernel
theorem d_Lm_count_94 : decode b_Lm_count 94 = .ok (.aload_n 0, 1) := by decide +kernel
theorem d_Lm_count_95 : decode b_Lm_count 95 = .ok (.getfield 146, 3) := by decide +kernel
theorem d_Lm_count_98 : decode b_Lm_count 98 = .ok (.goto 17, 3) := by decide +kernel
theorem d_Lm_count_101 : decode b_Lm_count 101 = .ok (.iload_n 1, 1) := by decide +kernel
theorem d_Lm_count_102 : decode b_Lm_count 102 = .ok (.iconst 1, 1) := by decide +kernel
theorem d_Lm_count_103 : decode b_Lm_count 103 = .ok (.iconst 3, 1) := by decide +kernel
theorem d_Lm_count_104 : decode b_Lm_count 104 = .ok (.invokestatic 77, 3) := by decide +kernel
theorem d_Lm_count_107 : decode b_Lm_count 107 = .ok (.ifCond .eq 7, 3) := by decide +kernel
theorem d_Lm_count_110 : decode b_Lm_count 110 = .ok (.iload_n 2, 1) := by decide +kernel
theorem d_Lm_count_111 : decode b_Lm_count 111 = .ok (.goto 4, 3) := by decide +kernel
theorem d_Lm_count_114 : decode b_Lm_count 114 = .ok (.iconst (-1), 1) := by decide +kernel
theorem d_Lm_count_115 : decode b_Lm_count 115 = .ok (.ireturn, 1) := by decide +kernel
