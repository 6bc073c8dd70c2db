set_option maxRecDepth 20000 in
theorem ggX6_init_X6_copy : GoodIn wsX6_init wsX6_copy := goodIn_r _ [32, 5, 7, 8, 9, 33, 34, 35, 36, 37, 38, 39, 40, 41, 42, 43, 44, 45, 46, 47, 48, 49, 50, 51, 52, 53, 54, 55, 56, 57, 58, 59] (by decide +kernel) (by decide +kernel)
set_option maxRecDepth 20000 in
theorem gX6_init_X6_copy : GoodIn wsX6_init (wsV RX6 78 RX6 yX6_copy wsX6_copy) := goodIn_app (goodIn_of _ (by decide +kernel)) ggX6_init_X6_copy
theorem dX6_init_0 : decode cX6_init 0 = .ok (.aload_n 0, 1) := by decide +kernel
theorem dX6_init_1 : decode cX6_init 1 = .ok (.invokespecial 1, 3) := by decide +kernel
theorem dX6_init_4 : decode cX6_init 4 = .ok (.aload_n 0, 1) := by decide +kernel
theorem dX6_init_5 : decode cX6_init 5 = .ok (.sipush 336, 3) := by decide +kernel
theorem dX6_init_8 : decode cX6_init 8 = .ok (.newarray .boolean, 2) := by decide +kernel
theorem dX6_init_10 : decode cX6_init 10 = .ok (.putfield 7, 3) := by decide +kernel
theorem dX6_init_13 : decode cX6_init 13 = .ok (.aload_n 0, 1) := by decide +kernel
theorem dX6_init_14 : decode cX6_init 14 = .ok (.sipush 336, 3) := by decide +kernel
theorem dX6_init_17 : decode cX6_init 17 = .ok (.newarray .int, 2) := by decide +kernel
theorem dX6_init_19 : decode cX6_init 19 = .ok (.putfield 13, 3) := by decide +kernel
theorem dX6_init_22 : decode cX6_init 22 = .ok (.aload_n 0, 1) := by decide +kernel
theorem dX6_init_23 : decode cX6_init 23 = .ok (.sipush 336, 3) := by decide +kernel
theorem dX6_init_26 : decode cX6_init 26 = .ok (.newarray .int, 2) := by decide +kernel
theorem dX6_init_28 : decode cX6_init 28 = .ok (.putfield 17, 3) := by decide +kernel
theorem dX6_init_31 : decode cX6_init 31 = .ok (.aload_n 0, 1) := by decide +kernel
theorem dX6_init_32 : decode cX6_init 32 = .ok (.sipush 336, 3) := by decide +kernel
theorem dX6_init_35 : decode cX6_init 35 = .ok (.newarray .int, 2) := by decide +kernel
theorem dX6_init_37 : decode cX6_init 37 = .ok (.putfield 20, 3) := by decide +kernel
theorem dX6_init_40 : decode cX6_init 40 = .ok (.aload_n 0, 1) := by decide +kernel
theorem dX6_init_41 : decode cX6_init 41 = .ok (.iconst 1, 1) := by decide +kernel
theorem dX6_init_42 : decode cX6_init 42 = .ok (.putfield 23, 3) := by decide +kernel
theorem dX6_init_45 : decode cX6_init 45 = .ok (.aload_n 0, 1) := by decide +kernel
theorem dX6_init_46 : decode cX6_init 46 = .ok (.iconst 1, 1) := by decide +kernel
theorem dX6_init_47 : decode cX6_init 47 = .ok (.putfield 27, 3) := by decide +kernel
theorem dX6_init_50 : decode cX6_init 50 = .ok (.aload_n 0, 1) := by decide +kernel
theorem dX6_init_51 : decode cX6_init 51 = .ok (.bipush 12, 2) := by decide +kernel
theorem dX6_init_53 : decode cX6_init 53 = .ok (.newarray .int, 2) := by decide +kernel
theorem dX6_init_55 : decode cX6_init 55 = .ok (.putfield 30, 3) := by decide +kernel
theorem dX6_init_58 : decode cX6_init 58 = .ok (.aload_n 0, 1) := by decide +kernel
theorem dX6_init_59 : decode cX6_init 59 = .ok (.bipush 12, 2) := by decide +kernel
theorem dX6_init_61 : decode cX6_init 61 = .ok (.newarray .int, 2) := by decide +kernel
theorem dX6_init_63 : decode cX6_init 63 = .ok (.putfield 33, 3) := by decide +kernel
theorem dX6_init_66 : decode cX6_init 66 = .ok (.aload_n 0, 1) := by decide +kernel
theorem dX6_init_67 : decode cX6_init 67 = .ok (.bipush 12, 2) := by decide +kernel
theorem dX6_init_69 : decode cX6_init 69 = .ok (.newarray .int, 2) := by decide +kernel
theorem dX6_init_71 : decode cX6_init 71 = .ok (.putfield 36, 3) := by decide +kernel
theorem dX6_init_74 : decode cX6_init 74 = .ok (.aload_n 0, 1) := by decide +kernel
theorem dX6_init_75 : decode cX6_init 75 = .ok (.iconst (-1), 1) := by decide +kernel
theorem dX6_init_76 : decode cX6_init 76 = .ok (.putfield 39, 3) := by decide +kernel
theorem dX6_init_79 : decode cX6_init 79 = .ok (.aload_n 0, 1) := by decide +kernel
theorem dX6_init_80 : decode cX6_init 80 = .ok (.bipush 24, 2) := by decide +kernel
theorem dX6_init_82 : decode cX6_init 82 = .ok (.newarray .int, 2) := by decide +kernel
theorem dX6_init_84 : decode cX6_init 84 = .ok (.putfield 42, 3) := by decide +kernel
theorem dX6_init_87 : decode cX6_init 87 = .ok (.aload_n 0, 1) := by decide +kernel
theorem dX6_init_88 : decode cX6_init 88 = .ok (.bipush 24, 2) := by decide +kernel
theorem dX6_init_90 : decode cX6_init 90 = .ok (.newarray .boolean, 2) := by decide +kernel
theorem dX6_init_92 : decode cX6_init 92 = .ok (.putfield 45, 3) := by decide +kernel
theorem dX6_init_95 : decode cX6_init 95 = .ok (.aload_n 0, 1) := by decide +kernel
theorem dX6_init_96 : decode cX6_init 96 = .ok (.bipush 24, 2) := by decide +kernel
theorem dX6_init_98 : decode cX6_init 98 = .ok (.newarray .int, 2) := by decide +kernel
theorem dX6_init_100 : decode cX6_init 100 = .ok (.putfield 48, 3) := by decide +kernel
theorem dX6_init_103 : decode cX6_init 103 = .ok (.aload_n 0, 1) := by decide +kernel
theorem dX6_init_104 : decode cX6_init 104 = .ok (.bipush 24, 2) := by decide +kernel
theorem dX6_init_106 : decode cX6_init 106 = .ok (.newarray .int, 2) := by decide +kernel
theorem dX6_init_108 : decode cX6_init 108 = .ok (.putfield 51, 3) := by decide +kernel
theorem dX6_init_111 : decode cX6_init 111 = .ok (.aload_n 0, 1) := by decide +kernel
theorem dX6_init_112 : decode cX6_init 112 = .ok (.bipush 24, 2) := by decide +kernel
theorem dX6_init_114 : decode cX6_init 114 = .ok (.newarray .int, 2) := by decide +kernel
theorem dX6_init_116 : decode cX6_init 116 = .ok (.putfield 54, 3) := by decide +kernel
theorem dX6_init_119 : decode cX6_init 119 = .ok (.aload_n 0, 1) := by decide +kernel
theorem dX6_init_120 : decode cX6_init 120 = .ok (.bipush 24, 2) := by decide +kernel
theorem dX6_init_122 : decode cX6_init 122 = .ok (.newarray .int, 2) := by decide +kernel
theorem dX6_init_124 : decode cX6_init 124 = .ok (.putfield 57, 3) := by decide +kernel
theorem dX6_init_127 : decode cX6_init 127 = .ok (.aload_n 0, 1) := by decide +kernel
theorem dX6_init_128 : decode cX6_init 128 = .ok (.bipush 24, 2) := by decide +kernel
theorem dX6_init_130 : decode cX6_init 130 = .ok (.newarray .int, 2) := by decide +kernel
theorem dX6_init_132 : decode cX6_init 132 = .ok (.putfield 60, 3) := by decide +kernel
theorem dX6_init_135 : decode cX6_init 135 = .ok (.aload_n 0, 1) := by decide +kernel
theorem dX6_init_136 : decode cX6_init 136 = .ok (.bipush 24, 2) := by decide +kernel
theorem dX6_init_138 : decode cX6_init 138 = .ok (.newarray .int, 2) := by decide +kernel
theorem dX6_init_140 : decode cX6_init 140 = .ok (.putfield 63, 3) := by decide +kernel
theorem dX6_init_143 : decode cX6_init 143 = .ok (.aload_n 0, 1) := by decide +kernel
theorem dX6_init_144 : decode cX6_init 144 = .ok (.bipush 48, 2) := by decide +kernel
theorem dX6_init_146 : decode cX6_init 146 = .ok (.newarray .int, 2) := by decide +kernel
theorem dX6_init_148 : decode cX6_init 148 = .ok (.putfield 66, 3) := by decide +kernel
theorem dX6_init_151 : decode cX6_init 151 = .ok (.aload_n 0, 1) := by decide +kernel
theorem dX6_init_152 : decode cX6_init 152 = .ok (.bipush 48, 2) := by decide +kernel
theorem dX6_init_154 : decode cX6_init 154 = .ok (.newarray .int, 2) := by decide +kernel
theorem dX6_init_156 : decode cX6_init 156 = .ok (.putfield 69, 3) := by decide +kernel
theorem dX6_init_159 : decode cX6_init 159 = .ok (.aload_n 0, 1) := by decide +kernel
theorem dX6_init_160 : decode cX6_init 160 = .ok (.sipush 576, 3) := by decide +kernel
theorem dX6_init_163 : decode cX6_init 163 = .ok (.newarray .int, 2) := by decide +kernel
theorem dX6_init_165 : decode cX6_init 165 = .ok (.putfield 72, 3) := by decide +kernel
theorem dX6_init_168 : decode cX6_init 168 = .ok (.aload_n 0, 1) := by decide +kernel
theorem dX6_init_169 : decode cX6_init 169 = .ok (.sipush 625, 3) := by decide +kernel
theorem dX6_init_172 : decode cX6_init 172 = .ok (.newarray .int, 2) := by decide +kernel
theorem dX6_init_174 : decode cX6_init 174 = .ok (.putfield 75, 3) := by decide +kernel
theorem dX6_init_177 : decode cX6_init 177 = .ok (.aload_n 0, 1) := by decide +kernel
theorem dX6_init_178 : decode cX6_init 178 = .ok (.getfield 7, 3) := by decide +kernel
theorem dX6_init_181 : decode cX6_init 181 = .ok (.sipush 288, 3) := by decide +kernel
theorem dX6_init_184 : decode cX6_init 184 = .ok (.iconst 1, 1) := by decide +kernel
theorem dX6_init_185 : decode cX6_init 185 = .ok (.bastore, 1) := by decide +kernel
theorem dX6_init_186 : decode cX6_init 186 = .ok (.aload_n 0, 1) := by decide +kernel
theorem dX6_init_187 : decode cX6_init 187 = .ok (.getfield 17, 3) := by decide +kernel
theorem dX6_init_190 : decode cX6_init 190 = .ok (.sipush 288, 3) := by decide +kernel
theorem dX6_init_193 : decode cX6_init 193 = .ok (.iconst (-1), 1) := by decide +kernel
theorem dX6_init_194 : decode cX6_init 194 = .ok (.iastore, 1) := by decide +kernel
theorem dX6_init_195 : decode cX6_init 195 = .ok (.aload_n 0, 1) := by decide +kernel
theorem dX6_init_196 : decode cX6_init 196 = .ok (.bipush 12, 2) := by decide +kernel
theorem dX6_init_198 : decode cX6_init 198 = .ok (.iconst 0, 1) := by decide +kernel
theorem dX6_init_199 : decode cX6_init 199 = .ok (.invokevirtual 78, 3) := by decide +kernel
theorem dX6_init_202 : decode cX6_init 202 = .ok (.aload_n 0, 1) := by decide +kernel
theorem dX6_init_203 : decode cX6_init 203 = .ok (.getfield 30, 3) := by decide +kernel
theorem dX6_init_206 : decode cX6_init 206 = .ok (.iconst 0, 1) := by decide +kernel
theorem dX6_init_207 : decode cX6_init 207 = .ok (.iconst (-1), 1) := by decide +kernel
theorem dX6_init_208 : decode cX6_init 208 = .ok (.iastore, 1) := by decide +kernel
theorem dX6_init_209 : decode cX6_init 209 = .ok (.aload_n 0, 1) := by decide +kernel
theorem dX6_init_210 : decode cX6_init 210 = .ok (.getfield 33, 3) := by decide +kernel
theorem dX6_init_213 : decode cX6_init 213 = .ok (.iconst 0, 1) := by decide +kernel
theorem dX6_init_214 : decode cX6_init 214 = .ok (.iconst (-1), 1) := by decide +kernel
theorem dX6_init_215 : decode cX6_init 215 = .ok (.iastore, 1) := by decide +kernel
theorem dX6_init_216 : decode cX6_init 216 = .ok (.aload_n 0, 1) := by decide +kernel
theorem dX6_init_217 : decode cX6_init 217 = .ok (.getfield 36, 3) := by decide +kernel
theorem dX6_init_220 : decode cX6_init 220 = .ok (.iconst 0, 1) := by decide +kernel
theorem dX6_init_221 : decode cX6_init 221 = .ok (.iconst 1, 1) := by decide +kernel
theorem dX6_init_222 : decode cX6_init 222 = .ok (.iastore, 1) := by decide +kernel
theorem dX6_init_223 : decode cX6_init 223 = .ok (.return_, 1) := by decide +kernel
theorem dX6_thrown_0 : decode cX6_thrown 0 = .ok (.aload_n 0, 1) := by decide +kernel
theorem dX6_thrown_1 : decode cX6_thrown 1 = .ok (.getfield 82, 3) := by decide +kernel
theorem dX6_thrown_4 : decode cX6_thrown 4 = .ok (.ireturn, 1) := by decide +kernel
theorem dX6_fail_0 : decode cX6_fail 0 = .ok (.aload_n 0, 1) := by decide +kernel
theorem dX6_fail_1 : decode cX6_fail 1 = .ok (.iload_n 1, 1) := by decide +kernel
theorem dX6_fail_2 : decode cX6_fail 2 = .ok (.putfield 82, 3) := by decide +kernel
theorem dX6_fail_5 : decode cX6_fail 5 = .ok (.iconst 0, 1) := by decide +kernel
theorem dX6_fail_6 : decode cX6_fail 6 = .ok (.ireturn, 1) := by decide +kernel
theorem dX6_copy_0 : decode cX6_copy 0 = .ok (.iconst 0, 1) := by decide +kernel
theorem dX6_copy_1 : decode cX6_copy 1 = .ok (.istore_n 3, 1) := by decide +kernel
theorem dX6_copy_2 : decode cX6_copy 2 = .ok (.iload_n 3, 1) := by decide +kernel
theorem dX6_copy_3 : decode cX6_copy 3 = .ok (.bipush 24, 2) := by decide +kernel
theorem dX6_copy_5 : decode cX6_copy 5 = .ok (.if_icmp .ge 97, 3) := by decide +kernel
theorem dX6_copy_8 : decode cX6_copy 8 = .ok (.aload_n 0, 1) := by decide +kernel
theorem dX6_copy_9 : decode cX6_copy 9 = .ok (.getfield 7, 3) := by decide +kernel
theorem dX6_copy_12 : decode cX6_copy 12 = .ok (.bipush 24, 2) := by decide +kernel
theorem dX6_copy_14 : decode cX6_copy 14 = .ok (.iload_n 2, 1) := by decide +kernel
theorem dX6_copy_15 : decode cX6_copy 15 = .ok (.imul, 1) := by decide +kernel
theorem dX6_copy_16 : decode cX6_copy 16 = .ok (.iload_n 3, 1) := by decide +kernel
theorem dX6_copy_17 : decode cX6_copy 17 = .ok (.iadd, 1) := by decide +kernel
theorem dX6_copy_18 : decode cX6_copy 18 = .ok (.aload_n 0, 1) := by decide +kernel
theorem dX6_copy_19 : decode cX6_copy 19 = .ok (.getfield 7, 3) := by decide +kernel
theorem dX6_copy_22 : decode cX6_copy 22 = .ok (.bipush 24, 2) := by decide +kernel
theorem dX6_copy_24 : decode cX6_copy 24 = .ok (.iload_n 1, 1) := by decide +kernel
theorem dX6_copy_25 : decode cX6_copy 25 = .ok (.imul, 1) := by decide +kernel
theorem dX6_copy_26 : decode cX6_copy 26 = .ok (.iload_n 3, 1) := by decide +kernel
theorem dX6_copy_27 : decode cX6_copy 27 = .ok (.iadd, 1) := by decide +kernel
theorem dX6_copy_28 : decode cX6_copy 28 = .ok (.baload, 1) := by decide +kernel
theorem dX6_copy_29 : decode cX6_copy 29 = .ok (.bastore, 1) := by decide +kernel
theorem dX6_copy_30 : decode cX6_copy 30 = .ok (.aload_n 0, 1) := by decide +kernel
theorem dX6_copy_31 : decode cX6_copy 31 = .ok (.getfield 13, 3) := by decide +kernel
theorem dX6_copy_34 : decode cX6_copy 34 = .ok (.bipush 24, 2) := by decide +kernel
theorem dX6_copy_36 : decode cX6_copy 36 = .ok (.iload_n 2, 1) := by decide +kernel
theorem dX6_copy_37 : decode cX6_copy 37 = .ok (.imul, 1) := by decide +kernel
theorem dX6_copy_38 : decode cX6_copy 38 = .ok (.iload_n 3, 1) := by decide +kernel
theorem dX6_copy_39 : decode cX6_copy 39 = .ok (.iadd, 1) := by decide +kernel
theorem dX6_copy_40 : decode cX6_copy 40 = .ok (.aload_n 0, 1) := by decide +kernel
theorem dX6_copy_41 : decode cX6_copy 41 = .ok (.getfield 13, 3) := by decide +kernel
theorem dX6_copy_44 : decode cX6_copy 44 = .ok (.bipush 24, 2) := by decide +kernel
theorem dX6_copy_46 : decode cX6_copy 46 = .ok (.iload_n 1, 1) := by decide +kernel
theorem dX6_copy_47 : decode cX6_copy 47 = .ok (.imul, 1) := by decide +kernel
theorem dX6_copy_48 : decode cX6_copy 48 = .ok (.iload_n 3, 1) := by decide +kernel
theorem dX6_copy_49 : decode cX6_copy 49 = .ok (.iadd, 1) := by decide +kernel
theorem dX6_copy_50 : decode cX6_copy 50 = .ok (.iaload, 1) := by decide +kernel
theorem dX6_copy_51 : decode cX6_copy 51 = .ok (.iastore, 1) := by decide +kernel
theorem dX6_copy_52 : decode cX6_copy 52 = .ok (.aload_n 0, 1) := by decide +kernel
theorem dX6_copy_53 : decode cX6_copy 53 = .ok (.getfield 17, 3) := by decide +kernel
theorem dX6_copy_56 : decode cX6_copy 56 = .ok (.bipush 24, 2) := by decide +kernel
theorem dX6_copy_58 : decode cX6_copy 58 = .ok (.iload_n 2, 1) := by decide +kernel
theorem dX6_copy_59 : decode cX6_copy 59 = .ok (.imul, 1) := by decide +kernel
theorem dX6_copy_60 : decode cX6_copy 60 = .ok (.iload_n 3, 1) := by decide +kernel
theorem dX6_copy_61 : decode cX6_copy 61 = .ok (.iadd, 1) := by decide +kernel
theorem dX6_copy_62 : decode cX6_copy 62 = .ok (.aload_n 0, 1) := by decide +kernel
theorem dX6_copy_63 : decode cX6_copy 63 = .ok (.getfield 17, 3) := by decide +kernel
theorem dX6_copy_66 : decode cX6_copy 66 = .ok (.bipush 24, 2) := by decide +kernel
theorem dX6_copy_68 : decode cX6_copy 68 = .ok (.iload_n 1, 1) := by decide +kernel
theorem dX6_copy_69 : decode cX6_copy 69 = .ok (.imul, 1) := by decide +kernel
theorem dX6_copy_70 : decode cX6_copy 70 = .ok (.iload_n 3, 1) := by decide +kernel
theorem dX6_copy_71 : decode cX6_copy 71 = .ok (.iadd, 1) := by decide +kernel
theorem dX6_copy_72 : decode cX6_copy 72 = .ok (.iaload, 1) := by decide +kernel
theorem dX6_copy_73 : decode cX6_copy 73 = .ok (.iastore, 1) := by decide +kernel
theorem dX6_copy_74 : decode cX6_copy 74 = .ok (.aload_n 0, 1) := by decide +kernel
theorem dX6_copy_75 : decode cX6_copy 75 = .ok (.getfield 20, 3) := by decide +kernel
theorem dX6_copy_78 : decode cX6_copy 78 = .ok (.bipush 24, 2) := by decide +kernel
theorem dX6_copy_80 : decode cX6_copy 80 = .ok (.iload_n 2, 1) := by decide +kernel
theorem dX6_copy_81 : decode cX6_copy 81 = .ok (.imul, 1) := by decide +kernel
theorem dX6_copy_82 : decode cX6_copy 82 = .ok (.iload_n 3, 1) := by decide +kernel
theorem dX6_copy_83 : decode cX6_copy 83 = .ok (.iadd, 1) := by decide +kernel
theorem dX6_copy_84 : decode cX6_copy 84 = .ok (.aload_n 0, 1) := by decide +kernel
theorem dX6_copy_85 : decode cX6_copy 85 = .ok (.getfield 20, 3) := by decide +kernel
theorem dX6_copy_88 : decode cX6_copy 88 = .ok (.bipush 24, 2) := by decide +kernel
theorem dX6_copy_90 : decode cX6_copy 90 = .ok (.iload_n 1, 1) := by decide +kernel
theorem dX6_copy_91 : decode cX6_copy 91 = .ok (.imul, 1) := by decide +kernel
theorem dX6_copy_92 : decode cX6_copy 92 = .ok (.iload_n 3, 1) := by decide +kernel
theorem dX6_copy_93 : decode cX6_copy 93 = .ok (.iadd, 1) := by decide +kernel
theorem dX6_copy_94 : decode cX6_copy 94 = .ok (.iaload, 1) := by decide +kernel
theorem dX6_copy_95 : decode cX6_copy 95 = .ok (.iastore, 1) := by decide +kernel
theorem dX6_copy_96 : decode cX6_copy 96 = .ok (.iinc 3 1, 3) := by decide +kernel
theorem dX6_copy_99 : decode cX6_copy 99 = .ok (.goto (-97), 3) := by decide +kernel
theorem dX6_copy_102 : decode cX6_copy 102 = .ok (.return_, 1) := by decide +kernel
theorem dX6_has_0 : decode cX6_has 0 = .ok (.iload_n 2, 1) := by decide +kernel
theorem dX6_has_1 : decode cX6_has 1 = .ok (.ifCond .lt 27, 3) := by decide +kernel
theorem dX6_has_4 : decode cX6_has 4 = .ok (.iload_n 2, 1) := by decide +kernel
theorem dX6_has_5 : decode cX6_has 5 = .ok (.bipush 24, 2) := by decide +kernel
theorem dX6_has_7 : decode cX6_has 7 = .ok (.if_icmp .ge 21, 3) := by decide +kernel
theorem dX6_has_10 : decode cX6_has 10 = .ok (.aload_n 0, 1) := by decide +kernel
theorem dX6_has_11 : decode cX6_has 11 = .ok (.getfield 7, 3) := by decide +kernel
theorem dX6_has_14 : decode cX6_has 14 = .ok (.bipush 24, 2) := by decide +kernel
theorem dX6_has_16 : decode cX6_has 16 = .ok (.iload_n 1, 1) := by decide +kernel
theorem dX6_has_17 : decode cX6_has 17 = .ok (.imul, 1) := by decide +kernel
theorem dX6_has_18 : decode cX6_has 18 = .ok (.iload_n 2, 1) := by decide +kernel
theorem dX6_has_19 : decode cX6_has 19 = .ok (.iadd, 1) := by decide +kernel
theorem dX6_has_20 : decode cX6_has 20 = .ok (.baload, 1) := by decide +kernel
theorem dX6_has_21 : decode cX6_has 21 = .ok (.ifCond .eq 7, 3) := by decide +kernel
theorem dX6_has_24 : decode cX6_has 24 = .ok (.iconst 1, 1) := by decide +kernel
theorem dX6_has_25 : decode cX6_has 25 = .ok (.goto 4, 3) := by decide +kernel
theorem dX6_has_28 : decode cX6_has 28 = .ok (.iconst 0, 1) := by decide +kernel
theorem dX6_has_29 : decode cX6_has 29 = .ok (.ireturn, 1) := by decide +kernel
theorem dX6_isChild_0 : decode cX6_isChild 0 = .ok (.aload_n 0, 1) := by decide +kernel
theorem dX6_isChild_1 : decode cX6_isChild 1 = .ok (.getfield 7, 3) := by decide +kernel
theorem dX6_isChild_4 : decode cX6_isChild 4 = .ok (.bipush 24, 2) := by decide +kernel
theorem dX6_isChild_6 : decode cX6_isChild 6 = .ok (.iload_n 1, 1) := by decide +kernel
theorem dX6_isChild_7 : decode cX6_isChild 7 = .ok (.imul, 1) := by decide +kernel
theorem dX6_isChild_8 : decode cX6_isChild 8 = .ok (.iload_n 2, 1) := by decide +kernel
theorem dX6_isChild_9 : decode cX6_isChild 9 = .ok (.iadd, 1) := by decide +kernel
theorem dX6_isChild_10 : decode cX6_isChild 10 = .ok (.baload, 1) := by decide +kernel
theorem dX6_isChild_11 : decode cX6_isChild 11 = .ok (.ifCond .eq 22, 3) := by decide +kernel
theorem dX6_isChild_14 : decode cX6_isChild 14 = .ok (.aload_n 0, 1) := by decide +kernel
theorem dX6_isChild_15 : decode cX6_isChild 15 = .ok (.getfield 17, 3) := by decide +kernel
theorem dX6_isChild_18 : decode cX6_isChild 18 = .ok (.bipush 24, 2) := by decide +kernel
theorem dX6_isChild_20 : decode cX6_isChild 20 = .ok (.iload_n 1, 1) := by decide +kernel
theorem dX6_isChild_21 : decode cX6_isChild 21 = .ok (.imul, 1) := by decide +kernel
theorem dX6_isChild_22 : decode cX6_isChild 22 = .ok (.iload_n 2, 1) := by decide +kernel
theorem dX6_isChild_23 : decode cX6_isChild 23 = .ok (.iadd, 1) := by decide +kernel
theorem dX6_isChild_24 : decode cX6_isChild 24 = .ok (.iaload, 1) := by decide +kernel
theorem dX6_isChild_25 : decode cX6_isChild 25 = .ok (.iload_n 3, 1) := by decide +kernel
theorem dX6_isChild_26 : decode cX6_isChild 26 = .ok (.if_icmp .ne 7, 3) := by decide +kernel
theorem dX6_isChild_29 : decode cX6_isChild 29 = .ok (.iconst 1, 1) := by decide +kernel
theorem dX6_isChild_30 : decode cX6_isChild 30 = .ok (.goto 4, 3) := by decide +kernel
theorem dX6_isChild_33 : decode cX6_isChild 33 = .ok (.iconst 0, 1) := by decide +kernel
theorem dX6_isChild_34 : decode cX6_isChild 34 = .ok (.ireturn, 1) := by decide +kernel
set_option maxRecDepth 20000 in
theorem ggX6_children_X6_isChild : GoodIn wsX6_children wsX6_isChild := goodIn_r _ [5, 6, 7, 8, 9, 10, 11, 12, 13, 14, 15, 16, 17, 18, 19, 20, 21, 22, 23, 24, 25, 26, 27, 28, 29, 30, 31, 32, 33, 34] (by decide +kernel) (by decide +kernel)
set_option maxRecDepth 20000 in
theorem gX6_children_X6_isChild : GoodIn wsX6_children (wsV RX6 85 RX6 yX6_isChild wsX6_isChild) := goodIn_app (goodIn_of _ (by decide +kernel)) ggX6_children_X6_isChild
theorem dX6_children_0 : decode cX6_children 0 = .ok (.iconst 0, 1) := by decide +kernel
theorem dX6_children_1 : decode cX6_children 1 = .ok (.istore_n 3, 1) := by decide +kernel
theorem dX6_children_2 : decode cX6_children 2 = .ok (.iconst 0, 1) := by decide +kernel
theorem dX6_children_3 : decode cX6_children 3 = .ok (.istore 4, 2) := by decide +kernel
theorem dX6_children_5 : decode cX6_children 5 = .ok (.iload 4, 2) := by decide +kernel
theorem dX6_children_7 : decode cX6_children 7 = .ok (.bipush 24, 2) := by decide +kernel
theorem dX6_children_9 : decode cX6_children 9 = .ok (.if_icmp .ge 28, 3) := by decide +kernel
theorem dX6_children_12 : decode cX6_children 12 = .ok (.aload_n 0, 1) := by decide +kernel
theorem dX6_children_13 : decode cX6_children 13 = .ok (.iload_n 1, 1) := by decide +kernel
theorem dX6_children_14 : decode cX6_children 14 = .ok (.iload 4, 2) := by decide +kernel
theorem dX6_children_16 : decode cX6_children 16 = .ok (.iload_n 2, 1) := by decide +kernel
theorem dX6_children_17 : decode cX6_children 17 = .ok (.invokevirtual 85, 3) := by decide +kernel
theorem dX6_children_20 : decode cX6_children 20 = .ok (.ifCond .eq 9, 3) := by decide +kernel
theorem dX6_children_23 : decode cX6_children 23 = .ok (.iload_n 3, 1) := by decide +kernel
theorem dX6_children_24 : decode cX6_children 24 = .ok (.iconst 1, 1) := by decide +kernel
theorem dX6_children_25 : decode cX6_children 25 = .ok (.iadd, 1) := by decide +kernel
theorem dX6_children_26 : decode cX6_children 26 = .ok (.goto 4, 3) := by decide +kernel
theorem dX6_children_29 : decode cX6_children 29 = .ok (.iload_n 3, 1) := by decide +kernel
theorem dX6_children_30 : decode cX6_children 30 = .ok (.istore_n 3, 1) := by decide +kernel
theorem dX6_children_31 : decode cX6_children 31 = .ok (.iinc 4 1, 3) := by decide +kernel
theorem dX6_children_34 : decode cX6_children 34 = .ok (.goto (-29), 3) := by decide +kernel
theorem dX6_children_37 : decode cX6_children 37 = .ok (.iload_n 3, 1) := by decide +kernel
theorem dX6_children_38 : decode cX6_children 38 = .ok (.ireturn, 1) := by decide +kernel
set_option maxRecDepth 20000 in
theorem ggX6_childAt_X6_isChild : GoodIn wsX6_childAt wsX6_isChild := goodIn_r _ [6, 7, 8, 9, 10, 11, 12, 13, 14, 15, 16, 17, 18, 19, 20, 21, 22, 23, 24, 25, 26, 27, 28, 29, 30, 31, 32, 33, 34, 35] (by decide +kernel) (by decide +kernel)
set_option maxRecDepth 20000 in
theorem gX6_childAt_X6_isChild : GoodIn wsX6_childAt (wsV RX6 85 RX6 yX6_isChild wsX6_isChild) := goodIn_app (goodIn_of _ (by decide +kernel)) ggX6_childAt_X6_isChild
theorem dX6_childAt_0 : decode cX6_childAt 0 = .ok (.iconst (-1), 1) := by decide +kernel
theorem dX6_childAt_1 : decode cX6_childAt 1 = .ok (.istore 4, 2) := by decide +kernel
theorem dX6_childAt_3 : decode cX6_childAt 3 = .ok (.iconst 0, 1) := by decide +kernel
theorem dX6_childAt_4 : decode cX6_childAt 4 = .ok (.istore 5, 2) := by decide +kernel
theorem dX6_childAt_6 : decode cX6_childAt 6 = .ok (.iload 5, 2) := by decide +kernel
theorem dX6_childAt_8 : decode cX6_childAt 8 = .ok (.bipush 24, 2) := by decide +kernel
theorem dX6_childAt_10 : decode cX6_childAt 10 = .ok (.if_icmp .ge 45, 3) := by decide +kernel
theorem dX6_childAt_13 : decode cX6_childAt 13 = .ok (.aload_n 0, 1) := by decide +kernel
theorem dX6_childAt_14 : decode cX6_childAt 14 = .ok (.iload_n 1, 1) := by decide +kernel
theorem dX6_childAt_15 : decode cX6_childAt 15 = .ok (.iload 5, 2) := by decide +kernel
theorem dX6_childAt_17 : decode cX6_childAt 17 = .ok (.iload_n 2, 1) := by decide +kernel
theorem dX6_childAt_18 : decode cX6_childAt 18 = .ok (.invokevirtual 85, 3) := by decide +kernel
theorem dX6_childAt_21 : decode cX6_childAt 21 = .ok (.ifCond .eq 24, 3) := by decide +kernel
theorem dX6_childAt_24 : decode cX6_childAt 24 = .ok (.aload_n 0, 1) := by decide +kernel
theorem dX6_childAt_25 : decode cX6_childAt 25 = .ok (.getfield 20, 3) := by decide +kernel
theorem dX6_childAt_28 : decode cX6_childAt 28 = .ok (.bipush 24, 2) := by decide +kernel
theorem dX6_childAt_30 : decode cX6_childAt 30 = .ok (.iload_n 1, 1) := by decide +kernel
theorem dX6_childAt_31 : decode cX6_childAt 31 = .ok (.imul, 1) := by decide +kernel
theorem dX6_childAt_32 : decode cX6_childAt 32 = .ok (.iload 5, 2) := by decide +kernel
theorem dX6_childAt_34 : decode cX6_childAt 34 = .ok (.iadd, 1) := by decide +kernel
theorem dX6_childAt_35 : decode cX6_childAt 35 = .ok (.iaload, 1) := by decide +kernel
theorem dX6_childAt_36 : decode cX6_childAt 36 = .ok (.iload_n 3, 1) := by decide +kernel
theorem dX6_childAt_37 : decode cX6_childAt 37 = .ok (.if_icmp .ne 8, 3) := by decide +kernel
theorem dX6_childAt_40 : decode cX6_childAt 40 = .ok (.iload 5, 2) := by decide +kernel
theorem dX6_childAt_42 : decode cX6_childAt 42 = .ok (.goto 5, 3) := by decide +kernel
theorem dX6_childAt_45 : decode cX6_childAt 45 = .ok (.iload 4, 2) := by decide +kernel
theorem dX6_childAt_47 : decode cX6_childAt 47 = .ok (.istore 4, 2) := by decide +kernel
theorem dX6_childAt_49 : decode cX6_childAt 49 = .ok (.iinc 5 1, 3) := by decide +kernel
theorem dX6_childAt_52 : decode cX6_childAt 52 = .ok (.goto (-46), 3) := by decide +kernel
theorem dX6_childAt_55 : decode cX6_childAt 55 = .ok (.iload 4, 2) := by decide +kernel
theorem dX6_childAt_57 : decode cX6_childAt 57 = .ok (.ireturn, 1) := by decide +kernel
theorem dX6_isAt_0 : decode cX6_isAt 0 = .ok (.iload_n 2, 1) := by decide +kernel
theorem dX6_isAt_1 : decode cX6_isAt 1 = .ok (.istore 4, 2) := by decide +kernel
theorem dX6_isAt_3 : decode cX6_isAt 3 = .ok (.iload 4, 2) := by decide +kernel
theorem dX6_isAt_5 : decode cX6_isAt 5 = .ok (.ifCond .lt 26, 3) := by decide +kernel
theorem dX6_isAt_8 : decode cX6_isAt 8 = .ok (.iload 4, 2) := by decide +kernel
theorem dX6_isAt_10 : decode cX6_isAt 10 = .ok (.iload_n 3, 1) := by decide +kernel
theorem dX6_isAt_11 : decode cX6_isAt 11 = .ok (.if_icmp .eq 20, 3) := by decide +kernel
theorem dX6_isAt_14 : decode cX6_isAt 14 = .ok (.aload_n 0, 1) := by decide +kernel
theorem dX6_isAt_15 : decode cX6_isAt 15 = .ok (.getfield 17, 3) := by decide +kernel
theorem dX6_isAt_18 : decode cX6_isAt 18 = .ok (.bipush 24, 2) := by decide +kernel
theorem dX6_isAt_20 : decode cX6_isAt 20 = .ok (.iload_n 1, 1) := by decide +kernel
theorem dX6_isAt_21 : decode cX6_isAt 21 = .ok (.imul, 1) := by decide +kernel
theorem dX6_isAt_22 : decode cX6_isAt 22 = .ok (.iload 4, 2) := by decide +kernel
theorem dX6_isAt_24 : decode cX6_isAt 24 = .ok (.iadd, 1) := by decide +kernel
theorem dX6_isAt_25 : decode cX6_isAt 25 = .ok (.iaload, 1) := by decide +kernel
theorem dX6_isAt_26 : decode cX6_isAt 26 = .ok (.istore 4, 2) := by decide +kernel
theorem dX6_isAt_28 : decode cX6_isAt 28 = .ok (.goto (-25), 3) := by decide +kernel
theorem dX6_isAt_31 : decode cX6_isAt 31 = .ok (.iload 4, 2) := by decide +kernel
theorem dX6_isAt_33 : decode cX6_isAt 33 = .ok (.iload_n 3, 1) := by decide +kernel
theorem dX6_isAt_34 : decode cX6_isAt 34 = .ok (.if_icmp .ne 7, 3) := by decide +kernel
theorem dX6_isAt_37 : decode cX6_isAt 37 = .ok (.iconst 1, 1) := by decide +kernel
theorem dX6_isAt_38 : decode cX6_isAt 38 = .ok (.goto 4, 3) := by decide +kernel
theorem dX6_isAt_41 : decode cX6_isAt 41 = .ok (.iconst 0, 1) := by decide +kernel
theorem dX6_isAt_42 : decode cX6_isAt 42 = .ok (.ireturn, 1) := by decide +kernel
set_option maxRecDepth 20000 in
theorem ggX6_shift_X6_isChild : GoodIn wsX6_shift wsX6_isChild := goodIn_r _ [6, 7, 8, 9, 10, 11, 12, 13, 14, 15, 16, 17, 18, 19, 20, 21, 22, 23, 24, 25, 26, 27, 28, 29, 30, 31, 32, 33, 34, 35] (by decide +kernel) (by decide +kernel)
set_option maxRecDepth 20000 in
theorem gX6_shift_X6_isChild : GoodIn wsX6_shift (wsV RX6 85 RX6 yX6_isChild wsX6_isChild) := goodIn_app (goodIn_of _ (by decide +kernel)) ggX6_shift_X6_isChild
theorem dX6_shift_0 : decode cX6_shift 0 = .ok (.iconst 0, 1) := by decide +kernel
theorem dX6_shift_1 : decode cX6_shift 1 = .ok (.istore 5, 2) := by decide +kernel
theorem dX6_shift_3 : decode cX6_shift 3 = .ok (.iload 5, 2) := by decide +kernel
theorem dX6_shift_5 : decode cX6_shift 5 = .ok (.bipush 24, 2) := by decide +kernel
theorem dX6_shift_7 : decode cX6_shift 7 = .ok (.if_icmp .ge 63, 3) := by decide +kernel
theorem dX6_shift_10 : decode cX6_shift 10 = .ok (.aload_n 0, 1) := by decide +kernel
theorem dX6_shift_11 : decode cX6_shift 11 = .ok (.iload_n 1, 1) := by decide +kernel
theorem dX6_shift_12 : decode cX6_shift 12 = .ok (.iload 5, 2) := by decide +kernel
theorem dX6_shift_14 : decode cX6_shift 14 = .ok (.iload_n 2, 1) := by decide +kernel
theorem dX6_shift_15 : decode cX6_shift 15 = .ok (.invokevirtual 85, 3) := by decide +kernel
theorem dX6_shift_18 : decode cX6_shift 18 = .ok (.ifCond .eq 46, 3) := by decide +kernel
theorem dX6_shift_21 : decode cX6_shift 21 = .ok (.aload_n 0, 1) := by decide +kernel
theorem dX6_shift_22 : decode cX6_shift 22 = .ok (.getfield 20, 3) := by decide +kernel
theorem dX6_shift_25 : decode cX6_shift 25 = .ok (.bipush 24, 2) := by decide +kernel
theorem dX6_shift_27 : decode cX6_shift 27 = .ok (.iload_n 1, 1) := by decide +kernel
theorem dX6_shift_28 : decode cX6_shift 28 = .ok (.imul, 1) := by decide +kernel
theorem dX6_shift_29 : decode cX6_shift 29 = .ok (.iload 5, 2) := by decide +kernel
theorem dX6_shift_31 : decode cX6_shift 31 = .ok (.iadd, 1) := by decide +kernel
theorem dX6_shift_32 : decode cX6_shift 32 = .ok (.iaload, 1) := by decide +kernel
theorem dX6_shift_33 : decode cX6_shift 33 = .ok (.iload_n 3, 1) := by decide +kernel
theorem dX6_shift_34 : decode cX6_shift 34 = .ok (.if_icmp .lt 30, 3) := by decide +kernel
theorem dX6_shift_37 : decode cX6_shift 37 = .ok (.aload_n 0, 1) := by decide +kernel
theorem dX6_shift_38 : decode cX6_shift 38 = .ok (.getfield 20, 3) := by decide +kernel
theorem dX6_shift_41 : decode cX6_shift 41 = .ok (.bipush 24, 2) := by decide +kernel
theorem dX6_shift_43 : decode cX6_shift 43 = .ok (.iload_n 1, 1) := by decide +kernel
theorem dX6_shift_44 : decode cX6_shift 44 = .ok (.imul, 1) := by decide +kernel
theorem dX6_shift_45 : decode cX6_shift 45 = .ok (.iload 5, 2) := by decide +kernel
theorem dX6_shift_47 : decode cX6_shift 47 = .ok (.iadd, 1) := by decide +kernel
theorem dX6_shift_48 : decode cX6_shift 48 = .ok (.aload_n 0, 1) := by decide +kernel
theorem dX6_shift_49 : decode cX6_shift 49 = .ok (.getfield 20, 3) := by decide +kernel
theorem dX6_shift_52 : decode cX6_shift 52 = .ok (.bipush 24, 2) := by decide +kernel
theorem dX6_shift_54 : decode cX6_shift 54 = .ok (.iload_n 1, 1) := by decide +kernel
theorem dX6_shift_55 : decode cX6_shift 55 = .ok (.imul, 1) := by decide +kernel
theorem dX6_shift_56 : decode cX6_shift 56 = .ok (.iload 5, 2) := by decide +kernel
theorem dX6_shift_58 : decode cX6_shift 58 = .ok (.iadd, 1) := by decide +kernel
theorem dX6_shift_59 : decode cX6_shift 59 = .ok (.iaload, 1) := by decide +kernel
theorem dX6_shift_60 : decode cX6_shift 60 = .ok (.iload 4, 2) := by decide +kernel
theorem dX6_shift_62 : decode cX6_shift 62 = .ok (.iadd, 1) := by decide +kernel
theorem dX6_shift_63 : decode cX6_shift 63 = .ok (.iastore, 1) := by decide +kernel
theorem dX6_shift_64 : decode cX6_shift 64 = .ok (.iinc 5 1, 3) := by decide +kernel
theorem dX6_shift_67 : decode cX6_shift 67 = .ok (.goto (-64), 3) := by decide +kernel
theorem dX6_shift_70 : decode cX6_shift 70 = .ok (.return_, 1) := by decide +kernel
set_option maxRecDepth 20000 in
theorem ggX6_hang_X6_shift : GoodIn wsX6_hang wsX6_shift := goodIn_r _ [8, 3, 9, 10, 11, 7, 12, 1, 2, 13, 14, 15, 16, 17, 18, 19, 20, 21, 22, 23, 24, 25, 26, 27, 28, 29, 30, 31, 32, 33, 34, 35, 36, 37, 38, 39] (by decide +kernel) (by decide +kernel)
set_option maxRecDepth 20000 in
theorem gX6_hang_X6_shift : GoodIn wsX6_hang (wsV RX6 89 RX6 yX6_shift wsX6_shift) := goodIn_app (goodIn_of _ (by decide +kernel)) ggX6_hang_X6_shift
theorem dX6_hang_0 : decode cX6_hang 0 = .ok (.aload_n 0, 1) := by decide +kernel
theorem dX6_hang_1 : decode cX6_hang 1 = .ok (.iload_n 1, 1) := by decide +kernel
theorem dX6_hang_2 : decode cX6_hang 2 = .ok (.iload_n 3, 1) := by decide +kernel
theorem dX6_hang_3 : decode cX6_hang 3 = .ok (.iload 4, 2) := by decide +kernel
theorem dX6_hang_5 : decode cX6_hang 5 = .ok (.iconst 1, 1) := by decide +kernel
theorem dX6_hang_6 : decode cX6_hang 6 = .ok (.invokevirtual 89, 3) := by decide +kernel
theorem dX6_hang_9 : decode cX6_hang 9 = .ok (.aload_n 0, 1) := by decide +kernel
theorem dX6_hang_10 : decode cX6_hang 10 = .ok (.getfield 7, 3) := by decide +kernel
theorem dX6_hang_13 : decode cX6_hang 13 = .ok (.bipush 24, 2) := by decide +kernel
theorem dX6_hang_15 : decode cX6_hang 15 = .ok (.iload_n 1, 1) := by decide +kernel
theorem dX6_hang_16 : decode cX6_hang 16 = .ok (.imul, 1) := by decide +kernel
theorem dX6_hang_17 : decode cX6_hang 17 = .ok (.iload_n 2, 1) := by decide +kernel
theorem dX6_hang_18 : decode cX6_hang 18 = .ok (.iadd, 1) := by decide +kernel
theorem dX6_hang_19 : decode cX6_hang 19 = .ok (.iconst 1, 1) := by decide +kernel
theorem dX6_hang_20 : decode cX6_hang 20 = .ok (.bastore, 1) := by decide +kernel
theorem dX6_hang_21 : decode cX6_hang 21 = .ok (.aload_n 0, 1) := by decide +kernel
theorem dX6_hang_22 : decode cX6_hang 22 = .ok (.getfield 17, 3) := by decide +kernel
theorem dX6_hang_25 : decode cX6_hang 25 = .ok (.bipush 24, 2) := by decide +kernel
theorem dX6_hang_27 : decode cX6_hang 27 = .ok (.iload_n 1, 1) := by decide +kernel
theorem dX6_hang_28 : decode cX6_hang 28 = .ok (.imul, 1) := by decide +kernel
theorem dX6_hang_29 : decode cX6_hang 29 = .ok (.iload_n 2, 1) := by decide +kernel
theorem dX6_hang_30 : decode cX6_hang 30 = .ok (.iadd, 1) := by decide +kernel
theorem dX6_hang_31 : decode cX6_hang 31 = .ok (.iload_n 3, 1) := by decide +kernel
theorem dX6_hang_32 : decode cX6_hang 32 = .ok (.iastore, 1) := by decide +kernel
theorem dX6_hang_33 : decode cX6_hang 33 = .ok (.aload_n 0, 1) := by decide +kernel
theorem dX6_hang_34 : decode cX6_hang 34 = .ok (.getfield 20, 3) := by decide +kernel
theorem dX6_hang_37 : decode cX6_hang 37 = .ok (.bipush 24, 2) := by decide +kernel
theorem dX6_hang_39 : decode cX6_hang 39 = .ok (.iload_n 1, 1) := by decide +kernel
theorem dX6_hang_40 : decode cX6_hang 40 = .ok (.imul, 1) := by decide +kernel
theorem dX6_hang_41 : decode cX6_hang 41 = .ok (.iload_n 2, 1) := by decide +kernel
theorem dX6_hang_42 : decode cX6_hang 42 = .ok (.iadd, 1) := by decide +kernel
theorem dX6_hang_43 : decode cX6_hang 43 = .ok (.iload 4, 2) := by decide +kernel
theorem dX6_hang_45 : decode cX6_hang 45 = .ok (.iastore, 1) := by decide +kernel
theorem dX6_hang_46 : decode cX6_hang 46 = .ok (.return_, 1) := by decide +kernel
set_option maxRecDepth 20000 in
theorem ggX6_unhang_X6_shift : GoodIn wsX6_unhang wsX6_shift := goodIn_r _ [8, 3, 9, 10, 11, 7, 12, 1, 2, 13, 14, 15, 16, 17, 18, 19, 20, 21, 22, 23, 24, 25, 26, 27, 28, 29, 30, 31, 32, 33, 34, 35, 36, 37, 38, 39] (by decide +kernel) (by decide +kernel)
set_option maxRecDepth 20000 in
theorem gX6_unhang_X6_shift : GoodIn wsX6_unhang (wsV RX6 89 RX6 yX6_shift wsX6_shift) := goodIn_app (goodIn_of _ (by decide +kernel)) ggX6_unhang_X6_shift
theorem dX6_unhang_0 : decode cX6_unhang 0 = .ok (.aload_n 0, 1) := by decide +kernel
theorem dX6_unhang_1 : decode cX6_unhang 1 = .ok (.getfield 7, 3) := by decide +kernel
theorem dX6_unhang_4 : decode cX6_unhang 4 = .ok (.bipush 24, 2) := by decide +kernel
theorem dX6_unhang_6 : decode cX6_unhang 6 = .ok (.iload_n 1, 1) := by decide +kernel
theorem dX6_unhang_7 : decode cX6_unhang 7 = .ok (.imul, 1) := by decide +kernel
theorem dX6_unhang_8 : decode cX6_unhang 8 = .ok (.iload_n 2, 1) := by decide +kernel
theorem dX6_unhang_9 : decode cX6_unhang 9 = .ok (.iadd, 1) := by decide +kernel
theorem dX6_unhang_10 : decode cX6_unhang 10 = .ok (.iconst 0, 1) := by decide +kernel
theorem dX6_unhang_11 : decode cX6_unhang 11 = .ok (.bastore, 1) := by decide +kernel
theorem dX6_unhang_12 : decode cX6_unhang 12 = .ok (.aload_n 0, 1) := by decide +kernel
theorem dX6_unhang_13 : decode cX6_unhang 13 = .ok (.iload_n 1, 1) := by decide +kernel
theorem dX6_unhang_14 : decode cX6_unhang 14 = .ok (.aload_n 0, 1) := by decide +kernel
theorem dX6_unhang_15 : decode cX6_unhang 15 = .ok (.getfield 17, 3) := by decide +kernel
theorem dX6_unhang_18 : decode cX6_unhang 18 = .ok (.bipush 24, 2) := by decide +kernel
theorem dX6_unhang_20 : decode cX6_unhang 20 = .ok (.iload_n 1, 1) := by decide +kernel
theorem dX6_unhang_21 : decode cX6_unhang 21 = .ok (.imul, 1) := by decide +kernel
theorem dX6_unhang_22 : decode cX6_unhang 22 = .ok (.iload_n 2, 1) := by decide +kernel
theorem dX6_unhang_23 : decode cX6_unhang 23 = .ok (.iadd, 1) := by decide +kernel
theorem dX6_unhang_24 : decode cX6_unhang 24 = .ok (.iaload, 1) := by decide +kernel
theorem dX6_unhang_25 : decode cX6_unhang 25 = .ok (.aload_n 0, 1) := by decide +kernel
theorem dX6_unhang_26 : decode cX6_unhang 26 = .ok (.getfield 20, 3) := by decide +kernel
theorem dX6_unhang_29 : decode cX6_unhang 29 = .ok (.bipush 24, 2) := by decide +kernel
theorem dX6_unhang_31 : decode cX6_unhang 31 = .ok (.iload_n 1, 1) := by decide +kernel
theorem dX6_unhang_32 : decode cX6_unhang 32 = .ok (.imul, 1) := by decide +kernel
theorem dX6_unhang_33 : decode cX6_unhang 33 = .ok (.iload_n 2, 1) := by decide +kernel
theorem dX6_unhang_34 : decode cX6_unhang 34 = .ok (.iadd, 1) := by decide +kernel
theorem dX6_unhang_35 : decode cX6_unhang 35 = .ok (.iaload, 1) := by decide +kernel
theorem dX6_unhang_36 : decode cX6_unhang 36 = .ok (.iconst (-1), 1) := by decide +kernel
theorem dX6_unhang_37 : decode cX6_unhang 37 = .ok (.invokevirtual 89, 3) := by decide +kernel
theorem dX6_unhang_40 : decode cX6_unhang 40 = .ok (.return_, 1) := by decide +kernel
set_option maxRecDepth 20000 in
theorem ggX6_walk_X6_children : GoodIn wsX6_walk wsX6_children := goodIn_r _ [9, 10, 11, 12, 8, 13, 14, 15, 21, 22, 23, 24, 25, 26, 27, 28, 29, 30, 31, 32, 33, 34, 35, 36, 37, 38, 39, 40, 41, 42, 43, 44, 45, 46, 47] (by decide +kernel) (by decide +kernel)
set_option maxRecDepth 20000 in
theorem gX6_walk_X6_children : GoodIn wsX6_walk (wsV RX6 99 RX6 yX6_children wsX6_children) := goodIn_app (goodIn_of _ (by decide +kernel)) ggX6_walk_X6_children
set_option maxRecDepth 20000 in
theorem ggX6_walk_X6_childAt : GoodIn wsX6_walk wsX6_childAt := goodIn_r _ [19, 20, 10, 11, 12, 8, 13, 14, 15, 21, 22, 23, 24, 25, 26, 27, 28, 29, 30, 31, 32, 33, 34, 35, 36, 37, 38, 39, 40, 41, 42, 43, 44, 45, 46, 47] (by decide +kernel) (by decide +kernel)
set_option maxRecDepth 20000 in
theorem gX6_walk_X6_childAt : GoodIn wsX6_walk (wsV RX6 103 RX6 yX6_childAt wsX6_childAt) := goodIn_app (goodIn_of _ (by decide +kernel)) ggX6_walk_X6_childAt
theorem dX6_walk_0 : decode cX6_walk 0 = .ok (.aload_n 0, 1) := by decide +kernel
theorem dX6_walk_1 : decode cX6_walk 1 = .ok (.iconst 0, 1) := by decide +kernel
theorem dX6_walk_2 : decode cX6_walk 2 = .ok (.putfield 93, 3) := by decide +kernel
theorem dX6_walk_5 : decode cX6_walk 5 = .ok (.aload_n 0, 1) := by decide +kernel
theorem dX6_walk_6 : decode cX6_walk 6 = .ok (.getfield 60, 3) := by decide +kernel
theorem dX6_walk_9 : decode cX6_walk 9 = .ok (.iconst 0, 1) := by decide +kernel
theorem dX6_walk_10 : decode cX6_walk 10 = .ok (.iconst 0, 1) := by decide +kernel
theorem dX6_walk_11 : decode cX6_walk 11 = .ok (.iastore, 1) := by decide +kernel
theorem dX6_walk_12 : decode cX6_walk 12 = .ok (.aload_n 0, 1) := by decide +kernel
theorem dX6_walk_13 : decode cX6_walk 13 = .ok (.iconst 1, 1) := by decide +kernel
theorem dX6_walk_14 : decode cX6_walk 14 = .ok (.putfield 96, 3) := by decide +kernel
theorem dX6_walk_17 : decode cX6_walk 17 = .ok (.aload_n 0, 1) := by decide +kernel
theorem dX6_walk_18 : decode cX6_walk 18 = .ok (.getfield 96, 3) := by decide +kernel
theorem dX6_walk_21 : decode cX6_walk 21 = .ok (.ifCond .le 91, 3) := by decide +kernel
theorem dX6_walk_24 : decode cX6_walk 24 = .ok (.aload_n 0, 1) := by decide +kernel
theorem dX6_walk_25 : decode cX6_walk 25 = .ok (.dup, 1) := by decide +kernel
theorem dX6_walk_26 : decode cX6_walk 26 = .ok (.getfield 96, 3) := by decide +kernel
theorem dX6_walk_29 : decode cX6_walk 29 = .ok (.iconst 1, 1) := by decide +kernel
theorem dX6_walk_30 : decode cX6_walk 30 = .ok (.isub, 1) := by decide +kernel
theorem dX6_walk_31 : decode cX6_walk 31 = .ok (.putfield 96, 3) := by decide +kernel
theorem dX6_walk_34 : decode cX6_walk 34 = .ok (.aload_n 0, 1) := by decide +kernel
theorem dX6_walk_35 : decode cX6_walk 35 = .ok (.getfield 60, 3) := by decide +kernel
theorem dX6_walk_38 : decode cX6_walk 38 = .ok (.aload_n 0, 1) := by decide +kernel
theorem dX6_walk_39 : decode cX6_walk 39 = .ok (.getfield 96, 3) := by decide +kernel
theorem dX6_walk_42 : decode cX6_walk 42 = .ok (.iaload, 1) := by decide +kernel
theorem dX6_walk_43 : decode cX6_walk 43 = .ok (.istore_n 2, 1) := by decide +kernel
theorem dX6_walk_44 : decode cX6_walk 44 = .ok (.aload_n 0, 1) := by decide +kernel
theorem dX6_walk_45 : decode cX6_walk 45 = .ok (.getfield 57, 3) := by decide +kernel
theorem dX6_walk_48 : decode cX6_walk 48 = .ok (.aload_n 0, 1) := by decide +kernel
theorem dX6_walk_49 : decode cX6_walk 49 = .ok (.getfield 93, 3) := by decide +kernel
theorem dX6_walk_52 : decode cX6_walk 52 = .ok (.iload_n 2, 1) := by decide +kernel
theorem dX6_walk_53 : decode cX6_walk 53 = .ok (.iastore, 1) := by decide +kernel
theorem dX6_walk_54 : decode cX6_walk 54 = .ok (.aload_n 0, 1) := by decide +kernel
theorem dX6_walk_55 : decode cX6_walk 55 = .ok (.dup, 1) := by decide +kernel
theorem dX6_walk_56 : decode cX6_walk 56 = .ok (.getfield 93, 3) := by decide +kernel
theorem dX6_walk_59 : decode cX6_walk 59 = .ok (.iconst 1, 1) := by decide +kernel
theorem dX6_walk_60 : decode cX6_walk 60 = .ok (.iadd, 1) := by decide +kernel
theorem dX6_walk_61 : decode cX6_walk 61 = .ok (.putfield 93, 3) := by decide +kernel
theorem dX6_walk_64 : decode cX6_walk 64 = .ok (.aload_n 0, 1) := by decide +kernel
theorem dX6_walk_65 : decode cX6_walk 65 = .ok (.iload_n 1, 1) := by decide +kernel
theorem dX6_walk_66 : decode cX6_walk 66 = .ok (.iload_n 2, 1) := by decide +kernel
theorem dX6_walk_67 : decode cX6_walk 67 = .ok (.invokevirtual 99, 3) := by decide +kernel
theorem dX6_walk_70 : decode cX6_walk 70 = .ok (.iconst 1, 1) := by decide +kernel
theorem dX6_walk_71 : decode cX6_walk 71 = .ok (.isub, 1) := by decide +kernel
theorem dX6_walk_72 : decode cX6_walk 72 = .ok (.istore_n 3, 1) := by decide +kernel
theorem dX6_walk_73 : decode cX6_walk 73 = .ok (.iload_n 3, 1) := by decide +kernel
theorem dX6_walk_74 : decode cX6_walk 74 = .ok (.ifCond .lt 35, 3) := by decide +kernel
theorem dX6_walk_77 : decode cX6_walk 77 = .ok (.aload_n 0, 1) := by decide +kernel
theorem dX6_walk_78 : decode cX6_walk 78 = .ok (.getfield 60, 3) := by decide +kernel
theorem dX6_walk_81 : decode cX6_walk 81 = .ok (.aload_n 0, 1) := by decide +kernel
theorem dX6_walk_82 : decode cX6_walk 82 = .ok (.getfield 96, 3) := by decide +kernel
theorem dX6_walk_85 : decode cX6_walk 85 = .ok (.aload_n 0, 1) := by decide +kernel
theorem dX6_walk_86 : decode cX6_walk 86 = .ok (.iload_n 1, 1) := by decide +kernel
theorem dX6_walk_87 : decode cX6_walk 87 = .ok (.iload_n 2, 1) := by decide +kernel
theorem dX6_walk_88 : decode cX6_walk 88 = .ok (.iload_n 3, 1) := by decide +kernel
theorem dX6_walk_89 : decode cX6_walk 89 = .ok (.invokevirtual 103, 3) := by decide +kernel
theorem dX6_walk_92 : decode cX6_walk 92 = .ok (.iastore, 1) := by decide +kernel
theorem dX6_walk_93 : decode cX6_walk 93 = .ok (.aload_n 0, 1) := by decide +kernel
theorem dX6_walk_94 : decode cX6_walk 94 = .ok (.dup, 1) := by decide +kernel
theorem dX6_walk_95 : decode cX6_walk 95 = .ok (.getfield 96, 3) := by decide +kernel
theorem dX6_walk_98 : decode cX6_walk 98 = .ok (.iconst 1, 1) := by decide +kernel
theorem dX6_walk_99 : decode cX6_walk 99 = .ok (.iadd, 1) := by decide +kernel
theorem dX6_walk_100 : decode cX6_walk 100 = .ok (.putfield 96, 3) := by decide +kernel
theorem dX6_walk_103 : decode cX6_walk 103 = .ok (.iinc 3 (-1), 3) := by decide +kernel
theorem dX6_walk_106 : decode cX6_walk 106 = .ok (.goto (-33), 3) := by decide +kernel
theorem dX6_walk_109 : decode cX6_walk 109 = .ok (.goto (-92), 3) := by decide +kernel
theorem dX6_walk_112 : decode cX6_walk 112 = .ok (.return_, 1) := by decide +kernel
set_option maxRecDepth 20000 in
theorem ggX6_insert_X6_has : GoodIn wsX6_insert wsX6_has := goodIn_r _ [8, 9, 28, 29, 30, 31, 32, 33, 34, 35, 36, 37, 38, 39, 40, 41, 42, 43, 44, 45, 46, 47, 48, 49, 50, 51, 52, 53, 54] (by decide +kernel) (by decide +kernel)
set_option maxRecDepth 20000 in
theorem gX6_insert_X6_has : GoodIn wsX6_insert (wsV RX6 107 RX6 yX6_has wsX6_has) := goodIn_app (goodIn_of _ (by decide +kernel)) ggX6_insert_X6_has
set_option maxRecDepth 20000 in
theorem ggX6_insert_X6_children : GoodIn wsX6_insert wsX6_children := goodIn_r _ [13, 14, 15, 16, 7, 17, 9, 18, 28, 29, 30, 31, 32, 33, 34, 35, 36, 37, 38, 39, 40, 41, 42, 43, 44, 45, 46, 47, 48, 49, 50, 51, 52, 53, 54] (by decide +kernel) (by decide +kernel)
set_option maxRecDepth 20000 in
theorem gX6_insert_X6_children : GoodIn wsX6_insert (wsV RX6 99 RX6 yX6_children wsX6_children) := goodIn_app (goodIn_of _ (by decide +kernel)) ggX6_insert_X6_children
set_option maxRecDepth 20000 in
theorem ggX6_insert_X6_hang : GoodIn wsX6_insert wsX6_hang := goodIn_r _ [22, 9, 18, 23, 24, 25, 26, 7, 27, 14, 15, 16, 17, 28, 29, 30, 31, 32, 33, 34, 35, 36, 37, 38, 39, 40, 41, 42, 43, 44, 45, 46, 47, 48, 49, 50, 51, 52, 53, 54] (by decide +kernel) (by decide +kernel)
set_option maxRecDepth 20000 in
theorem gX6_insert_X6_hang : GoodIn wsX6_insert (wsV RX6 111 RX6 yX6_hang wsX6_hang) := goodIn_app (goodIn_of _ (by decide +kernel)) ggX6_insert_X6_hang
theorem dX6_insert_0 : decode cX6_insert 0 = .ok (.aload_n 0, 1) := by decide +kernel
theorem dX6_insert_1 : decode cX6_insert 1 = .ok (.aload_n 0, 1) := by decide +kernel
theorem dX6_insert_2 : decode cX6_insert 2 = .ok (.bipush 12, 2) := by decide +kernel
theorem dX6_insert_4 : decode cX6_insert 4 = .ok (.iload_n 1, 1) := by decide +kernel
theorem dX6_insert_5 : decode cX6_insert 5 = .ok (.invokevirtual 107, 3) := by decide +kernel
theorem dX6_insert_8 : decode cX6_insert 8 = .ok (.ifCond .ne 7, 3) := by decide +kernel
theorem dX6_insert_11 : decode cX6_insert 11 = .ok (.iconst 1, 1) := by decide +kernel
theorem dX6_insert_12 : decode cX6_insert 12 = .ok (.goto 49, 3) := by decide +kernel
theorem dX6_insert_15 : decode cX6_insert 15 = .ok (.iload_n 2, 1) := by decide +kernel
theorem dX6_insert_16 : decode cX6_insert 16 = .ok (.ifCond .lt 14, 3) := by decide +kernel
theorem dX6_insert_19 : decode cX6_insert 19 = .ok (.iload_n 2, 1) := by decide +kernel
theorem dX6_insert_20 : decode cX6_insert 20 = .ok (.aload_n 0, 1) := by decide +kernel
theorem dX6_insert_21 : decode cX6_insert 21 = .ok (.bipush 12, 2) := by decide +kernel
theorem dX6_insert_23 : decode cX6_insert 23 = .ok (.iload_n 1, 1) := by decide +kernel
theorem dX6_insert_24 : decode cX6_insert 24 = .ok (.invokevirtual 99, 3) := by decide +kernel
theorem dX6_insert_27 : decode cX6_insert 27 = .ok (.if_icmp .le 7, 3) := by decide +kernel
theorem dX6_insert_30 : decode cX6_insert 30 = .ok (.iconst 2, 1) := by decide +kernel
theorem dX6_insert_31 : decode cX6_insert 31 = .ok (.goto 30, 3) := by decide +kernel
theorem dX6_insert_34 : decode cX6_insert 34 = .ok (.iload_n 3, 1) := by decide +kernel
theorem dX6_insert_35 : decode cX6_insert 35 = .ok (.ifCond .lt 8, 3) := by decide +kernel
theorem dX6_insert_38 : decode cX6_insert 38 = .ok (.iload_n 3, 1) := by decide +kernel
theorem dX6_insert_39 : decode cX6_insert 39 = .ok (.iconst 5, 1) := by decide +kernel
theorem dX6_insert_40 : decode cX6_insert 40 = .ok (.if_icmp .le 7, 3) := by decide +kernel
theorem dX6_insert_43 : decode cX6_insert 43 = .ok (.iconst 3, 1) := by decide +kernel
theorem dX6_insert_44 : decode cX6_insert 44 = .ok (.goto 17, 3) := by decide +kernel
theorem dX6_insert_47 : decode cX6_insert 47 = .ok (.aload_n 0, 1) := by decide +kernel
theorem dX6_insert_48 : decode cX6_insert 48 = .ok (.getfield 23, 3) := by decide +kernel
theorem dX6_insert_51 : decode cX6_insert 51 = .ok (.bipush 24, 2) := by decide +kernel
theorem dX6_insert_53 : decode cX6_insert 53 = .ok (.if_icmp .ne 7, 3) := by decide +kernel
theorem dX6_insert_56 : decode cX6_insert 56 = .ok (.iconst 4, 1) := by decide +kernel
theorem dX6_insert_57 : decode cX6_insert 57 = .ok (.goto 4, 3) := by decide +kernel
theorem dX6_insert_60 : decode cX6_insert 60 = .ok (.iconst 0, 1) := by decide +kernel
theorem dX6_insert_61 : decode cX6_insert 61 = .ok (.putfield 82, 3) := by decide +kernel
theorem dX6_insert_64 : decode cX6_insert 64 = .ok (.aload_n 0, 1) := by decide +kernel
theorem dX6_insert_65 : decode cX6_insert 65 = .ok (.getfield 82, 3) := by decide +kernel
theorem dX6_insert_68 : decode cX6_insert 68 = .ok (.ifCond .le 5, 3) := by decide +kernel
theorem dX6_insert_71 : decode cX6_insert 71 = .ok (.iconst 0, 1) := by decide +kernel
theorem dX6_insert_72 : decode cX6_insert 72 = .ok (.ireturn, 1) := by decide +kernel
theorem dX6_insert_73 : decode cX6_insert 73 = .ok (.aload_n 0, 1) := by decide +kernel
theorem dX6_insert_74 : decode cX6_insert 74 = .ok (.bipush 12, 2) := by decide +kernel
theorem dX6_insert_76 : decode cX6_insert 76 = .ok (.aload_n 0, 1) := by decide +kernel
theorem dX6_insert_77 : decode cX6_insert 77 = .ok (.getfield 23, 3) := by decide +kernel
theorem dX6_insert_80 : decode cX6_insert 80 = .ok (.iload_n 1, 1) := by decide +kernel
theorem dX6_insert_81 : decode cX6_insert 81 = .ok (.iload_n 2, 1) := by decide +kernel
theorem dX6_insert_82 : decode cX6_insert 82 = .ok (.invokevirtual 111, 3) := by decide +kernel
theorem dX6_insert_85 : decode cX6_insert 85 = .ok (.aload_n 0, 1) := by decide +kernel
theorem dX6_insert_86 : decode cX6_insert 86 = .ok (.getfield 13, 3) := by decide +kernel
theorem dX6_insert_89 : decode cX6_insert 89 = .ok (.sipush 288, 3) := by decide +kernel
theorem dX6_insert_92 : decode cX6_insert 92 = .ok (.aload_n 0, 1) := by decide +kernel
theorem dX6_insert_93 : decode cX6_insert 93 = .ok (.getfield 23, 3) := by decide +kernel
theorem dX6_insert_96 : decode cX6_insert 96 = .ok (.iadd, 1) := by decide +kernel
theorem dX6_insert_97 : decode cX6_insert 97 = .ok (.iload_n 3, 1) := by decide +kernel
theorem dX6_insert_98 : decode cX6_insert 98 = .ok (.iastore, 1) := by decide +kernel
theorem dX6_insert_99 : decode cX6_insert 99 = .ok (.aload_n 0, 1) := by decide +kernel
theorem dX6_insert_100 : decode cX6_insert 100 = .ok (.dup, 1) := by decide +kernel
theorem dX6_insert_101 : decode cX6_insert 101 = .ok (.getfield 23, 3) := by decide +kernel
theorem dX6_insert_104 : decode cX6_insert 104 = .ok (.iconst 1, 1) := by decide +kernel
theorem dX6_insert_105 : decode cX6_insert 105 = .ok (.iadd, 1) := by decide +kernel
theorem dX6_insert_106 : decode cX6_insert 106 = .ok (.putfield 23, 3) := by decide +kernel
theorem dX6_insert_109 : decode cX6_insert 109 = .ok (.aload_n 0, 1) := by decide +kernel
theorem dX6_insert_110 : decode cX6_insert 110 = .ok (.getfield 23, 3) := by decide +kernel
theorem dX6_insert_113 : decode cX6_insert 113 = .ok (.iconst 1, 1) := by decide +kernel
theorem dX6_insert_114 : decode cX6_insert 114 = .ok (.isub, 1) := by decide +kernel
theorem dX6_insert_115 : decode cX6_insert 115 = .ok (.ireturn, 1) := by decide +kernel
set_option maxRecDepth 20000 in
theorem ggX6_delete_X6_has : GoodIn wsX6_delete wsX6_has := goodIn_r _ [9, 4, 42, 43, 44, 45, 46, 47, 48, 49, 50, 51, 52, 53, 54, 55, 56, 57, 58, 59, 60, 61, 62, 63, 64, 65, 66, 67, 68] (by decide +kernel) (by decide +kernel)
set_option maxRecDepth 20000 in
theorem gX6_delete_X6_has : GoodIn wsX6_delete (wsV RX6 107 RX6 yX6_has wsX6_has) := goodIn_app (goodIn_of _ (by decide +kernel)) ggX6_delete_X6_has
set_option maxRecDepth 20000 in
theorem ggX6_delete_X6_walk : GoodIn wsX6_delete wsX6_walk := goodIn_r _ [13, 2, 14, 15, 3, 16, 17, 18, 8, 19, 20, 21, 22, 23, 4, 24, 25, 26, 27, 28, 29, 42, 43, 44, 45, 46, 47, 48, 49, 50, 51, 52, 53, 54, 55, 56, 57, 58, 59, 60, 61, 62, 63, 64, 65, 66, 67, 68] (by decide +kernel) (by decide +kernel)
set_option maxRecDepth 20000 in
theorem gX6_delete_X6_walk : GoodIn wsX6_delete (wsV RX6 114 RX6 yX6_walk wsX6_walk) := goodIn_app (goodIn_of _ (by decide +kernel)) ggX6_delete_X6_walk
set_option maxRecDepth 20000 in
theorem ggX6_delete_X6_unhang : GoodIn wsX6_delete wsX6_unhang := goodIn_r _ [33, 4, 24, 29, 34, 35, 36, 8, 37, 20, 21, 22, 23, 42, 43, 44, 45, 46, 47, 48, 49, 50, 51, 52, 53, 54, 55, 56, 57, 58, 59, 60, 61, 62, 63, 64, 65, 66, 67, 68] (by decide +kernel) (by decide +kernel)
set_option maxRecDepth 20000 in
theorem gX6_delete_X6_unhang : GoodIn wsX6_delete (wsV RX6 118 RX6 yX6_unhang wsX6_unhang) := goodIn_app (goodIn_of _ (by decide +kernel)) ggX6_delete_X6_unhang
set_option maxRecDepth 20000 in
theorem ggX6_delete_X6_isAt : GoodIn wsX6_delete wsX6_isAt := goodIn_r _ [41, 24, 42, 43, 44, 45, 46, 47, 48, 49, 50, 51, 52, 53, 54, 55, 56, 57, 58, 59, 60, 61, 62, 63, 64, 65, 66, 67, 68] (by decide +kernel) (by decide +kernel)
set_option maxRecDepth 20000 in
theorem gX6_delete_X6_isAt : GoodIn wsX6_delete (wsV RX6 121 RX6 yX6_isAt wsX6_isAt) := goodIn_app (goodIn_of _ (by decide +kernel)) ggX6_delete_X6_isAt
theorem dX6_delete_0 : decode cX6_delete 0 = .ok (.aload_n 0, 1) := by decide +kernel
theorem dX6_delete_1 : decode cX6_delete 1 = .ok (.aload_n 0, 1) := by decide +kernel
theorem dX6_delete_2 : decode cX6_delete 2 = .ok (.bipush 12, 2) := by decide +kernel
theorem dX6_delete_4 : decode cX6_delete 4 = .ok (.iload_n 1, 1) := by decide +kernel
theorem dX6_delete_5 : decode cX6_delete 5 = .ok (.invokevirtual 107, 3) := by decide +kernel
theorem dX6_delete_8 : decode cX6_delete 8 = .ok (.ifCond .ne 7, 3) := by decide +kernel
theorem dX6_delete_11 : decode cX6_delete 11 = .ok (.iconst 1, 1) := by decide +kernel
theorem dX6_delete_12 : decode cX6_delete 12 = .ok (.goto 12, 3) := by decide +kernel
theorem dX6_delete_15 : decode cX6_delete 15 = .ok (.iload_n 1, 1) := by decide +kernel
theorem dX6_delete_16 : decode cX6_delete 16 = .ok (.ifCond .ne 7, 3) := by decide +kernel
theorem dX6_delete_19 : decode cX6_delete 19 = .ok (.iconst 2, 1) := by decide +kernel
theorem dX6_delete_20 : decode cX6_delete 20 = .ok (.goto 4, 3) := by decide +kernel
theorem dX6_delete_23 : decode cX6_delete 23 = .ok (.iconst 0, 1) := by decide +kernel
theorem dX6_delete_24 : decode cX6_delete 24 = .ok (.putfield 82, 3) := by decide +kernel
theorem dX6_delete_27 : decode cX6_delete 27 = .ok (.aload_n 0, 1) := by decide +kernel
theorem dX6_delete_28 : decode cX6_delete 28 = .ok (.getfield 82, 3) := by decide +kernel
theorem dX6_delete_31 : decode cX6_delete 31 = .ok (.ifCond .le 5, 3) := by decide +kernel
theorem dX6_delete_34 : decode cX6_delete 34 = .ok (.iconst 0, 1) := by decide +kernel
theorem dX6_delete_35 : decode cX6_delete 35 = .ok (.ireturn, 1) := by decide +kernel
theorem dX6_delete_36 : decode cX6_delete 36 = .ok (.aload_n 0, 1) := by decide +kernel
theorem dX6_delete_37 : decode cX6_delete 37 = .ok (.bipush 12, 2) := by decide +kernel
theorem dX6_delete_39 : decode cX6_delete 39 = .ok (.invokevirtual 114, 3) := by decide +kernel
theorem dX6_delete_42 : decode cX6_delete 42 = .ok (.iconst 0, 1) := by decide +kernel
theorem dX6_delete_43 : decode cX6_delete 43 = .ok (.istore_n 2, 1) := by decide +kernel
theorem dX6_delete_44 : decode cX6_delete 44 = .ok (.aload_n 0, 1) := by decide +kernel
theorem dX6_delete_45 : decode cX6_delete 45 = .ok (.bipush 12, 2) := by decide +kernel
theorem dX6_delete_47 : decode cX6_delete 47 = .ok (.iload_n 1, 1) := by decide +kernel
theorem dX6_delete_48 : decode cX6_delete 48 = .ok (.invokevirtual 118, 3) := by decide +kernel
theorem dX6_delete_51 : decode cX6_delete 51 = .ok (.aload_n 0, 1) := by decide +kernel
theorem dX6_delete_52 : decode cX6_delete 52 = .ok (.getfield 93, 3) := by decide +kernel
theorem dX6_delete_55 : decode cX6_delete 55 = .ok (.iconst 1, 1) := by decide +kernel
theorem dX6_delete_56 : decode cX6_delete 56 = .ok (.isub, 1) := by decide +kernel
theorem dX6_delete_57 : decode cX6_delete 57 = .ok (.istore_n 3, 1) := by decide +kernel
theorem dX6_delete_58 : decode cX6_delete 58 = .ok (.iload_n 3, 1) := by decide +kernel
theorem dX6_delete_59 : decode cX6_delete 59 = .ok (.ifCond .lt 32, 3) := by decide +kernel
theorem dX6_delete_62 : decode cX6_delete 62 = .ok (.aload_n 0, 1) := by decide +kernel
theorem dX6_delete_63 : decode cX6_delete 63 = .ok (.getfield 57, 3) := by decide +kernel
theorem dX6_delete_66 : decode cX6_delete 66 = .ok (.iload_n 3, 1) := by decide +kernel
theorem dX6_delete_67 : decode cX6_delete 67 = .ok (.iaload, 1) := by decide +kernel
theorem dX6_delete_68 : decode cX6_delete 68 = .ok (.istore 4, 2) := by decide +kernel
theorem dX6_delete_70 : decode cX6_delete 70 = .ok (.aload_n 0, 1) := by decide +kernel
theorem dX6_delete_71 : decode cX6_delete 71 = .ok (.bipush 12, 2) := by decide +kernel
theorem dX6_delete_73 : decode cX6_delete 73 = .ok (.iload 4, 2) := by decide +kernel
theorem dX6_delete_75 : decode cX6_delete 75 = .ok (.iload_n 1, 1) := by decide +kernel
theorem dX6_delete_76 : decode cX6_delete 76 = .ok (.invokevirtual 121, 3) := by decide +kernel
theorem dX6_delete_79 : decode cX6_delete 79 = .ok (.ifCond .eq 6, 3) := by decide +kernel
theorem dX6_delete_82 : decode cX6_delete 82 = .ok (.iinc 2 1, 3) := by decide +kernel
theorem dX6_delete_85 : decode cX6_delete 85 = .ok (.iinc 3 (-1), 3) := by decide +kernel
theorem dX6_delete_88 : decode cX6_delete 88 = .ok (.goto (-30), 3) := by decide +kernel
theorem dX6_delete_91 : decode cX6_delete 91 = .ok (.iconst 0, 1) := by decide +kernel
theorem dX6_delete_92 : decode cX6_delete 92 = .ok (.istore_n 3, 1) := by decide +kernel
theorem dX6_delete_93 : decode cX6_delete 93 = .ok (.iload_n 3, 1) := by decide +kernel
theorem dX6_delete_94 : decode cX6_delete 94 = .ok (.aload_n 0, 1) := by decide +kernel
theorem dX6_delete_95 : decode cX6_delete 95 = .ok (.getfield 93, 3) := by decide +kernel
theorem dX6_delete_98 : decode cX6_delete 98 = .ok (.if_icmp .ge 59, 3) := by decide +kernel
theorem dX6_delete_101 : decode cX6_delete 101 = .ok (.aload_n 0, 1) := by decide +kernel
theorem dX6_delete_102 : decode cX6_delete 102 = .ok (.getfield 57, 3) := by decide +kernel
theorem dX6_delete_105 : decode cX6_delete 105 = .ok (.iload_n 3, 1) := by decide +kernel
theorem dX6_delete_106 : decode cX6_delete 106 = .ok (.iaload, 1) := by decide +kernel
theorem dX6_delete_107 : decode cX6_delete 107 = .ok (.istore 4, 2) := by decide +kernel
theorem dX6_delete_109 : decode cX6_delete 109 = .ok (.aload_n 0, 1) := by decide +kernel
theorem dX6_delete_110 : decode cX6_delete 110 = .ok (.getfield 7, 3) := by decide +kernel
theorem dX6_delete_113 : decode cX6_delete 113 = .ok (.sipush 288, 3) := by decide +kernel
theorem dX6_delete_116 : decode cX6_delete 116 = .ok (.iload 4, 2) := by decide +kernel
theorem dX6_delete_118 : decode cX6_delete 118 = .ok (.iadd, 1) := by decide +kernel
theorem dX6_delete_119 : decode cX6_delete 119 = .ok (.aload_n 0, 1) := by decide +kernel
theorem dX6_delete_120 : decode cX6_delete 120 = .ok (.getfield 7, 3) := by decide +kernel
theorem dX6_delete_123 : decode cX6_delete 123 = .ok (.sipush 288, 3) := by decide +kernel
theorem dX6_delete_126 : decode cX6_delete 126 = .ok (.iload 4, 2) := by decide +kernel
theorem dX6_delete_128 : decode cX6_delete 128 = .ok (.iadd, 1) := by decide +kernel
theorem dX6_delete_129 : decode cX6_delete 129 = .ok (.baload, 1) := by decide +kernel
theorem dX6_delete_130 : decode cX6_delete 130 = .ok (.ifCond .eq 19, 3) := by decide +kernel
theorem dX6_delete_133 : decode cX6_delete 133 = .ok (.aload_n 0, 1) := by decide +kernel
theorem dX6_delete_134 : decode cX6_delete 134 = .ok (.bipush 12, 2) := by decide +kernel
theorem dX6_delete_136 : decode cX6_delete 136 = .ok (.iload 4, 2) := by decide +kernel
theorem dX6_delete_138 : decode cX6_delete 138 = .ok (.iload_n 1, 1) := by decide +kernel
theorem dX6_delete_139 : decode cX6_delete 139 = .ok (.invokevirtual 121, 3) := by decide +kernel
theorem dX6_delete_142 : decode cX6_delete 142 = .ok (.ifCond .ne 7, 3) := by decide +kernel
theorem dX6_delete_145 : decode cX6_delete 145 = .ok (.iconst 1, 1) := by decide +kernel
theorem dX6_delete_146 : decode cX6_delete 146 = .ok (.goto 4, 3) := by decide +kernel
theorem dX6_delete_149 : decode cX6_delete 149 = .ok (.iconst 0, 1) := by decide +kernel
theorem dX6_delete_150 : decode cX6_delete 150 = .ok (.bastore, 1) := by decide +kernel
theorem dX6_delete_151 : decode cX6_delete 151 = .ok (.iinc 3 1, 3) := by decide +kernel
theorem dX6_delete_154 : decode cX6_delete 154 = .ok (.goto (-61), 3) := by decide +kernel
theorem dX6_delete_157 : decode cX6_delete 157 = .ok (.iload_n 2, 1) := by decide +kernel
theorem dX6_delete_158 : decode cX6_delete 158 = .ok (.ireturn, 1) := by decide +kernel
set_option maxRecDepth 20000 in
theorem ggX6_move_X6_has : GoodIn wsX6_move wsX6_has := goodIn_r _ [7, 8, 34, 35, 36, 37, 38, 39, 40, 41, 42, 43, 44, 45, 46, 47, 48, 49, 50, 51, 52, 53, 54, 55, 56, 57, 58, 59, 60] (by decide +kernel) (by decide +kernel)
set_option maxRecDepth 20000 in
theorem gX6_move_X6_has : GoodIn wsX6_move (wsV RX6 107 RX6 yX6_has wsX6_has) := goodIn_app (goodIn_of _ (by decide +kernel)) ggX6_move_X6_has
set_option maxRecDepth 20000 in
theorem ggX6_move_X6_isAt : GoodIn wsX6_move wsX6_isAt := goodIn_r _ [12, 2, 34, 35, 36, 37, 38, 39, 40, 41, 42, 43, 44, 45, 46, 47, 48, 49, 50, 51, 52, 53, 54, 55, 56, 57, 58, 59, 60] (by decide +kernel) (by decide +kernel)
set_option maxRecDepth 20000 in
theorem gX6_move_X6_isAt : GoodIn wsX6_move (wsV RX6 121 RX6 yX6_isAt wsX6_isAt) := goodIn_app (goodIn_of _ (by decide +kernel)) ggX6_move_X6_isAt
set_option maxRecDepth 20000 in
theorem ggX6_move_X6_children : GoodIn wsX6_move wsX6_children := goodIn_r _ [16, 17, 18, 19, 6, 20, 8, 2, 34, 35, 36, 37, 38, 39, 40, 41, 42, 43, 44, 45, 46, 47, 48, 49, 50, 51, 52, 53, 54, 55, 56, 57, 58, 59, 60] (by decide +kernel) (by decide +kernel)
set_option maxRecDepth 20000 in
theorem gX6_move_X6_children : GoodIn wsX6_move (wsV RX6 99 RX6 yX6_children wsX6_children) := goodIn_app (goodIn_of _ (by decide +kernel)) ggX6_move_X6_children
set_option maxRecDepth 20000 in
theorem ggX6_move_X6_unhang : GoodIn wsX6_move wsX6_unhang := goodIn_r _ [24, 8, 2, 25, 26, 27, 28, 6, 29, 17, 18, 19, 20, 34, 35, 36, 37, 38, 39, 40, 41, 42, 43, 44, 45, 46, 47, 48, 49, 50, 51, 52, 53, 54, 55, 56, 57, 58, 59, 60] (by decide +kernel) (by decide +kernel)
set_option maxRecDepth 20000 in
theorem gX6_move_X6_unhang : GoodIn wsX6_move (wsV RX6 118 RX6 yX6_unhang wsX6_unhang) := goodIn_app (goodIn_of _ (by decide +kernel)) ggX6_move_X6_unhang
set_option maxRecDepth 20000 in
theorem ggX6_move_X6_hang : GoodIn wsX6_move wsX6_hang := goodIn_r _ [33, 8, 2, 25, 26, 27, 28, 6, 29, 17, 18, 19, 20, 34, 35, 36, 37, 38, 39, 40, 41, 42, 43, 44, 45, 46, 47, 48, 49, 50, 51, 52, 53, 54, 55, 56, 57, 58, 59, 60] (by decide +kernel) (by decide +kernel)
set_option maxRecDepth 20000 in
theorem gX6_move_X6_hang : GoodIn wsX6_move (wsV RX6 111 RX6 yX6_hang wsX6_hang) := goodIn_app (goodIn_of _ (by decide +kernel)) ggX6_move_X6_hang
theorem dX6_move_0 : decode cX6_move 0 = .ok (.aload_n 0, 1) := by decide +kernel
theorem dX6_move_1 : decode cX6_move 1 = .ok (.aload_n 0, 1) := by decide +kernel
theorem dX6_move_2 : decode cX6_move 2 = .ok (.bipush 12, 2) := by decide +kernel
theorem dX6_move_4 : decode cX6_move 4 = .ok (.iload_n 1, 1) := by decide +kernel
theorem dX6_move_5 : decode cX6_move 5 = .ok (.invokevirtual 107, 3) := by decide +kernel
theorem dX6_move_8 : decode cX6_move 8 = .ok (.ifCond .eq 13, 3) := by decide +kernel
theorem dX6_move_11 : decode cX6_move 11 = .ok (.aload_n 0, 1) := by decide +kernel
theorem dX6_move_12 : decode cX6_move 12 = .ok (.bipush 12, 2) := by decide +kernel
theorem dX6_move_14 : decode cX6_move 14 = .ok (.iload_n 2, 1) := by decide +kernel
theorem dX6_move_15 : decode cX6_move 15 = .ok (.invokevirtual 107, 3) := by decide +kernel
theorem dX6_move_18 : decode cX6_move 18 = .ok (.ifCond .ne 7, 3) := by decide +kernel
theorem dX6_move_21 : decode cX6_move 21 = .ok (.iconst 1, 1) := by decide +kernel
theorem dX6_move_22 : decode cX6_move 22 = .ok (.goto 23, 3) := by decide +kernel
theorem dX6_move_25 : decode cX6_move 25 = .ok (.iload_n 1, 1) := by decide +kernel
theorem dX6_move_26 : decode cX6_move 26 = .ok (.ifCond .eq 14, 3) := by decide +kernel
theorem dX6_move_29 : decode cX6_move 29 = .ok (.aload_n 0, 1) := by decide +kernel
theorem dX6_move_30 : decode cX6_move 30 = .ok (.bipush 12, 2) := by decide +kernel
theorem dX6_move_32 : decode cX6_move 32 = .ok (.iload_n 2, 1) := by decide +kernel
theorem dX6_move_33 : decode cX6_move 33 = .ok (.iload_n 1, 1) := by decide +kernel
theorem dX6_move_34 : decode cX6_move 34 = .ok (.invokevirtual 121, 3) := by decide +kernel
theorem dX6_move_37 : decode cX6_move 37 = .ok (.ifCond .eq 7, 3) := by decide +kernel
theorem dX6_move_40 : decode cX6_move 40 = .ok (.iconst 2, 1) := by decide +kernel
theorem dX6_move_41 : decode cX6_move 41 = .ok (.goto 4, 3) := by decide +kernel
theorem dX6_move_44 : decode cX6_move 44 = .ok (.iconst 0, 1) := by decide +kernel
theorem dX6_move_45 : decode cX6_move 45 = .ok (.putfield 82, 3) := by decide +kernel
theorem dX6_move_48 : decode cX6_move 48 = .ok (.aload_n 0, 1) := by decide +kernel
theorem dX6_move_49 : decode cX6_move 49 = .ok (.getfield 82, 3) := by decide +kernel
theorem dX6_move_52 : decode cX6_move 52 = .ok (.ifCond .le 4, 3) := by decide +kernel
theorem dX6_move_55 : decode cX6_move 55 = .ok (.return_, 1) := by decide +kernel
theorem dX6_move_56 : decode cX6_move 56 = .ok (.aload_n 0, 1) := by decide +kernel
theorem dX6_move_57 : decode cX6_move 57 = .ok (.bipush 12, 2) := by decide +kernel
theorem dX6_move_59 : decode cX6_move 59 = .ok (.iload_n 2, 1) := by decide +kernel
theorem dX6_move_60 : decode cX6_move 60 = .ok (.invokevirtual 99, 3) := by decide +kernel
theorem dX6_move_63 : decode cX6_move 63 = .ok (.aload_n 0, 1) := by decide +kernel
theorem dX6_move_64 : decode cX6_move 64 = .ok (.getfield 17, 3) := by decide +kernel
theorem dX6_move_67 : decode cX6_move 67 = .ok (.sipush 288, 3) := by decide +kernel
theorem dX6_move_70 : decode cX6_move 70 = .ok (.iload_n 1, 1) := by decide +kernel
theorem dX6_move_71 : decode cX6_move 71 = .ok (.iadd, 1) := by decide +kernel
theorem dX6_move_72 : decode cX6_move 72 = .ok (.iaload, 1) := by decide +kernel
theorem dX6_move_73 : decode cX6_move 73 = .ok (.iload_n 2, 1) := by decide +kernel
theorem dX6_move_74 : decode cX6_move 74 = .ok (.if_icmp .ne 7, 3) := by decide +kernel
theorem dX6_move_77 : decode cX6_move 77 = .ok (.iconst 1, 1) := by decide +kernel
theorem dX6_move_78 : decode cX6_move 78 = .ok (.goto 4, 3) := by decide +kernel
theorem dX6_move_81 : decode cX6_move 81 = .ok (.iconst 0, 1) := by decide +kernel
theorem dX6_move_82 : decode cX6_move 82 = .ok (.isub, 1) := by decide +kernel
theorem dX6_move_83 : decode cX6_move 83 = .ok (.istore 4, 2) := by decide +kernel
theorem dX6_move_85 : decode cX6_move 85 = .ok (.iload_n 3, 1) := by decide +kernel
theorem dX6_move_86 : decode cX6_move 86 = .ok (.ifCond .lt 9, 3) := by decide +kernel
theorem dX6_move_89 : decode cX6_move 89 = .ok (.iload_n 3, 1) := by decide +kernel
theorem dX6_move_90 : decode cX6_move 90 = .ok (.iload 4, 2) := by decide +kernel
theorem dX6_move_92 : decode cX6_move 92 = .ok (.if_icmp .le 9, 3) := by decide +kernel
theorem dX6_move_95 : decode cX6_move 95 = .ok (.aload_n 0, 1) := by decide +kernel
theorem dX6_move_96 : decode cX6_move 96 = .ok (.iconst 3, 1) := by decide +kernel
theorem dX6_move_97 : decode cX6_move 97 = .ok (.putfield 82, 3) := by decide +kernel
theorem dX6_move_100 : decode cX6_move 100 = .ok (.return_, 1) := by decide +kernel
theorem dX6_move_101 : decode cX6_move 101 = .ok (.aload_n 0, 1) := by decide +kernel
theorem dX6_move_102 : decode cX6_move 102 = .ok (.bipush 12, 2) := by decide +kernel
theorem dX6_move_104 : decode cX6_move 104 = .ok (.iload_n 1, 1) := by decide +kernel
theorem dX6_move_105 : decode cX6_move 105 = .ok (.invokevirtual 118, 3) := by decide +kernel
theorem dX6_move_108 : decode cX6_move 108 = .ok (.aload_n 0, 1) := by decide +kernel
theorem dX6_move_109 : decode cX6_move 109 = .ok (.bipush 12, 2) := by decide +kernel
theorem dX6_move_111 : decode cX6_move 111 = .ok (.iload_n 1, 1) := by decide +kernel
theorem dX6_move_112 : decode cX6_move 112 = .ok (.iload_n 2, 1) := by decide +kernel
theorem dX6_move_113 : decode cX6_move 113 = .ok (.iload_n 3, 1) := by decide +kernel
theorem dX6_move_114 : decode cX6_move 114 = .ok (.invokevirtual 111, 3) := by decide +kernel
theorem dX6_move_117 : decode cX6_move 117 = .ok (.return_, 1) := by decide +kernel
set_option maxRecDepth 20000 in
theorem ggX6_relabel_X6_has : GoodIn wsX6_relabel wsX6_has := goodIn_r _ [7, 8, 9, 10, 11, 12, 13, 14, 15, 16, 17, 18, 19, 20, 21, 22, 23, 24, 25, 26, 27, 28, 29, 30, 31, 32, 33, 34, 35] (by decide +kernel) (by decide +kernel)
set_option maxRecDepth 20000 in
theorem gX6_relabel_X6_has : GoodIn wsX6_relabel (wsV RX6 107 RX6 yX6_has wsX6_has) := goodIn_app (goodIn_of _ (by decide +kernel)) ggX6_relabel_X6_has
theorem dX6_relabel_0 : decode cX6_relabel 0 = .ok (.aload_n 0, 1) := by decide +kernel
theorem dX6_relabel_1 : decode cX6_relabel 1 = .ok (.aload_n 0, 1) := by decide +kernel
theorem dX6_relabel_2 : decode cX6_relabel 2 = .ok (.bipush 12, 2) := by decide +kernel
theorem dX6_relabel_4 : decode cX6_relabel 4 = .ok (.iload_n 1, 1) := by decide +kernel
theorem dX6_relabel_5 : decode cX6_relabel 5 = .ok (.invokevirtual 107, 3) := by decide +kernel
theorem dX6_relabel_8 : decode cX6_relabel 8 = .ok (.ifCond .ne 7, 3) := by decide +kernel
theorem dX6_relabel_11 : decode cX6_relabel 11 = .ok (.iconst 1, 1) := by decide +kernel
theorem dX6_relabel_12 : decode cX6_relabel 12 = .ok (.goto 17, 3) := by decide +kernel
theorem dX6_relabel_15 : decode cX6_relabel 15 = .ok (.iload_n 2, 1) := by decide +kernel
theorem dX6_relabel_16 : decode cX6_relabel 16 = .ok (.ifCond .lt 8, 3) := by decide +kernel
theorem dX6_relabel_19 : decode cX6_relabel 19 = .ok (.iload_n 2, 1) := by decide +kernel
theorem dX6_relabel_20 : decode cX6_relabel 20 = .ok (.iconst 5, 1) := by decide +kernel
theorem dX6_relabel_21 : decode cX6_relabel 21 = .ok (.if_icmp .le 7, 3) := by decide +kernel
theorem dX6_relabel_24 : decode cX6_relabel 24 = .ok (.iconst 2, 1) := by decide +kernel
theorem dX6_relabel_25 : decode cX6_relabel 25 = .ok (.goto 4, 3) := by decide +kernel
theorem dX6_relabel_28 : decode cX6_relabel 28 = .ok (.iconst 0, 1) := by decide +kernel
theorem dX6_relabel_29 : decode cX6_relabel 29 = .ok (.putfield 82, 3) := by decide +kernel
theorem dX6_relabel_32 : decode cX6_relabel 32 = .ok (.aload_n 0, 1) := by decide +kernel
theorem dX6_relabel_33 : decode cX6_relabel 33 = .ok (.getfield 82, 3) := by decide +kernel
theorem dX6_relabel_36 : decode cX6_relabel 36 = .ok (.ifCond .ne 14, 3) := by decide +kernel
theorem dX6_relabel_39 : decode cX6_relabel 39 = .ok (.aload_n 0, 1) := by decide +kernel
theorem dX6_relabel_40 : decode cX6_relabel 40 = .ok (.getfield 13, 3) := by decide +kernel
theorem dX6_relabel_43 : decode cX6_relabel 43 = .ok (.sipush 288, 3) := by decide +kernel
theorem dX6_relabel_46 : decode cX6_relabel 46 = .ok (.iload_n 1, 1) := by decide +kernel
theorem dX6_relabel_47 : decode cX6_relabel 47 = .ok (.iadd, 1) := by decide +kernel
theorem dX6_relabel_48 : decode cX6_relabel 48 = .ok (.iload_n 2, 1) := by decide +kernel
theorem dX6_relabel_49 : decode cX6_relabel 49 = .ok (.iastore, 1) := by decide +kernel
theorem dX6_relabel_50 : decode cX6_relabel 50 = .ok (.return_, 1) := by decide +kernel
set_option maxRecDepth 20000 in
theorem ggX6_commit_X6_copy : GoodIn wsX6_commit wsX6_copy := goodIn_r _ [12, 13, 14, 15, 16, 17, 18, 19, 20, 21, 22, 23, 24, 25, 26, 27, 28, 29, 30, 31, 32, 33, 34, 35, 36, 37, 38, 39, 40, 41, 42, 43] (by decide +kernel) (by decide +kernel)
set_option maxRecDepth 20000 in
theorem gX6_commit_X6_copy : GoodIn wsX6_commit (wsV RX6 78 RX6 yX6_copy wsX6_copy) := goodIn_app (goodIn_of _ (by decide +kernel)) ggX6_commit_X6_copy
theorem dX6_commit_0 : decode cX6_commit 0 = .ok (.aload_n 0, 1) := by decide +kernel
theorem dX6_commit_1 : decode cX6_commit 1 = .ok (.aload_n 0, 1) := by decide +kernel
theorem dX6_commit_2 : decode cX6_commit 2 = .ok (.getfield 27, 3) := by decide +kernel
theorem dX6_commit_5 : decode cX6_commit 5 = .ok (.bipush 12, 2) := by decide +kernel
theorem dX6_commit_7 : decode cX6_commit 7 = .ok (.if_icmp .ne 7, 3) := by decide +kernel
theorem dX6_commit_10 : decode cX6_commit 10 = .ok (.iconst 1, 1) := by decide +kernel
theorem dX6_commit_11 : decode cX6_commit 11 = .ok (.goto 4, 3) := by decide +kernel
theorem dX6_commit_14 : decode cX6_commit 14 = .ok (.iconst 0, 1) := by decide +kernel
theorem dX6_commit_15 : decode cX6_commit 15 = .ok (.putfield 82, 3) := by decide +kernel
theorem dX6_commit_18 : decode cX6_commit 18 = .ok (.aload_n 0, 1) := by decide +kernel
theorem dX6_commit_19 : decode cX6_commit 19 = .ok (.getfield 82, 3) := by decide +kernel
theorem dX6_commit_22 : decode cX6_commit 22 = .ok (.ifCond .le 5, 3) := by decide +kernel
theorem dX6_commit_25 : decode cX6_commit 25 = .ok (.iconst 0, 1) := by decide +kernel
theorem dX6_commit_26 : decode cX6_commit 26 = .ok (.ireturn, 1) := by decide +kernel
theorem dX6_commit_27 : decode cX6_commit 27 = .ok (.aload_n 0, 1) := by decide +kernel
theorem dX6_commit_28 : decode cX6_commit 28 = .ok (.bipush 12, 2) := by decide +kernel
theorem dX6_commit_30 : decode cX6_commit 30 = .ok (.aload_n 0, 1) := by decide +kernel
theorem dX6_commit_31 : decode cX6_commit 31 = .ok (.getfield 27, 3) := by decide +kernel
theorem dX6_commit_34 : decode cX6_commit 34 = .ok (.invokevirtual 78, 3) := by decide +kernel
theorem dX6_commit_37 : decode cX6_commit 37 = .ok (.aload_n 0, 1) := by decide +kernel
theorem dX6_commit_38 : decode cX6_commit 38 = .ok (.getfield 30, 3) := by decide +kernel
theorem dX6_commit_41 : decode cX6_commit 41 = .ok (.aload_n 0, 1) := by decide +kernel
theorem dX6_commit_42 : decode cX6_commit 42 = .ok (.getfield 27, 3) := by decide +kernel
theorem dX6_commit_45 : decode cX6_commit 45 = .ok (.aload_n 0, 1) := by decide +kernel
theorem dX6_commit_46 : decode cX6_commit 46 = .ok (.getfield 124, 3) := by decide +kernel
theorem dX6_commit_49 : decode cX6_commit 49 = .ok (.iastore, 1) := by decide +kernel
theorem dX6_commit_50 : decode cX6_commit 50 = .ok (.aload_n 0, 1) := by decide +kernel
theorem dX6_commit_51 : decode cX6_commit 51 = .ok (.getfield 33, 3) := by decide +kernel
theorem dX6_commit_54 : decode cX6_commit 54 = .ok (.aload_n 0, 1) := by decide +kernel
theorem dX6_commit_55 : decode cX6_commit 55 = .ok (.getfield 27, 3) := by decide +kernel
theorem dX6_commit_58 : decode cX6_commit 58 = .ok (.aload_n 0, 1) := by decide +kernel
theorem dX6_commit_59 : decode cX6_commit 59 = .ok (.getfield 39, 3) := by decide +kernel
theorem dX6_commit_62 : decode cX6_commit 62 = .ok (.iastore, 1) := by decide +kernel
theorem dX6_commit_63 : decode cX6_commit 63 = .ok (.aload_n 0, 1) := by decide +kernel
theorem dX6_commit_64 : decode cX6_commit 64 = .ok (.getfield 36, 3) := by decide +kernel
theorem dX6_commit_67 : decode cX6_commit 67 = .ok (.aload_n 0, 1) := by decide +kernel
theorem dX6_commit_68 : decode cX6_commit 68 = .ok (.getfield 27, 3) := by decide +kernel
theorem dX6_commit_71 : decode cX6_commit 71 = .ok (.iconst 1, 1) := by decide +kernel
theorem dX6_commit_72 : decode cX6_commit 72 = .ok (.aload_n 0, 1) := by decide +kernel
theorem dX6_commit_73 : decode cX6_commit 73 = .ok (.getfield 27, 3) := by decide +kernel
theorem dX6_commit_76 : decode cX6_commit 76 = .ok (.ishl, 1) := by decide +kernel
theorem dX6_commit_77 : decode cX6_commit 77 = .ok (.aload_n 0, 1) := by decide +kernel
theorem dX6_commit_78 : decode cX6_commit 78 = .ok (.getfield 36, 3) := by decide +kernel
theorem dX6_commit_81 : decode cX6_commit 81 = .ok (.aload_n 0, 1) := by decide +kernel
theorem dX6_commit_82 : decode cX6_commit 82 = .ok (.getfield 124, 3) := by decide +kernel
theorem dX6_commit_85 : decode cX6_commit 85 = .ok (.iaload, 1) := by decide +kernel
theorem dX6_commit_86 : decode cX6_commit 86 = .ok (.ior, 1) := by decide +kernel
theorem dX6_commit_87 : decode cX6_commit 87 = .ok (.aload_n 0, 1) := by decide +kernel
theorem dX6_commit_88 : decode cX6_commit 88 = .ok (.getfield 39, 3) := by decide +kernel
theorem dX6_commit_91 : decode cX6_commit 91 = .ok (.ifCond .ge 7, 3) := by decide +kernel
theorem dX6_commit_94 : decode cX6_commit 94 = .ok (.iconst 0, 1) := by decide +kernel
theorem dX6_commit_95 : decode cX6_commit 95 = .ok (.goto 12, 3) := by decide +kernel
theorem dX6_commit_98 : decode cX6_commit 98 = .ok (.aload_n 0, 1) := by decide +kernel
theorem dX6_commit_99 : decode cX6_commit 99 = .ok (.getfield 36, 3) := by decide +kernel
theorem dX6_commit_102 : decode cX6_commit 102 = .ok (.aload_n 0, 1) := by decide +kernel
theorem dX6_commit_103 : decode cX6_commit 103 = .ok (.getfield 39, 3) := by decide +kernel
theorem dX6_commit_106 : decode cX6_commit 106 = .ok (.iaload, 1) := by decide +kernel
theorem dX6_commit_107 : decode cX6_commit 107 = .ok (.ior, 1) := by decide +kernel
theorem dX6_commit_108 : decode cX6_commit 108 = .ok (.iastore, 1) := by decide +kernel
theorem dX6_commit_109 : decode cX6_commit 109 = .ok (.aload_n 0, 1) := by decide +kernel
theorem dX6_commit_110 : decode cX6_commit 110 = .ok (.aload_n 0, 1) := by decide +kernel
theorem dX6_commit_111 : decode cX6_commit 111 = .ok (.getfield 27, 3) := by decide +kernel
theorem dX6_commit_114 : decode cX6_commit 114 = .ok (.putfield 124, 3) := by decide +kernel
theorem dX6_commit_117 : decode cX6_commit 117 = .ok (.aload_n 0, 1) := by decide +kernel
theorem dX6_commit_118 : decode cX6_commit 118 = .ok (.iconst (-1), 1) := by decide +kernel
theorem dX6_commit_119 : decode cX6_commit 119 = .ok (.putfield 39, 3) := by decide +kernel
theorem dX6_commit_122 : decode cX6_commit 122 = .ok (.aload_n 0, 1) := by decide +kernel
theorem dX6_commit_123 : decode cX6_commit 123 = .ok (.dup, 1) := by decide +kernel
theorem dX6_commit_124 : decode cX6_commit 124 = .ok (.getfield 27, 3) := by decide +kernel
theorem dX6_commit_127 : decode cX6_commit 127 = .ok (.iconst 1, 1) := by decide +kernel
theorem dX6_commit_128 : decode cX6_commit 128 = .ok (.iadd, 1) := by decide +kernel
theorem dX6_commit_129 : decode cX6_commit 129 = .ok (.putfield 27, 3) := by decide +kernel
theorem dX6_commit_132 : decode cX6_commit 132 = .ok (.aload_n 0, 1) := by decide +kernel
theorem dX6_commit_133 : decode cX6_commit 133 = .ok (.getfield 124, 3) := by decide +kernel
theorem dX6_commit_136 : decode cX6_commit 136 = .ok (.ireturn, 1) := by decide +kernel
theorem dX6_isCommit_0 : decode cX6_isCommit 0 = .ok (.iload_n 1, 1) := by decide +kernel
theorem dX6_isCommit_1 : decode cX6_isCommit 1 = .ok (.ifCond .lt 15, 3) := by decide +kernel
theorem dX6_isCommit_4 : decode cX6_isCommit 4 = .ok (.iload_n 1, 1) := by decide +kernel
theorem dX6_isCommit_5 : decode cX6_isCommit 5 = .ok (.aload_n 0, 1) := by decide +kernel
theorem dX6_isCommit_6 : decode cX6_isCommit 6 = .ok (.getfield 27, 3) := by decide +kernel
theorem dX6_isCommit_9 : decode cX6_isCommit 9 = .ok (.if_icmp .ge 7, 3) := by decide +kernel
theorem dX6_isCommit_12 : decode cX6_isCommit 12 = .ok (.iconst 1, 1) := by decide +kernel
theorem dX6_isCommit_13 : decode cX6_isCommit 13 = .ok (.goto 4, 3) := by decide +kernel
theorem dX6_isCommit_16 : decode cX6_isCommit 16 = .ok (.iconst 0, 1) := by decide +kernel
theorem dX6_isCommit_17 : decode cX6_isCommit 17 = .ok (.ireturn, 1) := by decide +kernel
set_option maxRecDepth 20000 in
theorem ggX6_checkout_X6_isCommit : GoodIn wsX6_checkout wsX6_isCommit := goodIn_r _ [8, 9, 18, 19, 20, 21, 22, 23, 24, 25, 26, 27, 28, 29, 30, 31, 32, 33, 34, 35, 36, 37, 38, 39, 40, 41, 42, 43, 44] (by decide +kernel) (by decide +kernel)
set_option maxRecDepth 20000 in
theorem gX6_checkout_X6_isCommit : GoodIn wsX6_checkout (wsV RX6 127 RX6 yX6_isCommit wsX6_isCommit) := goodIn_app (goodIn_of _ (by decide +kernel)) ggX6_checkout_X6_isCommit
set_option maxRecDepth 20000 in
theorem ggX6_checkout_X6_copy : GoodIn wsX6_checkout wsX6_copy := goodIn_r _ [13, 14, 15, 16, 17, 18, 19, 20, 21, 22, 23, 24, 25, 26, 27, 28, 29, 30, 31, 32, 33, 34, 35, 36, 37, 38, 39, 40, 41, 42, 43, 44] (by decide +kernel) (by decide +kernel)
set_option maxRecDepth 20000 in
theorem gX6_checkout_X6_copy : GoodIn wsX6_checkout (wsV RX6 78 RX6 yX6_copy wsX6_copy) := goodIn_app (goodIn_of _ (by decide +kernel)) ggX6_checkout_X6_copy
theorem dX6_checkout_0 : decode cX6_checkout 0 = .ok (.aload_n 0, 1) := by decide +kernel
theorem dX6_checkout_1 : decode cX6_checkout 1 = .ok (.aload_n 0, 1) := by decide +kernel
theorem dX6_checkout_2 : decode cX6_checkout 2 = .ok (.iload_n 1, 1) := by decide +kernel
theorem dX6_checkout_3 : decode cX6_checkout 3 = .ok (.invokevirtual 127, 3) := by decide +kernel
theorem dX6_checkout_6 : decode cX6_checkout 6 = .ok (.ifCond .eq 7, 3) := by decide +kernel
theorem dX6_checkout_9 : decode cX6_checkout 9 = .ok (.iconst 0, 1) := by decide +kernel
theorem dX6_checkout_10 : decode cX6_checkout 10 = .ok (.goto 4, 3) := by decide +kernel
theorem dX6_checkout_13 : decode cX6_checkout 13 = .ok (.iconst 1, 1) := by decide +kernel
theorem dX6_checkout_14 : decode cX6_checkout 14 = .ok (.putfield 82, 3) := by decide +kernel
theorem dX6_checkout_17 : decode cX6_checkout 17 = .ok (.aload_n 0, 1) := by decide +kernel
theorem dX6_checkout_18 : decode cX6_checkout 18 = .ok (.getfield 82, 3) := by decide +kernel
theorem dX6_checkout_21 : decode cX6_checkout 21 = .ok (.ifCond .ne 20, 3) := by decide +kernel
theorem dX6_checkout_24 : decode cX6_checkout 24 = .ok (.aload_n 0, 1) := by decide +kernel
theorem dX6_checkout_25 : decode cX6_checkout 25 = .ok (.iload_n 1, 1) := by decide +kernel
theorem dX6_checkout_26 : decode cX6_checkout 26 = .ok (.bipush 12, 2) := by decide +kernel
theorem dX6_checkout_28 : decode cX6_checkout 28 = .ok (.invokevirtual 78, 3) := by decide +kernel
theorem dX6_checkout_31 : decode cX6_checkout 31 = .ok (.aload_n 0, 1) := by decide +kernel
theorem dX6_checkout_32 : decode cX6_checkout 32 = .ok (.iload_n 1, 1) := by decide +kernel
theorem dX6_checkout_33 : decode cX6_checkout 33 = .ok (.putfield 124, 3) := by decide +kernel
theorem dX6_checkout_36 : decode cX6_checkout 36 = .ok (.aload_n 0, 1) := by decide +kernel
theorem dX6_checkout_37 : decode cX6_checkout 37 = .ok (.iconst (-1), 1) := by decide +kernel
theorem dX6_checkout_38 : decode cX6_checkout 38 = .ok (.putfield 39, 3) := by decide +kernel
theorem dX6_checkout_41 : decode cX6_checkout 41 = .ok (.return_, 1) := by decide +kernel
theorem dX6_baseOf_0 : decode cX6_baseOf 0 = .ok (.aload_n 0, 1) := by decide +kernel
theorem dX6_baseOf_1 : decode cX6_baseOf 1 = .ok (.getfield 36, 3) := by decide +kernel
theorem dX6_baseOf_4 : decode cX6_baseOf 4 = .ok (.iload_n 1, 1) := by decide +kernel
theorem dX6_baseOf_5 : decode cX6_baseOf 5 = .ok (.iaload, 1) := by decide +kernel
theorem dX6_baseOf_6 : decode cX6_baseOf 6 = .ok (.aload_n 0, 1) := by decide +kernel
theorem dX6_baseOf_7 : decode cX6_baseOf 7 = .ok (.getfield 36, 3) := by decide +kernel
theorem dX6_baseOf_10 : decode cX6_baseOf 10 = .ok (.iload_n 2, 1) := by decide +kernel
theorem dX6_baseOf_11 : decode cX6_baseOf 11 = .ok (.iaload, 1) := by decide +kernel
theorem dX6_baseOf_12 : decode cX6_baseOf 12 = .ok (.iand, 1) := by decide +kernel
theorem dX6_baseOf_13 : decode cX6_baseOf 13 = .ok (.istore_n 3, 1) := by decide +kernel
theorem dX6_baseOf_14 : decode cX6_baseOf 14 = .ok (.iconst 0, 1) := by decide +kernel
theorem dX6_baseOf_15 : decode cX6_baseOf 15 = .ok (.istore 4, 2) := by decide +kernel
theorem dX6_baseOf_17 : decode cX6_baseOf 17 = .ok (.iload 4, 2) := by decide +kernel
theorem dX6_baseOf_19 : decode cX6_baseOf 19 = .ok (.aload_n 0, 1) := by decide +kernel
