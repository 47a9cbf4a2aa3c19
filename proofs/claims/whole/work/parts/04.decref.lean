theorem dX8_init_0 : decode cX8_init 0 = .ok (.aload_n 0, 1) := by decide +kernel
theorem dX8_init_1 : decode cX8_init 1 = .ok (.invokespecial 1, 3) := by decide +kernel
theorem dX8_init_4 : decode cX8_init 4 = .ok (.aload_n 0, 1) := by decide +kernel
theorem dX8_init_5 : decode cX8_init 5 = .ok (.iconst (-1), 1) := by decide +kernel
theorem dX8_init_6 : decode cX8_init 6 = .ok (.putfield 9, 3) := by decide +kernel
theorem dX8_init_9 : decode cX8_init 9 = .ok (.aload_n 0, 1) := by decide +kernel
theorem dX8_init_10 : decode cX8_init 10 = .ok (.sipush 3200, 3) := by decide +kernel
theorem dX8_init_13 : decode cX8_init 13 = .ok (.newarray .int, 2) := by decide +kernel
theorem dX8_init_15 : decode cX8_init 15 = .ok (.putfield 13, 3) := by decide +kernel
theorem dX8_init_18 : decode cX8_init 18 = .ok (.aload_n 0, 1) := by decide +kernel
theorem dX8_init_19 : decode cX8_init 19 = .ok (.sipush 400, 3) := by decide +kernel
theorem dX8_init_22 : decode cX8_init 22 = .ok (.newarray .int, 2) := by decide +kernel
theorem dX8_init_24 : decode cX8_init 24 = .ok (.putfield 17, 3) := by decide +kernel
theorem dX8_init_27 : decode cX8_init 27 = .ok (.aload_n 0, 1) := by decide +kernel
theorem dX8_init_28 : decode cX8_init 28 = .ok (.bipush 12, 2) := by decide +kernel
theorem dX8_init_30 : decode cX8_init 30 = .ok (.newarray .int, 2) := by decide +kernel
theorem dX8_init_32 : decode cX8_init 32 = .ok (.putfield 20, 3) := by decide +kernel
theorem dX8_init_35 : decode cX8_init 35 = .ok (.aload_n 0, 1) := by decide +kernel
theorem dX8_init_36 : decode cX8_init 36 = .ok (.bipush 12, 2) := by decide +kernel
theorem dX8_init_38 : decode cX8_init 38 = .ok (.newarray .int, 2) := by decide +kernel
theorem dX8_init_40 : decode cX8_init 40 = .ok (.putfield 23, 3) := by decide +kernel
theorem dX8_init_43 : decode cX8_init 43 = .ok (.aload_n 0, 1) := by decide +kernel
theorem dX8_init_44 : decode cX8_init 44 = .ok (.bipush 12, 2) := by decide +kernel
theorem dX8_init_46 : decode cX8_init 46 = .ok (.newarray .int, 2) := by decide +kernel
theorem dX8_init_48 : decode cX8_init 48 = .ok (.putfield 26, 3) := by decide +kernel
theorem dX8_init_51 : decode cX8_init 51 = .ok (.aload_n 0, 1) := by decide +kernel
theorem dX8_init_52 : decode cX8_init 52 = .ok (.bipush 12, 2) := by decide +kernel
theorem dX8_init_54 : decode cX8_init 54 = .ok (.newarray .int, 2) := by decide +kernel
theorem dX8_init_56 : decode cX8_init 56 = .ok (.putfield 29, 3) := by decide +kernel
theorem dX8_init_59 : decode cX8_init 59 = .ok (.aload_n 0, 1) := by decide +kernel
theorem dX8_init_60 : decode cX8_init 60 = .ok (.bipush 12, 2) := by decide +kernel
theorem dX8_init_62 : decode cX8_init 62 = .ok (.newarray .int, 2) := by decide +kernel
theorem dX8_init_64 : decode cX8_init 64 = .ok (.putfield 32, 3) := by decide +kernel
theorem dX8_init_67 : decode cX8_init 67 = .ok (.aload_n 0, 1) := by decide +kernel
theorem dX8_init_68 : decode cX8_init 68 = .ok (.bipush 12, 2) := by decide +kernel
theorem dX8_init_70 : decode cX8_init 70 = .ok (.newarray .int, 2) := by decide +kernel
theorem dX8_init_72 : decode cX8_init 72 = .ok (.putfield 35, 3) := by decide +kernel
theorem dX8_init_75 : decode cX8_init 75 = .ok (.aload_n 0, 1) := by decide +kernel
theorem dX8_init_76 : decode cX8_init 76 = .ok (.bipush 12, 2) := by decide +kernel
theorem dX8_init_78 : decode cX8_init 78 = .ok (.newarray .int, 2) := by decide +kernel
theorem dX8_init_80 : decode cX8_init 80 = .ok (.putfield 38, 3) := by decide +kernel
theorem dX8_init_83 : decode cX8_init 83 = .ok (.aload_n 0, 1) := by decide +kernel
theorem dX8_init_84 : decode cX8_init 84 = .ok (.bipush 12, 2) := by decide +kernel
theorem dX8_init_86 : decode cX8_init 86 = .ok (.newarray .int, 2) := by decide +kernel
theorem dX8_init_88 : decode cX8_init 88 = .ok (.putfield 41, 3) := by decide +kernel
theorem dX8_init_91 : decode cX8_init 91 = .ok (.aload_n 0, 1) := by decide +kernel
theorem dX8_init_92 : decode cX8_init 92 = .ok (.bipush 12, 2) := by decide +kernel
theorem dX8_init_94 : decode cX8_init 94 = .ok (.newarray .int, 2) := by decide +kernel
theorem dX8_init_96 : decode cX8_init 96 = .ok (.putfield 44, 3) := by decide +kernel
theorem dX8_init_99 : decode cX8_init 99 = .ok (.aload_n 0, 1) := by decide +kernel
theorem dX8_init_100 : decode cX8_init 100 = .ok (.sipush 720, 3) := by decide +kernel
theorem dX8_init_103 : decode cX8_init 103 = .ok (.newarray .int, 2) := by decide +kernel
theorem dX8_init_105 : decode cX8_init 105 = .ok (.putfield 47, 3) := by decide +kernel
theorem dX8_init_108 : decode cX8_init 108 = .ok (.aload_n 0, 1) := by decide +kernel
theorem dX8_init_109 : decode cX8_init 109 = .ok (.sipush 720, 3) := by decide +kernel
theorem dX8_init_112 : decode cX8_init 112 = .ok (.newarray .boolean, 2) := by decide +kernel
theorem dX8_init_114 : decode cX8_init 114 = .ok (.putfield 50, 3) := by decide +kernel
theorem dX8_init_117 : decode cX8_init 117 = .ok (.aload_n 0, 1) := by decide +kernel
theorem dX8_init_118 : decode cX8_init 118 = .ok (.sipush 720, 3) := by decide +kernel
theorem dX8_init_121 : decode cX8_init 121 = .ok (.newarray .int, 2) := by decide +kernel
theorem dX8_init_123 : decode cX8_init 123 = .ok (.putfield 54, 3) := by decide +kernel
theorem dX8_init_126 : decode cX8_init 126 = .ok (.aload_n 0, 1) := by decide +kernel
theorem dX8_init_127 : decode cX8_init 127 = .ok (.sipush 21600, 3) := by decide +kernel
theorem dX8_init_130 : decode cX8_init 130 = .ok (.newarray .int, 2) := by decide +kernel
theorem dX8_init_132 : decode cX8_init 132 = .ok (.putfield 57, 3) := by decide +kernel
theorem dX8_init_135 : decode cX8_init 135 = .ok (.aload_n 0, 1) := by decide +kernel
theorem dX8_init_136 : decode cX8_init 136 = .ok (.bipush 12, 2) := by decide +kernel
theorem dX8_init_138 : decode cX8_init 138 = .ok (.newarray .boolean, 2) := by decide +kernel
theorem dX8_init_140 : decode cX8_init 140 = .ok (.putfield 60, 3) := by decide +kernel
theorem dX8_init_143 : decode cX8_init 143 = .ok (.aload_n 0, 1) := by decide +kernel
theorem dX8_init_144 : decode cX8_init 144 = .ok (.bipush 12, 2) := by decide +kernel
theorem dX8_init_146 : decode cX8_init 146 = .ok (.newarray .int, 2) := by decide +kernel
theorem dX8_init_148 : decode cX8_init 148 = .ok (.putfield 63, 3) := by decide +kernel
theorem dX8_init_151 : decode cX8_init 151 = .ok (.aload_n 0, 1) := by decide +kernel
theorem dX8_init_152 : decode cX8_init 152 = .ok (.bipush 12, 2) := by decide +kernel
theorem dX8_init_154 : decode cX8_init 154 = .ok (.newarray .int, 2) := by decide +kernel
theorem dX8_init_156 : decode cX8_init 156 = .ok (.putfield 66, 3) := by decide +kernel
theorem dX8_init_159 : decode cX8_init 159 = .ok (.aload_n 0, 1) := by decide +kernel
theorem dX8_init_160 : decode cX8_init 160 = .ok (.ldc 69, 2) := by decide +kernel
theorem dX8_init_162 : decode cX8_init 162 = .ok (.newarray .boolean, 2) := by decide +kernel
theorem dX8_init_164 : decode cX8_init 164 = .ok (.putfield 70, 3) := by decide +kernel
theorem dX8_init_167 : decode cX8_init 167 = .ok (.aload_n 0, 1) := by decide +kernel
theorem dX8_init_168 : decode cX8_init 168 = .ok (.ldc 69, 2) := by decide +kernel
theorem dX8_init_170 : decode cX8_init 170 = .ok (.newarray .int, 2) := by decide +kernel
theorem dX8_init_172 : decode cX8_init 172 = .ok (.putfield 73, 3) := by decide +kernel
theorem dX8_init_175 : decode cX8_init 175 = .ok (.aload_n 0, 1) := by decide +kernel
theorem dX8_init_176 : decode cX8_init 176 = .ok (.ldc 69, 2) := by decide +kernel
theorem dX8_init_178 : decode cX8_init 178 = .ok (.newarray .int, 2) := by decide +kernel
theorem dX8_init_180 : decode cX8_init 180 = .ok (.putfield 76, 3) := by decide +kernel
theorem dX8_init_183 : decode cX8_init 183 = .ok (.aload_n 0, 1) := by decide +kernel
theorem dX8_init_184 : decode cX8_init 184 = .ok (.bipush 12, 2) := by decide +kernel
theorem dX8_init_186 : decode cX8_init 186 = .ok (.newarray .int, 2) := by decide +kernel
theorem dX8_init_188 : decode cX8_init 188 = .ok (.putfield 79, 3) := by decide +kernel
theorem dX8_init_191 : decode cX8_init 191 = .ok (.aload_n 0, 1) := by decide +kernel
theorem dX8_init_192 : decode cX8_init 192 = .ok (.bipush 12, 2) := by decide +kernel
theorem dX8_init_194 : decode cX8_init 194 = .ok (.newarray .int, 2) := by decide +kernel
theorem dX8_init_196 : decode cX8_init 196 = .ok (.putfield 82, 3) := by decide +kernel
theorem dX8_init_199 : decode cX8_init 199 = .ok (.aload_n 0, 1) := by decide +kernel
theorem dX8_init_200 : decode cX8_init 200 = .ok (.bipush 12, 2) := by decide +kernel
theorem dX8_init_202 : decode cX8_init 202 = .ok (.newarray .int, 2) := by decide +kernel
theorem dX8_init_204 : decode cX8_init 204 = .ok (.putfield 85, 3) := by decide +kernel
theorem dX8_init_207 : decode cX8_init 207 = .ok (.aload_n 0, 1) := by decide +kernel
theorem dX8_init_208 : decode cX8_init 208 = .ok (.bipush 12, 2) := by decide +kernel
theorem dX8_init_210 : decode cX8_init 210 = .ok (.newarray .int, 2) := by decide +kernel
theorem dX8_init_212 : decode cX8_init 212 = .ok (.putfield 88, 3) := by decide +kernel
theorem dX8_init_215 : decode cX8_init 215 = .ok (.aload_n 0, 1) := by decide +kernel
theorem dX8_init_216 : decode cX8_init 216 = .ok (.bipush 12, 2) := by decide +kernel
theorem dX8_init_218 : decode cX8_init 218 = .ok (.newarray .int, 2) := by decide +kernel
theorem dX8_init_220 : decode cX8_init 220 = .ok (.putfield 91, 3) := by decide +kernel
theorem dX8_init_223 : decode cX8_init 223 = .ok (.return_, 1) := by decide +kernel
theorem dX8_person_0 : decode cX8_person 0 = .ok (.aload_n 0, 1) := by decide +kernel
theorem dX8_person_1 : decode cX8_person 1 = .ok (.getfield 94, 3) := by decide +kernel
theorem dX8_person_4 : decode cX8_person 4 = .ok (.bipush 6, 2) := by decide +kernel
theorem dX8_person_6 : decode cX8_person 6 = .ok (.if_icmp .ne 5, 3) := by decide +kernel
theorem dX8_person_9 : decode cX8_person 9 = .ok (.iconst (-1), 1) := by decide +kernel
theorem dX8_person_10 : decode cX8_person 10 = .ok (.ireturn, 1) := by decide +kernel
theorem dX8_person_11 : decode cX8_person 11 = .ok (.aload_n 0, 1) := by decide +kernel
theorem dX8_person_12 : decode cX8_person 12 = .ok (.dup, 1) := by decide +kernel
theorem dX8_person_13 : decode cX8_person 13 = .ok (.getfield 94, 3) := by decide +kernel
theorem dX8_person_16 : decode cX8_person 16 = .ok (.iconst 1, 1) := by decide +kernel
theorem dX8_person_17 : decode cX8_person 17 = .ok (.iadd, 1) := by decide +kernel
theorem dX8_person_18 : decode cX8_person 18 = .ok (.putfield 94, 3) := by decide +kernel
theorem dX8_person_21 : decode cX8_person 21 = .ok (.aload_n 0, 1) := by decide +kernel
theorem dX8_person_22 : decode cX8_person 22 = .ok (.getfield 94, 3) := by decide +kernel
theorem dX8_person_25 : decode cX8_person 25 = .ok (.iconst 1, 1) := by decide +kernel
theorem dX8_person_26 : decode cX8_person 26 = .ok (.isub, 1) := by decide +kernel
theorem dX8_person_27 : decode cX8_person 27 = .ok (.ireturn, 1) := by decide +kernel
theorem dX8_today_0 : decode cX8_today 0 = .ok (.iload_n 1, 1) := by decide +kernel
theorem dX8_today_1 : decode cX8_today 1 = .ok (.aload_n 0, 1) := by decide +kernel
theorem dX8_today_2 : decode cX8_today 2 = .ok (.getfield 97, 3) := by decide +kernel
theorem dX8_today_5 : decode cX8_today 5 = .ok (.if_icmp .lt 10, 3) := by decide +kernel
theorem dX8_today_8 : decode cX8_today 8 = .ok (.iload_n 1, 1) := by decide +kernel
theorem dX8_today_9 : decode cX8_today 9 = .ok (.sipush 3600, 3) := by decide +kernel
theorem dX8_today_12 : decode cX8_today 12 = .ok (.if_icmp .lt 5, 3) := by decide +kernel
theorem dX8_today_15 : decode cX8_today 15 = .ok (.iconst 0, 1) := by decide +kernel
theorem dX8_today_16 : decode cX8_today 16 = .ok (.ireturn, 1) := by decide +kernel
theorem dX8_today_17 : decode cX8_today 17 = .ok (.aload_n 0, 1) := by decide +kernel
theorem dX8_today_18 : decode cX8_today 18 = .ok (.iload_n 1, 1) := by decide +kernel
theorem dX8_today_19 : decode cX8_today 19 = .ok (.putfield 97, 3) := by decide +kernel
theorem dX8_today_22 : decode cX8_today 22 = .ok (.iconst 1, 1) := by decide +kernel
theorem dX8_today_23 : decode cX8_today 23 = .ok (.ireturn, 1) := by decide +kernel
theorem dX8_as_0 : decode cX8_as 0 = .ok (.iload_n 1, 1) := by decide +kernel
theorem dX8_as_1 : decode cX8_as 1 = .ok (.iconst (-1), 1) := by decide +kernel
theorem dX8_as_2 : decode cX8_as 2 = .ok (.if_icmp .eq 17, 3) := by decide +kernel
theorem dX8_as_5 : decode cX8_as 5 = .ok (.iload_n 1, 1) := by decide +kernel
theorem dX8_as_6 : decode cX8_as 6 = .ok (.ifCond .lt 11, 3) := by decide +kernel
theorem dX8_as_9 : decode cX8_as 9 = .ok (.iload_n 1, 1) := by decide +kernel
theorem dX8_as_10 : decode cX8_as 10 = .ok (.aload_n 0, 1) := by decide +kernel
theorem dX8_as_11 : decode cX8_as 11 = .ok (.getfield 97, 3) := by decide +kernel
theorem dX8_as_14 : decode cX8_as 14 = .ok (.if_icmp .le 5, 3) := by decide +kernel
theorem dX8_as_17 : decode cX8_as 17 = .ok (.iconst (-1), 1) := by decide +kernel
theorem dX8_as_18 : decode cX8_as 18 = .ok (.ireturn, 1) := by decide +kernel
theorem dX8_as_19 : decode cX8_as 19 = .ok (.aload_n 0, 1) := by decide +kernel
theorem dX8_as_20 : decode cX8_as 20 = .ok (.iload_n 1, 1) := by decide +kernel
theorem dX8_as_21 : decode cX8_as 21 = .ok (.putfield 9, 3) := by decide +kernel
theorem dX8_as_24 : decode cX8_as 24 = .ok (.iconst 1, 1) := by decide +kernel
theorem dX8_as_25 : decode cX8_as 25 = .ok (.ireturn, 1) := by decide +kernel
theorem dX8_known_0 : decode cX8_known 0 = .ok (.aload_n 0, 1) := by decide +kernel
theorem dX8_known_1 : decode cX8_known 1 = .ok (.getfield 9, 3) := by decide +kernel
theorem dX8_known_4 : decode cX8_known 4 = .ok (.iconst (-1), 1) := by decide +kernel
theorem dX8_known_5 : decode cX8_known 5 = .ok (.if_icmp .ne 10, 3) := by decide +kernel
theorem dX8_known_8 : decode cX8_known 8 = .ok (.aload_n 0, 1) := by decide +kernel
theorem dX8_known_9 : decode cX8_known 9 = .ok (.getfield 97, 3) := by decide +kernel
theorem dX8_known_12 : decode cX8_known 12 = .ok (.goto 7, 3) := by decide +kernel
theorem dX8_known_15 : decode cX8_known 15 = .ok (.aload_n 0, 1) := by decide +kernel
theorem dX8_known_16 : decode cX8_known 16 = .ok (.getfield 9, 3) := by decide +kernel
theorem dX8_known_19 : decode cX8_known 19 = .ok (.ireturn, 1) := by decide +kernel
theorem dX8_begin_0 : decode cX8_begin 0 = .ok (.iconst 0, 1) := by decide +kernel
theorem dX8_begin_1 : decode cX8_begin 1 = .ok (.istore_n 1, 1) := by decide +kernel
theorem dX8_begin_2 : decode cX8_begin 2 = .ok (.iload_n 1, 1) := by decide +kernel
theorem dX8_begin_3 : decode cX8_begin 3 = .ok (.bipush 12, 2) := by decide +kernel
theorem dX8_begin_5 : decode cX8_begin 5 = .ok (.if_icmp .ge 51, 3) := by decide +kernel
theorem dX8_begin_8 : decode cX8_begin 8 = .ok (.aload_n 0, 1) := by decide +kernel
theorem dX8_begin_9 : decode cX8_begin 9 = .ok (.getfield 20, 3) := by decide +kernel
theorem dX8_begin_12 : decode cX8_begin 12 = .ok (.iload_n 1, 1) := by decide +kernel
theorem dX8_begin_13 : decode cX8_begin 13 = .ok (.iconst 0, 1) := by decide +kernel
theorem dX8_begin_14 : decode cX8_begin 14 = .ok (.iastore, 1) := by decide +kernel
theorem dX8_begin_15 : decode cX8_begin 15 = .ok (.aload_n 0, 1) := by decide +kernel
theorem dX8_begin_16 : decode cX8_begin 16 = .ok (.getfield 32, 3) := by decide +kernel
theorem dX8_begin_19 : decode cX8_begin 19 = .ok (.iload_n 1, 1) := by decide +kernel
theorem dX8_begin_20 : decode cX8_begin 20 = .ok (.iconst 0, 1) := by decide +kernel
theorem dX8_begin_21 : decode cX8_begin 21 = .ok (.iastore, 1) := by decide +kernel
theorem dX8_begin_22 : decode cX8_begin 22 = .ok (.aload_n 0, 1) := by decide +kernel
theorem dX8_begin_23 : decode cX8_begin 23 = .ok (.getfield 35, 3) := by decide +kernel
theorem dX8_begin_26 : decode cX8_begin 26 = .ok (.iload_n 1, 1) := by decide +kernel
theorem dX8_begin_27 : decode cX8_begin 27 = .ok (.iconst 0, 1) := by decide +kernel
theorem dX8_begin_28 : decode cX8_begin 28 = .ok (.iastore, 1) := by decide +kernel
theorem dX8_begin_29 : decode cX8_begin 29 = .ok (.aload_n 0, 1) := by decide +kernel
theorem dX8_begin_30 : decode cX8_begin 30 = .ok (.getfield 38, 3) := by decide +kernel
theorem dX8_begin_33 : decode cX8_begin 33 = .ok (.iload_n 1, 1) := by decide +kernel
theorem dX8_begin_34 : decode cX8_begin 34 = .ok (.iconst 0, 1) := by decide +kernel
theorem dX8_begin_35 : decode cX8_begin 35 = .ok (.iastore, 1) := by decide +kernel
theorem dX8_begin_36 : decode cX8_begin 36 = .ok (.aload_n 0, 1) := by decide +kernel
theorem dX8_begin_37 : decode cX8_begin 37 = .ok (.getfield 41, 3) := by decide +kernel
theorem dX8_begin_40 : decode cX8_begin 40 = .ok (.iload_n 1, 1) := by decide +kernel
theorem dX8_begin_41 : decode cX8_begin 41 = .ok (.iconst 0, 1) := by decide +kernel
theorem dX8_begin_42 : decode cX8_begin 42 = .ok (.iastore, 1) := by decide +kernel
theorem dX8_begin_43 : decode cX8_begin 43 = .ok (.aload_n 0, 1) := by decide +kernel
theorem dX8_begin_44 : decode cX8_begin 44 = .ok (.getfield 44, 3) := by decide +kernel
theorem dX8_begin_47 : decode cX8_begin 47 = .ok (.iload_n 1, 1) := by decide +kernel
theorem dX8_begin_48 : decode cX8_begin 48 = .ok (.iconst (-1), 1) := by decide +kernel
theorem dX8_begin_49 : decode cX8_begin 49 = .ok (.iastore, 1) := by decide +kernel
theorem dX8_begin_50 : decode cX8_begin 50 = .ok (.iinc 1 1, 3) := by decide +kernel
theorem dX8_begin_53 : decode cX8_begin 53 = .ok (.goto (-51), 3) := by decide +kernel
theorem dX8_begin_56 : decode cX8_begin 56 = .ok (.iconst 0, 1) := by decide +kernel
theorem dX8_begin_57 : decode cX8_begin 57 = .ok (.istore_n 1, 1) := by decide +kernel
theorem dX8_begin_58 : decode cX8_begin 58 = .ok (.iload_n 1, 1) := by decide +kernel
theorem dX8_begin_59 : decode cX8_begin 59 = .ok (.sipush 720, 3) := by decide +kernel
theorem dX8_begin_62 : decode cX8_begin 62 = .ok (.if_icmp .ge 16, 3) := by decide +kernel
theorem dX8_begin_65 : decode cX8_begin 65 = .ok (.aload_n 0, 1) := by decide +kernel
theorem dX8_begin_66 : decode cX8_begin 66 = .ok (.getfield 47, 3) := by decide +kernel
theorem dX8_begin_69 : decode cX8_begin 69 = .ok (.iload_n 1, 1) := by decide +kernel
theorem dX8_begin_70 : decode cX8_begin 70 = .ok (.iconst 0, 1) := by decide +kernel
theorem dX8_begin_71 : decode cX8_begin 71 = .ok (.iastore, 1) := by decide +kernel
theorem dX8_begin_72 : decode cX8_begin 72 = .ok (.iinc 1 1, 3) := by decide +kernel
theorem dX8_begin_75 : decode cX8_begin 75 = .ok (.goto (-17), 3) := by decide +kernel
theorem dX8_begin_78 : decode cX8_begin 78 = .ok (.aload_n 0, 1) := by decide +kernel
theorem dX8_begin_79 : decode cX8_begin 79 = .ok (.iconst (-1), 1) := by decide +kernel
theorem dX8_begin_80 : decode cX8_begin 80 = .ok (.putfield 100, 3) := by decide +kernel
theorem dX8_begin_83 : decode cX8_begin 83 = .ok (.return_, 1) := by decide +kernel
theorem dX8_tellAgain_0 : decode cX8_tellAgain 0 = .ok (.aload_n 0, 1) := by decide +kernel
theorem dX8_tellAgain_1 : decode cX8_tellAgain 1 = .ok (.invokevirtual 103, 3) := by decide +kernel
theorem dX8_tellAgain_4 : decode cX8_tellAgain 4 = .ok (.iconst 0, 1) := by decide +kernel
theorem dX8_tellAgain_5 : decode cX8_tellAgain 5 = .ok (.istore_n 3, 1) := by decide +kernel
theorem dX8_tellAgain_6 : decode cX8_tellAgain 6 = .ok (.iload_n 3, 1) := by decide +kernel
theorem dX8_tellAgain_7 : decode cX8_tellAgain 7 = .ok (.aload_n 0, 1) := by decide +kernel
theorem dX8_tellAgain_8 : decode cX8_tellAgain 8 = .ok (.getfield 106, 3) := by decide +kernel
theorem dX8_tellAgain_11 : decode cX8_tellAgain 11 = .ok (.if_icmp .ge 28, 3) := by decide +kernel
theorem dX8_tellAgain_14 : decode cX8_tellAgain 14 = .ok (.aload_n 0, 1) := by decide +kernel
theorem dX8_tellAgain_15 : decode cX8_tellAgain 15 = .ok (.getfield 13, 3) := by decide +kernel
theorem dX8_tellAgain_18 : decode cX8_tellAgain 18 = .ok (.bipush 8, 2) := by decide +kernel
theorem dX8_tellAgain_20 : decode cX8_tellAgain 20 = .ok (.iload_n 3, 1) := by decide +kernel
theorem dX8_tellAgain_21 : decode cX8_tellAgain 21 = .ok (.imul, 1) := by decide +kernel
theorem dX8_tellAgain_22 : decode cX8_tellAgain 22 = .ok (.iaload, 1) := by decide +kernel
theorem dX8_tellAgain_23 : decode cX8_tellAgain 23 = .ok (.iload_n 2, 1) := by decide +kernel
theorem dX8_tellAgain_24 : decode cX8_tellAgain 24 = .ok (.if_icmp .gt 9, 3) := by decide +kernel
theorem dX8_tellAgain_27 : decode cX8_tellAgain 27 = .ok (.aload_n 0, 1) := by decide +kernel
theorem dX8_tellAgain_28 : decode cX8_tellAgain 28 = .ok (.iload_n 1, 1) := by decide +kernel
theorem dX8_tellAgain_29 : decode cX8_tellAgain 29 = .ok (.iload_n 3, 1) := by decide +kernel
theorem dX8_tellAgain_30 : decode cX8_tellAgain 30 = .ok (.invokevirtual 109, 3) := by decide +kernel
theorem dX8_tellAgain_33 : decode cX8_tellAgain 33 = .ok (.iinc 3 1, 3) := by decide +kernel
theorem dX8_tellAgain_36 : decode cX8_tellAgain 36 = .ok (.goto (-30), 3) := by decide +kernel
theorem dX8_tellAgain_39 : decode cX8_tellAgain 39 = .ok (.return_, 1) := by decide +kernel
theorem dX8_again_0 : decode cX8_again 0 = .ok (.bipush 8, 2) := by decide +kernel
theorem dX8_again_2 : decode cX8_again 2 = .ok (.iload_n 2, 1) := by decide +kernel
theorem dX8_again_3 : decode cX8_again 3 = .ok (.imul, 1) := by decide +kernel
theorem dX8_again_4 : decode cX8_again 4 = .ok (.iconst 2, 1) := by decide +kernel
theorem dX8_again_5 : decode cX8_again 5 = .ok (.iadd, 1) := by decide +kernel
theorem dX8_again_6 : decode cX8_again 6 = .ok (.istore_n 3, 1) := by decide +kernel
theorem dX8_again_7 : decode cX8_again 7 = .ok (.aload_n 0, 1) := by decide +kernel
theorem dX8_again_8 : decode cX8_again 8 = .ok (.getfield 13, 3) := by decide +kernel
theorem dX8_again_11 : decode cX8_again 11 = .ok (.iload_n 3, 1) := by decide +kernel
theorem dX8_again_12 : decode cX8_again 12 = .ok (.iaload, 1) := by decide +kernel
theorem dX8_again_13 : decode cX8_again 13 = .ok (.istore 4, 2) := by decide +kernel
theorem dX8_again_15 : decode cX8_again 15 = .ok (.aload_n 0, 1) := by decide +kernel
theorem dX8_again_16 : decode cX8_again 16 = .ok (.getfield 13, 3) := by decide +kernel
theorem dX8_again_19 : decode cX8_again 19 = .ok (.iload_n 3, 1) := by decide +kernel
theorem dX8_again_20 : decode cX8_again 20 = .ok (.iconst 1, 1) := by decide +kernel
theorem dX8_again_21 : decode cX8_again 21 = .ok (.iadd, 1) := by decide +kernel
theorem dX8_again_22 : decode cX8_again 22 = .ok (.iaload, 1) := by decide +kernel
theorem dX8_again_23 : decode cX8_again 23 = .ok (.istore 5, 2) := by decide +kernel
theorem dX8_again_25 : decode cX8_again 25 = .ok (.aload_n 0, 1) := by decide +kernel
theorem dX8_again_26 : decode cX8_again 26 = .ok (.getfield 13, 3) := by decide +kernel
theorem dX8_again_29 : decode cX8_again 29 = .ok (.iload_n 3, 1) := by decide +kernel
theorem dX8_again_30 : decode cX8_again 30 = .ok (.iconst 2, 1) := by decide +kernel
theorem dX8_again_31 : decode cX8_again 31 = .ok (.iadd, 1) := by decide +kernel
theorem dX8_again_32 : decode cX8_again 32 = .ok (.iaload, 1) := by decide +kernel
theorem dX8_again_33 : decode cX8_again 33 = .ok (.istore 6, 2) := by decide +kernel
theorem dX8_again_35 : decode cX8_again 35 = .ok (.aload_n 0, 1) := by decide +kernel
theorem dX8_again_36 : decode cX8_again 36 = .ok (.getfield 13, 3) := by decide +kernel
theorem dX8_again_39 : decode cX8_again 39 = .ok (.iload_n 3, 1) := by decide +kernel
theorem dX8_again_40 : decode cX8_again 40 = .ok (.iconst 3, 1) := by decide +kernel
theorem dX8_again_41 : decode cX8_again 41 = .ok (.iadd, 1) := by decide +kernel
theorem dX8_again_42 : decode cX8_again 42 = .ok (.iaload, 1) := by decide +kernel
theorem dX8_again_43 : decode cX8_again 43 = .ok (.istore 7, 2) := by decide +kernel
theorem dX8_again_45 : decode cX8_again 45 = .ok (.aload_n 0, 1) := by decide +kernel
theorem dX8_again_46 : decode cX8_again 46 = .ok (.getfield 13, 3) := by decide +kernel
theorem dX8_again_49 : decode cX8_again 49 = .ok (.bipush 8, 2) := by decide +kernel
theorem dX8_again_51 : decode cX8_again 51 = .ok (.iload_n 2, 1) := by decide +kernel
theorem dX8_again_52 : decode cX8_again 52 = .ok (.imul, 1) := by decide +kernel
theorem dX8_again_53 : decode cX8_again 53 = .ok (.iconst 1, 1) := by decide +kernel
theorem dX8_again_54 : decode cX8_again 54 = .ok (.iadd, 1) := by decide +kernel
theorem dX8_again_55 : decode cX8_again 55 = .ok (.iaload, 1) := by decide +kernel
theorem dX8_again_56 : decode cX8_again 56 = .ok (.istore 8, 2) := by decide +kernel
theorem dX8_again_58 : decode cX8_again 58 = .ok (.iload 8, 2) := by decide +kernel
theorem dX8_again_60 : decode cX8_again 60 = .ok (.iconst 5, 1) := by decide +kernel
theorem dX8_again_61 : decode cX8_again 61 = .ok (.if_icmp .lt 29, 3) := by decide +kernel
theorem dX8_again_64 : decode cX8_again 64 = .ok (.iload 8, 2) := by decide +kernel
theorem dX8_again_66 : decode cX8_again 66 = .ok (.bipush 8, 2) := by decide +kernel
theorem dX8_again_68 : decode cX8_again 68 = .ok (.if_icmp .gt 22, 3) := by decide +kernel
theorem dX8_again_71 : decode cX8_again 71 = .ok (.aload_n 0, 1) := by decide +kernel
theorem dX8_again_72 : decode cX8_again 72 = .ok (.iload 8, 2) := by decide +kernel
theorem dX8_again_74 : decode cX8_again 74 = .ok (.bipush 120, 2) := by decide +kernel
theorem dX8_again_76 : decode cX8_again 76 = .ok (.iload 4, 2) := by decide +kernel
theorem dX8_again_78 : decode cX8_again 78 = .ok (.imul, 1) := by decide +kernel
theorem dX8_again_79 : decode cX8_again 79 = .ok (.iload 5, 2) := by decide +kernel
theorem dX8_again_81 : decode cX8_again 81 = .ok (.iadd, 1) := by decide +kernel
theorem dX8_again_82 : decode cX8_again 82 = .ok (.iload 6, 2) := by decide +kernel
theorem dX8_again_84 : decode cX8_again 84 = .ok (.iload 7, 2) := by decide +kernel
theorem dX8_again_86 : decode cX8_again 86 = .ok (.invokevirtual 113, 3) := by decide +kernel
theorem dX8_again_89 : decode cX8_again 89 = .ok (.return_, 1) := by decide +kernel
theorem dX8_again_90 : decode cX8_again 90 = .ok (.iload 4, 2) := by decide +kernel
theorem dX8_again_92 : decode cX8_again 92 = .ok (.iload_n 1, 1) := by decide +kernel
theorem dX8_again_93 : decode cX8_again 93 = .ok (.if_icmp .eq 4, 3) := by decide +kernel
theorem dX8_again_96 : decode cX8_again 96 = .ok (.return_, 1) := by decide +kernel
theorem dX8_again_97 : decode cX8_again 97 = .ok (.iload 8, 2) := by decide +kernel
theorem dX8_again_99 : decode cX8_again 99 = .ok (.tableswitch 269 0 11 #[61, 72, 101, 152, 203, 269, 269, 269, 269, 224, 245, 260], 61) := by decide +kernel
theorem dX8_again_160 : decode cX8_again 160 = .ok (.aload_n 0, 1) := by decide +kernel
theorem dX8_again_161 : decode cX8_again 161 = .ok (.getfield 20, 3) := by decide +kernel
theorem dX8_again_164 : decode cX8_again 164 = .ok (.iload 5, 2) := by decide +kernel
theorem dX8_again_166 : decode cX8_again 166 = .ok (.iconst 1, 1) := by decide +kernel
theorem dX8_again_167 : decode cX8_again 167 = .ok (.iastore, 1) := by decide +kernel
theorem dX8_again_168 : decode cX8_again 168 = .ok (.goto 230, 3) := by decide +kernel
theorem dX8_again_171 : decode cX8_again 171 = .ok (.aload_n 0, 1) := by decide +kernel
theorem dX8_again_172 : decode cX8_again 172 = .ok (.getfield 20, 3) := by decide +kernel
theorem dX8_again_175 : decode cX8_again 175 = .ok (.iload 5, 2) := by decide +kernel
theorem dX8_again_177 : decode cX8_again 177 = .ok (.iconst 2, 1) := by decide +kernel
theorem dX8_again_178 : decode cX8_again 178 = .ok (.iastore, 1) := by decide +kernel
theorem dX8_again_179 : decode cX8_again 179 = .ok (.aload_n 0, 1) := by decide +kernel
theorem dX8_again_180 : decode cX8_again 180 = .ok (.getfield 23, 3) := by decide +kernel
theorem dX8_again_183 : decode cX8_again 183 = .ok (.iload 5, 2) := by decide +kernel
theorem dX8_again_185 : decode cX8_again 185 = .ok (.iload 6, 2) := by decide +kernel
theorem dX8_again_187 : decode cX8_again 187 = .ok (.iastore, 1) := by decide +kernel
theorem dX8_again_188 : decode cX8_again 188 = .ok (.aload_n 0, 1) := by decide +kernel
theorem dX8_again_189 : decode cX8_again 189 = .ok (.getfield 29, 3) := by decide +kernel
theorem dX8_again_192 : decode cX8_again 192 = .ok (.iload 5, 2) := by decide +kernel
theorem dX8_again_194 : decode cX8_again 194 = .ok (.iload 7, 2) := by decide +kernel
theorem dX8_again_196 : decode cX8_again 196 = .ok (.iastore, 1) := by decide +kernel
theorem dX8_again_197 : decode cX8_again 197 = .ok (.goto 201, 3) := by decide +kernel
theorem dX8_again_200 : decode cX8_again 200 = .ok (.aload_n 0, 1) := by decide +kernel
theorem dX8_again_201 : decode cX8_again 201 = .ok (.getfield 20, 3) := by decide +kernel
theorem dX8_again_204 : decode cX8_again 204 = .ok (.iload 5, 2) := by decide +kernel
theorem dX8_again_206 : decode cX8_again 206 = .ok (.iload 6, 2) := by decide +kernel
theorem dX8_again_208 : decode cX8_again 208 = .ok (.iastore, 1) := by decide +kernel
theorem dX8_again_209 : decode cX8_again 209 = .ok (.aload_n 0, 1) := by decide +kernel
theorem dX8_again_210 : decode cX8_again 210 = .ok (.getfield 23, 3) := by decide +kernel
theorem dX8_again_213 : decode cX8_again 213 = .ok (.iload 5, 2) := by decide +kernel
theorem dX8_again_215 : decode cX8_again 215 = .ok (.iload 7, 2) := by decide +kernel
theorem dX8_again_217 : decode cX8_again 217 = .ok (.iastore, 1) := by decide +kernel
theorem dX8_again_218 : decode cX8_again 218 = .ok (.aload_n 0, 1) := by decide +kernel
theorem dX8_again_219 : decode cX8_again 219 = .ok (.getfield 29, 3) := by decide +kernel
theorem dX8_again_222 : decode cX8_again 222 = .ok (.iload 5, 2) := by decide +kernel
theorem dX8_again_224 : decode cX8_again 224 = .ok (.aload_n 0, 1) := by decide +kernel
theorem dX8_again_225 : decode cX8_again 225 = .ok (.getfield 13, 3) := by decide +kernel
theorem dX8_again_228 : decode cX8_again 228 = .ok (.iload_n 3, 1) := by decide +kernel
theorem dX8_again_229 : decode cX8_again 229 = .ok (.iconst 4, 1) := by decide +kernel
theorem dX8_again_230 : decode cX8_again 230 = .ok (.iadd, 1) := by decide +kernel
theorem dX8_again_231 : decode cX8_again 231 = .ok (.iaload, 1) := by decide +kernel
theorem dX8_again_232 : decode cX8_again 232 = .ok (.iastore, 1) := by decide +kernel
theorem dX8_again_233 : decode cX8_again 233 = .ok (.aload_n 0, 1) := by decide +kernel
theorem dX8_again_234 : decode cX8_again 234 = .ok (.getfield 32, 3) := by decide +kernel
theorem dX8_again_237 : decode cX8_again 237 = .ok (.iload 5, 2) := by decide +kernel
theorem dX8_again_239 : decode cX8_again 239 = .ok (.aload_n 0, 1) := by decide +kernel
theorem dX8_again_240 : decode cX8_again 240 = .ok (.getfield 13, 3) := by decide +kernel
theorem dX8_again_243 : decode cX8_again 243 = .ok (.iload_n 3, 1) := by decide +kernel
theorem dX8_again_244 : decode cX8_again 244 = .ok (.iconst 5, 1) := by decide +kernel
theorem dX8_again_245 : decode cX8_again 245 = .ok (.iadd, 1) := by decide +kernel
theorem dX8_again_246 : decode cX8_again 246 = .ok (.iaload, 1) := by decide +kernel
theorem dX8_again_247 : decode cX8_again 247 = .ok (.iastore, 1) := by decide +kernel
theorem dX8_again_248 : decode cX8_again 248 = .ok (.goto 150, 3) := by decide +kernel
theorem dX8_again_251 : decode cX8_again 251 = .ok (.aload_n 0, 1) := by decide +kernel
theorem dX8_again_252 : decode cX8_again 252 = .ok (.getfield 20, 3) := by decide +kernel
theorem dX8_again_255 : decode cX8_again 255 = .ok (.iload 5, 2) := by decide +kernel
theorem dX8_again_257 : decode cX8_again 257 = .ok (.iload 6, 2) := by decide +kernel
theorem dX8_again_259 : decode cX8_again 259 = .ok (.iastore, 1) := by decide +kernel
theorem dX8_again_260 : decode cX8_again 260 = .ok (.aload_n 0, 1) := by decide +kernel
theorem dX8_again_261 : decode cX8_again 261 = .ok (.getfield 23, 3) := by decide +kernel
theorem dX8_again_264 : decode cX8_again 264 = .ok (.iload 5, 2) := by decide +kernel
theorem dX8_again_266 : decode cX8_again 266 = .ok (.iload 7, 2) := by decide +kernel
theorem dX8_again_268 : decode cX8_again 268 = .ok (.iastore, 1) := by decide +kernel
theorem dX8_again_269 : decode cX8_again 269 = .ok (.aload_n 0, 1) := by decide +kernel
theorem dX8_again_270 : decode cX8_again 270 = .ok (.getfield 26, 3) := by decide +kernel
theorem dX8_again_273 : decode cX8_again 273 = .ok (.iload 5, 2) := by decide +kernel
theorem dX8_again_275 : decode cX8_again 275 = .ok (.aload_n 0, 1) := by decide +kernel
theorem dX8_again_276 : decode cX8_again 276 = .ok (.getfield 13, 3) := by decide +kernel
theorem dX8_again_279 : decode cX8_again 279 = .ok (.iload_n 3, 1) := by decide +kernel
theorem dX8_again_280 : decode cX8_again 280 = .ok (.iconst 4, 1) := by decide +kernel
theorem dX8_again_281 : decode cX8_again 281 = .ok (.iadd, 1) := by decide +kernel
theorem dX8_again_282 : decode cX8_again 282 = .ok (.iaload, 1) := by decide +kernel
theorem dX8_again_283 : decode cX8_again 283 = .ok (.iastore, 1) := by decide +kernel
theorem dX8_again_284 : decode cX8_again 284 = .ok (.aload_n 0, 1) := by decide +kernel
theorem dX8_again_285 : decode cX8_again 285 = .ok (.getfield 32, 3) := by decide +kernel
theorem dX8_again_288 : decode cX8_again 288 = .ok (.iload 5, 2) := by decide +kernel
theorem dX8_again_290 : decode cX8_again 290 = .ok (.aload_n 0, 1) := by decide +kernel
theorem dX8_again_291 : decode cX8_again 291 = .ok (.getfield 13, 3) := by decide +kernel
theorem dX8_again_294 : decode cX8_again 294 = .ok (.iload_n 3, 1) := by decide +kernel
theorem dX8_again_295 : decode cX8_again 295 = .ok (.iconst 5, 1) := by decide +kernel
theorem dX8_again_296 : decode cX8_again 296 = .ok (.iadd, 1) := by decide +kernel
theorem dX8_again_297 : decode cX8_again 297 = .ok (.iaload, 1) := by decide +kernel
theorem dX8_again_298 : decode cX8_again 298 = .ok (.iastore, 1) := by decide +kernel
theorem dX8_again_299 : decode cX8_again 299 = .ok (.goto 99, 3) := by decide +kernel
theorem dX8_again_302 : decode cX8_again 302 = .ok (.aload_n 0, 1) := by decide +kernel
theorem dX8_again_303 : decode cX8_again 303 = .ok (.getfield 20, 3) := by decide +kernel
theorem dX8_again_306 : decode cX8_again 306 = .ok (.iload 5, 2) := by decide +kernel
theorem dX8_again_308 : decode cX8_again 308 = .ok (.bipush 8, 2) := by decide +kernel
theorem dX8_again_310 : decode cX8_again 310 = .ok (.iastore, 1) := by decide +kernel
theorem dX8_again_311 : decode cX8_again 311 = .ok (.aload_n 0, 1) := by decide +kernel
theorem dX8_again_312 : decode cX8_again 312 = .ok (.getfield 44, 3) := by decide +kernel
theorem dX8_again_315 : decode cX8_again 315 = .ok (.iload 6, 2) := by decide +kernel
theorem dX8_again_317 : decode cX8_again 317 = .ok (.iload 5, 2) := by decide +kernel
theorem dX8_again_319 : decode cX8_again 319 = .ok (.iastore, 1) := by decide +kernel
theorem dX8_again_320 : decode cX8_again 320 = .ok (.goto 78, 3) := by decide +kernel
theorem dX8_again_323 : decode cX8_again 323 = .ok (.aload_n 0, 1) := by decide +kernel
theorem dX8_again_324 : decode cX8_again 324 = .ok (.getfield 35, 3) := by decide +kernel
theorem dX8_again_327 : decode cX8_again 327 = .ok (.iload 5, 2) := by decide +kernel
theorem dX8_again_329 : decode cX8_again 329 = .ok (.iload 6, 2) := by decide +kernel
theorem dX8_again_331 : decode cX8_again 331 = .ok (.iastore, 1) := by decide +kernel
theorem dX8_again_332 : decode cX8_again 332 = .ok (.aload_n 0, 1) := by decide +kernel
theorem dX8_again_333 : decode cX8_again 333 = .ok (.getfield 38, 3) := by decide +kernel
theorem dX8_again_336 : decode cX8_again 336 = .ok (.iload 5, 2) := by decide +kernel
theorem dX8_again_338 : decode cX8_again 338 = .ok (.iload 7, 2) := by decide +kernel
theorem dX8_again_340 : decode cX8_again 340 = .ok (.iastore, 1) := by decide +kernel
theorem dX8_again_341 : decode cX8_again 341 = .ok (.goto 57, 3) := by decide +kernel
theorem dX8_again_344 : decode cX8_again 344 = .ok (.aload_n 0, 1) := by decide +kernel
theorem dX8_again_345 : decode cX8_again 345 = .ok (.getfield 41, 3) := by decide +kernel
theorem dX8_again_348 : decode cX8_again 348 = .ok (.iload 5, 2) := by decide +kernel
theorem dX8_again_350 : decode cX8_again 350 = .ok (.dup2, 1) := by decide +kernel
theorem dX8_again_351 : decode cX8_again 351 = .ok (.iaload, 1) := by decide +kernel
theorem dX8_again_352 : decode cX8_again 352 = .ok (.iload 6, 2) := by decide +kernel
theorem dX8_again_354 : decode cX8_again 354 = .ok (.iadd, 1) := by decide +kernel
theorem dX8_again_355 : decode cX8_again 355 = .ok (.iastore, 1) := by decide +kernel
theorem dX8_again_356 : decode cX8_again 356 = .ok (.goto 42, 3) := by decide +kernel
theorem dX8_again_359 : decode cX8_again 359 = .ok (.aload_n 0, 1) := by decide +kernel
theorem dX8_again_360 : decode cX8_again 360 = .ok (.iload 5, 2) := by decide +kernel
theorem dX8_again_362 : decode cX8_again 362 = .ok (.putfield 100, 3) := by decide +kernel
theorem dX8_again_365 : decode cX8_again 365 = .ok (.goto 33, 3) := by decide +kernel
theorem dX8_again_368 : decode cX8_again 368 = .ok (.aload_n 0, 1) := by decide +kernel
theorem dX8_again_369 : decode cX8_again 369 = .ok (.getfield 20, 3) := by decide +kernel
theorem dX8_again_372 : decode cX8_again 372 = .ok (.iload 5, 2) := by decide +kernel
theorem dX8_again_374 : decode cX8_again 374 = .ok (.iconst 2, 1) := by decide +kernel
theorem dX8_again_375 : decode cX8_again 375 = .ok (.iastore, 1) := by decide +kernel
theorem dX8_again_376 : decode cX8_again 376 = .ok (.aload_n 0, 1) := by decide +kernel
theorem dX8_again_377 : decode cX8_again 377 = .ok (.getfield 23, 3) := by decide +kernel
theorem dX8_again_380 : decode cX8_again 380 = .ok (.iload 5, 2) := by decide +kernel
theorem dX8_again_382 : decode cX8_again 382 = .ok (.iload 6, 2) := by decide +kernel
theorem dX8_again_384 : decode cX8_again 384 = .ok (.iastore, 1) := by decide +kernel
theorem dX8_again_385 : decode cX8_again 385 = .ok (.aload_n 0, 1) := by decide +kernel
theorem dX8_again_386 : decode cX8_again 386 = .ok (.getfield 29, 3) := by decide +kernel
theorem dX8_again_389 : decode cX8_again 389 = .ok (.iload 5, 2) := by decide +kernel
theorem dX8_again_391 : decode cX8_again 391 = .ok (.aload_n 0, 1) := by decide +kernel
theorem dX8_again_392 : decode cX8_again 392 = .ok (.getfield 17, 3) := by decide +kernel
theorem dX8_again_395 : decode cX8_again 395 = .ok (.iload_n 2, 1) := by decide +kernel
theorem dX8_again_396 : decode cX8_again 396 = .ok (.iaload, 1) := by decide +kernel
theorem dX8_again_397 : decode cX8_again 397 = .ok (.iastore, 1) := by decide +kernel
theorem dX8_again_398 : decode cX8_again 398 = .ok (.return_, 1) := by decide +kernel
theorem dX8_months_0 : decode cX8_months 0 = .ok (.iload_n 1, 1) := by decide +kernel
theorem dX8_months_1 : decode cX8_months 1 = .ok (.iconst 5, 1) := by decide +kernel
theorem dX8_months_2 : decode cX8_months 2 = .ok (.if_icmp .ne 65, 3) := by decide +kernel
theorem dX8_months_5 : decode cX8_months 5 = .ok (.aload_n 0, 1) := by decide +kernel
theorem dX8_months_6 : decode cX8_months 6 = .ok (.getfield 47, 3) := by decide +kernel
theorem dX8_months_9 : decode cX8_months 9 = .ok (.iload_n 2, 1) := by decide +kernel
theorem dX8_months_10 : decode cX8_months 10 = .ok (.iconst 1, 1) := by decide +kernel
theorem dX8_months_11 : decode cX8_months 11 = .ok (.iastore, 1) := by decide +kernel
theorem dX8_months_12 : decode cX8_months 12 = .ok (.aload_n 0, 1) := by decide +kernel
theorem dX8_months_13 : decode cX8_months 13 = .ok (.getfield 50, 3) := by decide +kernel
theorem dX8_months_16 : decode cX8_months 16 = .ok (.iload_n 2, 1) := by decide +kernel
theorem dX8_months_17 : decode cX8_months 17 = .ok (.iload_n 3, 1) := by decide +kernel
theorem dX8_months_18 : decode cX8_months 18 = .ok (.ifCond .eq 7, 3) := by decide +kernel
theorem dX8_months_21 : decode cX8_months 21 = .ok (.iconst 1, 1) := by decide +kernel
theorem dX8_months_22 : decode cX8_months 22 = .ok (.goto 4, 3) := by decide +kernel
theorem dX8_months_25 : decode cX8_months 25 = .ok (.iconst 0, 1) := by decide +kernel
theorem dX8_months_26 : decode cX8_months 26 = .ok (.bastore, 1) := by decide +kernel
theorem dX8_months_27 : decode cX8_months 27 = .ok (.aload_n 0, 1) := by decide +kernel
theorem dX8_months_28 : decode cX8_months 28 = .ok (.getfield 54, 3) := by decide +kernel
theorem dX8_months_31 : decode cX8_months 31 = .ok (.iload_n 2, 1) := by decide +kernel
theorem dX8_months_32 : decode cX8_months 32 = .ok (.iload 4, 2) := by decide +kernel
theorem dX8_months_34 : decode cX8_months 34 = .ok (.iastore, 1) := by decide +kernel
theorem dX8_months_35 : decode cX8_months 35 = .ok (.iconst 0, 1) := by decide +kernel
theorem dX8_months_36 : decode cX8_months 36 = .ok (.istore 5, 2) := by decide +kernel
theorem dX8_months_38 : decode cX8_months 38 = .ok (.iload 5, 2) := by decide +kernel
theorem dX8_months_40 : decode cX8_months 40 = .ok (.bipush 30, 2) := by decide +kernel
theorem dX8_months_42 : decode cX8_months 42 = .ok (.if_icmp .ge 22, 3) := by decide +kernel
theorem dX8_months_45 : decode cX8_months 45 = .ok (.aload_n 0, 1) := by decide +kernel
theorem dX8_months_46 : decode cX8_months 46 = .ok (.getfield 57, 3) := by decide +kernel
theorem dX8_months_49 : decode cX8_months 49 = .ok (.bipush 30, 2) := by decide +kernel
theorem dX8_months_51 : decode cX8_months 51 = .ok (.iload_n 2, 1) := by decide +kernel
theorem dX8_months_52 : decode cX8_months 52 = .ok (.imul, 1) := by decide +kernel
theorem dX8_months_53 : decode cX8_months 53 = .ok (.iload 5, 2) := by decide +kernel
theorem dX8_months_55 : decode cX8_months 55 = .ok (.iadd, 1) := by decide +kernel
theorem dX8_months_56 : decode cX8_months 56 = .ok (.iconst 1, 1) := by decide +kernel
theorem dX8_months_57 : decode cX8_months 57 = .ok (.iastore, 1) := by decide +kernel
theorem dX8_months_58 : decode cX8_months 58 = .ok (.iinc 5 1, 3) := by decide +kernel
theorem dX8_months_61 : decode cX8_months 61 = .ok (.goto (-23), 3) := by decide +kernel
theorem dX8_months_64 : decode cX8_months 64 = .ok (.goto 125, 3) := by decide +kernel
theorem dX8_months_67 : decode cX8_months 67 = .ok (.iload_n 1, 1) := by decide +kernel
theorem dX8_months_68 : decode cX8_months 68 = .ok (.bipush 6, 2) := by decide +kernel
theorem dX8_months_70 : decode cX8_months 70 = .ok (.if_icmp .ne 19, 3) := by decide +kernel
theorem dX8_months_73 : decode cX8_months 73 = .ok (.aload_n 0, 1) := by decide +kernel
theorem dX8_months_74 : decode cX8_months 74 = .ok (.getfield 57, 3) := by decide +kernel
theorem dX8_months_77 : decode cX8_months 77 = .ok (.bipush 30, 2) := by decide +kernel
theorem dX8_months_79 : decode cX8_months 79 = .ok (.iload_n 2, 1) := by decide +kernel
theorem dX8_months_80 : decode cX8_months 80 = .ok (.imul, 1) := by decide +kernel
theorem dX8_months_81 : decode cX8_months 81 = .ok (.iload_n 3, 1) := by decide +kernel
theorem dX8_months_82 : decode cX8_months 82 = .ok (.iadd, 1) := by decide +kernel
theorem dX8_months_83 : decode cX8_months 83 = .ok (.iload 4, 2) := by decide +kernel
theorem dX8_months_85 : decode cX8_months 85 = .ok (.iastore, 1) := by decide +kernel
theorem dX8_months_86 : decode cX8_months 86 = .ok (.goto 103, 3) := by decide +kernel
theorem dX8_months_89 : decode cX8_months 89 = .ok (.iload_n 1, 1) := by decide +kernel
theorem dX8_months_90 : decode cX8_months 90 = .ok (.bipush 7, 2) := by decide +kernel
theorem dX8_months_92 : decode cX8_months 92 = .ok (.if_icmp .ne 13, 3) := by decide +kernel
theorem dX8_months_95 : decode cX8_months 95 = .ok (.aload_n 0, 1) := by decide +kernel
theorem dX8_months_96 : decode cX8_months 96 = .ok (.getfield 47, 3) := by decide +kernel
theorem dX8_months_99 : decode cX8_months 99 = .ok (.iload_n 2, 1) := by decide +kernel
theorem dX8_months_100 : decode cX8_months 100 = .ok (.iconst 2, 1) := by decide +kernel
theorem dX8_months_101 : decode cX8_months 101 = .ok (.iastore, 1) := by decide +kernel
theorem dX8_months_102 : decode cX8_months 102 = .ok (.goto 87, 3) := by decide +kernel
theorem dX8_months_105 : decode cX8_months 105 = .ok (.bipush 120, 2) := by decide +kernel
theorem dX8_months_107 : decode cX8_months 107 = .ok (.iload_n 3, 1) := by decide +kernel
theorem dX8_months_108 : decode cX8_months 108 = .ok (.imul, 1) := by decide +kernel
theorem dX8_months_109 : decode cX8_months 109 = .ok (.iload 4, 2) := by decide +kernel
theorem dX8_months_111 : decode cX8_months 111 = .ok (.iadd, 1) := by decide +kernel
theorem dX8_months_112 : decode cX8_months 112 = .ok (.istore 5, 2) := by decide +kernel
theorem dX8_months_114 : decode cX8_months 114 = .ok (.aload_n 0, 1) := by decide +kernel
theorem dX8_months_115 : decode cX8_months 115 = .ok (.getfield 47, 3) := by decide +kernel
theorem dX8_months_118 : decode cX8_months 118 = .ok (.iload 5, 2) := by decide +kernel
theorem dX8_months_120 : decode cX8_months 120 = .ok (.iconst 1, 1) := by decide +kernel
theorem dX8_months_121 : decode cX8_months 121 = .ok (.iastore, 1) := by decide +kernel
theorem dX8_months_122 : decode cX8_months 122 = .ok (.aload_n 0, 1) := by decide +kernel
theorem dX8_months_123 : decode cX8_months 123 = .ok (.getfield 50, 3) := by decide +kernel
theorem dX8_months_126 : decode cX8_months 126 = .ok (.iload 5, 2) := by decide +kernel
theorem dX8_months_128 : decode cX8_months 128 = .ok (.aload_n 0, 1) := by decide +kernel
theorem dX8_months_129 : decode cX8_months 129 = .ok (.getfield 50, 3) := by decide +kernel
theorem dX8_months_132 : decode cX8_months 132 = .ok (.iload_n 2, 1) := by decide +kernel
theorem dX8_months_133 : decode cX8_months 133 = .ok (.baload, 1) := by decide +kernel
theorem dX8_months_134 : decode cX8_months 134 = .ok (.bastore, 1) := by decide +kernel
theorem dX8_months_135 : decode cX8_months 135 = .ok (.aload_n 0, 1) := by decide +kernel
theorem dX8_months_136 : decode cX8_months 136 = .ok (.getfield 54, 3) := by decide +kernel
theorem dX8_months_139 : decode cX8_months 139 = .ok (.iload 5, 2) := by decide +kernel
theorem dX8_months_141 : decode cX8_months 141 = .ok (.aload_n 0, 1) := by decide +kernel
theorem dX8_months_142 : decode cX8_months 142 = .ok (.getfield 54, 3) := by decide +kernel
theorem dX8_months_145 : decode cX8_months 145 = .ok (.iload_n 2, 1) := by decide +kernel
theorem dX8_months_146 : decode cX8_months 146 = .ok (.iaload, 1) := by decide +kernel
theorem dX8_months_147 : decode cX8_months 147 = .ok (.iastore, 1) := by decide +kernel
theorem dX8_months_148 : decode cX8_months 148 = .ok (.iconst 0, 1) := by decide +kernel
theorem dX8_months_149 : decode cX8_months 149 = .ok (.istore 6, 2) := by decide +kernel
theorem dX8_months_151 : decode cX8_months 151 = .ok (.iload 6, 2) := by decide +kernel
theorem dX8_months_153 : decode cX8_months 153 = .ok (.bipush 30, 2) := by decide +kernel
theorem dX8_months_155 : decode cX8_months 155 = .ok (.if_icmp .ge 34, 3) := by decide +kernel
theorem dX8_months_158 : decode cX8_months 158 = .ok (.aload_n 0, 1) := by decide +kernel
theorem dX8_months_159 : decode cX8_months 159 = .ok (.getfield 57, 3) := by decide +kernel
theorem dX8_months_162 : decode cX8_months 162 = .ok (.bipush 30, 2) := by decide +kernel
theorem dX8_months_164 : decode cX8_months 164 = .ok (.iload 5, 2) := by decide +kernel
theorem dX8_months_166 : decode cX8_months 166 = .ok (.imul, 1) := by decide +kernel
theorem dX8_months_167 : decode cX8_months 167 = .ok (.iload 6, 2) := by decide +kernel
theorem dX8_months_169 : decode cX8_months 169 = .ok (.iadd, 1) := by decide +kernel
theorem dX8_months_170 : decode cX8_months 170 = .ok (.aload_n 0, 1) := by decide +kernel
theorem dX8_months_171 : decode cX8_months 171 = .ok (.getfield 57, 3) := by decide +kernel
theorem dX8_months_174 : decode cX8_months 174 = .ok (.bipush 30, 2) := by decide +kernel
theorem dX8_months_176 : decode cX8_months 176 = .ok (.iload_n 2, 1) := by decide +kernel
theorem dX8_months_177 : decode cX8_months 177 = .ok (.imul, 1) := by decide +kernel
theorem dX8_months_178 : decode cX8_months 178 = .ok (.iload 6, 2) := by decide +kernel
theorem dX8_months_180 : decode cX8_months 180 = .ok (.iadd, 1) := by decide +kernel
theorem dX8_months_181 : decode cX8_months 181 = .ok (.iaload, 1) := by decide +kernel
theorem dX8_months_182 : decode cX8_months 182 = .ok (.iastore, 1) := by decide +kernel
theorem dX8_months_183 : decode cX8_months 183 = .ok (.iinc 6 1, 3) := by decide +kernel
theorem dX8_months_186 : decode cX8_months 186 = .ok (.goto (-35), 3) := by decide +kernel
theorem dX8_months_189 : decode cX8_months 189 = .ok (.return_, 1) := by decide +kernel
theorem dX8_runs_0 : decode cX8_runs 0 = .ok (.aload_n 0, 1) := by decide +kernel
theorem dX8_runs_1 : decode cX8_runs 1 = .ok (.getfield 20, 3) := by decide +kernel
theorem dX8_runs_4 : decode cX8_runs 4 = .ok (.iload_n 1, 1) := by decide +kernel
theorem dX8_runs_5 : decode cX8_runs 5 = .ok (.iaload, 1) := by decide +kernel
theorem dX8_runs_6 : decode cX8_runs 6 = .ok (.iconst 2, 1) := by decide +kernel
theorem dX8_runs_7 : decode cX8_runs 7 = .ok (.if_icmp .lt 17, 3) := by decide +kernel
theorem dX8_runs_10 : decode cX8_runs 10 = .ok (.aload_n 0, 1) := by decide +kernel
theorem dX8_runs_11 : decode cX8_runs 11 = .ok (.getfield 20, 3) := by decide +kernel
theorem dX8_runs_14 : decode cX8_runs 14 = .ok (.iload_n 1, 1) := by decide +kernel
theorem dX8_runs_15 : decode cX8_runs 15 = .ok (.iaload, 1) := by decide +kernel
theorem dX8_runs_16 : decode cX8_runs 16 = .ok (.iconst 5, 1) := by decide +kernel
theorem dX8_runs_17 : decode cX8_runs 17 = .ok (.if_icmp .gt 7, 3) := by decide +kernel
theorem dX8_runs_20 : decode cX8_runs 20 = .ok (.iconst 1, 1) := by decide +kernel
theorem dX8_runs_21 : decode cX8_runs 21 = .ok (.goto 4, 3) := by decide +kernel
theorem dX8_runs_24 : decode cX8_runs 24 = .ok (.iconst 0, 1) := by decide +kernel
theorem dX8_runs_25 : decode cX8_runs 25 = .ok (.ireturn, 1) := by decide +kernel
theorem dX8_isLive_0 : decode cX8_isLive 0 = .ok (.aload_n 0, 1) := by decide +kernel
theorem dX8_isLive_1 : decode cX8_isLive 1 = .ok (.iload_n 1, 1) := by decide +kernel
theorem dX8_isLive_2 : decode cX8_isLive 2 = .ok (.invokevirtual 117, 3) := by decide +kernel
theorem dX8_isLive_5 : decode cX8_isLive 5 = .ok (.ifCond .eq 17, 3) := by decide +kernel
theorem dX8_isLive_8 : decode cX8_isLive 8 = .ok (.aload_n 0, 1) := by decide +kernel
theorem dX8_isLive_9 : decode cX8_isLive 9 = .ok (.getfield 44, 3) := by decide +kernel
theorem dX8_isLive_12 : decode cX8_isLive 12 = .ok (.iload_n 1, 1) := by decide +kernel
theorem dX8_isLive_13 : decode cX8_isLive 13 = .ok (.iaload, 1) := by decide +kernel
theorem dX8_isLive_14 : decode cX8_isLive 14 = .ok (.iconst (-1), 1) := by decide +kernel
theorem dX8_isLive_15 : decode cX8_isLive 15 = .ok (.if_icmp .ne 7, 3) := by decide +kernel
theorem dX8_isLive_18 : decode cX8_isLive 18 = .ok (.iconst 1, 1) := by decide +kernel
theorem dX8_isLive_19 : decode cX8_isLive 19 = .ok (.goto 4, 3) := by decide +kernel
theorem dX8_isLive_22 : decode cX8_isLive 22 = .ok (.iconst 0, 1) := by decide +kernel
theorem dX8_isLive_23 : decode cX8_isLive 23 = .ok (.ireturn, 1) := by decide +kernel
theorem dX8_isHeld_0 : decode cX8_isHeld 0 = .ok (.bipush 120, 2) := by decide +kernel
theorem dX8_isHeld_2 : decode cX8_isHeld 2 = .ok (.iload_n 1, 1) := by decide +kernel
theorem dX8_isHeld_3 : decode cX8_isHeld 3 = .ok (.imul, 1) := by decide +kernel
theorem dX8_isHeld_4 : decode cX8_isHeld 4 = .ok (.iload_n 2, 1) := by decide +kernel
theorem dX8_isHeld_5 : decode cX8_isHeld 5 = .ok (.bipush 30, 2) := by decide +kernel
theorem dX8_isHeld_7 : decode cX8_isHeld 7 = .ok (.idiv, 1) := by decide +kernel
theorem dX8_isHeld_8 : decode cX8_isHeld 8 = .ok (.iadd, 1) := by decide +kernel
theorem dX8_isHeld_9 : decode cX8_isHeld 9 = .ok (.istore 4, 2) := by decide +kernel
theorem dX8_isHeld_11 : decode cX8_isHeld 11 = .ok (.aload_n 0, 1) := by decide +kernel
theorem dX8_isHeld_12 : decode cX8_isHeld 12 = .ok (.getfield 47, 3) := by decide +kernel
theorem dX8_isHeld_15 : decode cX8_isHeld 15 = .ok (.iload 4, 2) := by decide +kernel
theorem dX8_isHeld_17 : decode cX8_isHeld 17 = .ok (.iaload, 1) := by decide +kernel
theorem dX8_isHeld_18 : decode cX8_isHeld 18 = .ok (.ifCond .ne 5, 3) := by decide +kernel
theorem dX8_isHeld_21 : decode cX8_isHeld 21 = .ok (.iconst 1, 1) := by decide +kernel
theorem dX8_isHeld_22 : decode cX8_isHeld 22 = .ok (.ireturn, 1) := by decide +kernel
theorem dX8_isHeld_23 : decode cX8_isHeld 23 = .ok (.aload_n 0, 1) := by decide +kernel
theorem dX8_isHeld_24 : decode cX8_isHeld 24 = .ok (.getfield 47, 3) := by decide +kernel
theorem dX8_isHeld_27 : decode cX8_isHeld 27 = .ok (.iload 4, 2) := by decide +kernel
theorem dX8_isHeld_29 : decode cX8_isHeld 29 = .ok (.iaload, 1) := by decide +kernel
theorem dX8_isHeld_30 : decode cX8_isHeld 30 = .ok (.iconst 2, 1) := by decide +kernel
theorem dX8_isHeld_31 : decode cX8_isHeld 31 = .ok (.if_icmp .eq 15, 3) := by decide +kernel
theorem dX8_isHeld_34 : decode cX8_isHeld 34 = .ok (.aload_n 0, 1) := by decide +kernel
theorem dX8_isHeld_35 : decode cX8_isHeld 35 = .ok (.getfield 54, 3) := by decide +kernel
theorem dX8_isHeld_38 : decode cX8_isHeld 38 = .ok (.iload 4, 2) := by decide +kernel
theorem dX8_isHeld_40 : decode cX8_isHeld 40 = .ok (.iaload, 1) := by decide +kernel
theorem dX8_isHeld_41 : decode cX8_isHeld 41 = .ok (.bipush 30, 2) := by decide +kernel
theorem dX8_isHeld_43 : decode cX8_isHeld 43 = .ok (.if_icmp .ge 13, 3) := by decide +kernel
theorem dX8_isHeld_46 : decode cX8_isHeld 46 = .ok (.iload_n 3, 1) := by decide +kernel
theorem dX8_isHeld_47 : decode cX8_isHeld 47 = .ok (.ifCond .ne 7, 3) := by decide +kernel
theorem dX8_isHeld_50 : decode cX8_isHeld 50 = .ok (.iconst 1, 1) := by decide +kernel
theorem dX8_isHeld_51 : decode cX8_isHeld 51 = .ok (.goto 4, 3) := by decide +kernel
theorem dX8_isHeld_54 : decode cX8_isHeld 54 = .ok (.iconst 0, 1) := by decide +kernel
theorem dX8_isHeld_55 : decode cX8_isHeld 55 = .ok (.ireturn, 1) := by decide +kernel
theorem dX8_isHeld_56 : decode cX8_isHeld 56 = .ok (.aload_n 0, 1) := by decide +kernel
theorem dX8_isHeld_57 : decode cX8_isHeld 57 = .ok (.getfield 57, 3) := by decide +kernel
theorem dX8_isHeld_60 : decode cX8_isHeld 60 = .ok (.bipush 30, 2) := by decide +kernel
theorem dX8_isHeld_62 : decode cX8_isHeld 62 = .ok (.iload 4, 2) := by decide +kernel
theorem dX8_isHeld_64 : decode cX8_isHeld 64 = .ok (.imul, 1) := by decide +kernel
theorem dX8_isHeld_65 : decode cX8_isHeld 65 = .ok (.iload_n 2, 1) := by decide +kernel
theorem dX8_isHeld_66 : decode cX8_isHeld 66 = .ok (.bipush 30, 2) := by decide +kernel
theorem dX8_isHeld_68 : decode cX8_isHeld 68 = .ok (.irem, 1) := by decide +kernel
theorem dX8_isHeld_69 : decode cX8_isHeld 69 = .ok (.iadd, 1) := by decide +kernel
theorem dX8_isHeld_70 : decode cX8_isHeld 70 = .ok (.iaload, 1) := by decide +kernel
theorem dX8_isHeld_71 : decode cX8_isHeld 71 = .ok (.ifCond .eq 7, 3) := by decide +kernel
theorem dX8_isHeld_74 : decode cX8_isHeld 74 = .ok (.iconst 1, 1) := by decide +kernel
theorem dX8_isHeld_75 : decode cX8_isHeld 75 = .ok (.goto 4, 3) := by decide +kernel
theorem dX8_isHeld_78 : decode cX8_isHeld 78 = .ok (.iconst 0, 1) := by decide +kernel
theorem dX8_isHeld_79 : decode cX8_isHeld 79 = .ok (.ireturn, 1) := by decide +kernel
theorem dX8_has_0 : decode cX8_has 0 = .ok (.iconst 0, 1) := by decide +kernel
theorem dX8_has_1 : decode cX8_has 1 = .ok (.istore 4, 2) := by decide +kernel
theorem dX8_has_3 : decode cX8_has 3 = .ok (.iload 4, 2) := by decide +kernel
theorem dX8_has_5 : decode cX8_has 5 = .ok (.bipush 12, 2) := by decide +kernel
theorem dX8_has_7 : decode cX8_has 7 = .ok (.if_icmp .ge 71, 3) := by decide +kernel
theorem dX8_has_10 : decode cX8_has 10 = .ok (.aload_n 0, 1) := by decide +kernel
theorem dX8_has_11 : decode cX8_has 11 = .ok (.getfield 20, 3) := by decide +kernel
theorem dX8_has_14 : decode cX8_has 14 = .ok (.iload 4, 2) := by decide +kernel
theorem dX8_has_16 : decode cX8_has 16 = .ok (.iaload, 1) := by decide +kernel
theorem dX8_has_17 : decode cX8_has 17 = .ok (.iload_n 1, 1) := by decide +kernel
theorem dX8_has_18 : decode cX8_has 18 = .ok (.if_icmp .ne 54, 3) := by decide +kernel
theorem dX8_has_21 : decode cX8_has 21 = .ok (.aload_n 0, 1) := by decide +kernel
theorem dX8_has_22 : decode cX8_has 22 = .ok (.getfield 44, 3) := by decide +kernel
theorem dX8_has_25 : decode cX8_has 25 = .ok (.iload 4, 2) := by decide +kernel
theorem dX8_has_27 : decode cX8_has 27 = .ok (.iaload, 1) := by decide +kernel
theorem dX8_has_28 : decode cX8_has 28 = .ok (.iconst (-1), 1) := by decide +kernel
theorem dX8_has_29 : decode cX8_has 29 = .ok (.if_icmp .ne 43, 3) := by decide +kernel
theorem dX8_has_32 : decode cX8_has 32 = .ok (.aload_n 0, 1) := by decide +kernel
theorem dX8_has_33 : decode cX8_has 33 = .ok (.getfield 32, 3) := by decide +kernel
theorem dX8_has_36 : decode cX8_has 36 = .ok (.iload 4, 2) := by decide +kernel
theorem dX8_has_38 : decode cX8_has 38 = .ok (.iaload, 1) := by decide +kernel
theorem dX8_has_39 : decode cX8_has 39 = .ok (.iload_n 2, 1) := by decide +kernel
theorem dX8_has_40 : decode cX8_has 40 = .ok (.ishr, 1) := by decide +kernel
theorem dX8_has_41 : decode cX8_has 41 = .ok (.iconst 1, 1) := by decide +kernel
theorem dX8_has_42 : decode cX8_has 42 = .ok (.iand, 1) := by decide +kernel
theorem dX8_has_43 : decode cX8_has 43 = .ok (.iconst 1, 1) := by decide +kernel
theorem dX8_has_44 : decode cX8_has 44 = .ok (.if_icmp .ne 28, 3) := by decide +kernel
theorem dX8_has_47 : decode cX8_has 47 = .ok (.aload_n 0, 1) := by decide +kernel
theorem dX8_has_48 : decode cX8_has 48 = .ok (.getfield 23, 3) := by decide +kernel
theorem dX8_has_51 : decode cX8_has 51 = .ok (.iload 4, 2) := by decide +kernel
theorem dX8_has_53 : decode cX8_has 53 = .ok (.iaload, 1) := by decide +kernel
theorem dX8_has_54 : decode cX8_has 54 = .ok (.iload_n 3, 1) := by decide +kernel
theorem dX8_has_55 : decode cX8_has 55 = .ok (.if_icmp .gt 17, 3) := by decide +kernel
theorem dX8_has_58 : decode cX8_has 58 = .ok (.aload_n 0, 1) := by decide +kernel
theorem dX8_has_59 : decode cX8_has 59 = .ok (.getfield 26, 3) := by decide +kernel
theorem dX8_has_62 : decode cX8_has 62 = .ok (.iload 4, 2) := by decide +kernel
theorem dX8_has_64 : decode cX8_has 64 = .ok (.iaload, 1) := by decide +kernel
theorem dX8_has_65 : decode cX8_has 65 = .ok (.iload_n 3, 1) := by decide +kernel
theorem dX8_has_66 : decode cX8_has 66 = .ok (.if_icmp .lt 6, 3) := by decide +kernel
theorem dX8_has_69 : decode cX8_has 69 = .ok (.iload 4, 2) := by decide +kernel
theorem dX8_has_71 : decode cX8_has 71 = .ok (.ireturn, 1) := by decide +kernel
theorem dX8_has_72 : decode cX8_has 72 = .ok (.iinc 4 1, 3) := by decide +kernel
theorem dX8_has_75 : decode cX8_has 75 = .ok (.goto (-72), 3) := by decide +kernel
theorem dX8_has_78 : decode cX8_has 78 = .ok (.iconst (-1), 1) := by decide +kernel
theorem dX8_has_79 : decode cX8_has 79 = .ok (.ireturn, 1) := by decide +kernel
theorem dX8_thousandths_0 : decode cX8_thousandths 0 = .ok (.iload_n 0, 1) := by decide +kernel
theorem dX8_thousandths_1 : decode cX8_thousandths 1 = .ok (.iload_n 1, 1) := by decide +kernel
theorem dX8_thousandths_2 : decode cX8_thousandths 2 = .ok (.imul, 1) := by decide +kernel
theorem dX8_thousandths_3 : decode cX8_thousandths 3 = .ok (.sipush 999, 3) := by decide +kernel
theorem dX8_thousandths_6 : decode cX8_thousandths 6 = .ok (.iadd, 1) := by decide +kernel
theorem dX8_thousandths_7 : decode cX8_thousandths 7 = .ok (.sipush 1000, 3) := by decide +kernel
theorem dX8_thousandths_10 : decode cX8_thousandths 10 = .ok (.idiv, 1) := by decide +kernel
theorem dX8_thousandths_11 : decode cX8_thousandths 11 = .ok (.ireturn, 1) := by decide +kernel
theorem dX8_isReady_0 : decode cX8_isReady 0 = .ok (.iconst 0, 1) := by decide +kernel
theorem dX8_isReady_1 : decode cX8_isReady 1 = .ok (.istore_n 2, 1) := by decide +kernel
theorem dX8_isReady_2 : decode cX8_isReady 2 = .ok (.iload_n 2, 1) := by decide +kernel
theorem dX8_isReady_3 : decode cX8_isReady 3 = .ok (.bipush 12, 2) := by decide +kernel
theorem dX8_isReady_5 : decode cX8_isReady 5 = .ok (.if_icmp .ge 52, 3) := by decide +kernel
theorem dX8_isReady_8 : decode cX8_isReady 8 = .ok (.aload_n 0, 1) := by decide +kernel
theorem dX8_isReady_9 : decode cX8_isReady 9 = .ok (.getfield 20, 3) := by decide +kernel
theorem dX8_isReady_12 : decode cX8_isReady 12 = .ok (.iload_n 1, 1) := by decide +kernel
theorem dX8_isReady_13 : decode cX8_isReady 13 = .ok (.iaload, 1) := by decide +kernel
theorem dX8_isReady_14 : decode cX8_isReady 14 = .ok (.iconst 2, 1) := by decide +kernel
theorem dX8_isReady_15 : decode cX8_isReady 15 = .ok (.if_icmp .eq 36, 3) := by decide +kernel
theorem dX8_isReady_18 : decode cX8_isReady 18 = .ok (.aload_n 0, 1) := by decide +kernel
theorem dX8_isReady_19 : decode cX8_isReady 19 = .ok (.getfield 32, 3) := by decide +kernel
theorem dX8_isReady_22 : decode cX8_isReady 22 = .ok (.iload_n 1, 1) := by decide +kernel
theorem dX8_isReady_23 : decode cX8_isReady 23 = .ok (.iaload, 1) := by decide +kernel
theorem dX8_isReady_24 : decode cX8_isReady 24 = .ok (.iload_n 2, 1) := by decide +kernel
theorem dX8_isReady_25 : decode cX8_isReady 25 = .ok (.ishr, 1) := by decide +kernel
theorem dX8_isReady_26 : decode cX8_isReady 26 = .ok (.iconst 1, 1) := by decide +kernel
theorem dX8_isReady_27 : decode cX8_isReady 27 = .ok (.iand, 1) := by decide +kernel
theorem dX8_isReady_28 : decode cX8_isReady 28 = .ok (.iconst 1, 1) := by decide +kernel
theorem dX8_isReady_29 : decode cX8_isReady 29 = .ok (.if_icmp .ne 22, 3) := by decide +kernel
theorem dX8_isReady_32 : decode cX8_isReady 32 = .ok (.aload_n 0, 1) := by decide +kernel
theorem dX8_isReady_33 : decode cX8_isReady 33 = .ok (.iload_n 2, 1) := by decide +kernel
theorem dX8_isReady_34 : decode cX8_isReady 34 = .ok (.invokevirtual 121, 3) := by decide +kernel
theorem dX8_isReady_37 : decode cX8_isReady 37 = .ok (.ifCond .eq 14, 3) := by decide +kernel
theorem dX8_isReady_40 : decode cX8_isReady 40 = .ok (.aload_n 0, 1) := by decide +kernel
theorem dX8_isReady_41 : decode cX8_isReady 41 = .ok (.getfield 60, 3) := by decide +kernel
theorem dX8_isReady_44 : decode cX8_isReady 44 = .ok (.iload_n 2, 1) := by decide +kernel
theorem dX8_isReady_45 : decode cX8_isReady 45 = .ok (.baload, 1) := by decide +kernel
theorem dX8_isReady_46 : decode cX8_isReady 46 = .ok (.ifCond .ne 5, 3) := by decide +kernel
theorem dX8_isReady_49 : decode cX8_isReady 49 = .ok (.iconst 0, 1) := by decide +kernel
theorem dX8_isReady_50 : decode cX8_isReady 50 = .ok (.ireturn, 1) := by decide +kernel
theorem dX8_isReady_51 : decode cX8_isReady 51 = .ok (.iinc 2 1, 3) := by decide +kernel
theorem dX8_isReady_54 : decode cX8_isReady 54 = .ok (.goto (-52), 3) := by decide +kernel
theorem dX8_isReady_57 : decode cX8_isReady 57 = .ok (.iconst 1, 1) := by decide +kernel
theorem dX8_isReady_58 : decode cX8_isReady 58 = .ok (.ireturn, 1) := by decide +kernel
theorem dX8_beginning_0 : decode cX8_beginning 0 = .ok (.aload_n 0, 1) := by decide +kernel
theorem dX8_beginning_1 : decode cX8_beginning 1 = .ok (.getfield 20, 3) := by decide +kernel
theorem dX8_beginning_4 : decode cX8_beginning 4 = .ok (.iload_n 1, 1) := by decide +kernel
theorem dX8_beginning_5 : decode cX8_beginning 5 = .ok (.iaload, 1) := by decide +kernel
theorem dX8_beginning_6 : decode cX8_beginning 6 = .ok (.iconst 2, 1) := by decide +kernel
theorem dX8_beginning_7 : decode cX8_beginning 7 = .ok (.if_icmp .ne 10, 3) := by decide +kernel
theorem dX8_beginning_10 : decode cX8_beginning 10 = .ok (.aload_n 0, 1) := by decide +kernel
theorem dX8_beginning_11 : decode cX8_beginning 11 = .ok (.getfield 23, 3) := by decide +kernel
theorem dX8_beginning_14 : decode cX8_beginning 14 = .ok (.iload_n 1, 1) := by decide +kernel
theorem dX8_beginning_15 : decode cX8_beginning 15 = .ok (.iaload, 1) := by decide +kernel
theorem dX8_beginning_16 : decode cX8_beginning 16 = .ok (.ireturn, 1) := by decide +kernel
theorem dX8_beginning_17 : decode cX8_beginning 17 = .ok (.aload_n 0, 1) := by decide +kernel
theorem dX8_beginning_18 : decode cX8_beginning 18 = .ok (.getfield 23, 3) := by decide +kernel
theorem dX8_beginning_21 : decode cX8_beginning 21 = .ok (.iload_n 1, 1) := by decide +kernel
theorem dX8_beginning_22 : decode cX8_beginning 22 = .ok (.iaload, 1) := by decide +kernel
theorem dX8_beginning_23 : decode cX8_beginning 23 = .ok (.istore_n 2, 1) := by decide +kernel
theorem dX8_beginning_24 : decode cX8_beginning 24 = .ok (.iconst (-1), 1) := by decide +kernel
theorem dX8_beginning_25 : decode cX8_beginning 25 = .ok (.istore_n 3, 1) := by decide +kernel
theorem dX8_beginning_26 : decode cX8_beginning 26 = .ok (.iconst 0, 1) := by decide +kernel
theorem dX8_beginning_27 : decode cX8_beginning 27 = .ok (.istore 4, 2) := by decide +kernel
theorem dX8_beginning_29 : decode cX8_beginning 29 = .ok (.iconst 0, 1) := by decide +kernel
theorem dX8_beginning_30 : decode cX8_beginning 30 = .ok (.istore 5, 2) := by decide +kernel
theorem dX8_beginning_32 : decode cX8_beginning 32 = .ok (.iload 5, 2) := by decide +kernel
theorem dX8_beginning_34 : decode cX8_beginning 34 = .ok (.bipush 12, 2) := by decide +kernel
theorem dX8_beginning_36 : decode cX8_beginning 36 = .ok (.if_icmp .ge 122, 3) := by decide +kernel
theorem dX8_beginning_39 : decode cX8_beginning 39 = .ok (.aload_n 0, 1) := by decide +kernel
theorem dX8_beginning_40 : decode cX8_beginning 40 = .ok (.getfield 32, 3) := by decide +kernel
theorem dX8_beginning_43 : decode cX8_beginning 43 = .ok (.iload_n 1, 1) := by decide +kernel
theorem dX8_beginning_44 : decode cX8_beginning 44 = .ok (.iaload, 1) := by decide +kernel
theorem dX8_beginning_45 : decode cX8_beginning 45 = .ok (.iload 5, 2) := by decide +kernel
theorem dX8_beginning_47 : decode cX8_beginning 47 = .ok (.ishr, 1) := by decide +kernel
theorem dX8_beginning_48 : decode cX8_beginning 48 = .ok (.iconst 1, 1) := by decide +kernel
theorem dX8_beginning_49 : decode cX8_beginning 49 = .ok (.iand, 1) := by decide +kernel
theorem dX8_beginning_50 : decode cX8_beginning 50 = .ok (.ifCond .eq 102, 3) := by decide +kernel
theorem dX8_beginning_53 : decode cX8_beginning 53 = .ok (.aload_n 0, 1) := by decide +kernel
theorem dX8_beginning_54 : decode cX8_beginning 54 = .ok (.iload 5, 2) := by decide +kernel
theorem dX8_beginning_56 : decode cX8_beginning 56 = .ok (.invokevirtual 121, 3) := by decide +kernel
theorem dX8_beginning_59 : decode cX8_beginning 59 = .ok (.ifCond .ne 6, 3) := by decide +kernel
theorem dX8_beginning_62 : decode cX8_beginning 62 = .ok (.goto 90, 3) := by decide +kernel
theorem dX8_beginning_65 : decode cX8_beginning 65 = .ok (.iconst 1, 1) := by decide +kernel
theorem dX8_beginning_66 : decode cX8_beginning 66 = .ok (.istore 4, 2) := by decide +kernel
theorem dX8_beginning_68 : decode cX8_beginning 68 = .ok (.aload_n 0, 1) := by decide +kernel
theorem dX8_beginning_69 : decode cX8_beginning 69 = .ok (.getfield 20, 3) := by decide +kernel
theorem dX8_beginning_72 : decode cX8_beginning 72 = .ok (.iload_n 1, 1) := by decide +kernel
theorem dX8_beginning_73 : decode cX8_beginning 73 = .ok (.iaload, 1) := by decide +kernel
theorem dX8_beginning_74 : decode cX8_beginning 74 = .ok (.iconst 4, 1) := by decide +kernel
theorem dX8_beginning_75 : decode cX8_beginning 75 = .ok (.if_icmp .ne 41, 3) := by decide +kernel
theorem dX8_beginning_78 : decode cX8_beginning 78 = .ok (.aload_n 0, 1) := by decide +kernel
theorem dX8_beginning_79 : decode cX8_beginning 79 = .ok (.getfield 63, 3) := by decide +kernel
theorem dX8_beginning_82 : decode cX8_beginning 82 = .ok (.iload 5, 2) := by decide +kernel
theorem dX8_beginning_84 : decode cX8_beginning 84 = .ok (.iaload, 1) := by decide +kernel
theorem dX8_beginning_85 : decode cX8_beginning 85 = .ok (.iconst (-1), 1) := by decide +kernel
theorem dX8_beginning_86 : decode cX8_beginning 86 = .ok (.if_icmp .eq 66, 3) := by decide +kernel
theorem dX8_beginning_89 : decode cX8_beginning 89 = .ok (.iload_n 3, 1) := by decide +kernel
theorem dX8_beginning_90 : decode cX8_beginning 90 = .ok (.iconst (-1), 1) := by decide +kernel
theorem dX8_beginning_91 : decode cX8_beginning 91 = .ok (.if_icmp .eq 14, 3) := by decide +kernel
theorem dX8_beginning_94 : decode cX8_beginning 94 = .ok (.aload_n 0, 1) := by decide +kernel
theorem dX8_beginning_95 : decode cX8_beginning 95 = .ok (.getfield 63, 3) := by decide +kernel
theorem dX8_beginning_98 : decode cX8_beginning 98 = .ok (.iload 5, 2) := by decide +kernel
theorem dX8_beginning_100 : decode cX8_beginning 100 = .ok (.iaload, 1) := by decide +kernel
theorem dX8_beginning_101 : decode cX8_beginning 101 = .ok (.iload_n 3, 1) := by decide +kernel
theorem dX8_beginning_102 : decode cX8_beginning 102 = .ok (.if_icmp .ge 50, 3) := by decide +kernel
theorem dX8_beginning_105 : decode cX8_beginning 105 = .ok (.aload_n 0, 1) := by decide +kernel
theorem dX8_beginning_106 : decode cX8_beginning 106 = .ok (.getfield 63, 3) := by decide +kernel
theorem dX8_beginning_109 : decode cX8_beginning 109 = .ok (.iload 5, 2) := by decide +kernel
theorem dX8_beginning_111 : decode cX8_beginning 111 = .ok (.iaload, 1) := by decide +kernel
theorem dX8_beginning_112 : decode cX8_beginning 112 = .ok (.istore_n 3, 1) := by decide +kernel
theorem dX8_beginning_113 : decode cX8_beginning 113 = .ok (.goto 39, 3) := by decide +kernel
theorem dX8_beginning_116 : decode cX8_beginning 116 = .ok (.aload_n 0, 1) := by decide +kernel
theorem dX8_beginning_117 : decode cX8_beginning 117 = .ok (.getfield 66, 3) := by decide +kernel
theorem dX8_beginning_120 : decode cX8_beginning 120 = .ok (.iload 5, 2) := by decide +kernel
theorem dX8_beginning_122 : decode cX8_beginning 122 = .ok (.iaload, 1) := by decide +kernel
theorem dX8_beginning_123 : decode cX8_beginning 123 = .ok (.iconst (-1), 1) := by decide +kernel
theorem dX8_beginning_124 : decode cX8_beginning 124 = .ok (.if_icmp .ne 5, 3) := by decide +kernel
theorem dX8_beginning_127 : decode cX8_beginning 127 = .ok (.iconst (-1), 1) := by decide +kernel
theorem dX8_beginning_128 : decode cX8_beginning 128 = .ok (.ireturn, 1) := by decide +kernel
theorem dX8_beginning_129 : decode cX8_beginning 129 = .ok (.aload_n 0, 1) := by decide +kernel
theorem dX8_beginning_130 : decode cX8_beginning 130 = .ok (.getfield 66, 3) := by decide +kernel
theorem dX8_beginning_133 : decode cX8_beginning 133 = .ok (.iload 5, 2) := by decide +kernel
theorem dX8_beginning_135 : decode cX8_beginning 135 = .ok (.iaload, 1) := by decide +kernel
theorem dX8_beginning_136 : decode cX8_beginning 136 = .ok (.iconst 1, 1) := by decide +kernel
theorem dX8_beginning_137 : decode cX8_beginning 137 = .ok (.iadd, 1) := by decide +kernel
theorem dX8_beginning_138 : decode cX8_beginning 138 = .ok (.iload_n 2, 1) := by decide +kernel
theorem dX8_beginning_139 : decode cX8_beginning 139 = .ok (.if_icmp .le 13, 3) := by decide +kernel
theorem dX8_beginning_142 : decode cX8_beginning 142 = .ok (.aload_n 0, 1) := by decide +kernel
theorem dX8_beginning_143 : decode cX8_beginning 143 = .ok (.getfield 66, 3) := by decide +kernel
theorem dX8_beginning_146 : decode cX8_beginning 146 = .ok (.iload 5, 2) := by decide +kernel
theorem dX8_beginning_148 : decode cX8_beginning 148 = .ok (.iaload, 1) := by decide +kernel
theorem dX8_beginning_149 : decode cX8_beginning 149 = .ok (.iconst 1, 1) := by decide +kernel
theorem dX8_beginning_150 : decode cX8_beginning 150 = .ok (.iadd, 1) := by decide +kernel
theorem dX8_beginning_151 : decode cX8_beginning 151 = .ok (.istore_n 2, 1) := by decide +kernel
theorem dX8_beginning_152 : decode cX8_beginning 152 = .ok (.iinc 5 1, 3) := by decide +kernel
theorem dX8_beginning_155 : decode cX8_beginning 155 = .ok (.goto (-123), 3) := by decide +kernel
theorem dX8_beginning_158 : decode cX8_beginning 158 = .ok (.aload_n 0, 1) := by decide +kernel
theorem dX8_beginning_159 : decode cX8_beginning 159 = .ok (.getfield 20, 3) := by decide +kernel
theorem dX8_beginning_162 : decode cX8_beginning 162 = .ok (.iload_n 1, 1) := by decide +kernel
theorem dX8_beginning_163 : decode cX8_beginning 163 = .ok (.iaload, 1) := by decide +kernel
theorem dX8_beginning_164 : decode cX8_beginning 164 = .ok (.iconst 4, 1) := by decide +kernel
theorem dX8_beginning_165 : decode cX8_beginning 165 = .ok (.if_icmp .ne 26, 3) := by decide +kernel
theorem dX8_beginning_168 : decode cX8_beginning 168 = .ok (.iload 4, 2) := by decide +kernel
theorem dX8_beginning_170 : decode cX8_beginning 170 = .ok (.ifCond .eq 21, 3) := by decide +kernel
theorem dX8_beginning_173 : decode cX8_beginning 173 = .ok (.iload_n 3, 1) := by decide +kernel
theorem dX8_beginning_174 : decode cX8_beginning 174 = .ok (.iconst (-1), 1) := by decide +kernel
theorem dX8_beginning_175 : decode cX8_beginning 175 = .ok (.if_icmp .ne 5, 3) := by decide +kernel
theorem dX8_beginning_178 : decode cX8_beginning 178 = .ok (.iconst (-1), 1) := by decide +kernel
theorem dX8_beginning_179 : decode cX8_beginning 179 = .ok (.ireturn, 1) := by decide +kernel
theorem dX8_beginning_180 : decode cX8_beginning 180 = .ok (.iload_n 3, 1) := by decide +kernel
theorem dX8_beginning_181 : decode cX8_beginning 181 = .ok (.iload_n 2, 1) := by decide +kernel
theorem dX8_beginning_182 : decode cX8_beginning 182 = .ok (.if_icmp .le 7, 3) := by decide +kernel
theorem dX8_beginning_185 : decode cX8_beginning 185 = .ok (.iload_n 3, 1) := by decide +kernel
theorem dX8_beginning_186 : decode cX8_beginning 186 = .ok (.goto 4, 3) := by decide +kernel
theorem dX8_beginning_189 : decode cX8_beginning 189 = .ok (.iload_n 2, 1) := by decide +kernel
theorem dX8_beginning_190 : decode cX8_beginning 190 = .ok (.istore_n 2, 1) := by decide +kernel
theorem dX8_beginning_191 : decode cX8_beginning 191 = .ok (.iload_n 2, 1) := by decide +kernel
theorem dX8_beginning_192 : decode cX8_beginning 192 = .ok (.sipush 3600, 3) := by decide +kernel
theorem dX8_beginning_195 : decode cX8_beginning 195 = .ok (.if_icmp .lt 7, 3) := by decide +kernel
theorem dX8_beginning_198 : decode cX8_beginning 198 = .ok (.iconst (-1), 1) := by decide +kernel
theorem dX8_beginning_199 : decode cX8_beginning 199 = .ok (.goto 4, 3) := by decide +kernel
theorem dX8_beginning_202 : decode cX8_beginning 202 = .ok (.iload_n 2, 1) := by decide +kernel
theorem dX8_beginning_203 : decode cX8_beginning 203 = .ok (.ireturn, 1) := by decide +kernel
theorem dX8_goThrough_0 : decode cX8_goThrough 0 = .ok (.aload_n 0, 1) := by decide +kernel
theorem dX8_goThrough_1 : decode cX8_goThrough 1 = .ok (.getfield 63, 3) := by decide +kernel
theorem dX8_goThrough_4 : decode cX8_goThrough 4 = .ok (.iload_n 2, 1) := by decide +kernel
theorem dX8_goThrough_5 : decode cX8_goThrough 5 = .ok (.aload_n 0, 1) := by decide +kernel
theorem dX8_goThrough_6 : decode cX8_goThrough 6 = .ok (.iload_n 2, 1) := by decide +kernel
theorem dX8_goThrough_7 : decode cX8_goThrough 7 = .ok (.invokevirtual 124, 3) := by decide +kernel
theorem dX8_goThrough_10 : decode cX8_goThrough 10 = .ok (.iastore, 1) := by decide +kernel
theorem dX8_goThrough_11 : decode cX8_goThrough 11 = .ok (.aload_n 0, 1) := by decide +kernel
theorem dX8_goThrough_12 : decode cX8_goThrough 12 = .ok (.getfield 66, 3) := by decide +kernel
theorem dX8_goThrough_15 : decode cX8_goThrough 15 = .ok (.iload_n 2, 1) := by decide +kernel
theorem dX8_goThrough_16 : decode cX8_goThrough 16 = .ok (.iconst (-1), 1) := by decide +kernel
theorem dX8_goThrough_17 : decode cX8_goThrough 17 = .ok (.iastore, 1) := by decide +kernel
theorem dX8_goThrough_18 : decode cX8_goThrough 18 = .ok (.iconst 0, 1) := by decide +kernel
theorem dX8_goThrough_19 : decode cX8_goThrough 19 = .ok (.istore 4, 2) := by decide +kernel
theorem dX8_goThrough_21 : decode cX8_goThrough 21 = .ok (.iconst 0, 1) := by decide +kernel
theorem dX8_goThrough_22 : decode cX8_goThrough 22 = .ok (.istore 5, 2) := by decide +kernel
theorem dX8_goThrough_24 : decode cX8_goThrough 24 = .ok (.iconst 0, 1) := by decide +kernel
theorem dX8_goThrough_25 : decode cX8_goThrough 25 = .ok (.istore 6, 2) := by decide +kernel
theorem dX8_goThrough_27 : decode cX8_goThrough 27 = .ok (.aload_n 0, 1) := by decide +kernel
theorem dX8_goThrough_28 : decode cX8_goThrough 28 = .ok (.getfield 29, 3) := by decide +kernel
theorem dX8_goThrough_31 : decode cX8_goThrough 31 = .ok (.iload_n 2, 1) := by decide +kernel
theorem dX8_goThrough_32 : decode cX8_goThrough 32 = .ok (.iaload, 1) := by decide +kernel
theorem dX8_goThrough_33 : decode cX8_goThrough 33 = .ok (.aload_n 0, 1) := by decide +kernel
theorem dX8_goThrough_34 : decode cX8_goThrough 34 = .ok (.getfield 29, 3) := by decide +kernel
theorem dX8_goThrough_37 : decode cX8_goThrough 37 = .ok (.iload_n 2, 1) := by decide +kernel
theorem dX8_goThrough_38 : decode cX8_goThrough 38 = .ok (.iaload, 1) := by decide +kernel
theorem dX8_goThrough_39 : decode cX8_goThrough 39 = .ok (.aload_n 0, 1) := by decide +kernel
theorem dX8_goThrough_40 : decode cX8_goThrough 40 = .ok (.getfield 38, 3) := by decide +kernel
theorem dX8_goThrough_43 : decode cX8_goThrough 43 = .ok (.iload_n 2, 1) := by decide +kernel
theorem dX8_goThrough_44 : decode cX8_goThrough 44 = .ok (.iaload, 1) := by decide +kernel
theorem dX8_goThrough_45 : decode cX8_goThrough 45 = .ok (.invokestatic 128, 3) := by decide +kernel
theorem dX8_goThrough_48 : decode cX8_goThrough 48 = .ok (.isub, 1) := by decide +kernel
theorem dX8_goThrough_49 : decode cX8_goThrough 49 = .ok (.istore 7, 2) := by decide +kernel
theorem dX8_goThrough_51 : decode cX8_goThrough 51 = .ok (.iconst 0, 1) := by decide +kernel
theorem dX8_goThrough_52 : decode cX8_goThrough 52 = .ok (.istore 8, 2) := by decide +kernel
theorem dX8_goThrough_54 : decode cX8_goThrough 54 = .ok (.iload 8, 2) := by decide +kernel
theorem dX8_goThrough_56 : decode cX8_goThrough 56 = .ok (.sipush 3600, 3) := by decide +kernel
theorem dX8_goThrough_59 : decode cX8_goThrough 59 = .ok (.if_icmp .ge 283, 3) := by decide +kernel
theorem dX8_goThrough_62 : decode cX8_goThrough 62 = .ok (.aload_n 0, 1) := by decide +kernel
theorem dX8_goThrough_63 : decode cX8_goThrough 63 = .ok (.getfield 66, 3) := by decide +kernel
theorem dX8_goThrough_66 : decode cX8_goThrough 66 = .ok (.iload_n 2, 1) := by decide +kernel
theorem dX8_goThrough_67 : decode cX8_goThrough 67 = .ok (.iaload, 1) := by decide +kernel
theorem dX8_goThrough_68 : decode cX8_goThrough 68 = .ok (.iconst (-1), 1) := by decide +kernel
theorem dX8_goThrough_69 : decode cX8_goThrough 69 = .ok (.if_icmp .ne 65, 3) := by decide +kernel
theorem dX8_goThrough_72 : decode cX8_goThrough 72 = .ok (.aload_n 0, 1) := by decide +kernel
theorem dX8_goThrough_73 : decode cX8_goThrough 73 = .ok (.bipush 6, 2) := by decide +kernel
theorem dX8_goThrough_75 : decode cX8_goThrough 75 = .ok (.iload_n 2, 1) := by decide +kernel
theorem dX8_goThrough_76 : decode cX8_goThrough 76 = .ok (.iload 8, 2) := by decide +kernel
theorem dX8_goThrough_78 : decode cX8_goThrough 78 = .ok (.invokevirtual 132, 3) := by decide +kernel
theorem dX8_goThrough_81 : decode cX8_goThrough 81 = .ok (.iconst (-1), 1) := by decide +kernel
theorem dX8_goThrough_82 : decode cX8_goThrough 82 = .ok (.if_icmp .ne 52, 3) := by decide +kernel
theorem dX8_goThrough_85 : decode cX8_goThrough 85 = .ok (.aload_n 0, 1) := by decide +kernel
theorem dX8_goThrough_86 : decode cX8_goThrough 86 = .ok (.bipush 7, 2) := by decide +kernel
theorem dX8_goThrough_88 : decode cX8_goThrough 88 = .ok (.iload_n 2, 1) := by decide +kernel
theorem dX8_goThrough_89 : decode cX8_goThrough 89 = .ok (.iload 8, 2) := by decide +kernel
theorem dX8_goThrough_91 : decode cX8_goThrough 91 = .ok (.invokevirtual 132, 3) := by decide +kernel
theorem dX8_goThrough_94 : decode cX8_goThrough 94 = .ok (.iconst (-1), 1) := by decide +kernel
theorem dX8_goThrough_95 : decode cX8_goThrough 95 = .ok (.if_icmp .ne 35, 3) := by decide +kernel
theorem dX8_goThrough_98 : decode cX8_goThrough 98 = .ok (.aload_n 0, 1) := by decide +kernel
theorem dX8_goThrough_99 : decode cX8_goThrough 99 = .ok (.getfield 63, 3) := by decide +kernel
theorem dX8_goThrough_102 : decode cX8_goThrough 102 = .ok (.iload_n 2, 1) := by decide +kernel
theorem dX8_goThrough_103 : decode cX8_goThrough 103 = .ok (.iaload, 1) := by decide +kernel
theorem dX8_goThrough_104 : decode cX8_goThrough 104 = .ok (.iconst (-1), 1) := by decide +kernel
theorem dX8_goThrough_105 : decode cX8_goThrough 105 = .ok (.if_icmp .eq 29, 3) := by decide +kernel
theorem dX8_goThrough_108 : decode cX8_goThrough 108 = .ok (.aload_n 0, 1) := by decide +kernel
theorem dX8_goThrough_109 : decode cX8_goThrough 109 = .ok (.getfield 63, 3) := by decide +kernel
theorem dX8_goThrough_112 : decode cX8_goThrough 112 = .ok (.iload_n 2, 1) := by decide +kernel
theorem dX8_goThrough_113 : decode cX8_goThrough 113 = .ok (.iaload, 1) := by decide +kernel
theorem dX8_goThrough_114 : decode cX8_goThrough 114 = .ok (.iload 8, 2) := by decide +kernel
theorem dX8_goThrough_116 : decode cX8_goThrough 116 = .ok (.if_icmp .gt 18, 3) := by decide +kernel
theorem dX8_goThrough_119 : decode cX8_goThrough 119 = .ok (.aload_n 0, 1) := by decide +kernel
theorem dX8_goThrough_120 : decode cX8_goThrough 120 = .ok (.iload_n 1, 1) := by decide +kernel
theorem dX8_goThrough_121 : decode cX8_goThrough 121 = .ok (.iload 8, 2) := by decide +kernel
theorem dX8_goThrough_123 : decode cX8_goThrough 123 = .ok (.iload_n 3, 1) := by decide +kernel
theorem dX8_goThrough_124 : decode cX8_goThrough 124 = .ok (.invokevirtual 136, 3) := by decide +kernel
theorem dX8_goThrough_127 : decode cX8_goThrough 127 = .ok (.ifCond .eq 7, 3) := by decide +kernel
theorem dX8_goThrough_130 : decode cX8_goThrough 130 = .ok (.iconst 1, 1) := by decide +kernel
theorem dX8_goThrough_131 : decode cX8_goThrough 131 = .ok (.goto 4, 3) := by decide +kernel
theorem dX8_goThrough_134 : decode cX8_goThrough 134 = .ok (.iconst 0, 1) := by decide +kernel
theorem dX8_goThrough_135 : decode cX8_goThrough 135 = .ok (.istore 9, 2) := by decide +kernel
theorem dX8_goThrough_137 : decode cX8_goThrough 137 = .ok (.aload_n 0, 1) := by decide +kernel
theorem dX8_goThrough_138 : decode cX8_goThrough 138 = .ok (.getfield 70, 3) := by decide +kernel
theorem dX8_goThrough_141 : decode cX8_goThrough 141 = .ok (.sipush 3600, 3) := by decide +kernel
theorem dX8_goThrough_144 : decode cX8_goThrough 144 = .ok (.iload_n 2, 1) := by decide +kernel
theorem dX8_goThrough_145 : decode cX8_goThrough 145 = .ok (.imul, 1) := by decide +kernel
theorem dX8_goThrough_146 : decode cX8_goThrough 146 = .ok (.iload 8, 2) := by decide +kernel
theorem dX8_goThrough_148 : decode cX8_goThrough 148 = .ok (.iadd, 1) := by decide +kernel
theorem dX8_goThrough_149 : decode cX8_goThrough 149 = .ok (.iload 9, 2) := by decide +kernel
theorem dX8_goThrough_151 : decode cX8_goThrough 151 = .ok (.bastore, 1) := by decide +kernel
theorem dX8_goThrough_152 : decode cX8_goThrough 152 = .ok (.iload 9, 2) := by decide +kernel
theorem dX8_goThrough_154 : decode cX8_goThrough 154 = .ok (.ifCond .eq 12, 3) := by decide +kernel
theorem dX8_goThrough_157 : decode cX8_goThrough 157 = .ok (.iinc 4 1, 3) := by decide +kernel
theorem dX8_goThrough_160 : decode cX8_goThrough 160 = .ok (.iinc 6 1, 3) := by decide +kernel
theorem dX8_goThrough_163 : decode cX8_goThrough 163 = .ok (.goto 38, 3) := by decide +kernel
theorem dX8_goThrough_166 : decode cX8_goThrough 166 = .ok (.iload 6, 2) := by decide +kernel
theorem dX8_goThrough_168 : decode cX8_goThrough 168 = .ok (.ifCond .le 33, 3) := by decide +kernel
theorem dX8_goThrough_171 : decode cX8_goThrough 171 = .ok (.iload 5, 2) := by decide +kernel
theorem dX8_goThrough_173 : decode cX8_goThrough 173 = .ok (.aload_n 0, 1) := by decide +kernel
theorem dX8_goThrough_174 : decode cX8_goThrough 174 = .ok (.getfield 35, 3) := by decide +kernel
theorem dX8_goThrough_177 : decode cX8_goThrough 177 = .ok (.iload_n 2, 1) := by decide +kernel
theorem dX8_goThrough_178 : decode cX8_goThrough 178 = .ok (.iaload, 1) := by decide +kernel
theorem dX8_goThrough_179 : decode cX8_goThrough 179 = .ok (.ifCond .le 15, 3) := by decide +kernel
theorem dX8_goThrough_182 : decode cX8_goThrough 182 = .ok (.iload 6, 2) := by decide +kernel
theorem dX8_goThrough_184 : decode cX8_goThrough 184 = .ok (.aload_n 0, 1) := by decide +kernel
theorem dX8_goThrough_185 : decode cX8_goThrough 185 = .ok (.getfield 35, 3) := by decide +kernel
theorem dX8_goThrough_188 : decode cX8_goThrough 188 = .ok (.iload_n 2, 1) := by decide +kernel
theorem dX8_goThrough_189 : decode cX8_goThrough 189 = .ok (.iaload, 1) := by decide +kernel
theorem dX8_goThrough_190 : decode cX8_goThrough 190 = .ok (.idiv, 1) := by decide +kernel
theorem dX8_goThrough_191 : decode cX8_goThrough 191 = .ok (.goto 4, 3) := by decide +kernel
theorem dX8_goThrough_194 : decode cX8_goThrough 194 = .ok (.iconst 0, 1) := by decide +kernel
theorem dX8_goThrough_195 : decode cX8_goThrough 195 = .ok (.iadd, 1) := by decide +kernel
theorem dX8_goThrough_196 : decode cX8_goThrough 196 = .ok (.istore 5, 2) := by decide +kernel
theorem dX8_goThrough_198 : decode cX8_goThrough 198 = .ok (.iconst 0, 1) := by decide +kernel
theorem dX8_goThrough_199 : decode cX8_goThrough 199 = .ok (.istore 6, 2) := by decide +kernel
theorem dX8_goThrough_201 : decode cX8_goThrough 201 = .ok (.iload 5, 2) := by decide +kernel
theorem dX8_goThrough_203 : decode cX8_goThrough 203 = .ok (.aload_n 0, 1) := by decide +kernel
theorem dX8_goThrough_204 : decode cX8_goThrough 204 = .ok (.getfield 35, 3) := by decide +kernel
theorem dX8_goThrough_207 : decode cX8_goThrough 207 = .ok (.iload_n 2, 1) := by decide +kernel
theorem dX8_goThrough_208 : decode cX8_goThrough 208 = .ok (.iaload, 1) := by decide +kernel
theorem dX8_goThrough_209 : decode cX8_goThrough 209 = .ok (.ifCond .le 15, 3) := by decide +kernel
theorem dX8_goThrough_212 : decode cX8_goThrough 212 = .ok (.iload 6, 2) := by decide +kernel
theorem dX8_goThrough_214 : decode cX8_goThrough 214 = .ok (.aload_n 0, 1) := by decide +kernel
theorem dX8_goThrough_215 : decode cX8_goThrough 215 = .ok (.getfield 35, 3) := by decide +kernel
theorem dX8_goThrough_218 : decode cX8_goThrough 218 = .ok (.iload_n 2, 1) := by decide +kernel
theorem dX8_goThrough_219 : decode cX8_goThrough 219 = .ok (.iaload, 1) := by decide +kernel
theorem dX8_goThrough_220 : decode cX8_goThrough 220 = .ok (.idiv, 1) := by decide +kernel
theorem dX8_goThrough_221 : decode cX8_goThrough 221 = .ok (.goto 4, 3) := by decide +kernel
theorem dX8_goThrough_224 : decode cX8_goThrough 224 = .ok (.iconst 0, 1) := by decide +kernel
theorem dX8_goThrough_225 : decode cX8_goThrough 225 = .ok (.iadd, 1) := by decide +kernel
theorem dX8_goThrough_226 : decode cX8_goThrough 226 = .ok (.istore 10, 2) := by decide +kernel
theorem dX8_goThrough_228 : decode cX8_goThrough 228 = .ok (.iload 10, 2) := by decide +kernel
theorem dX8_goThrough_230 : decode cX8_goThrough 230 = .ok (.iload 7, 2) := by decide +kernel
theorem dX8_goThrough_232 : decode cX8_goThrough 232 = .ok (.if_icmp .le 8, 3) := by decide +kernel
theorem dX8_goThrough_235 : decode cX8_goThrough 235 = .ok (.iload 7, 2) := by decide +kernel
theorem dX8_goThrough_237 : decode cX8_goThrough 237 = .ok (.goto 5, 3) := by decide +kernel
theorem dX8_goThrough_240 : decode cX8_goThrough 240 = .ok (.iload 10, 2) := by decide +kernel
theorem dX8_goThrough_242 : decode cX8_goThrough 242 = .ok (.istore 10, 2) := by decide +kernel
theorem dX8_goThrough_244 : decode cX8_goThrough 244 = .ok (.aload_n 0, 1) := by decide +kernel
theorem dX8_goThrough_245 : decode cX8_goThrough 245 = .ok (.getfield 73, 3) := by decide +kernel
theorem dX8_goThrough_248 : decode cX8_goThrough 248 = .ok (.sipush 3600, 3) := by decide +kernel
theorem dX8_goThrough_251 : decode cX8_goThrough 251 = .ok (.iload_n 2, 1) := by decide +kernel
theorem dX8_goThrough_252 : decode cX8_goThrough 252 = .ok (.imul, 1) := by decide +kernel
theorem dX8_goThrough_253 : decode cX8_goThrough 253 = .ok (.iload 8, 2) := by decide +kernel
theorem dX8_goThrough_255 : decode cX8_goThrough 255 = .ok (.iadd, 1) := by decide +kernel
theorem dX8_goThrough_256 : decode cX8_goThrough 256 = .ok (.iload 4, 2) := by decide +kernel
theorem dX8_goThrough_258 : decode cX8_goThrough 258 = .ok (.iastore, 1) := by decide +kernel
theorem dX8_goThrough_259 : decode cX8_goThrough 259 = .ok (.aload_n 0, 1) := by decide +kernel
theorem dX8_goThrough_260 : decode cX8_goThrough 260 = .ok (.getfield 76, 3) := by decide +kernel
theorem dX8_goThrough_263 : decode cX8_goThrough 263 = .ok (.sipush 3600, 3) := by decide +kernel
theorem dX8_goThrough_266 : decode cX8_goThrough 266 = .ok (.iload_n 2, 1) := by decide +kernel
theorem dX8_goThrough_267 : decode cX8_goThrough 267 = .ok (.imul, 1) := by decide +kernel
theorem dX8_goThrough_268 : decode cX8_goThrough 268 = .ok (.iload 8, 2) := by decide +kernel
theorem dX8_goThrough_270 : decode cX8_goThrough 270 = .ok (.iadd, 1) := by decide +kernel
theorem dX8_goThrough_271 : decode cX8_goThrough 271 = .ok (.iload 10, 2) := by decide +kernel
theorem dX8_goThrough_273 : decode cX8_goThrough 273 = .ok (.iastore, 1) := by decide +kernel
theorem dX8_goThrough_274 : decode cX8_goThrough 274 = .ok (.iload 10, 2) := by decide +kernel
theorem dX8_goThrough_276 : decode cX8_goThrough 276 = .ok (.aload_n 0, 1) := by decide +kernel
theorem dX8_goThrough_277 : decode cX8_goThrough 277 = .ok (.getfield 41, 3) := by decide +kernel
theorem dX8_goThrough_280 : decode cX8_goThrough 280 = .ok (.iload_n 2, 1) := by decide +kernel
theorem dX8_goThrough_281 : decode cX8_goThrough 281 = .ok (.iaload, 1) := by decide +kernel
theorem dX8_goThrough_282 : decode cX8_goThrough 282 = .ok (.isub, 1) := by decide +kernel
theorem dX8_goThrough_283 : decode cX8_goThrough 283 = .ok (.istore 11, 2) := by decide +kernel
theorem dX8_goThrough_285 : decode cX8_goThrough 285 = .ok (.aload_n 0, 1) := by decide +kernel
theorem dX8_goThrough_286 : decode cX8_goThrough 286 = .ok (.getfield 66, 3) := by decide +kernel
theorem dX8_goThrough_289 : decode cX8_goThrough 289 = .ok (.iload_n 2, 1) := by decide +kernel
theorem dX8_goThrough_290 : decode cX8_goThrough 290 = .ok (.iaload, 1) := by decide +kernel
theorem dX8_goThrough_291 : decode cX8_goThrough 291 = .ok (.iconst (-1), 1) := by decide +kernel
theorem dX8_goThrough_292 : decode cX8_goThrough 292 = .ok (.if_icmp .ne 44, 3) := by decide +kernel
theorem dX8_goThrough_295 : decode cX8_goThrough 295 = .ok (.aload_n 0, 1) := by decide +kernel
theorem dX8_goThrough_296 : decode cX8_goThrough 296 = .ok (.getfield 20, 3) := by decide +kernel
theorem dX8_goThrough_299 : decode cX8_goThrough 299 = .ok (.iload_n 2, 1) := by decide +kernel
theorem dX8_goThrough_300 : decode cX8_goThrough 300 = .ok (.iaload, 1) := by decide +kernel
theorem dX8_goThrough_301 : decode cX8_goThrough 301 = .ok (.iconst 5, 1) := by decide +kernel
theorem dX8_goThrough_302 : decode cX8_goThrough 302 = .ok (.if_icmp .eq 34, 3) := by decide +kernel
theorem dX8_goThrough_305 : decode cX8_goThrough 305 = .ok (.iload 4, 2) := by decide +kernel
theorem dX8_goThrough_307 : decode cX8_goThrough 307 = .ok (.iload 11, 2) := by decide +kernel
theorem dX8_goThrough_309 : decode cX8_goThrough 309 = .ok (.ifCond .le 8, 3) := by decide +kernel
theorem dX8_goThrough_312 : decode cX8_goThrough 312 = .ok (.iload 11, 2) := by decide +kernel
theorem dX8_goThrough_314 : decode cX8_goThrough 314 = .ok (.goto 4, 3) := by decide +kernel
theorem dX8_goThrough_317 : decode cX8_goThrough 317 = .ok (.iconst 0, 1) := by decide +kernel
theorem dX8_goThrough_318 : decode cX8_goThrough 318 = .ok (.iadd, 1) := by decide +kernel
theorem dX8_goThrough_319 : decode cX8_goThrough 319 = .ok (.aload_n 0, 1) := by decide +kernel
theorem dX8_goThrough_320 : decode cX8_goThrough 320 = .ok (.getfield 29, 3) := by decide +kernel
theorem dX8_goThrough_323 : decode cX8_goThrough 323 = .ok (.iload_n 2, 1) := by decide +kernel
theorem dX8_goThrough_324 : decode cX8_goThrough 324 = .ok (.iaload, 1) := by decide +kernel
theorem dX8_goThrough_325 : decode cX8_goThrough 325 = .ok (.if_icmp .lt 11, 3) := by decide +kernel
theorem dX8_goThrough_328 : decode cX8_goThrough 328 = .ok (.aload_n 0, 1) := by decide +kernel
theorem dX8_goThrough_329 : decode cX8_goThrough 329 = .ok (.getfield 66, 3) := by decide +kernel
theorem dX8_goThrough_332 : decode cX8_goThrough 332 = .ok (.iload_n 2, 1) := by decide +kernel
theorem dX8_goThrough_333 : decode cX8_goThrough 333 = .ok (.iload 8, 2) := by decide +kernel
theorem dX8_goThrough_335 : decode cX8_goThrough 335 = .ok (.iastore, 1) := by decide +kernel
theorem dX8_goThrough_336 : decode cX8_goThrough 336 = .ok (.iinc 8 1, 3) := by decide +kernel
theorem dX8_goThrough_339 : decode cX8_goThrough 339 = .ok (.goto (-285), 3) := by decide +kernel
theorem dX8_goThrough_342 : decode cX8_goThrough 342 = .ok (.return_, 1) := by decide +kernel
theorem dX8_reckon_0 : decode cX8_reckon 0 = .ok (.aload_n 0, 1) := by decide +kernel
theorem dX8_reckon_1 : decode cX8_reckon 1 = .ok (.iload_n 1, 1) := by decide +kernel
theorem dX8_reckon_2 : decode cX8_reckon 2 = .ok (.iload_n 2, 1) := by decide +kernel
theorem dX8_reckon_3 : decode cX8_reckon 3 = .ok (.invokevirtual 140, 3) := by decide +kernel
theorem dX8_reckon_6 : decode cX8_reckon 6 = .ok (.iconst 0, 1) := by decide +kernel
theorem dX8_reckon_7 : decode cX8_reckon 7 = .ok (.istore 4, 2) := by decide +kernel
theorem dX8_reckon_9 : decode cX8_reckon 9 = .ok (.iload 4, 2) := by decide +kernel
theorem dX8_reckon_11 : decode cX8_reckon 11 = .ok (.bipush 12, 2) := by decide +kernel
theorem dX8_reckon_13 : decode cX8_reckon 13 = .ok (.if_icmp .ge 17, 3) := by decide +kernel
theorem dX8_reckon_16 : decode cX8_reckon 16 = .ok (.aload_n 0, 1) := by decide +kernel
theorem dX8_reckon_17 : decode cX8_reckon 17 = .ok (.getfield 60, 3) := by decide +kernel
theorem dX8_reckon_20 : decode cX8_reckon 20 = .ok (.iload 4, 2) := by decide +kernel
theorem dX8_reckon_22 : decode cX8_reckon 22 = .ok (.iconst 0, 1) := by decide +kernel
theorem dX8_reckon_23 : decode cX8_reckon 23 = .ok (.bastore, 1) := by decide +kernel
theorem dX8_reckon_24 : decode cX8_reckon 24 = .ok (.iinc 4 1, 3) := by decide +kernel
theorem dX8_reckon_27 : decode cX8_reckon 27 = .ok (.goto (-18), 3) := by decide +kernel
theorem dX8_reckon_30 : decode cX8_reckon 30 = .ok (.iconst 1, 1) := by decide +kernel
theorem dX8_reckon_31 : decode cX8_reckon 31 = .ok (.istore 4, 2) := by decide +kernel
theorem dX8_reckon_33 : decode cX8_reckon 33 = .ok (.iload 4, 2) := by decide +kernel
theorem dX8_reckon_35 : decode cX8_reckon 35 = .ok (.ifCond .eq 75, 3) := by decide +kernel
theorem dX8_reckon_38 : decode cX8_reckon 38 = .ok (.iconst 0, 1) := by decide +kernel
theorem dX8_reckon_39 : decode cX8_reckon 39 = .ok (.istore 4, 2) := by decide +kernel
theorem dX8_reckon_41 : decode cX8_reckon 41 = .ok (.iconst 0, 1) := by decide +kernel
theorem dX8_reckon_42 : decode cX8_reckon 42 = .ok (.istore 5, 2) := by decide +kernel
theorem dX8_reckon_44 : decode cX8_reckon 44 = .ok (.iload 5, 2) := by decide +kernel
theorem dX8_reckon_46 : decode cX8_reckon 46 = .ok (.bipush 12, 2) := by decide +kernel
theorem dX8_reckon_48 : decode cX8_reckon 48 = .ok (.if_icmp .ge 59, 3) := by decide +kernel
theorem dX8_reckon_51 : decode cX8_reckon 51 = .ok (.aload_n 0, 1) := by decide +kernel
theorem dX8_reckon_52 : decode cX8_reckon 52 = .ok (.iload 5, 2) := by decide +kernel
theorem dX8_reckon_54 : decode cX8_reckon 54 = .ok (.invokevirtual 121, 3) := by decide +kernel
theorem dX8_reckon_57 : decode cX8_reckon 57 = .ok (.ifCond .eq 44, 3) := by decide +kernel
theorem dX8_reckon_60 : decode cX8_reckon 60 = .ok (.aload_n 0, 1) := by decide +kernel
theorem dX8_reckon_61 : decode cX8_reckon 61 = .ok (.getfield 60, 3) := by decide +kernel
theorem dX8_reckon_64 : decode cX8_reckon 64 = .ok (.iload 5, 2) := by decide +kernel
theorem dX8_reckon_66 : decode cX8_reckon 66 = .ok (.baload, 1) := by decide +kernel
theorem dX8_reckon_67 : decode cX8_reckon 67 = .ok (.ifCond .ne 34, 3) := by decide +kernel
theorem dX8_reckon_70 : decode cX8_reckon 70 = .ok (.aload_n 0, 1) := by decide +kernel
theorem dX8_reckon_71 : decode cX8_reckon 71 = .ok (.iload 5, 2) := by decide +kernel
theorem dX8_reckon_73 : decode cX8_reckon 73 = .ok (.invokevirtual 143, 3) := by decide +kernel
theorem dX8_reckon_76 : decode cX8_reckon 76 = .ok (.ifCond .ne 6, 3) := by decide +kernel
theorem dX8_reckon_79 : decode cX8_reckon 79 = .ok (.goto 22, 3) := by decide +kernel
theorem dX8_reckon_82 : decode cX8_reckon 82 = .ok (.aload_n 0, 1) := by decide +kernel
theorem dX8_reckon_83 : decode cX8_reckon 83 = .ok (.iload_n 1, 1) := by decide +kernel
theorem dX8_reckon_84 : decode cX8_reckon 84 = .ok (.iload 5, 2) := by decide +kernel
theorem dX8_reckon_86 : decode cX8_reckon 86 = .ok (.iload_n 3, 1) := by decide +kernel
theorem dX8_reckon_87 : decode cX8_reckon 87 = .ok (.invokevirtual 146, 3) := by decide +kernel
theorem dX8_reckon_90 : decode cX8_reckon 90 = .ok (.aload_n 0, 1) := by decide +kernel
theorem dX8_reckon_91 : decode cX8_reckon 91 = .ok (.getfield 60, 3) := by decide +kernel
theorem dX8_reckon_94 : decode cX8_reckon 94 = .ok (.iload 5, 2) := by decide +kernel
theorem dX8_reckon_96 : decode cX8_reckon 96 = .ok (.iconst 1, 1) := by decide +kernel
theorem dX8_reckon_97 : decode cX8_reckon 97 = .ok (.bastore, 1) := by decide +kernel
theorem dX8_reckon_98 : decode cX8_reckon 98 = .ok (.iconst 1, 1) := by decide +kernel
theorem dX8_reckon_99 : decode cX8_reckon 99 = .ok (.istore 4, 2) := by decide +kernel
theorem dX8_reckon_101 : decode cX8_reckon 101 = .ok (.iinc 5 1, 3) := by decide +kernel
theorem dX8_reckon_104 : decode cX8_reckon 104 = .ok (.goto (-60), 3) := by decide +kernel
theorem dX8_reckon_107 : decode cX8_reckon 107 = .ok (.goto (-74), 3) := by decide +kernel
theorem dX8_reckon_110 : decode cX8_reckon 110 = .ok (.return_, 1) := by decide +kernel
theorem dX8_fullNow_0 : decode cX8_fullNow 0 = .ok (.iconst 0, 1) := by decide +kernel
theorem dX8_fullNow_1 : decode cX8_fullNow 1 = .ok (.istore_n 1, 1) := by decide +kernel
theorem dX8_fullNow_2 : decode cX8_fullNow 2 = .ok (.iconst 0, 1) := by decide +kernel
theorem dX8_fullNow_3 : decode cX8_fullNow 3 = .ok (.istore_n 2, 1) := by decide +kernel
theorem dX8_fullNow_4 : decode cX8_fullNow 4 = .ok (.iload_n 2, 1) := by decide +kernel
theorem dX8_fullNow_5 : decode cX8_fullNow 5 = .ok (.bipush 12, 2) := by decide +kernel
theorem dX8_fullNow_7 : decode cX8_fullNow 7 = .ok (.if_icmp .ge 57, 3) := by decide +kernel
theorem dX8_fullNow_10 : decode cX8_fullNow 10 = .ok (.aload_n 0, 1) := by decide +kernel
theorem dX8_fullNow_11 : decode cX8_fullNow 11 = .ok (.iload_n 2, 1) := by decide +kernel
theorem dX8_fullNow_12 : decode cX8_fullNow 12 = .ok (.invokevirtual 121, 3) := by decide +kernel
theorem dX8_fullNow_15 : decode cX8_fullNow 15 = .ok (.ifCond .ne 6, 3) := by decide +kernel
theorem dX8_fullNow_18 : decode cX8_fullNow 18 = .ok (.goto 40, 3) := by decide +kernel
theorem dX8_fullNow_21 : decode cX8_fullNow 21 = .ok (.aload_n 0, 1) := by decide +kernel
theorem dX8_fullNow_22 : decode cX8_fullNow 22 = .ok (.getfield 66, 3) := by decide +kernel
theorem dX8_fullNow_25 : decode cX8_fullNow 25 = .ok (.iload_n 2, 1) := by decide +kernel
theorem dX8_fullNow_26 : decode cX8_fullNow 26 = .ok (.iaload, 1) := by decide +kernel
theorem dX8_fullNow_27 : decode cX8_fullNow 27 = .ok (.iconst (-1), 1) := by decide +kernel
theorem dX8_fullNow_28 : decode cX8_fullNow 28 = .ok (.if_icmp .ne 5, 3) := by decide +kernel
theorem dX8_fullNow_31 : decode cX8_fullNow 31 = .ok (.iconst (-1), 1) := by decide +kernel
theorem dX8_fullNow_32 : decode cX8_fullNow 32 = .ok (.ireturn, 1) := by decide +kernel
theorem dX8_fullNow_33 : decode cX8_fullNow 33 = .ok (.aload_n 0, 1) := by decide +kernel
theorem dX8_fullNow_34 : decode cX8_fullNow 34 = .ok (.getfield 66, 3) := by decide +kernel
theorem dX8_fullNow_37 : decode cX8_fullNow 37 = .ok (.iload_n 2, 1) := by decide +kernel
theorem dX8_fullNow_38 : decode cX8_fullNow 38 = .ok (.iaload, 1) := by decide +kernel
theorem dX8_fullNow_39 : decode cX8_fullNow 39 = .ok (.iconst 1, 1) := by decide +kernel
theorem dX8_fullNow_40 : decode cX8_fullNow 40 = .ok (.iadd, 1) := by decide +kernel
theorem dX8_fullNow_41 : decode cX8_fullNow 41 = .ok (.iload_n 1, 1) := by decide +kernel
theorem dX8_fullNow_42 : decode cX8_fullNow 42 = .ok (.if_icmp .le 14, 3) := by decide +kernel
theorem dX8_fullNow_45 : decode cX8_fullNow 45 = .ok (.aload_n 0, 1) := by decide +kernel
theorem dX8_fullNow_46 : decode cX8_fullNow 46 = .ok (.getfield 66, 3) := by decide +kernel
theorem dX8_fullNow_49 : decode cX8_fullNow 49 = .ok (.iload_n 2, 1) := by decide +kernel
theorem dX8_fullNow_50 : decode cX8_fullNow 50 = .ok (.iaload, 1) := by decide +kernel
theorem dX8_fullNow_51 : decode cX8_fullNow 51 = .ok (.iconst 1, 1) := by decide +kernel
theorem dX8_fullNow_52 : decode cX8_fullNow 52 = .ok (.iadd, 1) := by decide +kernel
theorem dX8_fullNow_53 : decode cX8_fullNow 53 = .ok (.goto 4, 3) := by decide +kernel
theorem dX8_fullNow_56 : decode cX8_fullNow 56 = .ok (.iload_n 1, 1) := by decide +kernel
theorem dX8_fullNow_57 : decode cX8_fullNow 57 = .ok (.istore_n 1, 1) := by decide +kernel
theorem dX8_fullNow_58 : decode cX8_fullNow 58 = .ok (.iinc 2 1, 3) := by decide +kernel
theorem dX8_fullNow_61 : decode cX8_fullNow 61 = .ok (.goto (-57), 3) := by decide +kernel
theorem dX8_fullNow_64 : decode cX8_fullNow 64 = .ok (.iload_n 1, 1) := by decide +kernel
theorem dX8_fullNow_65 : decode cX8_fullNow 65 = .ok (.ireturn, 1) := by decide +kernel
theorem dX8_watchedNow_0 : decode cX8_watchedNow 0 = .ok (.iconst 0, 1) := by decide +kernel
theorem dX8_watchedNow_1 : decode cX8_watchedNow 1 = .ok (.istore_n 2, 1) := by decide +kernel
theorem dX8_watchedNow_2 : decode cX8_watchedNow 2 = .ok (.iconst 0, 1) := by decide +kernel
theorem dX8_watchedNow_3 : decode cX8_watchedNow 3 = .ok (.istore_n 3, 1) := by decide +kernel
theorem dX8_watchedNow_4 : decode cX8_watchedNow 4 = .ok (.iload_n 3, 1) := by decide +kernel
theorem dX8_watchedNow_5 : decode cX8_watchedNow 5 = .ok (.bipush 12, 2) := by decide +kernel
theorem dX8_watchedNow_7 : decode cX8_watchedNow 7 = .ok (.if_icmp .ge 27, 3) := by decide +kernel
theorem dX8_watchedNow_10 : decode cX8_watchedNow 10 = .ok (.iload_n 2, 1) := by decide +kernel
theorem dX8_watchedNow_11 : decode cX8_watchedNow 11 = .ok (.ifCond .ne 11, 3) := by decide +kernel
theorem dX8_watchedNow_14 : decode cX8_watchedNow 14 = .ok (.aload_n 0, 1) := by decide +kernel
theorem dX8_watchedNow_15 : decode cX8_watchedNow 15 = .ok (.iload_n 3, 1) := by decide +kernel
theorem dX8_watchedNow_16 : decode cX8_watchedNow 16 = .ok (.invokevirtual 121, 3) := by decide +kernel
theorem dX8_watchedNow_19 : decode cX8_watchedNow 19 = .ok (.ifCond .eq 7, 3) := by decide +kernel
theorem dX8_watchedNow_22 : decode cX8_watchedNow 22 = .ok (.iconst 1, 1) := by decide +kernel
theorem dX8_watchedNow_23 : decode cX8_watchedNow 23 = .ok (.goto 4, 3) := by decide +kernel
theorem dX8_watchedNow_26 : decode cX8_watchedNow 26 = .ok (.iconst 0, 1) := by decide +kernel
theorem dX8_watchedNow_27 : decode cX8_watchedNow 27 = .ok (.istore_n 2, 1) := by decide +kernel
theorem dX8_watchedNow_28 : decode cX8_watchedNow 28 = .ok (.iinc 3 1, 3) := by decide +kernel
theorem dX8_watchedNow_31 : decode cX8_watchedNow 31 = .ok (.goto (-27), 3) := by decide +kernel
theorem dX8_watchedNow_34 : decode cX8_watchedNow 34 = .ok (.iload_n 2, 1) := by decide +kernel
theorem dX8_watchedNow_35 : decode cX8_watchedNow 35 = .ok (.ifCond .ne 5, 3) := by decide +kernel
theorem dX8_watchedNow_38 : decode cX8_watchedNow 38 = .ok (.iconst 0, 1) := by decide +kernel
theorem dX8_watchedNow_39 : decode cX8_watchedNow 39 = .ok (.ireturn, 1) := by decide +kernel
theorem dX8_watchedNow_40 : decode cX8_watchedNow 40 = .ok (.iconst 0, 1) := by decide +kernel
theorem dX8_watchedNow_41 : decode cX8_watchedNow 41 = .ok (.istore_n 3, 1) := by decide +kernel
theorem dX8_watchedNow_42 : decode cX8_watchedNow 42 = .ok (.iload_n 3, 1) := by decide +kernel
theorem dX8_watchedNow_43 : decode cX8_watchedNow 43 = .ok (.sipush 3600, 3) := by decide +kernel
theorem dX8_watchedNow_46 : decode cX8_watchedNow 46 = .ok (.if_icmp .ge 133, 3) := by decide +kernel
theorem dX8_watchedNow_49 : decode cX8_watchedNow 49 = .ok (.iconst 1, 1) := by decide +kernel
theorem dX8_watchedNow_50 : decode cX8_watchedNow 50 = .ok (.istore 4, 2) := by decide +kernel
theorem dX8_watchedNow_52 : decode cX8_watchedNow 52 = .ok (.iconst 0, 1) := by decide +kernel
theorem dX8_watchedNow_53 : decode cX8_watchedNow 53 = .ok (.istore 5, 2) := by decide +kernel
theorem dX8_watchedNow_55 : decode cX8_watchedNow 55 = .ok (.iload 5, 2) := by decide +kernel
theorem dX8_watchedNow_57 : decode cX8_watchedNow 57 = .ok (.bipush 12, 2) := by decide +kernel
theorem dX8_watchedNow_59 : decode cX8_watchedNow 59 = .ok (.if_icmp .ge 107, 3) := by decide +kernel
theorem dX8_watchedNow_62 : decode cX8_watchedNow 62 = .ok (.iload 4, 2) := by decide +kernel
theorem dX8_watchedNow_64 : decode cX8_watchedNow 64 = .ok (.ifCond .eq 102, 3) := by decide +kernel
theorem dX8_watchedNow_67 : decode cX8_watchedNow 67 = .ok (.aload_n 0, 1) := by decide +kernel
theorem dX8_watchedNow_68 : decode cX8_watchedNow 68 = .ok (.iload 5, 2) := by decide +kernel
theorem dX8_watchedNow_70 : decode cX8_watchedNow 70 = .ok (.invokevirtual 121, 3) := by decide +kernel
theorem dX8_watchedNow_73 : decode cX8_watchedNow 73 = .ok (.ifCond .ne 6, 3) := by decide +kernel
theorem dX8_watchedNow_76 : decode cX8_watchedNow 76 = .ok (.goto 84, 3) := by decide +kernel
theorem dX8_watchedNow_79 : decode cX8_watchedNow 79 = .ok (.aload_n 0, 1) := by decide +kernel
theorem dX8_watchedNow_80 : decode cX8_watchedNow 80 = .ok (.getfield 20, 3) := by decide +kernel
theorem dX8_watchedNow_83 : decode cX8_watchedNow 83 = .ok (.iload 5, 2) := by decide +kernel
theorem dX8_watchedNow_85 : decode cX8_watchedNow 85 = .ok (.iaload, 1) := by decide +kernel
theorem dX8_watchedNow_86 : decode cX8_watchedNow 86 = .ok (.iconst 5, 1) := by decide +kernel
theorem dX8_watchedNow_87 : decode cX8_watchedNow 87 = .ok (.if_icmp .ne 13, 3) := by decide +kernel
theorem dX8_watchedNow_90 : decode cX8_watchedNow 90 = .ok (.aload_n 0, 1) := by decide +kernel
theorem dX8_watchedNow_91 : decode cX8_watchedNow 91 = .ok (.getfield 29, 3) := by decide +kernel
theorem dX8_watchedNow_94 : decode cX8_watchedNow 94 = .ok (.iload 5, 2) := by decide +kernel
theorem dX8_watchedNow_96 : decode cX8_watchedNow 96 = .ok (.iaload, 1) := by decide +kernel
theorem dX8_watchedNow_97 : decode cX8_watchedNow 97 = .ok (.goto 14, 3) := by decide +kernel
theorem dX8_watchedNow_100 : decode cX8_watchedNow 100 = .ok (.aload_n 0, 1) := by decide +kernel
theorem dX8_watchedNow_101 : decode cX8_watchedNow 101 = .ok (.getfield 29, 3) := by decide +kernel
theorem dX8_watchedNow_104 : decode cX8_watchedNow 104 = .ok (.iload 5, 2) := by decide +kernel
theorem dX8_watchedNow_106 : decode cX8_watchedNow 106 = .ok (.iaload, 1) := by decide +kernel
theorem dX8_watchedNow_107 : decode cX8_watchedNow 107 = .ok (.iload_n 1, 1) := by decide +kernel
theorem dX8_watchedNow_108 : decode cX8_watchedNow 108 = .ok (.invokestatic 128, 3) := by decide +kernel
theorem dX8_watchedNow_111 : decode cX8_watchedNow 111 = .ok (.istore 6, 2) := by decide +kernel
theorem dX8_watchedNow_113 : decode cX8_watchedNow 113 = .ok (.aload_n 0, 1) := by decide +kernel
theorem dX8_watchedNow_114 : decode cX8_watchedNow 114 = .ok (.getfield 73, 3) := by decide +kernel
theorem dX8_watchedNow_117 : decode cX8_watchedNow 117 = .ok (.sipush 3600, 3) := by decide +kernel
theorem dX8_watchedNow_120 : decode cX8_watchedNow 120 = .ok (.iload 5, 2) := by decide +kernel
theorem dX8_watchedNow_122 : decode cX8_watchedNow 122 = .ok (.imul, 1) := by decide +kernel
theorem dX8_watchedNow_123 : decode cX8_watchedNow 123 = .ok (.iload_n 3, 1) := by decide +kernel
theorem dX8_watchedNow_124 : decode cX8_watchedNow 124 = .ok (.iadd, 1) := by decide +kernel
theorem dX8_watchedNow_125 : decode cX8_watchedNow 125 = .ok (.iaload, 1) := by decide +kernel
theorem dX8_watchedNow_126 : decode cX8_watchedNow 126 = .ok (.iload 6, 2) := by decide +kernel
theorem dX8_watchedNow_128 : decode cX8_watchedNow 128 = .ok (.if_icmp .ge 25, 3) := by decide +kernel
theorem dX8_watchedNow_131 : decode cX8_watchedNow 131 = .ok (.aload_n 0, 1) := by decide +kernel
theorem dX8_watchedNow_132 : decode cX8_watchedNow 132 = .ok (.getfield 66, 3) := by decide +kernel
theorem dX8_watchedNow_135 : decode cX8_watchedNow 135 = .ok (.iload 5, 2) := by decide +kernel
theorem dX8_watchedNow_137 : decode cX8_watchedNow 137 = .ok (.iaload, 1) := by decide +kernel
theorem dX8_watchedNow_138 : decode cX8_watchedNow 138 = .ok (.iconst (-1), 1) := by decide +kernel
theorem dX8_watchedNow_139 : decode cX8_watchedNow 139 = .ok (.if_icmp .eq 18, 3) := by decide +kernel
theorem dX8_watchedNow_142 : decode cX8_watchedNow 142 = .ok (.aload_n 0, 1) := by decide +kernel
theorem dX8_watchedNow_143 : decode cX8_watchedNow 143 = .ok (.getfield 66, 3) := by decide +kernel
theorem dX8_watchedNow_146 : decode cX8_watchedNow 146 = .ok (.iload 5, 2) := by decide +kernel
theorem dX8_watchedNow_148 : decode cX8_watchedNow 148 = .ok (.iaload, 1) := by decide +kernel
theorem dX8_watchedNow_149 : decode cX8_watchedNow 149 = .ok (.iload_n 3, 1) := by decide +kernel
theorem dX8_watchedNow_150 : decode cX8_watchedNow 150 = .ok (.if_icmp .gt 7, 3) := by decide +kernel
theorem dX8_watchedNow_153 : decode cX8_watchedNow 153 = .ok (.iconst 1, 1) := by decide +kernel
theorem dX8_watchedNow_154 : decode cX8_watchedNow 154 = .ok (.goto 4, 3) := by decide +kernel
theorem dX8_watchedNow_157 : decode cX8_watchedNow 157 = .ok (.iconst 0, 1) := by decide +kernel
theorem dX8_watchedNow_158 : decode cX8_watchedNow 158 = .ok (.istore 4, 2) := by decide +kernel
theorem dX8_watchedNow_160 : decode cX8_watchedNow 160 = .ok (.iinc 5 1, 3) := by decide +kernel
theorem dX8_watchedNow_163 : decode cX8_watchedNow 163 = .ok (.goto (-108), 3) := by decide +kernel
theorem dX8_watchedNow_166 : decode cX8_watchedNow 166 = .ok (.iload 4, 2) := by decide +kernel
theorem dX8_watchedNow_168 : decode cX8_watchedNow 168 = .ok (.ifCond .eq 5, 3) := by decide +kernel
theorem dX8_watchedNow_171 : decode cX8_watchedNow 171 = .ok (.iload_n 3, 1) := by decide +kernel
theorem dX8_watchedNow_172 : decode cX8_watchedNow 172 = .ok (.ireturn, 1) := by decide +kernel
theorem dX8_watchedNow_173 : decode cX8_watchedNow 173 = .ok (.iinc 3 1, 3) := by decide +kernel
theorem dX8_watchedNow_176 : decode cX8_watchedNow 176 = .ok (.goto (-134), 3) := by decide +kernel
theorem dX8_watchedNow_179 : decode cX8_watchedNow 179 = .ok (.iconst (-1), 1) := by decide +kernel
theorem dX8_watchedNow_180 : decode cX8_watchedNow 180 = .ok (.ireturn, 1) := by decide +kernel
theorem dX8_isPlace_0 : decode cX8_isPlace 0 = .ok (.iload_n 0, 1) := by decide +kernel
theorem dX8_isPlace_1 : decode cX8_isPlace 1 = .ok (.ifCond .lt 13, 3) := by decide +kernel
theorem dX8_isPlace_4 : decode cX8_isPlace 4 = .ok (.iload_n 0, 1) := by decide +kernel
theorem dX8_isPlace_5 : decode cX8_isPlace 5 = .ok (.bipush 12, 2) := by decide +kernel
theorem dX8_isPlace_7 : decode cX8_isPlace 7 = .ok (.if_icmp .ge 7, 3) := by decide +kernel
theorem dX8_isPlace_10 : decode cX8_isPlace 10 = .ok (.iconst 1, 1) := by decide +kernel
theorem dX8_isPlace_11 : decode cX8_isPlace 11 = .ok (.goto 4, 3) := by decide +kernel
theorem dX8_isPlace_14 : decode cX8_isPlace 14 = .ok (.iconst 0, 1) := by decide +kernel
theorem dX8_isPlace_15 : decode cX8_isPlace 15 = .ok (.ireturn, 1) := by decide +kernel
theorem dX8_isPerson_0 : decode cX8_isPerson 0 = .ok (.iload_n 1, 1) := by decide +kernel
theorem dX8_isPerson_1 : decode cX8_isPerson 1 = .ok (.ifCond .lt 15, 3) := by decide +kernel
theorem dX8_isPerson_4 : decode cX8_isPerson 4 = .ok (.iload_n 1, 1) := by decide +kernel
theorem dX8_isPerson_5 : decode cX8_isPerson 5 = .ok (.aload_n 0, 1) := by decide +kernel
theorem dX8_isPerson_6 : decode cX8_isPerson 6 = .ok (.getfield 94, 3) := by decide +kernel
theorem dX8_isPerson_9 : decode cX8_isPerson 9 = .ok (.if_icmp .ge 7, 3) := by decide +kernel
theorem dX8_isPerson_12 : decode cX8_isPerson 12 = .ok (.iconst 1, 1) := by decide +kernel
theorem dX8_isPerson_13 : decode cX8_isPerson 13 = .ok (.goto 4, 3) := by decide +kernel
theorem dX8_isPerson_16 : decode cX8_isPerson 16 = .ok (.iconst 0, 1) := by decide +kernel
theorem dX8_isPerson_17 : decode cX8_isPerson 17 = .ok (.ireturn, 1) := by decide +kernel
theorem dX8_isDay_0 : decode cX8_isDay 0 = .ok (.iload_n 0, 1) := by decide +kernel
theorem dX8_isDay_1 : decode cX8_isDay 1 = .ok (.ifCond .lt 14, 3) := by decide +kernel
theorem dX8_isDay_4 : decode cX8_isDay 4 = .ok (.iload_n 0, 1) := by decide +kernel
theorem dX8_isDay_5 : decode cX8_isDay 5 = .ok (.sipush 3600, 3) := by decide +kernel
theorem dX8_isDay_8 : decode cX8_isDay 8 = .ok (.if_icmp .ge 7, 3) := by decide +kernel
theorem dX8_isDay_11 : decode cX8_isDay 11 = .ok (.iconst 1, 1) := by decide +kernel
theorem dX8_isDay_12 : decode cX8_isDay 12 = .ok (.goto 4, 3) := by decide +kernel
theorem dX8_isDay_15 : decode cX8_isDay 15 = .ok (.iconst 0, 1) := by decide +kernel
theorem dX8_isDay_16 : decode cX8_isDay 16 = .ok (.ireturn, 1) := by decide +kernel
theorem dX8_isMonth_0 : decode cX8_isMonth 0 = .ok (.iload_n 0, 1) := by decide +kernel
theorem dX8_isMonth_1 : decode cX8_isMonth 1 = .ok (.ifCond .lt 13, 3) := by decide +kernel
theorem dX8_isMonth_4 : decode cX8_isMonth 4 = .ok (.iload_n 0, 1) := by decide +kernel
theorem dX8_isMonth_5 : decode cX8_isMonth 5 = .ok (.bipush 120, 2) := by decide +kernel
theorem dX8_isMonth_7 : decode cX8_isMonth 7 = .ok (.if_icmp .ge 7, 3) := by decide +kernel
theorem dX8_isMonth_10 : decode cX8_isMonth 10 = .ok (.iconst 1, 1) := by decide +kernel
theorem dX8_isMonth_11 : decode cX8_isMonth 11 = .ok (.goto 4, 3) := by decide +kernel
theorem dX8_isMonth_14 : decode cX8_isMonth 14 = .ok (.iconst 0, 1) := by decide +kernel
theorem dX8_isMonth_15 : decode cX8_isMonth 15 = .ok (.ireturn, 1) := by decide +kernel
theorem dX8_comes_0 : decode cX8_comes 0 = .ok (.aload_n 0, 1) := by decide +kernel
theorem dX8_comes_1 : decode cX8_comes 1 = .ok (.getfield 106, 3) := by decide +kernel
theorem dX8_comes_4 : decode cX8_comes 4 = .ok (.sipush 400, 3) := by decide +kernel
theorem dX8_comes_7 : decode cX8_comes 7 = .ok (.if_icmp .ne 6, 3) := by decide +kernel
theorem dX8_comes_10 : decode cX8_comes 10 = .ok (.bipush 7, 2) := by decide +kernel
theorem dX8_comes_12 : decode cX8_comes 12 = .ok (.ireturn, 1) := by decide +kernel
theorem dX8_comes_13 : decode cX8_comes 13 = .ok (.bipush 8, 2) := by decide +kernel
theorem dX8_comes_15 : decode cX8_comes 15 = .ok (.aload_n 0, 1) := by decide +kernel
theorem dX8_comes_16 : decode cX8_comes 16 = .ok (.getfield 106, 3) := by decide +kernel
theorem dX8_comes_19 : decode cX8_comes 19 = .ok (.imul, 1) := by decide +kernel
theorem dX8_comes_20 : decode cX8_comes 20 = .ok (.istore 8, 2) := by decide +kernel
theorem dX8_comes_22 : decode cX8_comes 22 = .ok (.aload_n 0, 1) := by decide +kernel
theorem dX8_comes_23 : decode cX8_comes 23 = .ok (.getfield 13, 3) := by decide +kernel
theorem dX8_comes_26 : decode cX8_comes 26 = .ok (.iload 8, 2) := by decide +kernel
theorem dX8_comes_28 : decode cX8_comes 28 = .ok (.aload_n 0, 1) := by decide +kernel
theorem dX8_comes_29 : decode cX8_comes 29 = .ok (.getfield 97, 3) := by decide +kernel
theorem dX8_comes_32 : decode cX8_comes 32 = .ok (.iastore, 1) := by decide +kernel
theorem dX8_comes_33 : decode cX8_comes 33 = .ok (.aload_n 0, 1) := by decide +kernel
theorem dX8_comes_34 : decode cX8_comes 34 = .ok (.getfield 13, 3) := by decide +kernel
theorem dX8_comes_37 : decode cX8_comes 37 = .ok (.iload 8, 2) := by decide +kernel
theorem dX8_comes_39 : decode cX8_comes 39 = .ok (.iconst 1, 1) := by decide +kernel
theorem dX8_comes_40 : decode cX8_comes 40 = .ok (.iadd, 1) := by decide +kernel
theorem dX8_comes_41 : decode cX8_comes 41 = .ok (.iload_n 1, 1) := by decide +kernel
theorem dX8_comes_42 : decode cX8_comes 42 = .ok (.iastore, 1) := by decide +kernel
theorem dX8_comes_43 : decode cX8_comes 43 = .ok (.aload_n 0, 1) := by decide +kernel
theorem dX8_comes_44 : decode cX8_comes 44 = .ok (.getfield 13, 3) := by decide +kernel
theorem dX8_comes_47 : decode cX8_comes 47 = .ok (.iload 8, 2) := by decide +kernel
theorem dX8_comes_49 : decode cX8_comes 49 = .ok (.iconst 2, 1) := by decide +kernel
theorem dX8_comes_50 : decode cX8_comes 50 = .ok (.iadd, 1) := by decide +kernel
theorem dX8_comes_51 : decode cX8_comes 51 = .ok (.iload_n 2, 1) := by decide +kernel
theorem dX8_comes_52 : decode cX8_comes 52 = .ok (.iastore, 1) := by decide +kernel
theorem dX8_comes_53 : decode cX8_comes 53 = .ok (.aload_n 0, 1) := by decide +kernel
theorem dX8_comes_54 : decode cX8_comes 54 = .ok (.getfield 13, 3) := by decide +kernel
theorem dX8_comes_57 : decode cX8_comes 57 = .ok (.iload 8, 2) := by decide +kernel
theorem dX8_comes_59 : decode cX8_comes 59 = .ok (.iconst 3, 1) := by decide +kernel
theorem dX8_comes_60 : decode cX8_comes 60 = .ok (.iadd, 1) := by decide +kernel
theorem dX8_comes_61 : decode cX8_comes 61 = .ok (.iload_n 3, 1) := by decide +kernel
theorem dX8_comes_62 : decode cX8_comes 62 = .ok (.iastore, 1) := by decide +kernel
theorem dX8_comes_63 : decode cX8_comes 63 = .ok (.aload_n 0, 1) := by decide +kernel
theorem dX8_comes_64 : decode cX8_comes 64 = .ok (.getfield 13, 3) := by decide +kernel
theorem dX8_comes_67 : decode cX8_comes 67 = .ok (.iload 8, 2) := by decide +kernel
theorem dX8_comes_69 : decode cX8_comes 69 = .ok (.iconst 4, 1) := by decide +kernel
theorem dX8_comes_70 : decode cX8_comes 70 = .ok (.iadd, 1) := by decide +kernel
theorem dX8_comes_71 : decode cX8_comes 71 = .ok (.iload 4, 2) := by decide +kernel
theorem dX8_comes_73 : decode cX8_comes 73 = .ok (.iastore, 1) := by decide +kernel
theorem dX8_comes_74 : decode cX8_comes 74 = .ok (.aload_n 0, 1) := by decide +kernel
theorem dX8_comes_75 : decode cX8_comes 75 = .ok (.getfield 13, 3) := by decide +kernel
theorem dX8_comes_78 : decode cX8_comes 78 = .ok (.iload 8, 2) := by decide +kernel
theorem dX8_comes_80 : decode cX8_comes 80 = .ok (.iconst 5, 1) := by decide +kernel
theorem dX8_comes_81 : decode cX8_comes 81 = .ok (.iadd, 1) := by decide +kernel
theorem dX8_comes_82 : decode cX8_comes 82 = .ok (.iload 5, 2) := by decide +kernel
theorem dX8_comes_84 : decode cX8_comes 84 = .ok (.iastore, 1) := by decide +kernel
theorem dX8_comes_85 : decode cX8_comes 85 = .ok (.aload_n 0, 1) := by decide +kernel
theorem dX8_comes_86 : decode cX8_comes 86 = .ok (.getfield 13, 3) := by decide +kernel
theorem dX8_comes_89 : decode cX8_comes 89 = .ok (.iload 8, 2) := by decide +kernel
theorem dX8_comes_91 : decode cX8_comes 91 = .ok (.bipush 6, 2) := by decide +kernel
theorem dX8_comes_93 : decode cX8_comes 93 = .ok (.iadd, 1) := by decide +kernel
theorem dX8_comes_94 : decode cX8_comes 94 = .ok (.iload 6, 2) := by decide +kernel
theorem dX8_comes_96 : decode cX8_comes 96 = .ok (.iastore, 1) := by decide +kernel
theorem dX8_comes_97 : decode cX8_comes 97 = .ok (.aload_n 0, 1) := by decide +kernel
theorem dX8_comes_98 : decode cX8_comes 98 = .ok (.getfield 13, 3) := by decide +kernel
theorem dX8_comes_101 : decode cX8_comes 101 = .ok (.iload 8, 2) := by decide +kernel
theorem dX8_comes_103 : decode cX8_comes 103 = .ok (.bipush 7, 2) := by decide +kernel
theorem dX8_comes_105 : decode cX8_comes 105 = .ok (.iadd, 1) := by decide +kernel
theorem dX8_comes_106 : decode cX8_comes 106 = .ok (.iload 7, 2) := by decide +kernel
theorem dX8_comes_108 : decode cX8_comes 108 = .ok (.iastore, 1) := by decide +kernel
theorem dX8_comes_109 : decode cX8_comes 109 = .ok (.aload_n 0, 1) := by decide +kernel
theorem dX8_comes_110 : decode cX8_comes 110 = .ok (.dup, 1) := by decide +kernel
theorem dX8_comes_111 : decode cX8_comes 111 = .ok (.getfield 106, 3) := by decide +kernel
theorem dX8_comes_114 : decode cX8_comes 114 = .ok (.iconst 1, 1) := by decide +kernel
theorem dX8_comes_115 : decode cX8_comes 115 = .ok (.iadd, 1) := by decide +kernel
theorem dX8_comes_116 : decode cX8_comes 116 = .ok (.putfield 106, 3) := by decide +kernel
theorem dX8_comes_119 : decode cX8_comes 119 = .ok (.iconst 0, 1) := by decide +kernel
theorem dX8_comes_120 : decode cX8_comes 120 = .ok (.ireturn, 1) := by decide +kernel
theorem dX8_room_0 : decode cX8_room 0 = .ok (.aload_n 0, 1) := by decide +kernel
theorem dX8_room_1 : decode cX8_room 1 = .ok (.iload_n 1, 1) := by decide +kernel
theorem dX8_room_2 : decode cX8_room 2 = .ok (.invokevirtual 150, 3) := by decide +kernel
theorem dX8_room_5 : decode cX8_room 5 = .ok (.ifCond .eq 10, 3) := by decide +kernel
theorem dX8_room_8 : decode cX8_room 8 = .ok (.iload_n 2, 1) := by decide +kernel
theorem dX8_room_9 : decode cX8_room 9 = .ok (.invokestatic 153, 3) := by decide +kernel
theorem dX8_room_12 : decode cX8_room 12 = .ok (.ifCond .ne 5, 3) := by decide +kernel
theorem dX8_room_15 : decode cX8_room 15 = .ok (.iconst 1, 1) := by decide +kernel
theorem dX8_room_16 : decode cX8_room 16 = .ok (.ireturn, 1) := by decide +kernel
theorem dX8_room_17 : decode cX8_room 17 = .ok (.aload_n 0, 1) := by decide +kernel
theorem dX8_room_18 : decode cX8_room 18 = .ok (.iload_n 1, 1) := by decide +kernel
theorem dX8_room_19 : decode cX8_room 19 = .ok (.aload_n 0, 1) := by decide +kernel
theorem dX8_room_20 : decode cX8_room 20 = .ok (.getfield 97, 3) := by decide +kernel
theorem dX8_room_23 : decode cX8_room 23 = .ok (.invokevirtual 140, 3) := by decide +kernel
theorem dX8_room_26 : decode cX8_room 26 = .ok (.aload_n 0, 1) := by decide +kernel
theorem dX8_room_27 : decode cX8_room 27 = .ok (.getfield 20, 3) := by decide +kernel
theorem dX8_room_30 : decode cX8_room 30 = .ok (.iload_n 2, 1) := by decide +kernel
theorem dX8_room_31 : decode cX8_room 31 = .ok (.iaload, 1) := by decide +kernel
theorem dX8_room_32 : decode cX8_room 32 = .ok (.ifCond .eq 7, 3) := by decide +kernel
theorem dX8_room_35 : decode cX8_room 35 = .ok (.iconst 2, 1) := by decide +kernel
theorem dX8_room_36 : decode cX8_room 36 = .ok (.goto 4, 3) := by decide +kernel
theorem dX8_room_39 : decode cX8_room 39 = .ok (.iconst 0, 1) := by decide +kernel
theorem dX8_room_40 : decode cX8_room 40 = .ok (.ireturn, 1) := by decide +kernel
theorem dX8_letter_0 : decode cX8_letter 0 = .ok (.aload_n 0, 1) := by decide +kernel
theorem dX8_letter_1 : decode cX8_letter 1 = .ok (.iload_n 1, 1) := by decide +kernel
theorem dX8_letter_2 : decode cX8_letter 2 = .ok (.iload_n 2, 1) := by decide +kernel
theorem dX8_letter_3 : decode cX8_letter 3 = .ok (.invokevirtual 156, 3) := by decide +kernel
theorem dX8_letter_6 : decode cX8_letter 6 = .ok (.istore_n 3, 1) := by decide +kernel
theorem dX8_letter_7 : decode cX8_letter 7 = .ok (.iload_n 3, 1) := by decide +kernel
theorem dX8_letter_8 : decode cX8_letter 8 = .ok (.ifCond .le 7, 3) := by decide +kernel
theorem dX8_letter_11 : decode cX8_letter 11 = .ok (.iload_n 3, 1) := by decide +kernel
theorem dX8_letter_12 : decode cX8_letter 12 = .ok (.goto 14, 3) := by decide +kernel
theorem dX8_letter_15 : decode cX8_letter 15 = .ok (.aload_n 0, 1) := by decide +kernel
theorem dX8_letter_16 : decode cX8_letter 16 = .ok (.iconst 0, 1) := by decide +kernel
theorem dX8_letter_17 : decode cX8_letter 17 = .ok (.iload_n 1, 1) := by decide +kernel
theorem dX8_letter_18 : decode cX8_letter 18 = .ok (.iload_n 2, 1) := by decide +kernel
theorem dX8_letter_19 : decode cX8_letter 19 = .ok (.iconst 0, 1) := by decide +kernel
theorem dX8_letter_20 : decode cX8_letter 20 = .ok (.iconst 0, 1) := by decide +kernel
theorem dX8_letter_21 : decode cX8_letter 21 = .ok (.iconst 0, 1) := by decide +kernel
theorem dX8_letter_22 : decode cX8_letter 22 = .ok (.iconst 0, 1) := by decide +kernel
theorem dX8_letter_23 : decode cX8_letter 23 = .ok (.invokevirtual 159, 3) := by decide +kernel
theorem dX8_letter_26 : decode cX8_letter 26 = .ok (.ireturn, 1) := by decide +kernel
theorem dX8_isTerm_0 : decode cX8_isTerm 0 = .ok (.iload_n 0, 1) := by decide +kernel
theorem dX8_isTerm_1 : decode cX8_isTerm 1 = .ok (.invokestatic 163, 3) := by decide +kernel
theorem dX8_isTerm_4 : decode cX8_isTerm 4 = .ok (.ifCond .eq 19, 3) := by decide +kernel
theorem dX8_isTerm_7 : decode cX8_isTerm 7 = .ok (.iload_n 1, 1) := by decide +kernel
theorem dX8_isTerm_8 : decode cX8_isTerm 8 = .ok (.iconst 1, 1) := by decide +kernel
theorem dX8_isTerm_9 : decode cX8_isTerm 9 = .ok (.if_icmp .lt 14, 3) := by decide +kernel
theorem dX8_isTerm_12 : decode cX8_isTerm 12 = .ok (.iload_n 1, 1) := by decide +kernel
theorem dX8_isTerm_13 : decode cX8_isTerm 13 = .ok (.sipush 3600, 3) := by decide +kernel
theorem dX8_isTerm_16 : decode cX8_isTerm 16 = .ok (.if_icmp .gt 7, 3) := by decide +kernel
theorem dX8_isTerm_19 : decode cX8_isTerm 19 = .ok (.iconst 1, 1) := by decide +kernel
theorem dX8_isTerm_20 : decode cX8_isTerm 20 = .ok (.goto 4, 3) := by decide +kernel
theorem dX8_isTerm_23 : decode cX8_isTerm 23 = .ok (.iconst 0, 1) := by decide +kernel
theorem dX8_isTerm_24 : decode cX8_isTerm 24 = .ok (.ireturn, 1) := by decide +kernel
theorem dX8_term_0 : decode cX8_term 0 = .ok (.aload_n 0, 1) := by decide +kernel
theorem dX8_term_1 : decode cX8_term 1 = .ok (.iload_n 1, 1) := by decide +kernel
theorem dX8_term_2 : decode cX8_term 2 = .ok (.iload_n 2, 1) := by decide +kernel
theorem dX8_term_3 : decode cX8_term 3 = .ok (.invokevirtual 156, 3) := by decide +kernel
theorem dX8_term_6 : decode cX8_term 6 = .ok (.istore 5, 2) := by decide +kernel
theorem dX8_term_8 : decode cX8_term 8 = .ok (.iload 5, 2) := by decide +kernel
theorem dX8_term_10 : decode cX8_term 10 = .ok (.ifCond .le 6, 3) := by decide +kernel
theorem dX8_term_13 : decode cX8_term 13 = .ok (.iload 5, 2) := by decide +kernel
theorem dX8_term_15 : decode cX8_term 15 = .ok (.ireturn, 1) := by decide +kernel
theorem dX8_term_16 : decode cX8_term 16 = .ok (.iload_n 3, 1) := by decide +kernel
theorem dX8_term_17 : decode cX8_term 17 = .ok (.iload 4, 2) := by decide +kernel
theorem dX8_term_19 : decode cX8_term 19 = .ok (.invokestatic 166, 3) := by decide +kernel
theorem dX8_term_22 : decode cX8_term 22 = .ok (.ifCond .eq 18, 3) := by decide +kernel
theorem dX8_term_25 : decode cX8_term 25 = .ok (.aload_n 0, 1) := by decide +kernel
theorem dX8_term_26 : decode cX8_term 26 = .ok (.iconst 1, 1) := by decide +kernel
theorem dX8_term_27 : decode cX8_term 27 = .ok (.iload_n 1, 1) := by decide +kernel
theorem dX8_term_28 : decode cX8_term 28 = .ok (.iload_n 2, 1) := by decide +kernel
theorem dX8_term_29 : decode cX8_term 29 = .ok (.iload_n 3, 1) := by decide +kernel
theorem dX8_term_30 : decode cX8_term 30 = .ok (.iload 4, 2) := by decide +kernel
theorem dX8_term_32 : decode cX8_term 32 = .ok (.iconst 0, 1) := by decide +kernel
theorem dX8_term_33 : decode cX8_term 33 = .ok (.iconst 0, 1) := by decide +kernel
theorem dX8_term_34 : decode cX8_term 34 = .ok (.invokevirtual 159, 3) := by decide +kernel
theorem dX8_term_37 : decode cX8_term 37 = .ok (.goto 4, 3) := by decide +kernel
theorem dX8_term_40 : decode cX8_term 40 = .ok (.iconst 3, 1) := by decide +kernel
theorem dX8_term_41 : decode cX8_term 41 = .ok (.ireturn, 1) := by decide +kernel
theorem dX8_names_0 : decode cX8_names 0 = .ok (.aload_n 0, 1) := by decide +kernel
theorem dX8_names_1 : decode cX8_names 1 = .ok (.getfield 20, 3) := by decide +kernel
theorem dX8_names_4 : decode cX8_names 4 = .ok (.iload_n 1, 1) := by decide +kernel
theorem dX8_names_5 : decode cX8_names 5 = .ok (.iaload, 1) := by decide +kernel
theorem dX8_names_6 : decode cX8_names 6 = .ok (.iconst 2, 1) := by decide +kernel
theorem dX8_names_7 : decode cX8_names 7 = .ok (.if_icmp .eq 37, 3) := by decide +kernel
theorem dX8_names_10 : decode cX8_names 10 = .ok (.aload_n 0, 1) := by decide +kernel
theorem dX8_names_11 : decode cX8_names 11 = .ok (.iload_n 1, 1) := by decide +kernel
theorem dX8_names_12 : decode cX8_names 12 = .ok (.invokevirtual 117, 3) := by decide +kernel
theorem dX8_names_15 : decode cX8_names 15 = .ok (.ifCond .eq 29, 3) := by decide +kernel
theorem dX8_names_18 : decode cX8_names 18 = .ok (.aload_n 0, 1) := by decide +kernel
theorem dX8_names_19 : decode cX8_names 19 = .ok (.iload_n 2, 1) := by decide +kernel
theorem dX8_names_20 : decode cX8_names 20 = .ok (.invokevirtual 117, 3) := by decide +kernel
theorem dX8_names_23 : decode cX8_names 23 = .ok (.ifCond .eq 21, 3) := by decide +kernel
theorem dX8_names_26 : decode cX8_names 26 = .ok (.aload_n 0, 1) := by decide +kernel
theorem dX8_names_27 : decode cX8_names 27 = .ok (.getfield 32, 3) := by decide +kernel
theorem dX8_names_30 : decode cX8_names 30 = .ok (.iload_n 1, 1) := by decide +kernel
theorem dX8_names_31 : decode cX8_names 31 = .ok (.iaload, 1) := by decide +kernel
theorem dX8_names_32 : decode cX8_names 32 = .ok (.iload_n 2, 1) := by decide +kernel
theorem dX8_names_33 : decode cX8_names 33 = .ok (.ishr, 1) := by decide +kernel
theorem dX8_names_34 : decode cX8_names 34 = .ok (.iconst 1, 1) := by decide +kernel
theorem dX8_names_35 : decode cX8_names 35 = .ok (.iand, 1) := by decide +kernel
theorem dX8_names_36 : decode cX8_names 36 = .ok (.iconst 1, 1) := by decide +kernel
theorem dX8_names_37 : decode cX8_names 37 = .ok (.if_icmp .ne 7, 3) := by decide +kernel
theorem dX8_names_40 : decode cX8_names 40 = .ok (.iconst 1, 1) := by decide +kernel
theorem dX8_names_41 : decode cX8_names 41 = .ok (.goto 4, 3) := by decide +kernel
theorem dX8_names_44 : decode cX8_names 44 = .ok (.iconst 0, 1) := by decide +kernel
theorem dX8_names_45 : decode cX8_names 45 = .ok (.ireturn, 1) := by decide +kernel
theorem dX8_isRing_0 : decode cX8_isRing 0 = .ok (.aload_n 0, 1) := by decide +kernel
theorem dX8_isRing_1 : decode cX8_isRing 1 = .ok (.iconst 0, 1) := by decide +kernel
theorem dX8_isRing_2 : decode cX8_isRing 2 = .ok (.putfield 170, 3) := by decide +kernel
theorem dX8_isRing_5 : decode cX8_isRing 5 = .ok (.iconst 1, 1) := by decide +kernel
theorem dX8_isRing_6 : decode cX8_isRing 6 = .ok (.istore_n 2, 1) := by decide +kernel
theorem dX8_isRing_7 : decode cX8_isRing 7 = .ok (.aload_n 0, 1) := by decide +kernel
theorem dX8_isRing_8 : decode cX8_isRing 8 = .ok (.getfield 79, 3) := by decide +kernel
theorem dX8_isRing_11 : decode cX8_isRing 11 = .ok (.iconst 0, 1) := by decide +kernel
theorem dX8_isRing_12 : decode cX8_isRing 12 = .ok (.iload_n 1, 1) := by decide +kernel
theorem dX8_isRing_13 : decode cX8_isRing 13 = .ok (.iastore, 1) := by decide +kernel
theorem dX8_isRing_14 : decode cX8_isRing 14 = .ok (.aload_n 0, 1) := by decide +kernel
theorem dX8_isRing_15 : decode cX8_isRing 15 = .ok (.getfield 82, 3) := by decide +kernel
theorem dX8_isRing_18 : decode cX8_isRing 18 = .ok (.iconst 0, 1) := by decide +kernel
theorem dX8_isRing_19 : decode cX8_isRing 19 = .ok (.iconst 0, 1) := by decide +kernel
theorem dX8_isRing_20 : decode cX8_isRing 20 = .ok (.iastore, 1) := by decide +kernel
theorem dX8_isRing_21 : decode cX8_isRing 21 = .ok (.iload_n 2, 1) := by decide +kernel
theorem dX8_isRing_22 : decode cX8_isRing 22 = .ok (.ifCond .le 145, 3) := by decide +kernel
theorem dX8_isRing_25 : decode cX8_isRing 25 = .ok (.aload_n 0, 1) := by decide +kernel
theorem dX8_isRing_26 : decode cX8_isRing 26 = .ok (.getfield 79, 3) := by decide +kernel
theorem dX8_isRing_29 : decode cX8_isRing 29 = .ok (.iload_n 2, 1) := by decide +kernel
theorem dX8_isRing_30 : decode cX8_isRing 30 = .ok (.iconst 1, 1) := by decide +kernel
theorem dX8_isRing_31 : decode cX8_isRing 31 = .ok (.isub, 1) := by decide +kernel
theorem dX8_isRing_32 : decode cX8_isRing 32 = .ok (.iaload, 1) := by decide +kernel
theorem dX8_isRing_33 : decode cX8_isRing 33 = .ok (.istore_n 3, 1) := by decide +kernel
theorem dX8_isRing_34 : decode cX8_isRing 34 = .ok (.aload_n 0, 1) := by decide +kernel
theorem dX8_isRing_35 : decode cX8_isRing 35 = .ok (.getfield 82, 3) := by decide +kernel
theorem dX8_isRing_38 : decode cX8_isRing 38 = .ok (.iload_n 2, 1) := by decide +kernel
theorem dX8_isRing_39 : decode cX8_isRing 39 = .ok (.iconst 1, 1) := by decide +kernel
theorem dX8_isRing_40 : decode cX8_isRing 40 = .ok (.isub, 1) := by decide +kernel
theorem dX8_isRing_41 : decode cX8_isRing 41 = .ok (.iaload, 1) := by decide +kernel
theorem dX8_isRing_42 : decode cX8_isRing 42 = .ok (.istore 4, 2) := by decide +kernel
theorem dX8_isRing_44 : decode cX8_isRing 44 = .ok (.aload_n 0, 1) := by decide +kernel
theorem dX8_isRing_45 : decode cX8_isRing 45 = .ok (.getfield 82, 3) := by decide +kernel
theorem dX8_isRing_48 : decode cX8_isRing 48 = .ok (.iload_n 2, 1) := by decide +kernel
theorem dX8_isRing_49 : decode cX8_isRing 49 = .ok (.iconst 1, 1) := by decide +kernel
theorem dX8_isRing_50 : decode cX8_isRing 50 = .ok (.isub, 1) := by decide +kernel
theorem dX8_isRing_51 : decode cX8_isRing 51 = .ok (.dup2, 1) := by decide +kernel
theorem dX8_isRing_52 : decode cX8_isRing 52 = .ok (.iaload, 1) := by decide +kernel
theorem dX8_isRing_53 : decode cX8_isRing 53 = .ok (.iconst 1, 1) := by decide +kernel
theorem dX8_isRing_54 : decode cX8_isRing 54 = .ok (.iadd, 1) := by decide +kernel
theorem dX8_isRing_55 : decode cX8_isRing 55 = .ok (.iastore, 1) := by decide +kernel
theorem dX8_isRing_56 : decode cX8_isRing 56 = .ok (.iload 4, 2) := by decide +kernel
theorem dX8_isRing_58 : decode cX8_isRing 58 = .ok (.bipush 12, 2) := by decide +kernel
theorem dX8_isRing_60 : decode cX8_isRing 60 = .ok (.if_icmp .lt 9, 3) := by decide +kernel
theorem dX8_isRing_63 : decode cX8_isRing 63 = .ok (.iinc 2 (-1), 3) := by decide +kernel
theorem dX8_isRing_66 : decode cX8_isRing 66 = .ok (.goto (-45), 3) := by decide +kernel
theorem dX8_isRing_69 : decode cX8_isRing 69 = .ok (.aload_n 0, 1) := by decide +kernel
theorem dX8_isRing_70 : decode cX8_isRing 70 = .ok (.iload_n 3, 1) := by decide +kernel
theorem dX8_isRing_71 : decode cX8_isRing 71 = .ok (.iload 4, 2) := by decide +kernel
theorem dX8_isRing_73 : decode cX8_isRing 73 = .ok (.invokevirtual 173, 3) := by decide +kernel
theorem dX8_isRing_76 : decode cX8_isRing 76 = .ok (.ifCond .ne 6, 3) := by decide +kernel
theorem dX8_isRing_79 : decode cX8_isRing 79 = .ok (.goto (-58), 3) := by decide +kernel
theorem dX8_isRing_82 : decode cX8_isRing 82 = .ok (.iload 4, 2) := by decide +kernel
theorem dX8_isRing_84 : decode cX8_isRing 84 = .ok (.iload_n 1, 1) := by decide +kernel
theorem dX8_isRing_85 : decode cX8_isRing 85 = .ok (.if_icmp .ne 11, 3) := by decide +kernel
theorem dX8_isRing_88 : decode cX8_isRing 88 = .ok (.aload_n 0, 1) := by decide +kernel
theorem dX8_isRing_89 : decode cX8_isRing 89 = .ok (.iload_n 2, 1) := by decide +kernel
theorem dX8_isRing_90 : decode cX8_isRing 90 = .ok (.invokevirtual 176, 3) := by decide +kernel
theorem dX8_isRing_93 : decode cX8_isRing 93 = .ok (.goto (-72), 3) := by decide +kernel
theorem dX8_isRing_96 : decode cX8_isRing 96 = .ok (.iconst 0, 1) := by decide +kernel
theorem dX8_isRing_97 : decode cX8_isRing 97 = .ok (.istore 5, 2) := by decide +kernel
theorem dX8_isRing_99 : decode cX8_isRing 99 = .ok (.iconst 0, 1) := by decide +kernel
theorem dX8_isRing_100 : decode cX8_isRing 100 = .ok (.istore 6, 2) := by decide +kernel
theorem dX8_isRing_102 : decode cX8_isRing 102 = .ok (.iload 6, 2) := by decide +kernel
theorem dX8_isRing_104 : decode cX8_isRing 104 = .ok (.iload_n 2, 1) := by decide +kernel
theorem dX8_isRing_105 : decode cX8_isRing 105 = .ok (.if_icmp .ge 33, 3) := by decide +kernel
theorem dX8_isRing_108 : decode cX8_isRing 108 = .ok (.iload 5, 2) := by decide +kernel
theorem dX8_isRing_110 : decode cX8_isRing 110 = .ok (.ifCond .ne 15, 3) := by decide +kernel
theorem dX8_isRing_113 : decode cX8_isRing 113 = .ok (.aload_n 0, 1) := by decide +kernel
theorem dX8_isRing_114 : decode cX8_isRing 114 = .ok (.getfield 79, 3) := by decide +kernel
theorem dX8_isRing_117 : decode cX8_isRing 117 = .ok (.iload 6, 2) := by decide +kernel
theorem dX8_isRing_119 : decode cX8_isRing 119 = .ok (.iaload, 1) := by decide +kernel
theorem dX8_isRing_120 : decode cX8_isRing 120 = .ok (.iload 4, 2) := by decide +kernel
theorem dX8_isRing_122 : decode cX8_isRing 122 = .ok (.if_icmp .ne 7, 3) := by decide +kernel
theorem dX8_isRing_125 : decode cX8_isRing 125 = .ok (.iconst 1, 1) := by decide +kernel
theorem dX8_isRing_126 : decode cX8_isRing 126 = .ok (.goto 4, 3) := by decide +kernel
theorem dX8_isRing_129 : decode cX8_isRing 129 = .ok (.iconst 0, 1) := by decide +kernel
theorem dX8_isRing_130 : decode cX8_isRing 130 = .ok (.istore 5, 2) := by decide +kernel
theorem dX8_isRing_132 : decode cX8_isRing 132 = .ok (.iinc 6 1, 3) := by decide +kernel
theorem dX8_isRing_135 : decode cX8_isRing 135 = .ok (.goto (-33), 3) := by decide +kernel
theorem dX8_isRing_138 : decode cX8_isRing 138 = .ok (.iload 5, 2) := by decide +kernel
theorem dX8_isRing_140 : decode cX8_isRing 140 = .ok (.ifCond .eq 6, 3) := by decide +kernel
theorem dX8_isRing_143 : decode cX8_isRing 143 = .ok (.goto (-122), 3) := by decide +kernel
theorem dX8_isRing_146 : decode cX8_isRing 146 = .ok (.aload_n 0, 1) := by decide +kernel
theorem dX8_isRing_147 : decode cX8_isRing 147 = .ok (.getfield 79, 3) := by decide +kernel
theorem dX8_isRing_150 : decode cX8_isRing 150 = .ok (.iload_n 2, 1) := by decide +kernel
theorem dX8_isRing_151 : decode cX8_isRing 151 = .ok (.iload 4, 2) := by decide +kernel
theorem dX8_isRing_153 : decode cX8_isRing 153 = .ok (.iastore, 1) := by decide +kernel
theorem dX8_isRing_154 : decode cX8_isRing 154 = .ok (.aload_n 0, 1) := by decide +kernel
theorem dX8_isRing_155 : decode cX8_isRing 155 = .ok (.getfield 82, 3) := by decide +kernel
theorem dX8_isRing_158 : decode cX8_isRing 158 = .ok (.iload_n 2, 1) := by decide +kernel
theorem dX8_isRing_159 : decode cX8_isRing 159 = .ok (.iconst 0, 1) := by decide +kernel
theorem dX8_isRing_160 : decode cX8_isRing 160 = .ok (.iastore, 1) := by decide +kernel
theorem dX8_isRing_161 : decode cX8_isRing 161 = .ok (.iinc 2 1, 3) := by decide +kernel
theorem dX8_isRing_164 : decode cX8_isRing 164 = .ok (.goto (-143), 3) := by decide +kernel
theorem dX8_isRing_167 : decode cX8_isRing 167 = .ok (.aload_n 0, 1) := by decide +kernel
theorem dX8_isRing_168 : decode cX8_isRing 168 = .ok (.getfield 170, 3) := by decide +kernel
theorem dX8_isRing_171 : decode cX8_isRing 171 = .ok (.ifCond .le 7, 3) := by decide +kernel
theorem dX8_isRing_174 : decode cX8_isRing 174 = .ok (.iconst 1, 1) := by decide +kernel
theorem dX8_isRing_175 : decode cX8_isRing 175 = .ok (.goto 4, 3) := by decide +kernel
theorem dX8_isRing_178 : decode cX8_isRing 178 = .ok (.iconst 0, 1) := by decide +kernel
theorem dX8_isRing_179 : decode cX8_isRing 179 = .ok (.ireturn, 1) := by decide +kernel
theorem dX8_isBetter_0 : decode cX8_isBetter 0 = .ok (.iconst 0, 1) := by decide +kernel
theorem dX8_isBetter_1 : decode cX8_isBetter 1 = .ok (.istore_n 2, 1) := by decide +kernel
theorem dX8_isBetter_2 : decode cX8_isBetter 2 = .ok (.iconst 1, 1) := by decide +kernel
theorem dX8_isBetter_3 : decode cX8_isBetter 3 = .ok (.istore_n 3, 1) := by decide +kernel
theorem dX8_isBetter_4 : decode cX8_isBetter 4 = .ok (.iload_n 3, 1) := by decide +kernel
theorem dX8_isBetter_5 : decode cX8_isBetter 5 = .ok (.iload_n 1, 1) := by decide +kernel
theorem dX8_isBetter_6 : decode cX8_isBetter 6 = .ok (.if_icmp .ge 30, 3) := by decide +kernel
theorem dX8_isBetter_9 : decode cX8_isBetter 9 = .ok (.aload_n 0, 1) := by decide +kernel
theorem dX8_isBetter_10 : decode cX8_isBetter 10 = .ok (.getfield 79, 3) := by decide +kernel
theorem dX8_isBetter_13 : decode cX8_isBetter 13 = .ok (.iload_n 3, 1) := by decide +kernel
theorem dX8_isBetter_14 : decode cX8_isBetter 14 = .ok (.iaload, 1) := by decide +kernel
theorem dX8_isBetter_15 : decode cX8_isBetter 15 = .ok (.aload_n 0, 1) := by decide +kernel
theorem dX8_isBetter_16 : decode cX8_isBetter 16 = .ok (.getfield 79, 3) := by decide +kernel
theorem dX8_isBetter_19 : decode cX8_isBetter 19 = .ok (.iload_n 2, 1) := by decide +kernel
theorem dX8_isBetter_20 : decode cX8_isBetter 20 = .ok (.iaload, 1) := by decide +kernel
theorem dX8_isBetter_21 : decode cX8_isBetter 21 = .ok (.if_icmp .ge 7, 3) := by decide +kernel
theorem dX8_isBetter_24 : decode cX8_isBetter 24 = .ok (.iload_n 3, 1) := by decide +kernel
theorem dX8_isBetter_25 : decode cX8_isBetter 25 = .ok (.goto 4, 3) := by decide +kernel
theorem dX8_isBetter_28 : decode cX8_isBetter 28 = .ok (.iload_n 2, 1) := by decide +kernel
theorem dX8_isBetter_29 : decode cX8_isBetter 29 = .ok (.istore_n 2, 1) := by decide +kernel
theorem dX8_isBetter_30 : decode cX8_isBetter 30 = .ok (.iinc 3 1, 3) := by decide +kernel
theorem dX8_isBetter_33 : decode cX8_isBetter 33 = .ok (.goto (-29), 3) := by decide +kernel
theorem dX8_isBetter_36 : decode cX8_isBetter 36 = .ok (.iconst 0, 1) := by decide +kernel
theorem dX8_isBetter_37 : decode cX8_isBetter 37 = .ok (.istore_n 3, 1) := by decide +kernel
theorem dX8_isBetter_38 : decode cX8_isBetter 38 = .ok (.iload_n 3, 1) := by decide +kernel
theorem dX8_isBetter_39 : decode cX8_isBetter 39 = .ok (.iload_n 1, 1) := by decide +kernel
theorem dX8_isBetter_40 : decode cX8_isBetter 40 = .ok (.if_icmp .ge 25, 3) := by decide +kernel
theorem dX8_isBetter_43 : decode cX8_isBetter 43 = .ok (.aload_n 0, 1) := by decide +kernel
theorem dX8_isBetter_44 : decode cX8_isBetter 44 = .ok (.getfield 85, 3) := by decide +kernel
theorem dX8_isBetter_47 : decode cX8_isBetter 47 = .ok (.iload_n 3, 1) := by decide +kernel
theorem dX8_isBetter_48 : decode cX8_isBetter 48 = .ok (.aload_n 0, 1) := by decide +kernel
theorem dX8_isBetter_49 : decode cX8_isBetter 49 = .ok (.getfield 79, 3) := by decide +kernel
theorem dX8_isBetter_52 : decode cX8_isBetter 52 = .ok (.iload_n 2, 1) := by decide +kernel
theorem dX8_isBetter_53 : decode cX8_isBetter 53 = .ok (.iload_n 3, 1) := by decide +kernel
theorem dX8_isBetter_54 : decode cX8_isBetter 54 = .ok (.iadd, 1) := by decide +kernel
theorem dX8_isBetter_55 : decode cX8_isBetter 55 = .ok (.iload_n 1, 1) := by decide +kernel
theorem dX8_isBetter_56 : decode cX8_isBetter 56 = .ok (.irem, 1) := by decide +kernel
theorem dX8_isBetter_57 : decode cX8_isBetter 57 = .ok (.iaload, 1) := by decide +kernel
theorem dX8_isBetter_58 : decode cX8_isBetter 58 = .ok (.iastore, 1) := by decide +kernel
theorem dX8_isBetter_59 : decode cX8_isBetter 59 = .ok (.iinc 3 1, 3) := by decide +kernel
theorem dX8_isBetter_62 : decode cX8_isBetter 62 = .ok (.goto (-24), 3) := by decide +kernel
theorem dX8_isBetter_65 : decode cX8_isBetter 65 = .ok (.aload_n 0, 1) := by decide +kernel
theorem dX8_isBetter_66 : decode cX8_isBetter 66 = .ok (.getfield 170, 3) := by decide +kernel
theorem dX8_isBetter_69 : decode cX8_isBetter 69 = .ok (.ifCond .ne 7, 3) := by decide +kernel
theorem dX8_isBetter_72 : decode cX8_isBetter 72 = .ok (.iconst (-1), 1) := by decide +kernel
theorem dX8_isBetter_73 : decode cX8_isBetter 73 = .ok (.goto 9, 3) := by decide +kernel
theorem dX8_isBetter_76 : decode cX8_isBetter 76 = .ok (.iload_n 1, 1) := by decide +kernel
theorem dX8_isBetter_77 : decode cX8_isBetter 77 = .ok (.aload_n 0, 1) := by decide +kernel
theorem dX8_isBetter_78 : decode cX8_isBetter 78 = .ok (.getfield 170, 3) := by decide +kernel
theorem dX8_isBetter_81 : decode cX8_isBetter 81 = .ok (.isub, 1) := by decide +kernel
theorem dX8_isBetter_82 : decode cX8_isBetter 82 = .ok (.istore_n 3, 1) := by decide +kernel
theorem dX8_isBetter_83 : decode cX8_isBetter 83 = .ok (.iconst 0, 1) := by decide +kernel
theorem dX8_isBetter_84 : decode cX8_isBetter 84 = .ok (.istore 4, 2) := by decide +kernel
theorem dX8_isBetter_86 : decode cX8_isBetter 86 = .ok (.iload 4, 2) := by decide +kernel
theorem dX8_isBetter_88 : decode cX8_isBetter 88 = .ok (.iload_n 1, 1) := by decide +kernel
theorem dX8_isBetter_89 : decode cX8_isBetter 89 = .ok (.if_icmp .ge 29, 3) := by decide +kernel
theorem dX8_isBetter_92 : decode cX8_isBetter 92 = .ok (.iload_n 3, 1) := by decide +kernel
theorem dX8_isBetter_93 : decode cX8_isBetter 93 = .ok (.ifCond .ne 25, 3) := by decide +kernel
theorem dX8_isBetter_96 : decode cX8_isBetter 96 = .ok (.aload_n 0, 1) := by decide +kernel
theorem dX8_isBetter_97 : decode cX8_isBetter 97 = .ok (.getfield 85, 3) := by decide +kernel
theorem dX8_isBetter_100 : decode cX8_isBetter 100 = .ok (.iload 4, 2) := by decide +kernel
theorem dX8_isBetter_102 : decode cX8_isBetter 102 = .ok (.iaload, 1) := by decide +kernel
theorem dX8_isBetter_103 : decode cX8_isBetter 103 = .ok (.aload_n 0, 1) := by decide +kernel
theorem dX8_isBetter_104 : decode cX8_isBetter 104 = .ok (.getfield 88, 3) := by decide +kernel
theorem dX8_isBetter_107 : decode cX8_isBetter 107 = .ok (.iload 4, 2) := by decide +kernel
theorem dX8_isBetter_109 : decode cX8_isBetter 109 = .ok (.iaload, 1) := by decide +kernel
theorem dX8_isBetter_110 : decode cX8_isBetter 110 = .ok (.isub, 1) := by decide +kernel
theorem dX8_isBetter_111 : decode cX8_isBetter 111 = .ok (.istore_n 3, 1) := by decide +kernel
theorem dX8_isBetter_112 : decode cX8_isBetter 112 = .ok (.iinc 4 1, 3) := by decide +kernel
theorem dX8_isBetter_115 : decode cX8_isBetter 115 = .ok (.goto (-29), 3) := by decide +kernel
theorem dX8_isBetter_118 : decode cX8_isBetter 118 = .ok (.iload_n 3, 1) := by decide +kernel
theorem dX8_isBetter_119 : decode cX8_isBetter 119 = .ok (.ifCond .lt 4, 3) := by decide +kernel
theorem dX8_isBetter_122 : decode cX8_isBetter 122 = .ok (.return_, 1) := by decide +kernel
theorem dX8_isBetter_123 : decode cX8_isBetter 123 = .ok (.aload_n 0, 1) := by decide +kernel
theorem dX8_isBetter_124 : decode cX8_isBetter 124 = .ok (.iload_n 1, 1) := by decide +kernel
theorem dX8_isBetter_125 : decode cX8_isBetter 125 = .ok (.putfield 170, 3) := by decide +kernel
theorem dX8_isBetter_128 : decode cX8_isBetter 128 = .ok (.iconst 0, 1) := by decide +kernel
theorem dX8_isBetter_129 : decode cX8_isBetter 129 = .ok (.istore 4, 2) := by decide +kernel
theorem dX8_isBetter_131 : decode cX8_isBetter 131 = .ok (.iload 4, 2) := by decide +kernel
theorem dX8_isBetter_133 : decode cX8_isBetter 133 = .ok (.iload_n 1, 1) := by decide +kernel
theorem dX8_isBetter_134 : decode cX8_isBetter 134 = .ok (.if_icmp .ge 23, 3) := by decide +kernel
theorem dX8_isBetter_137 : decode cX8_isBetter 137 = .ok (.aload_n 0, 1) := by decide +kernel
theorem dX8_isBetter_138 : decode cX8_isBetter 138 = .ok (.getfield 88, 3) := by decide +kernel
theorem dX8_isBetter_141 : decode cX8_isBetter 141 = .ok (.iload 4, 2) := by decide +kernel
theorem dX8_isBetter_143 : decode cX8_isBetter 143 = .ok (.aload_n 0, 1) := by decide +kernel
theorem dX8_isBetter_144 : decode cX8_isBetter 144 = .ok (.getfield 85, 3) := by decide +kernel
theorem dX8_isBetter_147 : decode cX8_isBetter 147 = .ok (.iload 4, 2) := by decide +kernel
theorem dX8_isBetter_149 : decode cX8_isBetter 149 = .ok (.iaload, 1) := by decide +kernel
theorem dX8_isBetter_150 : decode cX8_isBetter 150 = .ok (.iastore, 1) := by decide +kernel
theorem dX8_isBetter_151 : decode cX8_isBetter 151 = .ok (.iinc 4 1, 3) := by decide +kernel
theorem dX8_isBetter_154 : decode cX8_isBetter 154 = .ok (.goto (-23), 3) := by decide +kernel
theorem dX8_isBetter_157 : decode cX8_isBetter 157 = .ok (.return_, 1) := by decide +kernel
theorem dX8_waits_0 : decode cX8_waits 0 = .ok (.aload_n 0, 1) := by decide +kernel
theorem dX8_waits_1 : decode cX8_waits 1 = .ok (.iload_n 1, 1) := by decide +kernel
theorem dX8_waits_2 : decode cX8_waits 2 = .ok (.iload_n 2, 1) := by decide +kernel
theorem dX8_waits_3 : decode cX8_waits 3 = .ok (.invokevirtual 156, 3) := by decide +kernel
theorem dX8_waits_6 : decode cX8_waits 6 = .ok (.istore 7, 2) := by decide +kernel
theorem dX8_waits_8 : decode cX8_waits 8 = .ok (.iload 7, 2) := by decide +kernel
theorem dX8_waits_10 : decode cX8_waits 10 = .ok (.ifCond .le 6, 3) := by decide +kernel
theorem dX8_waits_13 : decode cX8_waits 13 = .ok (.iload 7, 2) := by decide +kernel
theorem dX8_waits_15 : decode cX8_waits 15 = .ok (.ireturn, 1) := by decide +kernel
theorem dX8_waits_16 : decode cX8_waits 16 = .ok (.iload 4, 2) := by decide +kernel
theorem dX8_waits_18 : decode cX8_waits 18 = .ok (.iload 5, 2) := by decide +kernel
theorem dX8_waits_20 : decode cX8_waits 20 = .ok (.invokestatic 166, 3) := by decide +kernel
theorem dX8_waits_23 : decode cX8_waits 23 = .ok (.ifCond .eq 26, 3) := by decide +kernel
theorem dX8_waits_26 : decode cX8_waits 26 = .ok (.iload_n 3, 1) := by decide +kernel
theorem dX8_waits_27 : decode cX8_waits 27 = .ok (.iconst 3, 1) := by decide +kernel
theorem dX8_waits_28 : decode cX8_waits 28 = .ok (.if_icmp .lt 21, 3) := by decide +kernel
theorem dX8_waits_31 : decode cX8_waits 31 = .ok (.iload_n 3, 1) := by decide +kernel
theorem dX8_waits_32 : decode cX8_waits 32 = .ok (.iconst 5, 1) := by decide +kernel
theorem dX8_waits_33 : decode cX8_waits 33 = .ok (.if_icmp .gt 16, 3) := by decide +kernel
theorem dX8_waits_36 : decode cX8_waits 36 = .ok (.iload 6, 2) := by decide +kernel
theorem dX8_waits_38 : decode cX8_waits 38 = .ok (.ifCond .lt 11, 3) := by decide +kernel
theorem dX8_waits_41 : decode cX8_waits 41 = .ok (.iload 6, 2) := by decide +kernel
theorem dX8_waits_43 : decode cX8_waits 43 = .ok (.sipush 4095, 3) := by decide +kernel
theorem dX8_waits_46 : decode cX8_waits 46 = .ok (.if_icmp .le 5, 3) := by decide +kernel
theorem dX8_waits_49 : decode cX8_waits 49 = .ok (.iconst 3, 1) := by decide +kernel
theorem dX8_waits_50 : decode cX8_waits 50 = .ok (.ireturn, 1) := by decide +kernel
theorem dX8_waits_51 : decode cX8_waits 51 = .ok (.aload_n 0, 1) := by decide +kernel
theorem dX8_waits_52 : decode cX8_waits 52 = .ok (.getfield 20, 3) := by decide +kernel
theorem dX8_waits_55 : decode cX8_waits 55 = .ok (.iload_n 2, 1) := by decide +kernel
theorem dX8_waits_56 : decode cX8_waits 56 = .ok (.iload_n 3, 1) := by decide +kernel
theorem dX8_waits_57 : decode cX8_waits 57 = .ok (.iastore, 1) := by decide +kernel
theorem dX8_waits_58 : decode cX8_waits 58 = .ok (.aload_n 0, 1) := by decide +kernel
theorem dX8_waits_59 : decode cX8_waits 59 = .ok (.getfield 32, 3) := by decide +kernel
theorem dX8_waits_62 : decode cX8_waits 62 = .ok (.iload_n 2, 1) := by decide +kernel
theorem dX8_waits_63 : decode cX8_waits 63 = .ok (.iload 6, 2) := by decide +kernel
theorem dX8_waits_65 : decode cX8_waits 65 = .ok (.iastore, 1) := by decide +kernel
theorem dX8_waits_66 : decode cX8_waits 66 = .ok (.aload_n 0, 1) := by decide +kernel
theorem dX8_waits_67 : decode cX8_waits 67 = .ok (.iload_n 2, 1) := by decide +kernel
theorem dX8_waits_68 : decode cX8_waits 68 = .ok (.invokevirtual 180, 3) := by decide +kernel
theorem dX8_waits_71 : decode cX8_waits 71 = .ok (.ifCond .eq 45, 3) := by decide +kernel
theorem dX8_waits_74 : decode cX8_waits 74 = .ok (.aload_n 0, 1) := by decide +kernel
theorem dX8_waits_75 : decode cX8_waits 75 = .ok (.aload_n 0, 1) := by decide +kernel
theorem dX8_waits_76 : decode cX8_waits 76 = .ok (.getfield 170, 3) := by decide +kernel
theorem dX8_waits_79 : decode cX8_waits 79 = .ok (.putfield 183, 3) := by decide +kernel
theorem dX8_waits_82 : decode cX8_waits 82 = .ok (.iconst 0, 1) := by decide +kernel
theorem dX8_waits_83 : decode cX8_waits 83 = .ok (.istore 8, 2) := by decide +kernel
theorem dX8_waits_85 : decode cX8_waits 85 = .ok (.iload 8, 2) := by decide +kernel
theorem dX8_waits_87 : decode cX8_waits 87 = .ok (.aload_n 0, 1) := by decide +kernel
theorem dX8_waits_88 : decode cX8_waits 88 = .ok (.getfield 183, 3) := by decide +kernel
theorem dX8_waits_91 : decode cX8_waits 91 = .ok (.if_icmp .ge 23, 3) := by decide +kernel
theorem dX8_waits_94 : decode cX8_waits 94 = .ok (.aload_n 0, 1) := by decide +kernel
theorem dX8_waits_95 : decode cX8_waits 95 = .ok (.getfield 91, 3) := by decide +kernel
theorem dX8_waits_98 : decode cX8_waits 98 = .ok (.iload 8, 2) := by decide +kernel
theorem dX8_waits_100 : decode cX8_waits 100 = .ok (.aload_n 0, 1) := by decide +kernel
theorem dX8_waits_101 : decode cX8_waits 101 = .ok (.getfield 88, 3) := by decide +kernel
theorem dX8_waits_104 : decode cX8_waits 104 = .ok (.iload 8, 2) := by decide +kernel
theorem dX8_waits_106 : decode cX8_waits 106 = .ok (.iaload, 1) := by decide +kernel
theorem dX8_waits_107 : decode cX8_waits 107 = .ok (.iastore, 1) := by decide +kernel
theorem dX8_waits_108 : decode cX8_waits 108 = .ok (.iinc 8 1, 3) := by decide +kernel
theorem dX8_waits_111 : decode cX8_waits 111 = .ok (.goto (-26), 3) := by decide +kernel
theorem dX8_waits_114 : decode cX8_waits 114 = .ok (.iconst 4, 1) := by decide +kernel
theorem dX8_waits_115 : decode cX8_waits 115 = .ok (.ireturn, 1) := by decide +kernel
theorem dX8_waits_116 : decode cX8_waits 116 = .ok (.aload_n 0, 1) := by decide +kernel
theorem dX8_waits_117 : decode cX8_waits 117 = .ok (.iconst 2, 1) := by decide +kernel
theorem dX8_waits_118 : decode cX8_waits 118 = .ok (.iload_n 1, 1) := by decide +kernel
theorem dX8_waits_119 : decode cX8_waits 119 = .ok (.iload_n 2, 1) := by decide +kernel
theorem dX8_waits_120 : decode cX8_waits 120 = .ok (.iload_n 3, 1) := by decide +kernel
theorem dX8_waits_121 : decode cX8_waits 121 = .ok (.iload 4, 2) := by decide +kernel
theorem dX8_waits_123 : decode cX8_waits 123 = .ok (.iload 5, 2) := by decide +kernel
theorem dX8_waits_125 : decode cX8_waits 125 = .ok (.iload 6, 2) := by decide +kernel
theorem dX8_waits_127 : decode cX8_waits 127 = .ok (.invokevirtual 159, 3) := by decide +kernel
theorem dX8_waits_130 : decode cX8_waits 130 = .ok (.ireturn, 1) := by decide +kernel
theorem dX8_stay_0 : decode cX8_stay 0 = .ok (.aload_n 0, 1) := by decide +kernel
theorem dX8_stay_1 : decode cX8_stay 1 = .ok (.iload_n 1, 1) := by decide +kernel
theorem dX8_stay_2 : decode cX8_stay 2 = .ok (.iload_n 2, 1) := by decide +kernel
theorem dX8_stay_3 : decode cX8_stay 3 = .ok (.invokevirtual 156, 3) := by decide +kernel
theorem dX8_stay_6 : decode cX8_stay 6 = .ok (.istore 7, 2) := by decide +kernel
theorem dX8_stay_8 : decode cX8_stay 8 = .ok (.iload 7, 2) := by decide +kernel
theorem dX8_stay_10 : decode cX8_stay 10 = .ok (.ifCond .le 6, 3) := by decide +kernel
theorem dX8_stay_13 : decode cX8_stay 13 = .ok (.iload 7, 2) := by decide +kernel
theorem dX8_stay_15 : decode cX8_stay 15 = .ok (.ireturn, 1) := by decide +kernel
theorem dX8_stay_16 : decode cX8_stay 16 = .ok (.iload_n 3, 1) := by decide +kernel
theorem dX8_stay_17 : decode cX8_stay 17 = .ok (.bipush 6, 2) := by decide +kernel
theorem dX8_stay_19 : decode cX8_stay 19 = .ok (.if_icmp .eq 9, 3) := by decide +kernel
theorem dX8_stay_22 : decode cX8_stay 22 = .ok (.iload_n 3, 1) := by decide +kernel
theorem dX8_stay_23 : decode cX8_stay 23 = .ok (.bipush 7, 2) := by decide +kernel
theorem dX8_stay_25 : decode cX8_stay 25 = .ok (.if_icmp .ne 39, 3) := by decide +kernel
theorem dX8_stay_28 : decode cX8_stay 28 = .ok (.iload 6, 2) := by decide +kernel
theorem dX8_stay_30 : decode cX8_stay 30 = .ok (.ifCond .lt 34, 3) := by decide +kernel
theorem dX8_stay_33 : decode cX8_stay 33 = .ok (.iload 6, 2) := by decide +kernel
theorem dX8_stay_35 : decode cX8_stay 35 = .ok (.sipush 4095, 3) := by decide +kernel
theorem dX8_stay_38 : decode cX8_stay 38 = .ok (.if_icmp .gt 26, 3) := by decide +kernel
theorem dX8_stay_41 : decode cX8_stay 41 = .ok (.iload 4, 2) := by decide +kernel
theorem dX8_stay_43 : decode cX8_stay 43 = .ok (.invokestatic 163, 3) := by decide +kernel
theorem dX8_stay_46 : decode cX8_stay 46 = .ok (.ifCond .eq 18, 3) := by decide +kernel
theorem dX8_stay_49 : decode cX8_stay 49 = .ok (.iload 5, 2) := by decide +kernel
theorem dX8_stay_51 : decode cX8_stay 51 = .ok (.invokestatic 163, 3) := by decide +kernel
theorem dX8_stay_54 : decode cX8_stay 54 = .ok (.ifCond .eq 10, 3) := by decide +kernel
theorem dX8_stay_57 : decode cX8_stay 57 = .ok (.iload 5, 2) := by decide +kernel
theorem dX8_stay_59 : decode cX8_stay 59 = .ok (.iload 4, 2) := by decide +kernel
theorem dX8_stay_61 : decode cX8_stay 61 = .ok (.if_icmp .ge 5, 3) := by decide +kernel
theorem dX8_stay_64 : decode cX8_stay 64 = .ok (.iconst 3, 1) := by decide +kernel
theorem dX8_stay_65 : decode cX8_stay 65 = .ok (.ireturn, 1) := by decide +kernel
theorem dX8_stay_66 : decode cX8_stay 66 = .ok (.aload_n 0, 1) := by decide +kernel
theorem dX8_stay_67 : decode cX8_stay 67 = .ok (.iconst 3, 1) := by decide +kernel
theorem dX8_stay_68 : decode cX8_stay 68 = .ok (.iload_n 1, 1) := by decide +kernel
theorem dX8_stay_69 : decode cX8_stay 69 = .ok (.iload_n 2, 1) := by decide +kernel
theorem dX8_stay_70 : decode cX8_stay 70 = .ok (.iload_n 3, 1) := by decide +kernel
theorem dX8_stay_71 : decode cX8_stay 71 = .ok (.iload 4, 2) := by decide +kernel
theorem dX8_stay_73 : decode cX8_stay 73 = .ok (.iload 5, 2) := by decide +kernel
theorem dX8_stay_75 : decode cX8_stay 75 = .ok (.iload 6, 2) := by decide +kernel
theorem dX8_stay_77 : decode cX8_stay 77 = .ok (.invokevirtual 159, 3) := by decide +kernel
theorem dX8_stay_80 : decode cX8_stay 80 = .ok (.ireturn, 1) := by decide +kernel
theorem dX8_quash_0 : decode cX8_quash 0 = .ok (.iload_n 3, 1) := by decide +kernel
theorem dX8_quash_1 : decode cX8_quash 1 = .ok (.invokestatic 153, 3) := by decide +kernel
theorem dX8_quash_4 : decode cX8_quash 4 = .ok (.ifCond .ne 5, 3) := by decide +kernel
theorem dX8_quash_7 : decode cX8_quash 7 = .ok (.iconst 1, 1) := by decide +kernel
theorem dX8_quash_8 : decode cX8_quash 8 = .ok (.ireturn, 1) := by decide +kernel
theorem dX8_quash_9 : decode cX8_quash 9 = .ok (.aload_n 0, 1) := by decide +kernel
theorem dX8_quash_10 : decode cX8_quash 10 = .ok (.iload_n 1, 1) := by decide +kernel
theorem dX8_quash_11 : decode cX8_quash 11 = .ok (.iload_n 2, 1) := by decide +kernel
theorem dX8_quash_12 : decode cX8_quash 12 = .ok (.invokevirtual 156, 3) := by decide +kernel
theorem dX8_quash_15 : decode cX8_quash 15 = .ok (.istore 4, 2) := by decide +kernel
theorem dX8_quash_17 : decode cX8_quash 17 = .ok (.iload 4, 2) := by decide +kernel
theorem dX8_quash_19 : decode cX8_quash 19 = .ok (.ifCond .le 6, 3) := by decide +kernel
theorem dX8_quash_22 : decode cX8_quash 22 = .ok (.iload 4, 2) := by decide +kernel
theorem dX8_quash_24 : decode cX8_quash 24 = .ok (.ireturn, 1) := by decide +kernel
theorem dX8_quash_25 : decode cX8_quash 25 = .ok (.aload_n 0, 1) := by decide +kernel
theorem dX8_quash_26 : decode cX8_quash 26 = .ok (.getfield 20, 3) := by decide +kernel
theorem dX8_quash_29 : decode cX8_quash 29 = .ok (.iload_n 3, 1) := by decide +kernel
theorem dX8_quash_30 : decode cX8_quash 30 = .ok (.iaload, 1) := by decide +kernel
theorem dX8_quash_31 : decode cX8_quash 31 = .ok (.iconst 2, 1) := by decide +kernel
theorem dX8_quash_32 : decode cX8_quash 32 = .ok (.if_icmp .lt 24, 3) := by decide +kernel
theorem dX8_quash_35 : decode cX8_quash 35 = .ok (.aload_n 0, 1) := by decide +kernel
theorem dX8_quash_36 : decode cX8_quash 36 = .ok (.getfield 20, 3) := by decide +kernel
theorem dX8_quash_39 : decode cX8_quash 39 = .ok (.iload_n 3, 1) := by decide +kernel
theorem dX8_quash_40 : decode cX8_quash 40 = .ok (.iaload, 1) := by decide +kernel
theorem dX8_quash_41 : decode cX8_quash 41 = .ok (.bipush 7, 2) := by decide +kernel
theorem dX8_quash_43 : decode cX8_quash 43 = .ok (.if_icmp .gt 13, 3) := by decide +kernel
theorem dX8_quash_46 : decode cX8_quash 46 = .ok (.aload_n 0, 1) := by decide +kernel
theorem dX8_quash_47 : decode cX8_quash 47 = .ok (.getfield 44, 3) := by decide +kernel
theorem dX8_quash_50 : decode cX8_quash 50 = .ok (.iload_n 3, 1) := by decide +kernel
theorem dX8_quash_51 : decode cX8_quash 51 = .ok (.iaload, 1) := by decide +kernel
theorem dX8_quash_52 : decode cX8_quash 52 = .ok (.iconst (-1), 1) := by decide +kernel
theorem dX8_quash_53 : decode cX8_quash 53 = .ok (.if_icmp .eq 5, 3) := by decide +kernel
theorem dX8_quash_56 : decode cX8_quash 56 = .ok (.iconst 5, 1) := by decide +kernel
theorem dX8_quash_57 : decode cX8_quash 57 = .ok (.ireturn, 1) := by decide +kernel
theorem dX8_quash_58 : decode cX8_quash 58 = .ok (.aload_n 0, 1) := by decide +kernel
theorem dX8_quash_59 : decode cX8_quash 59 = .ok (.iconst 4, 1) := by decide +kernel
theorem dX8_quash_60 : decode cX8_quash 60 = .ok (.iload_n 1, 1) := by decide +kernel
theorem dX8_quash_61 : decode cX8_quash 61 = .ok (.iload_n 2, 1) := by decide +kernel
theorem dX8_quash_62 : decode cX8_quash 62 = .ok (.iload_n 3, 1) := by decide +kernel
theorem dX8_quash_63 : decode cX8_quash 63 = .ok (.iconst 0, 1) := by decide +kernel
theorem dX8_quash_64 : decode cX8_quash 64 = .ok (.iconst 0, 1) := by decide +kernel
theorem dX8_quash_65 : decode cX8_quash 65 = .ok (.iconst 0, 1) := by decide +kernel
theorem dX8_quash_66 : decode cX8_quash 66 = .ok (.invokevirtual 159, 3) := by decide +kernel
theorem dX8_quash_69 : decode cX8_quash 69 = .ok (.ireturn, 1) := by decide +kernel
theorem dX8_month_0 : decode cX8_month 0 = .ok (.aload_n 0, 1) := by decide +kernel
theorem dX8_month_1 : decode cX8_month 1 = .ok (.iload_n 1, 1) := by decide +kernel
theorem dX8_month_2 : decode cX8_month 2 = .ok (.invokevirtual 150, 3) := by decide +kernel
theorem dX8_month_5 : decode cX8_month 5 = .ok (.ifCond .eq 10, 3) := by decide +kernel
theorem dX8_month_8 : decode cX8_month 8 = .ok (.iload_n 2, 1) := by decide +kernel
theorem dX8_month_9 : decode cX8_month 9 = .ok (.invokestatic 186, 3) := by decide +kernel
theorem dX8_month_12 : decode cX8_month 12 = .ok (.ifCond .ne 5, 3) := by decide +kernel
theorem dX8_month_15 : decode cX8_month 15 = .ok (.iconst 1, 1) := by decide +kernel
theorem dX8_month_16 : decode cX8_month 16 = .ok (.ireturn, 1) := by decide +kernel
theorem dX8_month_17 : decode cX8_month 17 = .ok (.iload 4, 2) := by decide +kernel
theorem dX8_month_19 : decode cX8_month 19 = .ok (.ifCond .lt 10, 3) := by decide +kernel
theorem dX8_month_22 : decode cX8_month 22 = .ok (.iload 4, 2) := by decide +kernel
theorem dX8_month_24 : decode cX8_month 24 = .ok (.bipush 30, 2) := by decide +kernel
theorem dX8_month_26 : decode cX8_month 26 = .ok (.if_icmp .le 7, 3) := by decide +kernel
theorem dX8_month_29 : decode cX8_month 29 = .ok (.iconst 3, 1) := by decide +kernel
theorem dX8_month_30 : decode cX8_month 30 = .ok (.goto 23, 3) := by decide +kernel
theorem dX8_month_33 : decode cX8_month 33 = .ok (.aload_n 0, 1) := by decide +kernel
theorem dX8_month_34 : decode cX8_month 34 = .ok (.iconst 5, 1) := by decide +kernel
theorem dX8_month_35 : decode cX8_month 35 = .ok (.iload_n 1, 1) := by decide +kernel
theorem dX8_month_36 : decode cX8_month 36 = .ok (.iload_n 2, 1) := by decide +kernel
theorem dX8_month_37 : decode cX8_month 37 = .ok (.iload_n 3, 1) := by decide +kernel
theorem dX8_month_38 : decode cX8_month 38 = .ok (.ifCond .eq 7, 3) := by decide +kernel
theorem dX8_month_41 : decode cX8_month 41 = .ok (.iconst 1, 1) := by decide +kernel
theorem dX8_month_42 : decode cX8_month 42 = .ok (.goto 4, 3) := by decide +kernel
theorem dX8_month_45 : decode cX8_month 45 = .ok (.iconst 0, 1) := by decide +kernel
theorem dX8_month_46 : decode cX8_month 46 = .ok (.iload 4, 2) := by decide +kernel
theorem dX8_month_48 : decode cX8_month 48 = .ok (.iconst 0, 1) := by decide +kernel
theorem dX8_month_49 : decode cX8_month 49 = .ok (.iconst 0, 1) := by decide +kernel
theorem dX8_month_50 : decode cX8_month 50 = .ok (.invokevirtual 159, 3) := by decide +kernel
theorem dX8_month_53 : decode cX8_month 53 = .ok (.ireturn, 1) := by decide +kernel
theorem dX8_held_0 : decode cX8_held 0 = .ok (.aload_n 0, 1) := by decide +kernel
theorem dX8_held_1 : decode cX8_held 1 = .ok (.iload_n 1, 1) := by decide +kernel
theorem dX8_held_2 : decode cX8_held 2 = .ok (.invokevirtual 150, 3) := by decide +kernel
theorem dX8_held_5 : decode cX8_held 5 = .ok (.ifCond .eq 10, 3) := by decide +kernel
theorem dX8_held_8 : decode cX8_held 8 = .ok (.iload_n 2, 1) := by decide +kernel
theorem dX8_held_9 : decode cX8_held 9 = .ok (.invokestatic 186, 3) := by decide +kernel
theorem dX8_held_12 : decode cX8_held 12 = .ok (.ifCond .ne 5, 3) := by decide +kernel
theorem dX8_held_15 : decode cX8_held 15 = .ok (.iconst 1, 1) := by decide +kernel
theorem dX8_held_16 : decode cX8_held 16 = .ok (.ireturn, 1) := by decide +kernel
theorem dX8_held_17 : decode cX8_held 17 = .ok (.aload_n 0, 1) := by decide +kernel
theorem dX8_held_18 : decode cX8_held 18 = .ok (.iload_n 1, 1) := by decide +kernel
theorem dX8_held_19 : decode cX8_held 19 = .ok (.aload_n 0, 1) := by decide +kernel
theorem dX8_held_20 : decode cX8_held 20 = .ok (.getfield 97, 3) := by decide +kernel
theorem dX8_held_23 : decode cX8_held 23 = .ok (.invokevirtual 140, 3) := by decide +kernel
theorem dX8_held_26 : decode cX8_held 26 = .ok (.bipush 120, 2) := by decide +kernel
theorem dX8_held_28 : decode cX8_held 28 = .ok (.iload_n 1, 1) := by decide +kernel
theorem dX8_held_29 : decode cX8_held 29 = .ok (.imul, 1) := by decide +kernel
theorem dX8_held_30 : decode cX8_held 30 = .ok (.iload_n 2, 1) := by decide +kernel
theorem dX8_held_31 : decode cX8_held 31 = .ok (.iadd, 1) := by decide +kernel
theorem dX8_held_32 : decode cX8_held 32 = .ok (.istore 5, 2) := by decide +kernel
theorem dX8_held_34 : decode cX8_held 34 = .ok (.aload_n 0, 1) := by decide +kernel
theorem dX8_held_35 : decode cX8_held 35 = .ok (.getfield 47, 3) := by decide +kernel
theorem dX8_held_38 : decode cX8_held 38 = .ok (.iload 5, 2) := by decide +kernel
theorem dX8_held_40 : decode cX8_held 40 = .ok (.iaload, 1) := by decide +kernel
theorem dX8_held_41 : decode cX8_held 41 = .ok (.iconst 1, 1) := by decide +kernel
theorem dX8_held_42 : decode cX8_held 42 = .ok (.if_icmp .ne 7, 3) := by decide +kernel
theorem dX8_held_45 : decode cX8_held 45 = .ok (.iconst 1, 1) := by decide +kernel
theorem dX8_held_46 : decode cX8_held 46 = .ok (.goto 4, 3) := by decide +kernel
theorem dX8_held_49 : decode cX8_held 49 = .ok (.iconst 0, 1) := by decide +kernel
theorem dX8_held_50 : decode cX8_held 50 = .ok (.istore 6, 2) := by decide +kernel
theorem dX8_held_52 : decode cX8_held 52 = .ok (.iload 6, 2) := by decide +kernel
theorem dX8_held_54 : decode cX8_held 54 = .ok (.ifCond .eq 19, 3) := by decide +kernel
theorem dX8_held_57 : decode cX8_held 57 = .ok (.aload_n 0, 1) := by decide +kernel
theorem dX8_held_58 : decode cX8_held 58 = .ok (.getfield 50, 3) := by decide +kernel
theorem dX8_held_61 : decode cX8_held 61 = .ok (.iload 5, 2) := by decide +kernel
theorem dX8_held_63 : decode cX8_held 63 = .ok (.baload, 1) := by decide +kernel
theorem dX8_held_64 : decode cX8_held 64 = .ok (.ifCond .eq 9, 3) := by decide +kernel
theorem dX8_held_67 : decode cX8_held 67 = .ok (.sipush 32767, 3) := by decide +kernel
theorem dX8_held_70 : decode cX8_held 70 = .ok (.goto 5, 3) := by decide +kernel
theorem dX8_held_73 : decode cX8_held 73 = .ok (.bipush 127, 2) := by decide +kernel
theorem dX8_held_75 : decode cX8_held 75 = .ok (.istore 7, 2) := by decide +kernel
theorem dX8_held_77 : decode cX8_held 77 = .ok (.iload 6, 2) := by decide +kernel
theorem dX8_held_79 : decode cX8_held 79 = .ok (.ifCond .eq 22, 3) := by decide +kernel
theorem dX8_held_82 : decode cX8_held 82 = .ok (.iload 4, 2) := by decide +kernel
theorem dX8_held_84 : decode cX8_held 84 = .ok (.iload 7, 2) := by decide +kernel
theorem dX8_held_86 : decode cX8_held 86 = .ok (.if_icmp .gt 13, 3) := by decide +kernel
theorem dX8_held_89 : decode cX8_held 89 = .ok (.iload 4, 2) := by decide +kernel
theorem dX8_held_91 : decode cX8_held 91 = .ok (.iload 7, 2) := by decide +kernel
theorem dX8_held_93 : decode cX8_held 93 = .ok (.ineg, 1) := by decide +kernel
theorem dX8_held_94 : decode cX8_held 94 = .ok (.iconst 1, 1) := by decide +kernel
theorem dX8_held_95 : decode cX8_held 95 = .ok (.isub, 1) := by decide +kernel
theorem dX8_held_96 : decode cX8_held 96 = .ok (.if_icmp .ge 5, 3) := by decide +kernel
theorem dX8_held_99 : decode cX8_held 99 = .ok (.iconst 3, 1) := by decide +kernel
theorem dX8_held_100 : decode cX8_held 100 = .ok (.ireturn, 1) := by decide +kernel
theorem dX8_held_101 : decode cX8_held 101 = .ok (.iload 6, 2) := by decide +kernel
theorem dX8_held_103 : decode cX8_held 103 = .ok (.ifCond .eq 18, 3) := by decide +kernel
theorem dX8_held_106 : decode cX8_held 106 = .ok (.iload_n 3, 1) := by decide +kernel
theorem dX8_held_107 : decode cX8_held 107 = .ok (.ifCond .lt 14, 3) := by decide +kernel
theorem dX8_held_110 : decode cX8_held 110 = .ok (.iload_n 3, 1) := by decide +kernel
theorem dX8_held_111 : decode cX8_held 111 = .ok (.aload_n 0, 1) := by decide +kernel
theorem dX8_held_112 : decode cX8_held 112 = .ok (.getfield 54, 3) := by decide +kernel
theorem dX8_held_115 : decode cX8_held 115 = .ok (.iload 5, 2) := by decide +kernel
theorem dX8_held_117 : decode cX8_held 117 = .ok (.iaload, 1) := by decide +kernel
theorem dX8_held_118 : decode cX8_held 118 = .ok (.if_icmp .lt 8, 3) := by decide +kernel
theorem dX8_held_121 : decode cX8_held 121 = .ok (.bipush 6, 2) := by decide +kernel
theorem dX8_held_123 : decode cX8_held 123 = .ok (.goto 16, 3) := by decide +kernel
theorem dX8_held_126 : decode cX8_held 126 = .ok (.aload_n 0, 1) := by decide +kernel
theorem dX8_held_127 : decode cX8_held 127 = .ok (.bipush 6, 2) := by decide +kernel
theorem dX8_held_129 : decode cX8_held 129 = .ok (.iload_n 1, 1) := by decide +kernel
theorem dX8_held_130 : decode cX8_held 130 = .ok (.iload_n 2, 1) := by decide +kernel
theorem dX8_held_131 : decode cX8_held 131 = .ok (.iload_n 3, 1) := by decide +kernel
theorem dX8_held_132 : decode cX8_held 132 = .ok (.iload 4, 2) := by decide +kernel
theorem dX8_held_134 : decode cX8_held 134 = .ok (.iconst 0, 1) := by decide +kernel
theorem dX8_held_135 : decode cX8_held 135 = .ok (.iconst 0, 1) := by decide +kernel
theorem dX8_held_136 : decode cX8_held 136 = .ok (.invokevirtual 159, 3) := by decide +kernel
theorem dX8_held_139 : decode cX8_held 139 = .ok (.ireturn, 1) := by decide +kernel
theorem dX8_tear_0 : decode cX8_tear 0 = .ok (.aload_n 0, 1) := by decide +kernel
theorem dX8_tear_1 : decode cX8_tear 1 = .ok (.iload_n 1, 1) := by decide +kernel
theorem dX8_tear_2 : decode cX8_tear 2 = .ok (.invokevirtual 150, 3) := by decide +kernel
theorem dX8_tear_5 : decode cX8_tear 5 = .ok (.ifCond .eq 10, 3) := by decide +kernel
theorem dX8_tear_8 : decode cX8_tear 8 = .ok (.iload_n 2, 1) := by decide +kernel
theorem dX8_tear_9 : decode cX8_tear 9 = .ok (.invokestatic 186, 3) := by decide +kernel
theorem dX8_tear_12 : decode cX8_tear 12 = .ok (.ifCond .ne 7, 3) := by decide +kernel
theorem dX8_tear_15 : decode cX8_tear 15 = .ok (.iconst 1, 1) := by decide +kernel
theorem dX8_tear_16 : decode cX8_tear 16 = .ok (.goto 15, 3) := by decide +kernel
theorem dX8_tear_19 : decode cX8_tear 19 = .ok (.aload_n 0, 1) := by decide +kernel
theorem dX8_tear_20 : decode cX8_tear 20 = .ok (.bipush 7, 2) := by decide +kernel
theorem dX8_tear_22 : decode cX8_tear 22 = .ok (.iload_n 1, 1) := by decide +kernel
theorem dX8_tear_23 : decode cX8_tear 23 = .ok (.iload_n 2, 1) := by decide +kernel
theorem dX8_tear_24 : decode cX8_tear 24 = .ok (.iconst 0, 1) := by decide +kernel
theorem dX8_tear_25 : decode cX8_tear 25 = .ok (.iconst 0, 1) := by decide +kernel
theorem dX8_tear_26 : decode cX8_tear 26 = .ok (.iconst 0, 1) := by decide +kernel
theorem dX8_tear_27 : decode cX8_tear 27 = .ok (.iconst 0, 1) := by decide +kernel
theorem dX8_tear_28 : decode cX8_tear 28 = .ok (.invokevirtual 159, 3) := by decide +kernel
theorem dX8_tear_31 : decode cX8_tear 31 = .ok (.ireturn, 1) := by decide +kernel
theorem dX8_copy_0 : decode cX8_copy 0 = .ok (.aload_n 0, 1) := by decide +kernel
theorem dX8_copy_1 : decode cX8_copy 1 = .ok (.iload_n 1, 1) := by decide +kernel
theorem dX8_copy_2 : decode cX8_copy 2 = .ok (.invokevirtual 150, 3) := by decide +kernel
theorem dX8_copy_5 : decode cX8_copy 5 = .ok (.ifCond .eq 26, 3) := by decide +kernel
theorem dX8_copy_8 : decode cX8_copy 8 = .ok (.iload_n 2, 1) := by decide +kernel
theorem dX8_copy_9 : decode cX8_copy 9 = .ok (.invokestatic 186, 3) := by decide +kernel
theorem dX8_copy_12 : decode cX8_copy 12 = .ok (.ifCond .eq 19, 3) := by decide +kernel
theorem dX8_copy_15 : decode cX8_copy 15 = .ok (.aload_n 0, 1) := by decide +kernel
theorem dX8_copy_16 : decode cX8_copy 16 = .ok (.iload_n 3, 1) := by decide +kernel
theorem dX8_copy_17 : decode cX8_copy 17 = .ok (.invokevirtual 150, 3) := by decide +kernel
theorem dX8_copy_20 : decode cX8_copy 20 = .ok (.ifCond .eq 11, 3) := by decide +kernel
theorem dX8_copy_23 : decode cX8_copy 23 = .ok (.iload 4, 2) := by decide +kernel
theorem dX8_copy_25 : decode cX8_copy 25 = .ok (.invokestatic 186, 3) := by decide +kernel
theorem dX8_copy_28 : decode cX8_copy 28 = .ok (.ifCond .ne 5, 3) := by decide +kernel
theorem dX8_copy_31 : decode cX8_copy 31 = .ok (.iconst 1, 1) := by decide +kernel
theorem dX8_copy_32 : decode cX8_copy 32 = .ok (.ireturn, 1) := by decide +kernel
theorem dX8_copy_33 : decode cX8_copy 33 = .ok (.aload_n 0, 1) := by decide +kernel
theorem dX8_copy_34 : decode cX8_copy 34 = .ok (.iload_n 1, 1) := by decide +kernel
theorem dX8_copy_35 : decode cX8_copy 35 = .ok (.aload_n 0, 1) := by decide +kernel
theorem dX8_copy_36 : decode cX8_copy 36 = .ok (.getfield 97, 3) := by decide +kernel
theorem dX8_copy_39 : decode cX8_copy 39 = .ok (.invokevirtual 140, 3) := by decide +kernel
theorem dX8_copy_42 : decode cX8_copy 42 = .ok (.aload_n 0, 1) := by decide +kernel
theorem dX8_copy_43 : decode cX8_copy 43 = .ok (.getfield 47, 3) := by decide +kernel
theorem dX8_copy_46 : decode cX8_copy 46 = .ok (.bipush 120, 2) := by decide +kernel
theorem dX8_copy_48 : decode cX8_copy 48 = .ok (.iload_n 1, 1) := by decide +kernel
theorem dX8_copy_49 : decode cX8_copy 49 = .ok (.imul, 1) := by decide +kernel
theorem dX8_copy_50 : decode cX8_copy 50 = .ok (.iload_n 2, 1) := by decide +kernel
theorem dX8_copy_51 : decode cX8_copy 51 = .ok (.iadd, 1) := by decide +kernel
theorem dX8_copy_52 : decode cX8_copy 52 = .ok (.iaload, 1) := by decide +kernel
theorem dX8_copy_53 : decode cX8_copy 53 = .ok (.iconst 1, 1) := by decide +kernel
theorem dX8_copy_54 : decode cX8_copy 54 = .ok (.if_icmp .eq 8, 3) := by decide +kernel
theorem dX8_copy_57 : decode cX8_copy 57 = .ok (.bipush 6, 2) := by decide +kernel
theorem dX8_copy_59 : decode cX8_copy 59 = .ok (.goto 16, 3) := by decide +kernel
theorem dX8_copy_62 : decode cX8_copy 62 = .ok (.aload_n 0, 1) := by decide +kernel
theorem dX8_copy_63 : decode cX8_copy 63 = .ok (.bipush 8, 2) := by decide +kernel
theorem dX8_copy_65 : decode cX8_copy 65 = .ok (.iload_n 1, 1) := by decide +kernel
theorem dX8_copy_66 : decode cX8_copy 66 = .ok (.iload_n 2, 1) := by decide +kernel
theorem dX8_copy_67 : decode cX8_copy 67 = .ok (.iload_n 3, 1) := by decide +kernel
theorem dX8_copy_68 : decode cX8_copy 68 = .ok (.iload 4, 2) := by decide +kernel
theorem dX8_copy_70 : decode cX8_copy 70 = .ok (.iconst 0, 1) := by decide +kernel
theorem dX8_copy_71 : decode cX8_copy 71 = .ok (.iconst 0, 1) := by decide +kernel
theorem dX8_copy_72 : decode cX8_copy 72 = .ok (.invokevirtual 159, 3) := by decide +kernel
theorem dX8_copy_75 : decode cX8_copy 75 = .ok (.ireturn, 1) := by decide +kernel
theorem dX8_isRuled_0 : decode cX8_isRuled 0 = .ok (.aload_n 0, 1) := by decide +kernel
theorem dX8_isRuled_1 : decode cX8_isRuled 1 = .ok (.iload_n 1, 1) := by decide +kernel
theorem dX8_isRuled_2 : decode cX8_isRuled 2 = .ok (.invokevirtual 121, 3) := by decide +kernel
theorem dX8_isRuled_5 : decode cX8_isRuled 5 = .ok (.ifCond .eq 17, 3) := by decide +kernel
theorem dX8_isRuled_8 : decode cX8_isRuled 8 = .ok (.aload_n 0, 1) := by decide +kernel
theorem dX8_isRuled_9 : decode cX8_isRuled 9 = .ok (.getfield 20, 3) := by decide +kernel
theorem dX8_isRuled_12 : decode cX8_isRuled 12 = .ok (.iload_n 1, 1) := by decide +kernel
theorem dX8_isRuled_13 : decode cX8_isRuled 13 = .ok (.iaload, 1) := by decide +kernel
theorem dX8_isRuled_14 : decode cX8_isRuled 14 = .ok (.iconst 5, 1) := by decide +kernel
theorem dX8_isRuled_15 : decode cX8_isRuled 15 = .ok (.if_icmp .eq 7, 3) := by decide +kernel
theorem dX8_isRuled_18 : decode cX8_isRuled 18 = .ok (.iconst 1, 1) := by decide +kernel
theorem dX8_isRuled_19 : decode cX8_isRuled 19 = .ok (.goto 4, 3) := by decide +kernel
theorem dX8_isRuled_22 : decode cX8_isRuled 22 = .ok (.iconst 0, 1) := by decide +kernel
theorem dX8_isRuled_23 : decode cX8_isRuled 23 = .ok (.ireturn, 1) := by decide +kernel
theorem dX8_off_0 : decode cX8_off 0 = .ok (.aload_n 0, 1) := by decide +kernel
theorem dX8_off_1 : decode cX8_off 1 = .ok (.iload_n 1, 1) := by decide +kernel
theorem dX8_off_2 : decode cX8_off 2 = .ok (.invokevirtual 150, 3) := by decide +kernel
theorem dX8_off_5 : decode cX8_off 5 = .ok (.ifCond .eq 10, 3) := by decide +kernel
theorem dX8_off_8 : decode cX8_off 8 = .ok (.iload_n 2, 1) := by decide +kernel
theorem dX8_off_9 : decode cX8_off 9 = .ok (.invokestatic 153, 3) := by decide +kernel
theorem dX8_off_12 : decode cX8_off 12 = .ok (.ifCond .ne 5, 3) := by decide +kernel
theorem dX8_off_15 : decode cX8_off 15 = .ok (.iconst 1, 1) := by decide +kernel
theorem dX8_off_16 : decode cX8_off 16 = .ok (.ireturn, 1) := by decide +kernel
theorem dX8_off_17 : decode cX8_off 17 = .ok (.iload_n 3, 1) := by decide +kernel
theorem dX8_off_18 : decode cX8_off 18 = .ok (.iconst 2, 1) := by decide +kernel
theorem dX8_off_19 : decode cX8_off 19 = .ok (.if_icmp .lt 22, 3) := by decide +kernel
theorem dX8_off_22 : decode cX8_off 22 = .ok (.iload_n 3, 1) := by decide +kernel
theorem dX8_off_23 : decode cX8_off 23 = .ok (.bipush 100, 2) := by decide +kernel
theorem dX8_off_25 : decode cX8_off 25 = .ok (.if_icmp .gt 16, 3) := by decide +kernel
theorem dX8_off_28 : decode cX8_off 28 = .ok (.iload 4, 2) := by decide +kernel
theorem dX8_off_30 : decode cX8_off 30 = .ok (.ifCond .lt 11, 3) := by decide +kernel
theorem dX8_off_33 : decode cX8_off 33 = .ok (.iload 4, 2) := by decide +kernel
theorem dX8_off_35 : decode cX8_off 35 = .ok (.sipush 1000, 3) := by decide +kernel
theorem dX8_off_38 : decode cX8_off 38 = .ok (.if_icmp .le 5, 3) := by decide +kernel
theorem dX8_off_41 : decode cX8_off 41 = .ok (.iconst 3, 1) := by decide +kernel
theorem dX8_off_42 : decode cX8_off 42 = .ok (.ireturn, 1) := by decide +kernel
theorem dX8_off_43 : decode cX8_off 43 = .ok (.aload_n 0, 1) := by decide +kernel
theorem dX8_off_44 : decode cX8_off 44 = .ok (.iload_n 1, 1) := by decide +kernel
theorem dX8_off_45 : decode cX8_off 45 = .ok (.aload_n 0, 1) := by decide +kernel
theorem dX8_off_46 : decode cX8_off 46 = .ok (.getfield 97, 3) := by decide +kernel
theorem dX8_off_49 : decode cX8_off 49 = .ok (.invokevirtual 140, 3) := by decide +kernel
theorem dX8_off_52 : decode cX8_off 52 = .ok (.aload_n 0, 1) := by decide +kernel
theorem dX8_off_53 : decode cX8_off 53 = .ok (.iload_n 2, 1) := by decide +kernel
theorem dX8_off_54 : decode cX8_off 54 = .ok (.invokevirtual 189, 3) := by decide +kernel
theorem dX8_off_57 : decode cX8_off 57 = .ok (.ifCond .ne 7, 3) := by decide +kernel
theorem dX8_off_60 : decode cX8_off 60 = .ok (.iconst 5, 1) := by decide +kernel
theorem dX8_off_61 : decode cX8_off 61 = .ok (.goto 16, 3) := by decide +kernel
theorem dX8_off_64 : decode cX8_off 64 = .ok (.aload_n 0, 1) := by decide +kernel
theorem dX8_off_65 : decode cX8_off 65 = .ok (.bipush 9, 2) := by decide +kernel
theorem dX8_off_67 : decode cX8_off 67 = .ok (.iload_n 1, 1) := by decide +kernel
theorem dX8_off_68 : decode cX8_off 68 = .ok (.iload_n 2, 1) := by decide +kernel
theorem dX8_off_69 : decode cX8_off 69 = .ok (.iload_n 3, 1) := by decide +kernel
theorem dX8_off_70 : decode cX8_off 70 = .ok (.iload 4, 2) := by decide +kernel
theorem dX8_off_72 : decode cX8_off 72 = .ok (.iconst 0, 1) := by decide +kernel
theorem dX8_off_73 : decode cX8_off 73 = .ok (.iconst 0, 1) := by decide +kernel
theorem dX8_off_74 : decode cX8_off 74 = .ok (.invokevirtual 159, 3) := by decide +kernel
theorem dX8_off_77 : decode cX8_off 77 = .ok (.ireturn, 1) := by decide +kernel
theorem dX8_back_0 : decode cX8_back 0 = .ok (.aload_n 0, 1) := by decide +kernel
theorem dX8_back_1 : decode cX8_back 1 = .ok (.iload_n 1, 1) := by decide +kernel
theorem dX8_back_2 : decode cX8_back 2 = .ok (.invokevirtual 150, 3) := by decide +kernel
theorem dX8_back_5 : decode cX8_back 5 = .ok (.ifCond .eq 10, 3) := by decide +kernel
theorem dX8_back_8 : decode cX8_back 8 = .ok (.iload_n 2, 1) := by decide +kernel
theorem dX8_back_9 : decode cX8_back 9 = .ok (.invokestatic 153, 3) := by decide +kernel
theorem dX8_back_12 : decode cX8_back 12 = .ok (.ifCond .ne 5, 3) := by decide +kernel
theorem dX8_back_15 : decode cX8_back 15 = .ok (.iconst 1, 1) := by decide +kernel
theorem dX8_back_16 : decode cX8_back 16 = .ok (.ireturn, 1) := by decide +kernel
theorem dX8_back_17 : decode cX8_back 17 = .ok (.aload_n 0, 1) := by decide +kernel
theorem dX8_back_18 : decode cX8_back 18 = .ok (.iload_n 1, 1) := by decide +kernel
theorem dX8_back_19 : decode cX8_back 19 = .ok (.aload_n 0, 1) := by decide +kernel
theorem dX8_back_20 : decode cX8_back 20 = .ok (.getfield 97, 3) := by decide +kernel
theorem dX8_back_23 : decode cX8_back 23 = .ok (.iconst 0, 1) := by decide +kernel
theorem dX8_back_24 : decode cX8_back 24 = .ok (.invokevirtual 192, 3) := by decide +kernel
theorem dX8_back_27 : decode cX8_back 27 = .ok (.aload_n 0, 1) := by decide +kernel
theorem dX8_back_28 : decode cX8_back 28 = .ok (.iload_n 2, 1) := by decide +kernel
theorem dX8_back_29 : decode cX8_back 29 = .ok (.invokevirtual 189, 3) := by decide +kernel
theorem dX8_back_32 : decode cX8_back 32 = .ok (.ifCond .ne 5, 3) := by decide +kernel
theorem dX8_back_35 : decode cX8_back 35 = .ok (.iconst 5, 1) := by decide +kernel
theorem dX8_back_36 : decode cX8_back 36 = .ok (.ireturn, 1) := by decide +kernel
theorem dX8_back_37 : decode cX8_back 37 = .ok (.aload_n 0, 1) := by decide +kernel
theorem dX8_back_38 : decode cX8_back 38 = .ok (.getfield 41, 3) := by decide +kernel
theorem dX8_back_41 : decode cX8_back 41 = .ok (.iload_n 2, 1) := by decide +kernel
theorem dX8_back_42 : decode cX8_back 42 = .ok (.iaload, 1) := by decide +kernel
theorem dX8_back_43 : decode cX8_back 43 = .ok (.i2l, 1) := by decide +kernel
theorem dX8_back_44 : decode cX8_back 44 = .ok (.iload_n 3, 1) := by decide +kernel
theorem dX8_back_45 : decode cX8_back 45 = .ok (.i2l, 1) := by decide +kernel
theorem dX8_back_46 : decode cX8_back 46 = .ok (.ladd, 1) := by decide +kernel
theorem dX8_back_47 : decode cX8_back 47 = .ok (.lstore 4, 2) := by decide +kernel
theorem dX8_back_49 : decode cX8_back 49 = .ok (.lload 4, 2) := by decide +kernel
theorem dX8_back_51 : decode cX8_back 51 = .ok (.lconst 0, 1) := by decide +kernel
theorem dX8_back_52 : decode cX8_back 52 = .ok (.lcmp, 1) := by decide +kernel
theorem dX8_back_53 : decode cX8_back 53 = .ok (.ifCond .lt 29, 3) := by decide +kernel
theorem dX8_back_56 : decode cX8_back 56 = .ok (.iload_n 3, 1) := by decide +kernel
theorem dX8_back_57 : decode cX8_back 57 = .ok (.ifCond .le 27, 3) := by decide +kernel
theorem dX8_back_60 : decode cX8_back 60 = .ok (.lload 4, 2) := by decide +kernel
theorem dX8_back_62 : decode cX8_back 62 = .ok (.aload_n 0, 1) := by decide +kernel
theorem dX8_back_63 : decode cX8_back 63 = .ok (.getfield 76, 3) := by decide +kernel
theorem dX8_back_66 : decode cX8_back 66 = .ok (.sipush 3600, 3) := by decide +kernel
theorem dX8_back_69 : decode cX8_back 69 = .ok (.iload_n 2, 1) := by decide +kernel
theorem dX8_back_70 : decode cX8_back 70 = .ok (.imul, 1) := by decide +kernel
theorem dX8_back_71 : decode cX8_back 71 = .ok (.aload_n 0, 1) := by decide +kernel
theorem dX8_back_72 : decode cX8_back 72 = .ok (.getfield 97, 3) := by decide +kernel
theorem dX8_back_75 : decode cX8_back 75 = .ok (.iadd, 1) := by decide +kernel
theorem dX8_back_76 : decode cX8_back 76 = .ok (.iaload, 1) := by decide +kernel
theorem dX8_back_77 : decode cX8_back 77 = .ok (.i2l, 1) := by decide +kernel
theorem dX8_back_78 : decode cX8_back 78 = .ok (.lcmp, 1) := by decide +kernel
theorem dX8_back_79 : decode cX8_back 79 = .ok (.ifCond .le 5, 3) := by decide +kernel
theorem dX8_back_82 : decode cX8_back 82 = .ok (.iconst 3, 1) := by decide +kernel
theorem dX8_back_83 : decode cX8_back 83 = .ok (.ireturn, 1) := by decide +kernel
theorem dX8_back_84 : decode cX8_back 84 = .ok (.aload_n 0, 1) := by decide +kernel
theorem dX8_back_85 : decode cX8_back 85 = .ok (.bipush 10, 2) := by decide +kernel
theorem dX8_back_87 : decode cX8_back 87 = .ok (.iload_n 1, 1) := by decide +kernel
theorem dX8_back_88 : decode cX8_back 88 = .ok (.iload_n 2, 1) := by decide +kernel
theorem dX8_back_89 : decode cX8_back 89 = .ok (.iload_n 3, 1) := by decide +kernel
theorem dX8_back_90 : decode cX8_back 90 = .ok (.iconst 0, 1) := by decide +kernel
theorem dX8_back_91 : decode cX8_back 91 = .ok (.iconst 0, 1) := by decide +kernel
theorem dX8_back_92 : decode cX8_back 92 = .ok (.iconst 0, 1) := by decide +kernel
theorem dX8_back_93 : decode cX8_back 93 = .ok (.invokevirtual 159, 3) := by decide +kernel
theorem dX8_back_96 : decode cX8_back 96 = .ok (.ireturn, 1) := by decide +kernel
theorem dX8_grant_0 : decode cX8_grant 0 = .ok (.aload_n 0, 1) := by decide +kernel
theorem dX8_grant_1 : decode cX8_grant 1 = .ok (.iload_n 1, 1) := by decide +kernel
theorem dX8_grant_2 : decode cX8_grant 2 = .ok (.invokevirtual 150, 3) := by decide +kernel
theorem dX8_grant_5 : decode cX8_grant 5 = .ok (.ifCond .ne 5, 3) := by decide +kernel
theorem dX8_grant_8 : decode cX8_grant 8 = .ok (.iconst 1, 1) := by decide +kernel
theorem dX8_grant_9 : decode cX8_grant 9 = .ok (.ireturn, 1) := by decide +kernel
theorem dX8_grant_10 : decode cX8_grant 10 = .ok (.iload_n 2, 1) := by decide +kernel
theorem dX8_grant_11 : decode cX8_grant 11 = .ok (.invokestatic 163, 3) := by decide +kernel
theorem dX8_grant_14 : decode cX8_grant 14 = .ok (.ifCond .ne 5, 3) := by decide +kernel
theorem dX8_grant_17 : decode cX8_grant 17 = .ok (.iconst 3, 1) := by decide +kernel
theorem dX8_grant_18 : decode cX8_grant 18 = .ok (.ireturn, 1) := by decide +kernel
theorem dX8_grant_19 : decode cX8_grant 19 = .ok (.aload_n 0, 1) := by decide +kernel
theorem dX8_grant_20 : decode cX8_grant 20 = .ok (.getfield 106, 3) := by decide +kernel
theorem dX8_grant_23 : decode cX8_grant 23 = .ok (.sipush 400, 3) := by decide +kernel
theorem dX8_grant_26 : decode cX8_grant 26 = .ok (.if_icmp .ne 6, 3) := by decide +kernel
theorem dX8_grant_29 : decode cX8_grant 29 = .ok (.bipush 7, 2) := by decide +kernel
theorem dX8_grant_31 : decode cX8_grant 31 = .ok (.ireturn, 1) := by decide +kernel
theorem dX8_grant_32 : decode cX8_grant 32 = .ok (.aload_n 0, 1) := by decide +kernel
theorem dX8_grant_33 : decode cX8_grant 33 = .ok (.iload_n 1, 1) := by decide +kernel
theorem dX8_grant_34 : decode cX8_grant 34 = .ok (.aload_n 0, 1) := by decide +kernel
theorem dX8_grant_35 : decode cX8_grant 35 = .ok (.getfield 97, 3) := by decide +kernel
theorem dX8_grant_38 : decode cX8_grant 38 = .ok (.iconst 0, 1) := by decide +kernel
theorem dX8_grant_39 : decode cX8_grant 39 = .ok (.invokevirtual 192, 3) := by decide +kernel
theorem dX8_grant_42 : decode cX8_grant 42 = .ok (.aload_n 0, 1) := by decide +kernel
theorem dX8_grant_43 : decode cX8_grant 43 = .ok (.sipush 500, 3) := by decide +kernel
theorem dX8_grant_46 : decode cX8_grant 46 = .ok (.invokevirtual 195, 3) := by decide +kernel
theorem dX8_grant_49 : decode cX8_grant 49 = .ok (.istore_n 3, 1) := by decide +kernel
theorem dX8_grant_50 : decode cX8_grant 50 = .ok (.iload_n 3, 1) := by decide +kernel
theorem dX8_grant_51 : decode cX8_grant 51 = .ok (.iconst (-1), 1) := by decide +kernel
theorem dX8_grant_52 : decode cX8_grant 52 = .ok (.if_icmp .eq 8, 3) := by decide +kernel
theorem dX8_grant_55 : decode cX8_grant 55 = .ok (.iload_n 2, 1) := by decide +kernel
theorem dX8_grant_56 : decode cX8_grant 56 = .ok (.iload_n 3, 1) := by decide +kernel
theorem dX8_grant_57 : decode cX8_grant 57 = .ok (.if_icmp .ge 8, 3) := by decide +kernel
theorem dX8_grant_60 : decode cX8_grant 60 = .ok (.bipush 8, 2) := by decide +kernel
theorem dX8_grant_62 : decode cX8_grant 62 = .ok (.goto 15, 3) := by decide +kernel
theorem dX8_grant_65 : decode cX8_grant 65 = .ok (.aload_n 0, 1) := by decide +kernel
theorem dX8_grant_66 : decode cX8_grant 66 = .ok (.bipush 11, 2) := by decide +kernel
theorem dX8_grant_68 : decode cX8_grant 68 = .ok (.iload_n 1, 1) := by decide +kernel
theorem dX8_grant_69 : decode cX8_grant 69 = .ok (.iload_n 2, 1) := by decide +kernel
theorem dX8_grant_70 : decode cX8_grant 70 = .ok (.iconst 0, 1) := by decide +kernel
theorem dX8_grant_71 : decode cX8_grant 71 = .ok (.iconst 0, 1) := by decide +kernel
theorem dX8_grant_72 : decode cX8_grant 72 = .ok (.iconst 0, 1) := by decide +kernel
theorem dX8_grant_73 : decode cX8_grant 73 = .ok (.iconst 0, 1) := by decide +kernel
theorem dX8_grant_74 : decode cX8_grant 74 = .ok (.invokevirtual 159, 3) := by decide +kernel
theorem dX8_grant_77 : decode cX8_grant 77 = .ok (.ireturn, 1) := by decide +kernel
theorem dX8_recall_0 : decode cX8_recall 0 = .ok (.aload_n 0, 1) := by decide +kernel
theorem dX8_recall_1 : decode cX8_recall 1 = .ok (.iload_n 1, 1) := by decide +kernel
theorem dX8_recall_2 : decode cX8_recall 2 = .ok (.iload_n 2, 1) := by decide +kernel
theorem dX8_recall_3 : decode cX8_recall 3 = .ok (.invokevirtual 156, 3) := by decide +kernel
theorem dX8_recall_6 : decode cX8_recall 6 = .ok (.istore 5, 2) := by decide +kernel
theorem dX8_recall_8 : decode cX8_recall 8 = .ok (.iload 5, 2) := by decide +kernel
theorem dX8_recall_10 : decode cX8_recall 10 = .ok (.ifCond .le 6, 3) := by decide +kernel
theorem dX8_recall_13 : decode cX8_recall 13 = .ok (.iload 5, 2) := by decide +kernel
theorem dX8_recall_15 : decode cX8_recall 15 = .ok (.ireturn, 1) := by decide +kernel
theorem dX8_recall_16 : decode cX8_recall 16 = .ok (.iload_n 3, 1) := by decide +kernel
theorem dX8_recall_17 : decode cX8_recall 17 = .ok (.invokestatic 163, 3) := by decide +kernel
theorem dX8_recall_20 : decode cX8_recall 20 = .ok (.ifCond .eq 17, 3) := by decide +kernel
theorem dX8_recall_23 : decode cX8_recall 23 = .ok (.iload 4, 2) := by decide +kernel
theorem dX8_recall_25 : decode cX8_recall 25 = .ok (.iconst 1, 1) := by decide +kernel
theorem dX8_recall_26 : decode cX8_recall 26 = .ok (.if_icmp .lt 11, 3) := by decide +kernel
theorem dX8_recall_29 : decode cX8_recall 29 = .ok (.iload 4, 2) := by decide +kernel
theorem dX8_recall_31 : decode cX8_recall 31 = .ok (.sipush 1000, 3) := by decide +kernel
theorem dX8_recall_34 : decode cX8_recall 34 = .ok (.if_icmp .le 5, 3) := by decide +kernel
theorem dX8_recall_37 : decode cX8_recall 37 = .ok (.iconst 3, 1) := by decide +kernel
theorem dX8_recall_38 : decode cX8_recall 38 = .ok (.ireturn, 1) := by decide +kernel
theorem dX8_recall_39 : decode cX8_recall 39 = .ok (.aload_n 0, 1) := by decide +kernel
theorem dX8_recall_40 : decode cX8_recall 40 = .ok (.getfield 106, 3) := by decide +kernel
theorem dX8_recall_43 : decode cX8_recall 43 = .ok (.sipush 400, 3) := by decide +kernel
theorem dX8_recall_46 : decode cX8_recall 46 = .ok (.if_icmp .ne 6, 3) := by decide +kernel
theorem dX8_recall_49 : decode cX8_recall 49 = .ok (.bipush 7, 2) := by decide +kernel
theorem dX8_recall_51 : decode cX8_recall 51 = .ok (.ireturn, 1) := by decide +kernel
theorem dX8_recall_52 : decode cX8_recall 52 = .ok (.aload_n 0, 1) := by decide +kernel
theorem dX8_recall_53 : decode cX8_recall 53 = .ok (.iload_n 1, 1) := by decide +kernel
theorem dX8_recall_54 : decode cX8_recall 54 = .ok (.aload_n 0, 1) := by decide +kernel
theorem dX8_recall_55 : decode cX8_recall 55 = .ok (.getfield 97, 3) := by decide +kernel
theorem dX8_recall_58 : decode cX8_recall 58 = .ok (.iconst 0, 1) := by decide +kernel
theorem dX8_recall_59 : decode cX8_recall 59 = .ok (.invokevirtual 192, 3) := by decide +kernel
theorem dX8_recall_62 : decode cX8_recall 62 = .ok (.aload_n 0, 1) := by decide +kernel
theorem dX8_recall_63 : decode cX8_recall 63 = .ok (.invokevirtual 198, 3) := by decide +kernel
theorem dX8_recall_66 : decode cX8_recall 66 = .ok (.istore 6, 2) := by decide +kernel
theorem dX8_recall_68 : decode cX8_recall 68 = .ok (.aload_n 0, 1) := by decide +kernel
theorem dX8_recall_69 : decode cX8_recall 69 = .ok (.getfield 100, 3) := by decide +kernel
theorem dX8_recall_72 : decode cX8_recall 72 = .ok (.iconst (-1), 1) := by decide +kernel
theorem dX8_recall_73 : decode cX8_recall 73 = .ok (.if_icmp .eq 26, 3) := by decide +kernel
theorem dX8_recall_76 : decode cX8_recall 76 = .ok (.iload_n 3, 1) := by decide +kernel
theorem dX8_recall_77 : decode cX8_recall 77 = .ok (.aload_n 0, 1) := by decide +kernel
theorem dX8_recall_78 : decode cX8_recall 78 = .ok (.getfield 100, 3) := by decide +kernel
theorem dX8_recall_81 : decode cX8_recall 81 = .ok (.if_icmp .le 18, 3) := by decide +kernel
theorem dX8_recall_84 : decode cX8_recall 84 = .ok (.iload 6, 2) := by decide +kernel
theorem dX8_recall_86 : decode cX8_recall 86 = .ok (.iconst (-1), 1) := by decide +kernel
theorem dX8_recall_87 : decode cX8_recall 87 = .ok (.if_icmp .eq 12, 3) := by decide +kernel
theorem dX8_recall_90 : decode cX8_recall 90 = .ok (.iload 6, 2) := by decide +kernel
theorem dX8_recall_92 : decode cX8_recall 92 = .ok (.aload_n 0, 1) := by decide +kernel
theorem dX8_recall_93 : decode cX8_recall 93 = .ok (.getfield 100, 3) := by decide +kernel
theorem dX8_recall_96 : decode cX8_recall 96 = .ok (.if_icmp .gt 6, 3) := by decide +kernel
theorem dX8_recall_99 : decode cX8_recall 99 = .ok (.bipush 8, 2) := by decide +kernel
theorem dX8_recall_101 : decode cX8_recall 101 = .ok (.ireturn, 1) := by decide +kernel
theorem dX8_recall_102 : decode cX8_recall 102 = .ok (.iload 6, 2) := by decide +kernel
theorem dX8_recall_104 : decode cX8_recall 104 = .ok (.aload_n 0, 1) := by decide +kernel
theorem dX8_recall_105 : decode cX8_recall 105 = .ok (.getfield 100, 3) := by decide +kernel
theorem dX8_recall_108 : decode cX8_recall 108 = .ok (.isub, 1) := by decide +kernel
theorem dX8_recall_109 : decode cX8_recall 109 = .ok (.iload 4, 2) := by decide +kernel
theorem dX8_recall_111 : decode cX8_recall 111 = .ok (.invokestatic 128, 3) := by decide +kernel
theorem dX8_recall_114 : decode cX8_recall 114 = .ok (.istore 7, 2) := by decide +kernel
theorem dX8_recall_116 : decode cX8_recall 116 = .ok (.aload_n 0, 1) := by decide +kernel
theorem dX8_recall_117 : decode cX8_recall 117 = .ok (.getfield 17, 3) := by decide +kernel
theorem dX8_recall_120 : decode cX8_recall 120 = .ok (.aload_n 0, 1) := by decide +kernel
theorem dX8_recall_121 : decode cX8_recall 121 = .ok (.getfield 106, 3) := by decide +kernel
theorem dX8_recall_124 : decode cX8_recall 124 = .ok (.iload 7, 2) := by decide +kernel
theorem dX8_recall_126 : decode cX8_recall 126 = .ok (.iconst 1, 1) := by decide +kernel
theorem dX8_recall_127 : decode cX8_recall 127 = .ok (.if_icmp .ge 7, 3) := by decide +kernel
theorem dX8_recall_130 : decode cX8_recall 130 = .ok (.iconst 1, 1) := by decide +kernel
theorem dX8_recall_131 : decode cX8_recall 131 = .ok (.goto 5, 3) := by decide +kernel
theorem dX8_recall_134 : decode cX8_recall 134 = .ok (.iload 7, 2) := by decide +kernel
theorem dX8_recall_136 : decode cX8_recall 136 = .ok (.iastore, 1) := by decide +kernel
theorem dX8_recall_137 : decode cX8_recall 137 = .ok (.aload_n 0, 1) := by decide +kernel
theorem dX8_recall_138 : decode cX8_recall 138 = .ok (.bipush 12, 2) := by decide +kernel
theorem dX8_recall_140 : decode cX8_recall 140 = .ok (.iload_n 1, 1) := by decide +kernel
theorem dX8_recall_141 : decode cX8_recall 141 = .ok (.iload_n 2, 1) := by decide +kernel
theorem dX8_recall_142 : decode cX8_recall 142 = .ok (.iload_n 3, 1) := by decide +kernel
theorem dX8_recall_143 : decode cX8_recall 143 = .ok (.iload 4, 2) := by decide +kernel
theorem dX8_recall_145 : decode cX8_recall 145 = .ok (.iconst 0, 1) := by decide +kernel
theorem dX8_recall_146 : decode cX8_recall 146 = .ok (.iconst 0, 1) := by decide +kernel
theorem dX8_recall_147 : decode cX8_recall 147 = .ok (.invokevirtual 159, 3) := by decide +kernel
theorem dX8_recall_150 : decode cX8_recall 150 = .ok (.ireturn, 1) := by decide +kernel
theorem dX8_isThere_0 : decode cX8_isThere 0 = .ok (.aload_n 0, 1) := by decide +kernel
theorem dX8_isThere_1 : decode cX8_isThere 1 = .ok (.iload_n 1, 1) := by decide +kernel
theorem dX8_isThere_2 : decode cX8_isThere 2 = .ok (.invokevirtual 150, 3) := by decide +kernel
theorem dX8_isThere_5 : decode cX8_isThere 5 = .ok (.ifCond .eq 10, 3) := by decide +kernel
theorem dX8_isThere_8 : decode cX8_isThere 8 = .ok (.iload_n 2, 1) := by decide +kernel
theorem dX8_isThere_9 : decode cX8_isThere 9 = .ok (.invokestatic 153, 3) := by decide +kernel
theorem dX8_isThere_12 : decode cX8_isThere 12 = .ok (.ifCond .ne 5, 3) := by decide +kernel
theorem dX8_isThere_15 : decode cX8_isThere 15 = .ok (.iconst 0, 1) := by decide +kernel
theorem dX8_isThere_16 : decode cX8_isThere 16 = .ok (.ireturn, 1) := by decide +kernel
theorem dX8_isThere_17 : decode cX8_isThere 17 = .ok (.aload_n 0, 1) := by decide +kernel
theorem dX8_isThere_18 : decode cX8_isThere 18 = .ok (.iload_n 1, 1) := by decide +kernel
theorem dX8_isThere_19 : decode cX8_isThere 19 = .ok (.aload_n 0, 1) := by decide +kernel
theorem dX8_isThere_20 : decode cX8_isThere 20 = .ok (.invokevirtual 202, 3) := by decide +kernel
theorem dX8_isThere_23 : decode cX8_isThere 23 = .ok (.invokevirtual 140, 3) := by decide +kernel
theorem dX8_isThere_26 : decode cX8_isThere 26 = .ok (.iconst 1, 1) := by decide +kernel
theorem dX8_isThere_27 : decode cX8_isThere 27 = .ok (.ireturn, 1) := by decide +kernel
theorem dX8_kind_0 : decode cX8_kind 0 = .ok (.aload_n 0, 1) := by decide +kernel
theorem dX8_kind_1 : decode cX8_kind 1 = .ok (.iload_n 1, 1) := by decide +kernel
theorem dX8_kind_2 : decode cX8_kind 2 = .ok (.iload_n 2, 1) := by decide +kernel
theorem dX8_kind_3 : decode cX8_kind 3 = .ok (.invokevirtual 205, 3) := by decide +kernel
theorem dX8_kind_6 : decode cX8_kind 6 = .ok (.ifCond .eq 12, 3) := by decide +kernel
theorem dX8_kind_9 : decode cX8_kind 9 = .ok (.aload_n 0, 1) := by decide +kernel
theorem dX8_kind_10 : decode cX8_kind 10 = .ok (.getfield 20, 3) := by decide +kernel
theorem dX8_kind_13 : decode cX8_kind 13 = .ok (.iload_n 2, 1) := by decide +kernel
theorem dX8_kind_14 : decode cX8_kind 14 = .ok (.iaload, 1) := by decide +kernel
theorem dX8_kind_15 : decode cX8_kind 15 = .ok (.goto 4, 3) := by decide +kernel
theorem dX8_kind_18 : decode cX8_kind 18 = .ok (.iconst (-1), 1) := by decide +kernel
theorem dX8_kind_19 : decode cX8_kind 19 = .ok (.ireturn, 1) := by decide +kernel
theorem dX8_isOrder_0 : decode cX8_isOrder 0 = .ok (.aload_n 0, 1) := by decide +kernel
theorem dX8_isOrder_1 : decode cX8_isOrder 1 = .ok (.iload_n 1, 1) := by decide +kernel
theorem dX8_isOrder_2 : decode cX8_isOrder 2 = .ok (.iload_n 2, 1) := by decide +kernel
theorem dX8_isOrder_3 : decode cX8_isOrder 3 = .ok (.invokevirtual 205, 3) := by decide +kernel
theorem dX8_isOrder_6 : decode cX8_isOrder 6 = .ok (.ifCond .eq 11, 3) := by decide +kernel
theorem dX8_isOrder_9 : decode cX8_isOrder 9 = .ok (.aload_n 0, 1) := by decide +kernel
theorem dX8_isOrder_10 : decode cX8_isOrder 10 = .ok (.iload_n 2, 1) := by decide +kernel
theorem dX8_isOrder_11 : decode cX8_isOrder 11 = .ok (.invokevirtual 121, 3) := by decide +kernel
theorem dX8_isOrder_14 : decode cX8_isOrder 14 = .ok (.ifCond .ne 5, 3) := by decide +kernel
theorem dX8_isOrder_17 : decode cX8_isOrder 17 = .ok (.iconst 0, 1) := by decide +kernel
theorem dX8_isOrder_18 : decode cX8_isOrder 18 = .ok (.ireturn, 1) := by decide +kernel
theorem dX8_isOrder_19 : decode cX8_isOrder 19 = .ok (.aload_n 0, 1) := by decide +kernel
theorem dX8_isOrder_20 : decode cX8_isOrder 20 = .ok (.iload_n 1, 1) := by decide +kernel
theorem dX8_isOrder_21 : decode cX8_isOrder 21 = .ok (.aload_n 0, 1) := by decide +kernel
theorem dX8_isOrder_22 : decode cX8_isOrder 22 = .ok (.invokevirtual 202, 3) := by decide +kernel
theorem dX8_isOrder_25 : decode cX8_isOrder 25 = .ok (.iload_n 3, 1) := by decide +kernel
theorem dX8_isOrder_26 : decode cX8_isOrder 26 = .ok (.invokevirtual 192, 3) := by decide +kernel
theorem dX8_isOrder_29 : decode cX8_isOrder 29 = .ok (.iconst 1, 1) := by decide +kernel
theorem dX8_isOrder_30 : decode cX8_isOrder 30 = .ok (.ireturn, 1) := by decide +kernel
theorem dX8_begins_0 : decode cX8_begins 0 = .ok (.aload_n 0, 1) := by decide +kernel
theorem dX8_begins_1 : decode cX8_begins 1 = .ok (.iload_n 1, 1) := by decide +kernel
theorem dX8_begins_2 : decode cX8_begins 2 = .ok (.iload_n 2, 1) := by decide +kernel
theorem dX8_begins_3 : decode cX8_begins 3 = .ok (.iload_n 3, 1) := by decide +kernel
theorem dX8_begins_4 : decode cX8_begins 4 = .ok (.invokevirtual 208, 3) := by decide +kernel
theorem dX8_begins_7 : decode cX8_begins 7 = .ok (.ifCond .eq 12, 3) := by decide +kernel
theorem dX8_begins_10 : decode cX8_begins 10 = .ok (.aload_n 0, 1) := by decide +kernel
theorem dX8_begins_11 : decode cX8_begins 11 = .ok (.getfield 63, 3) := by decide +kernel
theorem dX8_begins_14 : decode cX8_begins 14 = .ok (.iload_n 2, 1) := by decide +kernel
theorem dX8_begins_15 : decode cX8_begins 15 = .ok (.iaload, 1) := by decide +kernel
theorem dX8_begins_16 : decode cX8_begins 16 = .ok (.goto 4, 3) := by decide +kernel
theorem dX8_begins_19 : decode cX8_begins 19 = .ok (.iconst (-1), 1) := by decide +kernel
theorem dX8_begins_20 : decode cX8_begins 20 = .ok (.ireturn, 1) := by decide +kernel
theorem dX8_ends_0 : decode cX8_ends 0 = .ok (.aload_n 0, 1) := by decide +kernel
theorem dX8_ends_1 : decode cX8_ends 1 = .ok (.iload_n 1, 1) := by decide +kernel
theorem dX8_ends_2 : decode cX8_ends 2 = .ok (.iload_n 2, 1) := by decide +kernel
theorem dX8_ends_3 : decode cX8_ends 3 = .ok (.iload_n 3, 1) := by decide +kernel
theorem dX8_ends_4 : decode cX8_ends 4 = .ok (.invokevirtual 208, 3) := by decide +kernel
theorem dX8_ends_7 : decode cX8_ends 7 = .ok (.ifCond .eq 12, 3) := by decide +kernel
theorem dX8_ends_10 : decode cX8_ends 10 = .ok (.aload_n 0, 1) := by decide +kernel
theorem dX8_ends_11 : decode cX8_ends 11 = .ok (.getfield 66, 3) := by decide +kernel
theorem dX8_ends_14 : decode cX8_ends 14 = .ok (.iload_n 2, 1) := by decide +kernel
theorem dX8_ends_15 : decode cX8_ends 15 = .ok (.iaload, 1) := by decide +kernel
theorem dX8_ends_16 : decode cX8_ends 16 = .ok (.goto 4, 3) := by decide +kernel
theorem dX8_ends_19 : decode cX8_ends 19 = .ok (.iconst (-1), 1) := by decide +kernel
theorem dX8_ends_20 : decode cX8_ends 20 = .ok (.ireturn, 1) := by decide +kernel
theorem dX8_counted_0 : decode cX8_counted 0 = .ok (.iload_n 3, 1) := by decide +kernel
theorem dX8_counted_1 : decode cX8_counted 1 = .ok (.invokestatic 163, 3) := by decide +kernel
theorem dX8_counted_4 : decode cX8_counted 4 = .ok (.ifCond .eq 29, 3) := by decide +kernel
theorem dX8_counted_7 : decode cX8_counted 7 = .ok (.aload_n 0, 1) := by decide +kernel
theorem dX8_counted_8 : decode cX8_counted 8 = .ok (.iload_n 1, 1) := by decide +kernel
theorem dX8_counted_9 : decode cX8_counted 9 = .ok (.iload_n 2, 1) := by decide +kernel
theorem dX8_counted_10 : decode cX8_counted 10 = .ok (.iload 4, 2) := by decide +kernel
theorem dX8_counted_12 : decode cX8_counted 12 = .ok (.invokevirtual 208, 3) := by decide +kernel
theorem dX8_counted_15 : decode cX8_counted 15 = .ok (.ifCond .eq 18, 3) := by decide +kernel
theorem dX8_counted_18 : decode cX8_counted 18 = .ok (.aload_n 0, 1) := by decide +kernel
theorem dX8_counted_19 : decode cX8_counted 19 = .ok (.getfield 73, 3) := by decide +kernel
theorem dX8_counted_22 : decode cX8_counted 22 = .ok (.sipush 3600, 3) := by decide +kernel
theorem dX8_counted_25 : decode cX8_counted 25 = .ok (.iload_n 2, 1) := by decide +kernel
theorem dX8_counted_26 : decode cX8_counted 26 = .ok (.imul, 1) := by decide +kernel
theorem dX8_counted_27 : decode cX8_counted 27 = .ok (.iload_n 3, 1) := by decide +kernel
theorem dX8_counted_28 : decode cX8_counted 28 = .ok (.iadd, 1) := by decide +kernel
theorem dX8_counted_29 : decode cX8_counted 29 = .ok (.iaload, 1) := by decide +kernel
theorem dX8_counted_30 : decode cX8_counted 30 = .ok (.goto 4, 3) := by decide +kernel
theorem dX8_counted_33 : decode cX8_counted 33 = .ok (.iconst (-1), 1) := by decide +kernel
theorem dX8_counted_34 : decode cX8_counted 34 = .ok (.ireturn, 1) := by decide +kernel
theorem dX8_taken_0 : decode cX8_taken 0 = .ok (.iload_n 3, 1) := by decide +kernel
theorem dX8_taken_1 : decode cX8_taken 1 = .ok (.invokestatic 163, 3) := by decide +kernel
theorem dX8_taken_4 : decode cX8_taken 4 = .ok (.ifCond .eq 28, 3) := by decide +kernel
theorem dX8_taken_7 : decode cX8_taken 7 = .ok (.aload_n 0, 1) := by decide +kernel
theorem dX8_taken_8 : decode cX8_taken 8 = .ok (.iload_n 1, 1) := by decide +kernel
theorem dX8_taken_9 : decode cX8_taken 9 = .ok (.iload_n 2, 1) := by decide +kernel
theorem dX8_taken_10 : decode cX8_taken 10 = .ok (.iconst 0, 1) := by decide +kernel
theorem dX8_taken_11 : decode cX8_taken 11 = .ok (.invokevirtual 208, 3) := by decide +kernel
theorem dX8_taken_14 : decode cX8_taken 14 = .ok (.ifCond .eq 18, 3) := by decide +kernel
theorem dX8_taken_17 : decode cX8_taken 17 = .ok (.aload_n 0, 1) := by decide +kernel
theorem dX8_taken_18 : decode cX8_taken 18 = .ok (.getfield 76, 3) := by decide +kernel
theorem dX8_taken_21 : decode cX8_taken 21 = .ok (.sipush 3600, 3) := by decide +kernel
theorem dX8_taken_24 : decode cX8_taken 24 = .ok (.iload_n 2, 1) := by decide +kernel
theorem dX8_taken_25 : decode cX8_taken 25 = .ok (.imul, 1) := by decide +kernel
theorem dX8_taken_26 : decode cX8_taken 26 = .ok (.iload_n 3, 1) := by decide +kernel
theorem dX8_taken_27 : decode cX8_taken 27 = .ok (.iadd, 1) := by decide +kernel
theorem dX8_taken_28 : decode cX8_taken 28 = .ok (.iaload, 1) := by decide +kernel
theorem dX8_taken_29 : decode cX8_taken 29 = .ok (.goto 4, 3) := by decide +kernel
theorem dX8_taken_32 : decode cX8_taken 32 = .ok (.iconst (-1), 1) := by decide +kernel
theorem dX8_taken_33 : decode cX8_taken 33 = .ok (.ireturn, 1) := by decide +kernel
theorem dX8_why_0 : decode cX8_why 0 = .ok (.iload_n 3, 1) := by decide +kernel
theorem dX8_why_1 : decode cX8_why 1 = .ok (.invokestatic 163, 3) := by decide +kernel
theorem dX8_why_4 : decode cX8_why 4 = .ok (.ifCond .eq 12, 3) := by decide +kernel
theorem dX8_why_7 : decode cX8_why 7 = .ok (.aload_n 0, 1) := by decide +kernel
theorem dX8_why_8 : decode cX8_why 8 = .ok (.iload_n 1, 1) := by decide +kernel
theorem dX8_why_9 : decode cX8_why 9 = .ok (.iload_n 2, 1) := by decide +kernel
theorem dX8_why_10 : decode cX8_why 10 = .ok (.invokevirtual 205, 3) := by decide +kernel
theorem dX8_why_13 : decode cX8_why 13 = .ok (.ifCond .ne 5, 3) := by decide +kernel
theorem dX8_why_16 : decode cX8_why 16 = .ok (.iconst (-1), 1) := by decide +kernel
theorem dX8_why_17 : decode cX8_why 17 = .ok (.ireturn, 1) := by decide +kernel
theorem dX8_why_18 : decode cX8_why 18 = .ok (.aload_n 0, 1) := by decide +kernel
theorem dX8_why_19 : decode cX8_why 19 = .ok (.iload_n 2, 1) := by decide +kernel
theorem dX8_why_20 : decode cX8_why 20 = .ok (.invokevirtual 117, 3) := by decide +kernel
theorem dX8_why_23 : decode cX8_why 23 = .ok (.ifCond .ne 6, 3) := by decide +kernel
theorem dX8_why_26 : decode cX8_why 26 = .ok (.bipush 7, 2) := by decide +kernel
theorem dX8_why_28 : decode cX8_why 28 = .ok (.ireturn, 1) := by decide +kernel
theorem dX8_why_29 : decode cX8_why 29 = .ok (.aload_n 0, 1) := by decide +kernel
theorem dX8_why_30 : decode cX8_why 30 = .ok (.getfield 44, 3) := by decide +kernel
theorem dX8_why_33 : decode cX8_why 33 = .ok (.iload_n 2, 1) := by decide +kernel
theorem dX8_why_34 : decode cX8_why 34 = .ok (.iaload, 1) := by decide +kernel
theorem dX8_why_35 : decode cX8_why 35 = .ok (.iconst (-1), 1) := by decide +kernel
theorem dX8_why_36 : decode cX8_why 36 = .ok (.if_icmp .eq 6, 3) := by decide +kernel
theorem dX8_why_39 : decode cX8_why 39 = .ok (.bipush 6, 2) := by decide +kernel
theorem dX8_why_41 : decode cX8_why 41 = .ok (.ireturn, 1) := by decide +kernel
theorem dX8_why_42 : decode cX8_why 42 = .ok (.aload_n 0, 1) := by decide +kernel
theorem dX8_why_43 : decode cX8_why 43 = .ok (.iload_n 1, 1) := by decide +kernel
theorem dX8_why_44 : decode cX8_why 44 = .ok (.aload_n 0, 1) := by decide +kernel
theorem dX8_why_45 : decode cX8_why 45 = .ok (.invokevirtual 202, 3) := by decide +kernel
theorem dX8_why_48 : decode cX8_why 48 = .ok (.iconst 0, 1) := by decide +kernel
theorem dX8_why_49 : decode cX8_why 49 = .ok (.invokevirtual 192, 3) := by decide +kernel
theorem dX8_why_52 : decode cX8_why 52 = .ok (.aload_n 0, 1) := by decide +kernel
theorem dX8_why_53 : decode cX8_why 53 = .ok (.getfield 66, 3) := by decide +kernel
theorem dX8_why_56 : decode cX8_why 56 = .ok (.iload_n 2, 1) := by decide +kernel
theorem dX8_why_57 : decode cX8_why 57 = .ok (.iaload, 1) := by decide +kernel
theorem dX8_why_58 : decode cX8_why 58 = .ok (.iconst (-1), 1) := by decide +kernel
theorem dX8_why_59 : decode cX8_why 59 = .ok (.if_icmp .eq 15, 3) := by decide +kernel
theorem dX8_why_62 : decode cX8_why 62 = .ok (.aload_n 0, 1) := by decide +kernel
theorem dX8_why_63 : decode cX8_why 63 = .ok (.getfield 66, 3) := by decide +kernel
theorem dX8_why_66 : decode cX8_why 66 = .ok (.iload_n 2, 1) := by decide +kernel
theorem dX8_why_67 : decode cX8_why 67 = .ok (.iaload, 1) := by decide +kernel
theorem dX8_why_68 : decode cX8_why 68 = .ok (.iload_n 3, 1) := by decide +kernel
theorem dX8_why_69 : decode cX8_why 69 = .ok (.if_icmp .ge 5, 3) := by decide +kernel
theorem dX8_why_72 : decode cX8_why 72 = .ok (.iconst 3, 1) := by decide +kernel
theorem dX8_why_73 : decode cX8_why 73 = .ok (.ireturn, 1) := by decide +kernel
theorem dX8_why_74 : decode cX8_why 74 = .ok (.aload_n 0, 1) := by decide +kernel
theorem dX8_why_75 : decode cX8_why 75 = .ok (.bipush 6, 2) := by decide +kernel
theorem dX8_why_77 : decode cX8_why 77 = .ok (.iload_n 2, 1) := by decide +kernel
theorem dX8_why_78 : decode cX8_why 78 = .ok (.iload_n 3, 1) := by decide +kernel
theorem dX8_why_79 : decode cX8_why 79 = .ok (.invokevirtual 132, 3) := by decide +kernel
theorem dX8_why_82 : decode cX8_why 82 = .ok (.iconst (-1), 1) := by decide +kernel
theorem dX8_why_83 : decode cX8_why 83 = .ok (.if_icmp .eq 5, 3) := by decide +kernel
theorem dX8_why_86 : decode cX8_why 86 = .ok (.iconst 4, 1) := by decide +kernel
theorem dX8_why_87 : decode cX8_why 87 = .ok (.ireturn, 1) := by decide +kernel
theorem dX8_why_88 : decode cX8_why 88 = .ok (.aload_n 0, 1) := by decide +kernel
theorem dX8_why_89 : decode cX8_why 89 = .ok (.bipush 7, 2) := by decide +kernel
theorem dX8_why_91 : decode cX8_why 91 = .ok (.iload_n 2, 1) := by decide +kernel
theorem dX8_why_92 : decode cX8_why 92 = .ok (.iload_n 3, 1) := by decide +kernel
theorem dX8_why_93 : decode cX8_why 93 = .ok (.invokevirtual 132, 3) := by decide +kernel
theorem dX8_why_96 : decode cX8_why 96 = .ok (.iconst (-1), 1) := by decide +kernel
theorem dX8_why_97 : decode cX8_why 97 = .ok (.if_icmp .eq 5, 3) := by decide +kernel
theorem dX8_why_100 : decode cX8_why 100 = .ok (.iconst 1, 1) := by decide +kernel
theorem dX8_why_101 : decode cX8_why 101 = .ok (.ireturn, 1) := by decide +kernel
theorem dX8_why_102 : decode cX8_why 102 = .ok (.aload_n 0, 1) := by decide +kernel
theorem dX8_why_103 : decode cX8_why 103 = .ok (.getfield 63, 3) := by decide +kernel
theorem dX8_why_106 : decode cX8_why 106 = .ok (.iload_n 2, 1) := by decide +kernel
theorem dX8_why_107 : decode cX8_why 107 = .ok (.iaload, 1) := by decide +kernel
theorem dX8_why_108 : decode cX8_why 108 = .ok (.iconst (-1), 1) := by decide +kernel
theorem dX8_why_109 : decode cX8_why 109 = .ok (.if_icmp .eq 13, 3) := by decide +kernel
theorem dX8_why_112 : decode cX8_why 112 = .ok (.aload_n 0, 1) := by decide +kernel
theorem dX8_why_113 : decode cX8_why 113 = .ok (.getfield 63, 3) := by decide +kernel
theorem dX8_why_116 : decode cX8_why 116 = .ok (.iload_n 2, 1) := by decide +kernel
theorem dX8_why_117 : decode cX8_why 117 = .ok (.iaload, 1) := by decide +kernel
theorem dX8_why_118 : decode cX8_why 118 = .ok (.iload_n 3, 1) := by decide +kernel
theorem dX8_why_119 : decode cX8_why 119 = .ok (.if_icmp .le 5, 3) := by decide +kernel
theorem dX8_why_122 : decode cX8_why 122 = .ok (.iconst 2, 1) := by decide +kernel
theorem dX8_why_123 : decode cX8_why 123 = .ok (.ireturn, 1) := by decide +kernel
theorem dX8_why_124 : decode cX8_why 124 = .ok (.aload_n 0, 1) := by decide +kernel
theorem dX8_why_125 : decode cX8_why 125 = .ok (.iload_n 1, 1) := by decide +kernel
theorem dX8_why_126 : decode cX8_why 126 = .ok (.iload_n 3, 1) := by decide +kernel
theorem dX8_why_127 : decode cX8_why 127 = .ok (.iconst 0, 1) := by decide +kernel
theorem dX8_why_128 : decode cX8_why 128 = .ok (.invokevirtual 136, 3) := by decide +kernel
theorem dX8_why_131 : decode cX8_why 131 = .ok (.ifCond .eq 7, 3) := by decide +kernel
theorem dX8_why_134 : decode cX8_why 134 = .ok (.iconst 0, 1) := by decide +kernel
theorem dX8_why_135 : decode cX8_why 135 = .ok (.goto 4, 3) := by decide +kernel
theorem dX8_why_138 : decode cX8_why 138 = .ok (.iconst 5, 1) := by decide +kernel
theorem dX8_why_139 : decode cX8_why 139 = .ok (.ireturn, 1) := by decide +kernel
theorem dX8_by_0 : decode cX8_by 0 = .ok (.aload_n 0, 1) := by decide +kernel
theorem dX8_by_1 : decode cX8_by 1 = .ok (.iload_n 1, 1) := by decide +kernel
theorem dX8_by_2 : decode cX8_by 2 = .ok (.iload_n 2, 1) := by decide +kernel
theorem dX8_by_3 : decode cX8_by 3 = .ok (.iload_n 3, 1) := by decide +kernel
theorem dX8_by_4 : decode cX8_by 4 = .ok (.invokevirtual 211, 3) := by decide +kernel
theorem dX8_by_7 : decode cX8_by 7 = .ok (.istore 4, 2) := by decide +kernel
theorem dX8_by_9 : decode cX8_by 9 = .ok (.iload 4, 2) := by decide +kernel
theorem dX8_by_11 : decode cX8_by 11 = .ok (.bipush 6, 2) := by decide +kernel
theorem dX8_by_13 : decode cX8_by 13 = .ok (.if_icmp .ne 10, 3) := by decide +kernel
theorem dX8_by_16 : decode cX8_by 16 = .ok (.aload_n 0, 1) := by decide +kernel
theorem dX8_by_17 : decode cX8_by 17 = .ok (.getfield 44, 3) := by decide +kernel
theorem dX8_by_20 : decode cX8_by 20 = .ok (.iload_n 2, 1) := by decide +kernel
theorem dX8_by_21 : decode cX8_by 21 = .ok (.iaload, 1) := by decide +kernel
theorem dX8_by_22 : decode cX8_by 22 = .ok (.ireturn, 1) := by decide +kernel
theorem dX8_by_23 : decode cX8_by 23 = .ok (.iload 4, 2) := by decide +kernel
theorem dX8_by_25 : decode cX8_by 25 = .ok (.iconst 4, 1) := by decide +kernel
theorem dX8_by_26 : decode cX8_by 26 = .ok (.if_icmp .ne 14, 3) := by decide +kernel
theorem dX8_by_29 : decode cX8_by 29 = .ok (.aload_n 0, 1) := by decide +kernel
theorem dX8_by_30 : decode cX8_by 30 = .ok (.bipush 6, 2) := by decide +kernel
theorem dX8_by_32 : decode cX8_by 32 = .ok (.iload_n 2, 1) := by decide +kernel
theorem dX8_by_33 : decode cX8_by 33 = .ok (.iload_n 3, 1) := by decide +kernel
theorem dX8_by_34 : decode cX8_by 34 = .ok (.invokevirtual 132, 3) := by decide +kernel
theorem dX8_by_37 : decode cX8_by 37 = .ok (.goto 21, 3) := by decide +kernel
theorem dX8_by_40 : decode cX8_by 40 = .ok (.iload 4, 2) := by decide +kernel
theorem dX8_by_42 : decode cX8_by 42 = .ok (.iconst 1, 1) := by decide +kernel
theorem dX8_by_43 : decode cX8_by 43 = .ok (.if_icmp .ne 14, 3) := by decide +kernel
theorem dX8_by_46 : decode cX8_by 46 = .ok (.aload_n 0, 1) := by decide +kernel
theorem dX8_by_47 : decode cX8_by 47 = .ok (.bipush 7, 2) := by decide +kernel
theorem dX8_by_49 : decode cX8_by 49 = .ok (.iload_n 2, 1) := by decide +kernel
theorem dX8_by_50 : decode cX8_by 50 = .ok (.iload_n 3, 1) := by decide +kernel
theorem dX8_by_51 : decode cX8_by 51 = .ok (.invokevirtual 132, 3) := by decide +kernel
theorem dX8_by_54 : decode cX8_by 54 = .ok (.goto 4, 3) := by decide +kernel
theorem dX8_by_57 : decode cX8_by 57 = .ok (.iconst (-1), 1) := by decide +kernel
theorem dX8_by_58 : decode cX8_by 58 = .ok (.ireturn, 1) := by decide +kernel
theorem dX8_full_0 : decode cX8_full 0 = .ok (.aload_n 0, 1) := by decide +kernel
theorem dX8_full_1 : decode cX8_full 1 = .ok (.iload_n 1, 1) := by decide +kernel
theorem dX8_full_2 : decode cX8_full 2 = .ok (.invokevirtual 150, 3) := by decide +kernel
theorem dX8_full_5 : decode cX8_full 5 = .ok (.ifCond .ne 5, 3) := by decide +kernel
theorem dX8_full_8 : decode cX8_full 8 = .ok (.iconst (-1), 1) := by decide +kernel
theorem dX8_full_9 : decode cX8_full 9 = .ok (.ireturn, 1) := by decide +kernel
theorem dX8_full_10 : decode cX8_full 10 = .ok (.aload_n 0, 1) := by decide +kernel
theorem dX8_full_11 : decode cX8_full 11 = .ok (.iload_n 1, 1) := by decide +kernel
theorem dX8_full_12 : decode cX8_full 12 = .ok (.aload_n 0, 1) := by decide +kernel
theorem dX8_full_13 : decode cX8_full 13 = .ok (.invokevirtual 202, 3) := by decide +kernel
theorem dX8_full_16 : decode cX8_full 16 = .ok (.iload_n 2, 1) := by decide +kernel
theorem dX8_full_17 : decode cX8_full 17 = .ok (.invokevirtual 192, 3) := by decide +kernel
theorem dX8_full_20 : decode cX8_full 20 = .ok (.aload_n 0, 1) := by decide +kernel
theorem dX8_full_21 : decode cX8_full 21 = .ok (.invokevirtual 198, 3) := by decide +kernel
theorem dX8_full_24 : decode cX8_full 24 = .ok (.ireturn, 1) := by decide +kernel
theorem dX8_watched_0 : decode cX8_watched 0 = .ok (.aload_n 0, 1) := by decide +kernel
theorem dX8_watched_1 : decode cX8_watched 1 = .ok (.iload_n 1, 1) := by decide +kernel
theorem dX8_watched_2 : decode cX8_watched 2 = .ok (.invokevirtual 150, 3) := by decide +kernel
theorem dX8_watched_5 : decode cX8_watched 5 = .ok (.ifCond .eq 14, 3) := by decide +kernel
theorem dX8_watched_8 : decode cX8_watched 8 = .ok (.iload_n 2, 1) := by decide +kernel
theorem dX8_watched_9 : decode cX8_watched 9 = .ok (.ifCond .lt 10, 3) := by decide +kernel
theorem dX8_watched_12 : decode cX8_watched 12 = .ok (.iload_n 2, 1) := by decide +kernel
theorem dX8_watched_13 : decode cX8_watched 13 = .ok (.sipush 1000, 3) := by decide +kernel
theorem dX8_watched_16 : decode cX8_watched 16 = .ok (.if_icmp .le 5, 3) := by decide +kernel
theorem dX8_watched_19 : decode cX8_watched 19 = .ok (.iconst (-1), 1) := by decide +kernel
theorem dX8_watched_20 : decode cX8_watched 20 = .ok (.ireturn, 1) := by decide +kernel
theorem dX8_watched_21 : decode cX8_watched 21 = .ok (.aload_n 0, 1) := by decide +kernel
theorem dX8_watched_22 : decode cX8_watched 22 = .ok (.iload_n 1, 1) := by decide +kernel
theorem dX8_watched_23 : decode cX8_watched 23 = .ok (.aload_n 0, 1) := by decide +kernel
theorem dX8_watched_24 : decode cX8_watched 24 = .ok (.invokevirtual 202, 3) := by decide +kernel
theorem dX8_watched_27 : decode cX8_watched 27 = .ok (.iload_n 3, 1) := by decide +kernel
theorem dX8_watched_28 : decode cX8_watched 28 = .ok (.invokevirtual 192, 3) := by decide +kernel
theorem dX8_watched_31 : decode cX8_watched 31 = .ok (.aload_n 0, 1) := by decide +kernel
theorem dX8_watched_32 : decode cX8_watched 32 = .ok (.iload_n 2, 1) := by decide +kernel
theorem dX8_watched_33 : decode cX8_watched 33 = .ok (.invokevirtual 195, 3) := by decide +kernel
theorem dX8_watched_36 : decode cX8_watched 36 = .ok (.ireturn, 1) := by decide +kernel
theorem dX8_open_0 : decode cX8_open 0 = .ok (.aload_n 0, 1) := by decide +kernel
theorem dX8_open_1 : decode cX8_open 1 = .ok (.iload_n 1, 1) := by decide +kernel
theorem dX8_open_2 : decode cX8_open 2 = .ok (.invokevirtual 150, 3) := by decide +kernel
theorem dX8_open_5 : decode cX8_open 5 = .ok (.ifCond .eq 10, 3) := by decide +kernel
theorem dX8_open_8 : decode cX8_open 8 = .ok (.iload_n 2, 1) := by decide +kernel
theorem dX8_open_9 : decode cX8_open 9 = .ok (.invokestatic 186, 3) := by decide +kernel
theorem dX8_open_12 : decode cX8_open 12 = .ok (.ifCond .ne 5, 3) := by decide +kernel
theorem dX8_open_15 : decode cX8_open 15 = .ok (.iconst (-1), 1) := by decide +kernel
theorem dX8_open_16 : decode cX8_open 16 = .ok (.ireturn, 1) := by decide +kernel
theorem dX8_open_17 : decode cX8_open 17 = .ok (.aload_n 0, 1) := by decide +kernel
theorem dX8_open_18 : decode cX8_open 18 = .ok (.iload_n 1, 1) := by decide +kernel
theorem dX8_open_19 : decode cX8_open 19 = .ok (.aload_n 0, 1) := by decide +kernel
theorem dX8_open_20 : decode cX8_open 20 = .ok (.invokevirtual 202, 3) := by decide +kernel
theorem dX8_open_23 : decode cX8_open 23 = .ok (.invokevirtual 140, 3) := by decide +kernel
theorem dX8_open_26 : decode cX8_open 26 = .ok (.bipush 120, 2) := by decide +kernel
theorem dX8_open_28 : decode cX8_open 28 = .ok (.iload_n 1, 1) := by decide +kernel
theorem dX8_open_29 : decode cX8_open 29 = .ok (.imul, 1) := by decide +kernel
theorem dX8_open_30 : decode cX8_open 30 = .ok (.iload_n 2, 1) := by decide +kernel
theorem dX8_open_31 : decode cX8_open 31 = .ok (.iadd, 1) := by decide +kernel
theorem dX8_open_32 : decode cX8_open 32 = .ok (.istore_n 3, 1) := by decide +kernel
theorem dX8_open_33 : decode cX8_open 33 = .ok (.aload_n 0, 1) := by decide +kernel
theorem dX8_open_34 : decode cX8_open 34 = .ok (.getfield 47, 3) := by decide +kernel
theorem dX8_open_37 : decode cX8_open 37 = .ok (.iload_n 3, 1) := by decide +kernel
theorem dX8_open_38 : decode cX8_open 38 = .ok (.iaload, 1) := by decide +kernel
theorem dX8_open_39 : decode cX8_open 39 = .ok (.iconst 2, 1) := by decide +kernel
theorem dX8_open_40 : decode cX8_open 40 = .ok (.if_icmp .eq 24, 3) := by decide +kernel
theorem dX8_open_43 : decode cX8_open 43 = .ok (.aload_n 0, 1) := by decide +kernel
theorem dX8_open_44 : decode cX8_open 44 = .ok (.getfield 47, 3) := by decide +kernel
theorem dX8_open_47 : decode cX8_open 47 = .ok (.iload_n 3, 1) := by decide +kernel
theorem dX8_open_48 : decode cX8_open 48 = .ok (.iaload, 1) := by decide +kernel
theorem dX8_open_49 : decode cX8_open 49 = .ok (.iconst 1, 1) := by decide +kernel
theorem dX8_open_50 : decode cX8_open 50 = .ok (.if_icmp .ne 18, 3) := by decide +kernel
theorem dX8_open_53 : decode cX8_open 53 = .ok (.aload_n 0, 1) := by decide +kernel
theorem dX8_open_54 : decode cX8_open 54 = .ok (.getfield 54, 3) := by decide +kernel
theorem dX8_open_57 : decode cX8_open 57 = .ok (.iload_n 3, 1) := by decide +kernel
theorem dX8_open_58 : decode cX8_open 58 = .ok (.iaload, 1) := by decide +kernel
theorem dX8_open_59 : decode cX8_open 59 = .ok (.bipush 30, 2) := by decide +kernel
theorem dX8_open_61 : decode cX8_open 61 = .ok (.if_icmp .ge 7, 3) := by decide +kernel
theorem dX8_open_64 : decode cX8_open 64 = .ok (.iconst 1, 1) := by decide +kernel
theorem dX8_open_65 : decode cX8_open 65 = .ok (.goto 4, 3) := by decide +kernel
theorem dX8_open_68 : decode cX8_open 68 = .ok (.iconst 0, 1) := by decide +kernel
theorem dX8_open_69 : decode cX8_open 69 = .ok (.ireturn, 1) := by decide +kernel
theorem dX8_over_0 : decode cX8_over 0 = .ok (.aload_n 0, 1) := by decide +kernel
theorem dX8_over_1 : decode cX8_over 1 = .ok (.iload_n 1, 1) := by decide +kernel
theorem dX8_over_2 : decode cX8_over 2 = .ok (.invokevirtual 150, 3) := by decide +kernel
theorem dX8_over_5 : decode cX8_over 5 = .ok (.ifCond .ne 5, 3) := by decide +kernel
theorem dX8_over_8 : decode cX8_over 8 = .ok (.iconst (-1), 1) := by decide +kernel
theorem dX8_over_9 : decode cX8_over 9 = .ok (.ireturn, 1) := by decide +kernel
theorem dX8_over_10 : decode cX8_over 10 = .ok (.aload_n 0, 1) := by decide +kernel
theorem dX8_over_11 : decode cX8_over 11 = .ok (.iload_n 1, 1) := by decide +kernel
theorem dX8_over_12 : decode cX8_over 12 = .ok (.aload_n 0, 1) := by decide +kernel
theorem dX8_over_13 : decode cX8_over 13 = .ok (.invokevirtual 202, 3) := by decide +kernel
theorem dX8_over_16 : decode cX8_over 16 = .ok (.iconst 0, 1) := by decide +kernel
theorem dX8_over_17 : decode cX8_over 17 = .ok (.invokevirtual 192, 3) := by decide +kernel
theorem dX8_over_20 : decode cX8_over 20 = .ok (.aload_n 0, 1) := by decide +kernel
theorem dX8_over_21 : decode cX8_over 21 = .ok (.invokevirtual 198, 3) := by decide +kernel
theorem dX8_over_24 : decode cX8_over 24 = .ok (.istore_n 2, 1) := by decide +kernel
theorem dX8_over_25 : decode cX8_over 25 = .ok (.iconst 0, 1) := by decide +kernel
theorem dX8_over_26 : decode cX8_over 26 = .ok (.istore_n 3, 1) := by decide +kernel
theorem dX8_over_27 : decode cX8_over 27 = .ok (.iconst 0, 1) := by decide +kernel
theorem dX8_over_28 : decode cX8_over 28 = .ok (.istore 4, 2) := by decide +kernel
theorem dX8_over_30 : decode cX8_over 30 = .ok (.iload_n 2, 1) := by decide +kernel
theorem dX8_over_31 : decode cX8_over 31 = .ok (.iconst (-1), 1) := by decide +kernel
theorem dX8_over_32 : decode cX8_over 32 = .ok (.if_icmp .eq 86, 3) := by decide +kernel
theorem dX8_over_35 : decode cX8_over 35 = .ok (.iload 4, 2) := by decide +kernel
theorem dX8_over_37 : decode cX8_over 37 = .ok (.aload_n 0, 1) := by decide +kernel
theorem dX8_over_38 : decode cX8_over 38 = .ok (.invokevirtual 202, 3) := by decide +kernel
theorem dX8_over_41 : decode cX8_over 41 = .ok (.if_icmp .gt 77, 3) := by decide +kernel
theorem dX8_over_44 : decode cX8_over 44 = .ok (.bipush 120, 2) := by decide +kernel
theorem dX8_over_46 : decode cX8_over 46 = .ok (.iload_n 1, 1) := by decide +kernel
theorem dX8_over_47 : decode cX8_over 47 = .ok (.imul, 1) := by decide +kernel
theorem dX8_over_48 : decode cX8_over 48 = .ok (.iload 4, 2) := by decide +kernel
theorem dX8_over_50 : decode cX8_over 50 = .ok (.bipush 30, 2) := by decide +kernel
theorem dX8_over_52 : decode cX8_over 52 = .ok (.idiv, 1) := by decide +kernel
theorem dX8_over_53 : decode cX8_over 53 = .ok (.iadd, 1) := by decide +kernel
theorem dX8_over_54 : decode cX8_over 54 = .ok (.istore 5, 2) := by decide +kernel
theorem dX8_over_56 : decode cX8_over 56 = .ok (.iload_n 3, 1) := by decide +kernel
theorem dX8_over_57 : decode cX8_over 57 = .ok (.iload 4, 2) := by decide +kernel
theorem dX8_over_59 : decode cX8_over 59 = .ok (.iload_n 2, 1) := by decide +kernel
theorem dX8_over_60 : decode cX8_over 60 = .ok (.if_icmp .lt 49, 3) := by decide +kernel
theorem dX8_over_63 : decode cX8_over 63 = .ok (.aload_n 0, 1) := by decide +kernel
theorem dX8_over_64 : decode cX8_over 64 = .ok (.getfield 47, 3) := by decide +kernel
theorem dX8_over_67 : decode cX8_over 67 = .ok (.iload 5, 2) := by decide +kernel
theorem dX8_over_69 : decode cX8_over 69 = .ok (.iaload, 1) := by decide +kernel
theorem dX8_over_70 : decode cX8_over 70 = .ok (.iconst 1, 1) := by decide +kernel
theorem dX8_over_71 : decode cX8_over 71 = .ok (.if_icmp .ne 38, 3) := by decide +kernel
theorem dX8_over_74 : decode cX8_over 74 = .ok (.aload_n 0, 1) := by decide +kernel
theorem dX8_over_75 : decode cX8_over 75 = .ok (.getfield 54, 3) := by decide +kernel
theorem dX8_over_78 : decode cX8_over 78 = .ok (.iload 5, 2) := by decide +kernel
theorem dX8_over_80 : decode cX8_over 80 = .ok (.iaload, 1) := by decide +kernel
theorem dX8_over_81 : decode cX8_over 81 = .ok (.bipush 30, 2) := by decide +kernel
theorem dX8_over_83 : decode cX8_over 83 = .ok (.if_icmp .ne 26, 3) := by decide +kernel
theorem dX8_over_86 : decode cX8_over 86 = .ok (.aload_n 0, 1) := by decide +kernel
theorem dX8_over_87 : decode cX8_over 87 = .ok (.getfield 57, 3) := by decide +kernel
theorem dX8_over_90 : decode cX8_over 90 = .ok (.bipush 30, 2) := by decide +kernel
theorem dX8_over_92 : decode cX8_over 92 = .ok (.iload 5, 2) := by decide +kernel
theorem dX8_over_94 : decode cX8_over 94 = .ok (.imul, 1) := by decide +kernel
theorem dX8_over_95 : decode cX8_over 95 = .ok (.iload 4, 2) := by decide +kernel
theorem dX8_over_97 : decode cX8_over 97 = .ok (.bipush 30, 2) := by decide +kernel
theorem dX8_over_99 : decode cX8_over 99 = .ok (.irem, 1) := by decide +kernel
theorem dX8_over_100 : decode cX8_over 100 = .ok (.iadd, 1) := by decide +kernel
theorem dX8_over_101 : decode cX8_over 101 = .ok (.iaload, 1) := by decide +kernel
theorem dX8_over_102 : decode cX8_over 102 = .ok (.ifCond .eq 7, 3) := by decide +kernel
theorem dX8_over_105 : decode cX8_over 105 = .ok (.iconst 1, 1) := by decide +kernel
theorem dX8_over_106 : decode cX8_over 106 = .ok (.goto 4, 3) := by decide +kernel
theorem dX8_over_109 : decode cX8_over 109 = .ok (.iconst 0, 1) := by decide +kernel
theorem dX8_over_110 : decode cX8_over 110 = .ok (.iadd, 1) := by decide +kernel
theorem dX8_over_111 : decode cX8_over 111 = .ok (.istore_n 3, 1) := by decide +kernel
theorem dX8_over_112 : decode cX8_over 112 = .ok (.iinc 4 1, 3) := by decide +kernel
theorem dX8_over_115 : decode cX8_over 115 = .ok (.goto (-85), 3) := by decide +kernel
theorem dX8_over_118 : decode cX8_over 118 = .ok (.iload_n 3, 1) := by decide +kernel
theorem dX8_over_119 : decode cX8_over 119 = .ok (.ireturn, 1) := by decide +kernel
theorem dX8_ring_0 : decode cX8_ring 0 = .ok (.iload_n 1, 1) := by decide +kernel
theorem dX8_ring_1 : decode cX8_ring 1 = .ok (.ifCond .lt 20, 3) := by decide +kernel
theorem dX8_ring_4 : decode cX8_ring 4 = .ok (.iload_n 1, 1) := by decide +kernel
theorem dX8_ring_5 : decode cX8_ring 5 = .ok (.aload_n 0, 1) := by decide +kernel
theorem dX8_ring_6 : decode cX8_ring 6 = .ok (.getfield 183, 3) := by decide +kernel
theorem dX8_ring_9 : decode cX8_ring 9 = .ok (.if_icmp .ge 12, 3) := by decide +kernel
theorem dX8_ring_12 : decode cX8_ring 12 = .ok (.aload_n 0, 1) := by decide +kernel
theorem dX8_ring_13 : decode cX8_ring 13 = .ok (.getfield 91, 3) := by decide +kernel
theorem dX8_ring_16 : decode cX8_ring 16 = .ok (.iload_n 1, 1) := by decide +kernel
theorem dX8_ring_17 : decode cX8_ring 17 = .ok (.iaload, 1) := by decide +kernel
theorem dX8_ring_18 : decode cX8_ring 18 = .ok (.goto 4, 3) := by decide +kernel
theorem dX8_ring_21 : decode cX8_ring 21 = .ok (.iconst (-1), 1) := by decide +kernel
theorem dX8_ring_22 : decode cX8_ring 22 = .ok (.ireturn, 1) := by decide +kernel
theorem dX8_check_0 : decode cX8_check 0 = .ok (.iload_n 3, 1) := by decide +kernel
theorem dX8_check_1 : decode cX8_check 1 = .ok (.invokestatic 163, 3) := by decide +kernel
theorem dX8_check_4 : decode cX8_check 4 = .ok (.ifCond .eq 20, 3) := by decide +kernel
theorem dX8_check_7 : decode cX8_check 7 = .ok (.aload_n 0, 1) := by decide +kernel
theorem dX8_check_8 : decode cX8_check 8 = .ok (.iload_n 1, 1) := by decide +kernel
theorem dX8_check_9 : decode cX8_check 9 = .ok (.iload_n 2, 1) := by decide +kernel
theorem dX8_check_10 : decode cX8_check 10 = .ok (.invokevirtual 205, 3) := by decide +kernel
theorem dX8_check_13 : decode cX8_check 13 = .ok (.ifCond .eq 11, 3) := by decide +kernel
theorem dX8_check_16 : decode cX8_check 16 = .ok (.aload_n 0, 1) := by decide +kernel
theorem dX8_check_17 : decode cX8_check 17 = .ok (.iload_n 2, 1) := by decide +kernel
theorem dX8_check_18 : decode cX8_check 18 = .ok (.invokevirtual 121, 3) := by decide +kernel
theorem dX8_check_21 : decode cX8_check 21 = .ok (.ifCond .ne 6, 3) := by decide +kernel
theorem dX8_check_24 : decode cX8_check 24 = .ok (.bipush (-2), 2) := by decide +kernel
theorem dX8_check_26 : decode cX8_check 26 = .ok (.ireturn, 1) := by decide +kernel
theorem dX8_check_27 : decode cX8_check 27 = .ok (.aload_n 0, 1) := by decide +kernel
theorem dX8_check_28 : decode cX8_check 28 = .ok (.iload_n 1, 1) := by decide +kernel
theorem dX8_check_29 : decode cX8_check 29 = .ok (.aload_n 0, 1) := by decide +kernel
theorem dX8_check_30 : decode cX8_check 30 = .ok (.invokevirtual 202, 3) := by decide +kernel
theorem dX8_check_33 : decode cX8_check 33 = .ok (.iconst 0, 1) := by decide +kernel
theorem dX8_check_34 : decode cX8_check 34 = .ok (.invokevirtual 192, 3) := by decide +kernel
theorem dX8_check_37 : decode cX8_check 37 = .ok (.iconst 0, 1) := by decide +kernel
theorem dX8_check_38 : decode cX8_check 38 = .ok (.istore 5, 2) := by decide +kernel
theorem dX8_check_40 : decode cX8_check 40 = .ok (.iload 5, 2) := by decide +kernel
theorem dX8_check_42 : decode cX8_check 42 = .ok (.bipush 32, 2) := by decide +kernel
theorem dX8_check_44 : decode cX8_check 44 = .ok (.if_icmp .ge 70, 3) := by decide +kernel
theorem dX8_check_47 : decode cX8_check 47 = .ok (.iload_n 3, 1) := by decide +kernel
theorem dX8_check_48 : decode cX8_check 48 = .ok (.iload 5, 2) := by decide +kernel
theorem dX8_check_50 : decode cX8_check 50 = .ok (.iadd, 1) := by decide +kernel
theorem dX8_check_51 : decode cX8_check 51 = .ok (.sipush 3600, 3) := by decide +kernel
theorem dX8_check_54 : decode cX8_check 54 = .ok (.if_icmp .ge 25, 3) := by decide +kernel
theorem dX8_check_57 : decode cX8_check 57 = .ok (.aload_n 0, 1) := by decide +kernel
theorem dX8_check_58 : decode cX8_check 58 = .ok (.getfield 70, 3) := by decide +kernel
theorem dX8_check_61 : decode cX8_check 61 = .ok (.sipush 3600, 3) := by decide +kernel
theorem dX8_check_64 : decode cX8_check 64 = .ok (.iload_n 2, 1) := by decide +kernel
theorem dX8_check_65 : decode cX8_check 65 = .ok (.imul, 1) := by decide +kernel
theorem dX8_check_66 : decode cX8_check 66 = .ok (.iload_n 3, 1) := by decide +kernel
theorem dX8_check_67 : decode cX8_check 67 = .ok (.iadd, 1) := by decide +kernel
theorem dX8_check_68 : decode cX8_check 68 = .ok (.iload 5, 2) := by decide +kernel
theorem dX8_check_70 : decode cX8_check 70 = .ok (.iadd, 1) := by decide +kernel
theorem dX8_check_71 : decode cX8_check 71 = .ok (.baload, 1) := by decide +kernel
theorem dX8_check_72 : decode cX8_check 72 = .ok (.ifCond .eq 7, 3) := by decide +kernel
theorem dX8_check_75 : decode cX8_check 75 = .ok (.iconst 1, 1) := by decide +kernel
theorem dX8_check_76 : decode cX8_check 76 = .ok (.goto 4, 3) := by decide +kernel
theorem dX8_check_79 : decode cX8_check 79 = .ok (.iconst 0, 1) := by decide +kernel
theorem dX8_check_80 : decode cX8_check 80 = .ok (.istore 6, 2) := by decide +kernel
theorem dX8_check_82 : decode cX8_check 82 = .ok (.iload 6, 2) := by decide +kernel
theorem dX8_check_84 : decode cX8_check 84 = .ok (.iload 4, 2) := by decide +kernel
theorem dX8_check_86 : decode cX8_check 86 = .ok (.iload 5, 2) := by decide +kernel
theorem dX8_check_88 : decode cX8_check 88 = .ok (.ishr, 1) := by decide +kernel
theorem dX8_check_89 : decode cX8_check 89 = .ok (.iconst 1, 1) := by decide +kernel
theorem dX8_check_90 : decode cX8_check 90 = .ok (.iand, 1) := by decide +kernel
theorem dX8_check_91 : decode cX8_check 91 = .ok (.iconst 1, 1) := by decide +kernel
theorem dX8_check_92 : decode cX8_check 92 = .ok (.if_icmp .ne 7, 3) := by decide +kernel
theorem dX8_check_95 : decode cX8_check 95 = .ok (.iconst 1, 1) := by decide +kernel
theorem dX8_check_96 : decode cX8_check 96 = .ok (.goto 4, 3) := by decide +kernel
theorem dX8_check_99 : decode cX8_check 99 = .ok (.iconst 0, 1) := by decide +kernel
theorem dX8_check_100 : decode cX8_check 100 = .ok (.if_icmp .eq 8, 3) := by decide +kernel
theorem dX8_check_103 : decode cX8_check 103 = .ok (.iload_n 3, 1) := by decide +kernel
theorem dX8_check_104 : decode cX8_check 104 = .ok (.iload 5, 2) := by decide +kernel
theorem dX8_check_106 : decode cX8_check 106 = .ok (.iadd, 1) := by decide +kernel
theorem dX8_check_107 : decode cX8_check 107 = .ok (.ireturn, 1) := by decide +kernel
theorem dX8_check_108 : decode cX8_check 108 = .ok (.iinc 5 1, 3) := by decide +kernel
theorem dX8_check_111 : decode cX8_check 111 = .ok (.goto (-71), 3) := by decide +kernel
theorem dX8_check_114 : decode cX8_check 114 = .ok (.iconst (-1), 1) := by decide +kernel
theorem dX8_check_115 : decode cX8_check 115 = .ok (.ireturn, 1) := by decide +kernel
theorem dX8_image_0 : decode cX8_image 0 = .ok (.iload_n 1, 1) := by decide +kernel
theorem dX8_image_1 : decode cX8_image 1 = .ok (.ifCond .lt 35, 3) := by decide +kernel
theorem dX8_image_4 : decode cX8_image 4 = .ok (.iload_n 1, 1) := by decide +kernel
theorem dX8_image_5 : decode cX8_image 5 = .ok (.aload_n 0, 1) := by decide +kernel
theorem dX8_image_6 : decode cX8_image 6 = .ok (.getfield 106, 3) := by decide +kernel
theorem dX8_image_9 : decode cX8_image 9 = .ok (.if_icmp .ge 27, 3) := by decide +kernel
theorem dX8_image_12 : decode cX8_image 12 = .ok (.iload_n 2, 1) := by decide +kernel
theorem dX8_image_13 : decode cX8_image 13 = .ok (.ifCond .lt 23, 3) := by decide +kernel
theorem dX8_image_16 : decode cX8_image 16 = .ok (.iload_n 2, 1) := by decide +kernel
theorem dX8_image_17 : decode cX8_image 17 = .ok (.bipush 7, 2) := by decide +kernel
theorem dX8_image_19 : decode cX8_image 19 = .ok (.if_icmp .gt 17, 3) := by decide +kernel
theorem dX8_image_22 : decode cX8_image 22 = .ok (.aload_n 0, 1) := by decide +kernel
theorem dX8_image_23 : decode cX8_image 23 = .ok (.getfield 13, 3) := by decide +kernel
theorem dX8_image_26 : decode cX8_image 26 = .ok (.bipush 8, 2) := by decide +kernel
theorem dX8_image_28 : decode cX8_image 28 = .ok (.iload_n 1, 1) := by decide +kernel
theorem dX8_image_29 : decode cX8_image 29 = .ok (.imul, 1) := by decide +kernel
theorem dX8_image_30 : decode cX8_image 30 = .ok (.iload_n 2, 1) := by decide +kernel
theorem dX8_image_31 : decode cX8_image 31 = .ok (.iadd, 1) := by decide +kernel
theorem dX8_image_32 : decode cX8_image 32 = .ok (.iaload, 1) := by decide +kernel
theorem dX8_image_33 : decode cX8_image 33 = .ok (.goto 4, 3) := by decide +kernel
theorem dX8_image_36 : decode cX8_image 36 = .ok (.iconst (-1), 1) := by decide +kernel
theorem dX8_image_37 : decode cX8_image 37 = .ok (.ireturn, 1) := by decide +kernel
theorem dX8_take_0 : decode cX8_take 0 = .ok (.iload_n 2, 1) := by decide +kernel
theorem dX8_take_1 : decode cX8_take 1 = .ok (.ifCond .lt 17, 3) := by decide +kernel
theorem dX8_take_4 : decode cX8_take 4 = .ok (.iload_n 2, 1) := by decide +kernel
theorem dX8_take_5 : decode cX8_take 5 = .ok (.bipush 12, 2) := by decide +kernel
theorem dX8_take_7 : decode cX8_take 7 = .ok (.if_icmp .gt 11, 3) := by decide +kernel
theorem dX8_take_10 : decode cX8_take 10 = .ok (.aload_n 0, 1) := by decide +kernel
theorem dX8_take_11 : decode cX8_take 11 = .ok (.iload_n 1, 1) := by decide +kernel
theorem dX8_take_12 : decode cX8_take 12 = .ok (.invokevirtual 214, 3) := by decide +kernel
theorem dX8_take_15 : decode cX8_take 15 = .ok (.ifCond .ne 5, 3) := by decide +kernel
theorem dX8_take_18 : decode cX8_take 18 = .ok (.iconst (-1), 1) := by decide +kernel
theorem dX8_take_19 : decode cX8_take 19 = .ok (.ireturn, 1) := by decide +kernel
theorem dX8_take_20 : decode cX8_take 20 = .ok (.iload_n 2, 1) := by decide +kernel
theorem dX8_take_21 : decode cX8_take 21 = .ok (.tableswitch 207 0 11 #[63, 71, 83, 99, 115, 125, 145, 157, 165, 177, 189, 199], 63) := by decide +kernel
theorem dX8_take_84 : decode cX8_take 84 = .ok (.aload_n 0, 1) := by decide +kernel
theorem dX8_take_85 : decode cX8_take 85 = .ok (.iload_n 3, 1) := by decide +kernel
theorem dX8_take_86 : decode cX8_take 86 = .ok (.iload 4, 2) := by decide +kernel
theorem dX8_take_88 : decode cX8_take 88 = .ok (.invokevirtual 216, 3) := by decide +kernel
theorem dX8_take_91 : decode cX8_take 91 = .ok (.ireturn, 1) := by decide +kernel
theorem dX8_take_92 : decode cX8_take 92 = .ok (.aload_n 0, 1) := by decide +kernel
theorem dX8_take_93 : decode cX8_take 93 = .ok (.iload_n 3, 1) := by decide +kernel
theorem dX8_take_94 : decode cX8_take 94 = .ok (.iload 4, 2) := by decide +kernel
theorem dX8_take_96 : decode cX8_take 96 = .ok (.iload 5, 2) := by decide +kernel
theorem dX8_take_98 : decode cX8_take 98 = .ok (.iload 6, 2) := by decide +kernel
theorem dX8_take_100 : decode cX8_take 100 = .ok (.invokevirtual 219, 3) := by decide +kernel
theorem dX8_take_103 : decode cX8_take 103 = .ok (.ireturn, 1) := by decide +kernel
theorem dX8_take_104 : decode cX8_take 104 = .ok (.aload_n 0, 1) := by decide +kernel
theorem dX8_take_105 : decode cX8_take 105 = .ok (.iload_n 3, 1) := by decide +kernel
theorem dX8_take_106 : decode cX8_take 106 = .ok (.iload 4, 2) := by decide +kernel
theorem dX8_take_108 : decode cX8_take 108 = .ok (.iload 5, 2) := by decide +kernel
theorem dX8_take_110 : decode cX8_take 110 = .ok (.iload 6, 2) := by decide +kernel
theorem dX8_take_112 : decode cX8_take 112 = .ok (.iload 7, 2) := by decide +kernel
theorem dX8_take_114 : decode cX8_take 114 = .ok (.iload 8, 2) := by decide +kernel
theorem dX8_take_116 : decode cX8_take 116 = .ok (.invokevirtual 223, 3) := by decide +kernel
theorem dX8_take_119 : decode cX8_take 119 = .ok (.ireturn, 1) := by decide +kernel
theorem dX8_take_120 : decode cX8_take 120 = .ok (.aload_n 0, 1) := by decide +kernel
theorem dX8_take_121 : decode cX8_take 121 = .ok (.iload_n 3, 1) := by decide +kernel
theorem dX8_take_122 : decode cX8_take 122 = .ok (.iload 4, 2) := by decide +kernel
theorem dX8_take_124 : decode cX8_take 124 = .ok (.iload 5, 2) := by decide +kernel
theorem dX8_take_126 : decode cX8_take 126 = .ok (.iload 6, 2) := by decide +kernel
theorem dX8_take_128 : decode cX8_take 128 = .ok (.iload 7, 2) := by decide +kernel
theorem dX8_take_130 : decode cX8_take 130 = .ok (.iload 8, 2) := by decide +kernel
theorem dX8_take_132 : decode cX8_take 132 = .ok (.invokevirtual 227, 3) := by decide +kernel
theorem dX8_take_135 : decode cX8_take 135 = .ok (.ireturn, 1) := by decide +kernel
theorem dX8_take_136 : decode cX8_take 136 = .ok (.aload_n 0, 1) := by decide +kernel
theorem dX8_take_137 : decode cX8_take 137 = .ok (.iload_n 3, 1) := by decide +kernel
theorem dX8_take_138 : decode cX8_take 138 = .ok (.iload 4, 2) := by decide +kernel
theorem dX8_take_140 : decode cX8_take 140 = .ok (.iload 5, 2) := by decide +kernel
theorem dX8_take_142 : decode cX8_take 142 = .ok (.invokevirtual 230, 3) := by decide +kernel
theorem dX8_take_145 : decode cX8_take 145 = .ok (.ireturn, 1) := by decide +kernel
theorem dX8_take_146 : decode cX8_take 146 = .ok (.aload_n 0, 1) := by decide +kernel
theorem dX8_take_147 : decode cX8_take 147 = .ok (.iload_n 3, 1) := by decide +kernel
theorem dX8_take_148 : decode cX8_take 148 = .ok (.iload 4, 2) := by decide +kernel
theorem dX8_take_150 : decode cX8_take 150 = .ok (.iload 5, 2) := by decide +kernel
theorem dX8_take_152 : decode cX8_take 152 = .ok (.ifCond .eq 7, 3) := by decide +kernel
theorem dX8_take_155 : decode cX8_take 155 = .ok (.iconst 1, 1) := by decide +kernel
theorem dX8_take_156 : decode cX8_take 156 = .ok (.goto 4, 3) := by decide +kernel
theorem dX8_take_159 : decode cX8_take 159 = .ok (.iconst 0, 1) := by decide +kernel
theorem dX8_take_160 : decode cX8_take 160 = .ok (.iload 6, 2) := by decide +kernel
theorem dX8_take_162 : decode cX8_take 162 = .ok (.invokevirtual 233, 3) := by decide +kernel
theorem dX8_take_165 : decode cX8_take 165 = .ok (.ireturn, 1) := by decide +kernel
theorem dX8_take_166 : decode cX8_take 166 = .ok (.aload_n 0, 1) := by decide +kernel
theorem dX8_take_167 : decode cX8_take 167 = .ok (.iload_n 3, 1) := by decide +kernel
theorem dX8_take_168 : decode cX8_take 168 = .ok (.iload 4, 2) := by decide +kernel
theorem dX8_take_170 : decode cX8_take 170 = .ok (.iload 5, 2) := by decide +kernel
theorem dX8_take_172 : decode cX8_take 172 = .ok (.iload 6, 2) := by decide +kernel
theorem dX8_take_174 : decode cX8_take 174 = .ok (.invokevirtual 236, 3) := by decide +kernel
theorem dX8_take_177 : decode cX8_take 177 = .ok (.ireturn, 1) := by decide +kernel
theorem dX8_take_178 : decode cX8_take 178 = .ok (.aload_n 0, 1) := by decide +kernel
theorem dX8_take_179 : decode cX8_take 179 = .ok (.iload_n 3, 1) := by decide +kernel
theorem dX8_take_180 : decode cX8_take 180 = .ok (.iload 4, 2) := by decide +kernel
theorem dX8_take_182 : decode cX8_take 182 = .ok (.invokevirtual 239, 3) := by decide +kernel
theorem dX8_take_185 : decode cX8_take 185 = .ok (.ireturn, 1) := by decide +kernel
theorem dX8_take_186 : decode cX8_take 186 = .ok (.aload_n 0, 1) := by decide +kernel
theorem dX8_take_187 : decode cX8_take 187 = .ok (.iload_n 3, 1) := by decide +kernel
theorem dX8_take_188 : decode cX8_take 188 = .ok (.iload 4, 2) := by decide +kernel
theorem dX8_take_190 : decode cX8_take 190 = .ok (.iload 5, 2) := by decide +kernel
theorem dX8_take_192 : decode cX8_take 192 = .ok (.iload 6, 2) := by decide +kernel
theorem dX8_take_194 : decode cX8_take 194 = .ok (.invokevirtual 242, 3) := by decide +kernel
theorem dX8_take_197 : decode cX8_take 197 = .ok (.ireturn, 1) := by decide +kernel
theorem dX8_take_198 : decode cX8_take 198 = .ok (.aload_n 0, 1) := by decide +kernel
theorem dX8_take_199 : decode cX8_take 199 = .ok (.iload_n 3, 1) := by decide +kernel
theorem dX8_take_200 : decode cX8_take 200 = .ok (.iload 4, 2) := by decide +kernel
theorem dX8_take_202 : decode cX8_take 202 = .ok (.iload 5, 2) := by decide +kernel
theorem dX8_take_204 : decode cX8_take 204 = .ok (.iload 6, 2) := by decide +kernel
theorem dX8_take_206 : decode cX8_take 206 = .ok (.invokevirtual 245, 3) := by decide +kernel
theorem dX8_take_209 : decode cX8_take 209 = .ok (.ireturn, 1) := by decide +kernel
theorem dX8_take_210 : decode cX8_take 210 = .ok (.aload_n 0, 1) := by decide +kernel
theorem dX8_take_211 : decode cX8_take 211 = .ok (.iload_n 3, 1) := by decide +kernel
theorem dX8_take_212 : decode cX8_take 212 = .ok (.iload 4, 2) := by decide +kernel
theorem dX8_take_214 : decode cX8_take 214 = .ok (.iload 5, 2) := by decide +kernel
theorem dX8_take_216 : decode cX8_take 216 = .ok (.invokevirtual 248, 3) := by decide +kernel
theorem dX8_take_219 : decode cX8_take 219 = .ok (.ireturn, 1) := by decide +kernel
theorem dX8_take_220 : decode cX8_take 220 = .ok (.aload_n 0, 1) := by decide +kernel
theorem dX8_take_221 : decode cX8_take 221 = .ok (.iload_n 3, 1) := by decide +kernel
theorem dX8_take_222 : decode cX8_take 222 = .ok (.iload 4, 2) := by decide +kernel
theorem dX8_take_224 : decode cX8_take 224 = .ok (.invokevirtual 251, 3) := by decide +kernel
theorem dX8_take_227 : decode cX8_take 227 = .ok (.ireturn, 1) := by decide +kernel
theorem dX8_take_228 : decode cX8_take 228 = .ok (.aload_n 0, 1) := by decide +kernel
theorem dX8_take_229 : decode cX8_take 229 = .ok (.iload_n 3, 1) := by decide +kernel
theorem dX8_take_230 : decode cX8_take 230 = .ok (.iload 4, 2) := by decide +kernel
theorem dX8_take_232 : decode cX8_take 232 = .ok (.iload 5, 2) := by decide +kernel
theorem dX8_take_234 : decode cX8_take 234 = .ok (.iload 6, 2) := by decide +kernel
theorem dX8_take_236 : decode cX8_take 236 = .ok (.invokevirtual 253, 3) := by decide +kernel
theorem dX8_take_239 : decode cX8_take 239 = .ok (.ireturn, 1) := by decide +kernel
theorem dX8_count_0 : decode cX8_count 0 = .ok (.iload_n 1, 1) := by decide +kernel
theorem dX8_count_1 : decode cX8_count 1 = .ok (.tableswitch 51 0 3 #[31, 36, 41, 46], 31) := by decide +kernel
theorem dX8_count_32 : decode cX8_count 32 = .ok (.aload_n 0, 1) := by decide +kernel
theorem dX8_count_33 : decode cX8_count 33 = .ok (.getfield 97, 3) := by decide +kernel
theorem dX8_count_36 : decode cX8_count 36 = .ok (.ireturn, 1) := by decide +kernel
theorem dX8_count_37 : decode cX8_count 37 = .ok (.aload_n 0, 1) := by decide +kernel
theorem dX8_count_38 : decode cX8_count 38 = .ok (.getfield 94, 3) := by decide +kernel
theorem dX8_count_41 : decode cX8_count 41 = .ok (.ireturn, 1) := by decide +kernel
theorem dX8_count_42 : decode cX8_count 42 = .ok (.aload_n 0, 1) := by decide +kernel
theorem dX8_count_43 : decode cX8_count 43 = .ok (.getfield 106, 3) := by decide +kernel
theorem dX8_count_46 : decode cX8_count 46 = .ok (.ireturn, 1) := by decide +kernel
theorem dX8_count_47 : decode cX8_count 47 = .ok (.aload_n 0, 1) := by decide +kernel
theorem dX8_count_48 : decode cX8_count 48 = .ok (.invokevirtual 202, 3) := by decide +kernel
theorem dX8_count_51 : decode cX8_count 51 = .ok (.ireturn, 1) := by decide +kernel
theorem dX8_count_52 : decode cX8_count 52 = .ok (.iconst (-1), 1) := by decide +kernel
theorem dX8_count_53 : decode cX8_count 53 = .ok (.ireturn, 1) := by decide +kernel
theorem dJ6_numberOfTrailingZeros_0f7a4_0 : decode cJ6_numberOfTrailingZeros_0f7a4 0 = .ok (.iload_n 0, 1) := by decide +kernel
theorem dJ6_numberOfTrailingZeros_0f7a4_1 : decode cJ6_numberOfTrailingZeros_0f7a4 1 = .ok (.iconst (-1), 1) := by decide +kernel
theorem dJ6_numberOfTrailingZeros_0f7a4_2 : decode cJ6_numberOfTrailingZeros_0f7a4 2 = .ok (.ixor, 1) := by decide +kernel
theorem dJ6_numberOfTrailingZeros_0f7a4_3 : decode cJ6_numberOfTrailingZeros_0f7a4 3 = .ok (.iload_n 0, 1) := by decide +kernel
theorem dJ6_numberOfTrailingZeros_0f7a4_4 : decode cJ6_numberOfTrailingZeros_0f7a4 4 = .ok (.iconst 1, 1) := by decide +kernel
theorem dJ6_numberOfTrailingZeros_0f7a4_5 : decode cJ6_numberOfTrailingZeros_0f7a4 5 = .ok (.isub, 1) := by decide +kernel
theorem dJ6_numberOfTrailingZeros_0f7a4_6 : decode cJ6_numberOfTrailingZeros_0f7a4 6 = .ok (.iand, 1) := by decide +kernel
theorem dJ6_numberOfTrailingZeros_0f7a4_7 : decode cJ6_numberOfTrailingZeros_0f7a4 7 = .ok (.istore_n 0, 1) := by decide +kernel
theorem dJ6_numberOfTrailingZeros_0f7a4_8 : decode cJ6_numberOfTrailingZeros_0f7a4 8 = .ok (.iload_n 0, 1) := by decide +kernel
theorem dJ6_numberOfTrailingZeros_0f7a4_9 : decode cJ6_numberOfTrailingZeros_0f7a4 9 = .ok (.ifCond .gt 8, 3) := by decide +kernel
theorem dJ6_numberOfTrailingZeros_0f7a4_12 : decode cJ6_numberOfTrailingZeros_0f7a4 12 = .ok (.iload_n 0, 1) := by decide +kernel
theorem dJ6_numberOfTrailingZeros_0f7a4_13 : decode cJ6_numberOfTrailingZeros_0f7a4 13 = .ok (.bipush 32, 2) := by decide +kernel
theorem dJ6_numberOfTrailingZeros_0f7a4_15 : decode cJ6_numberOfTrailingZeros_0f7a4 15 = .ok (.iand, 1) := by decide +kernel
theorem dJ6_numberOfTrailingZeros_0f7a4_16 : decode cJ6_numberOfTrailingZeros_0f7a4 16 = .ok (.ireturn, 1) := by decide +kernel
theorem dJ6_numberOfTrailingZeros_0f7a4_17 : decode cJ6_numberOfTrailingZeros_0f7a4 17 = .ok (.iconst 1, 1) := by decide +kernel
theorem dJ6_numberOfTrailingZeros_0f7a4_18 : decode cJ6_numberOfTrailingZeros_0f7a4 18 = .ok (.istore_n 1, 1) := by decide +kernel
theorem dJ6_numberOfTrailingZeros_0f7a4_19 : decode cJ6_numberOfTrailingZeros_0f7a4 19 = .ok (.iload_n 0, 1) := by decide +kernel
theorem dJ6_numberOfTrailingZeros_0f7a4_20 : decode cJ6_numberOfTrailingZeros_0f7a4 20 = .ok (.ldc_w 264, 3) := by decide +kernel
theorem dJ6_numberOfTrailingZeros_0f7a4_23 : decode cJ6_numberOfTrailingZeros_0f7a4 23 = .ok (.if_icmp .le 11, 3) := by decide +kernel
theorem dJ6_numberOfTrailingZeros_0f7a4_26 : decode cJ6_numberOfTrailingZeros_0f7a4 26 = .ok (.iinc 1 16, 3) := by decide +kernel
theorem dJ6_numberOfTrailingZeros_0f7a4_29 : decode cJ6_numberOfTrailingZeros_0f7a4 29 = .ok (.iload_n 0, 1) := by decide +kernel
theorem dJ6_numberOfTrailingZeros_0f7a4_30 : decode cJ6_numberOfTrailingZeros_0f7a4 30 = .ok (.bipush 16, 2) := by decide +kernel
theorem dJ6_numberOfTrailingZeros_0f7a4_32 : decode cJ6_numberOfTrailingZeros_0f7a4 32 = .ok (.iushr, 1) := by decide +kernel
theorem dJ6_numberOfTrailingZeros_0f7a4_33 : decode cJ6_numberOfTrailingZeros_0f7a4 33 = .ok (.istore_n 0, 1) := by decide +kernel
theorem dJ6_numberOfTrailingZeros_0f7a4_34 : decode cJ6_numberOfTrailingZeros_0f7a4 34 = .ok (.iload_n 0, 1) := by decide +kernel
theorem dJ6_numberOfTrailingZeros_0f7a4_35 : decode cJ6_numberOfTrailingZeros_0f7a4 35 = .ok (.sipush 256, 3) := by decide +kernel
theorem dJ6_numberOfTrailingZeros_0f7a4_38 : decode cJ6_numberOfTrailingZeros_0f7a4 38 = .ok (.if_icmp .le 11, 3) := by decide +kernel
theorem dJ6_numberOfTrailingZeros_0f7a4_41 : decode cJ6_numberOfTrailingZeros_0f7a4 41 = .ok (.iinc 1 8, 3) := by decide +kernel
theorem dJ6_numberOfTrailingZeros_0f7a4_44 : decode cJ6_numberOfTrailingZeros_0f7a4 44 = .ok (.iload_n 0, 1) := by decide +kernel
theorem dJ6_numberOfTrailingZeros_0f7a4_45 : decode cJ6_numberOfTrailingZeros_0f7a4 45 = .ok (.bipush 8, 2) := by decide +kernel
theorem dJ6_numberOfTrailingZeros_0f7a4_47 : decode cJ6_numberOfTrailingZeros_0f7a4 47 = .ok (.iushr, 1) := by decide +kernel
theorem dJ6_numberOfTrailingZeros_0f7a4_48 : decode cJ6_numberOfTrailingZeros_0f7a4 48 = .ok (.istore_n 0, 1) := by decide +kernel
theorem dJ6_numberOfTrailingZeros_0f7a4_49 : decode cJ6_numberOfTrailingZeros_0f7a4 49 = .ok (.iload_n 0, 1) := by decide +kernel
theorem dJ6_numberOfTrailingZeros_0f7a4_50 : decode cJ6_numberOfTrailingZeros_0f7a4 50 = .ok (.bipush 16, 2) := by decide +kernel
theorem dJ6_numberOfTrailingZeros_0f7a4_52 : decode cJ6_numberOfTrailingZeros_0f7a4 52 = .ok (.if_icmp .le 10, 3) := by decide +kernel
theorem dJ6_numberOfTrailingZeros_0f7a4_55 : decode cJ6_numberOfTrailingZeros_0f7a4 55 = .ok (.iinc 1 4, 3) := by decide +kernel
theorem dJ6_numberOfTrailingZeros_0f7a4_58 : decode cJ6_numberOfTrailingZeros_0f7a4 58 = .ok (.iload_n 0, 1) := by decide +kernel
theorem dJ6_numberOfTrailingZeros_0f7a4_59 : decode cJ6_numberOfTrailingZeros_0f7a4 59 = .ok (.iconst 4, 1) := by decide +kernel
theorem dJ6_numberOfTrailingZeros_0f7a4_60 : decode cJ6_numberOfTrailingZeros_0f7a4 60 = .ok (.iushr, 1) := by decide +kernel
theorem dJ6_numberOfTrailingZeros_0f7a4_61 : decode cJ6_numberOfTrailingZeros_0f7a4 61 = .ok (.istore_n 0, 1) := by decide +kernel
theorem dJ6_numberOfTrailingZeros_0f7a4_62 : decode cJ6_numberOfTrailingZeros_0f7a4 62 = .ok (.iload_n 0, 1) := by decide +kernel
theorem dJ6_numberOfTrailingZeros_0f7a4_63 : decode cJ6_numberOfTrailingZeros_0f7a4 63 = .ok (.iconst 4, 1) := by decide +kernel
theorem dJ6_numberOfTrailingZeros_0f7a4_64 : decode cJ6_numberOfTrailingZeros_0f7a4 64 = .ok (.if_icmp .le 10, 3) := by decide +kernel
theorem dJ6_numberOfTrailingZeros_0f7a4_67 : decode cJ6_numberOfTrailingZeros_0f7a4 67 = .ok (.iinc 1 2, 3) := by decide +kernel
theorem dJ6_numberOfTrailingZeros_0f7a4_70 : decode cJ6_numberOfTrailingZeros_0f7a4 70 = .ok (.iload_n 0, 1) := by decide +kernel
theorem dJ6_numberOfTrailingZeros_0f7a4_71 : decode cJ6_numberOfTrailingZeros_0f7a4 71 = .ok (.iconst 2, 1) := by decide +kernel
theorem dJ6_numberOfTrailingZeros_0f7a4_72 : decode cJ6_numberOfTrailingZeros_0f7a4 72 = .ok (.iushr, 1) := by decide +kernel
theorem dJ6_numberOfTrailingZeros_0f7a4_73 : decode cJ6_numberOfTrailingZeros_0f7a4 73 = .ok (.istore_n 0, 1) := by decide +kernel
theorem dJ6_numberOfTrailingZeros_0f7a4_74 : decode cJ6_numberOfTrailingZeros_0f7a4 74 = .ok (.iload_n 1, 1) := by decide +kernel
theorem dJ6_numberOfTrailingZeros_0f7a4_75 : decode cJ6_numberOfTrailingZeros_0f7a4 75 = .ok (.iload_n 0, 1) := by decide +kernel
theorem dJ6_numberOfTrailingZeros_0f7a4_76 : decode cJ6_numberOfTrailingZeros_0f7a4 76 = .ok (.iconst 1, 1) := by decide +kernel
theorem dJ6_numberOfTrailingZeros_0f7a4_77 : decode cJ6_numberOfTrailingZeros_0f7a4 77 = .ok (.iushr, 1) := by decide +kernel
theorem dJ6_numberOfTrailingZeros_0f7a4_78 : decode cJ6_numberOfTrailingZeros_0f7a4 78 = .ok (.iadd, 1) := by decide +kernel
theorem dJ6_numberOfTrailingZeros_0f7a4_79 : decode cJ6_numberOfTrailingZeros_0f7a4 79 = .ok (.ireturn, 1) := by decide +kernel
theorem dJ6_bitCount_0f7a4_0 : decode cJ6_bitCount_0f7a4 0 = .ok (.iload_n 0, 1) := by decide +kernel
theorem dJ6_bitCount_0f7a4_1 : decode cJ6_bitCount_0f7a4 1 = .ok (.iload_n 0, 1) := by decide +kernel
theorem dJ6_bitCount_0f7a4_2 : decode cJ6_bitCount_0f7a4 2 = .ok (.iconst 1, 1) := by decide +kernel
theorem dJ6_bitCount_0f7a4_3 : decode cJ6_bitCount_0f7a4 3 = .ok (.iushr, 1) := by decide +kernel
theorem dJ6_bitCount_0f7a4_4 : decode cJ6_bitCount_0f7a4 4 = .ok (.ldc_w 265, 3) := by decide +kernel
theorem dJ6_bitCount_0f7a4_7 : decode cJ6_bitCount_0f7a4 7 = .ok (.iand, 1) := by decide +kernel
theorem dJ6_bitCount_0f7a4_8 : decode cJ6_bitCount_0f7a4 8 = .ok (.isub, 1) := by decide +kernel
theorem dJ6_bitCount_0f7a4_9 : decode cJ6_bitCount_0f7a4 9 = .ok (.istore_n 0, 1) := by decide +kernel
theorem dJ6_bitCount_0f7a4_10 : decode cJ6_bitCount_0f7a4 10 = .ok (.iload_n 0, 1) := by decide +kernel
theorem dJ6_bitCount_0f7a4_11 : decode cJ6_bitCount_0f7a4 11 = .ok (.ldc_w 266, 3) := by decide +kernel
theorem dJ6_bitCount_0f7a4_14 : decode cJ6_bitCount_0f7a4 14 = .ok (.iand, 1) := by decide +kernel
theorem dJ6_bitCount_0f7a4_15 : decode cJ6_bitCount_0f7a4 15 = .ok (.iload_n 0, 1) := by decide +kernel
theorem dJ6_bitCount_0f7a4_16 : decode cJ6_bitCount_0f7a4 16 = .ok (.iconst 2, 1) := by decide +kernel
theorem dJ6_bitCount_0f7a4_17 : decode cJ6_bitCount_0f7a4 17 = .ok (.iushr, 1) := by decide +kernel
theorem dJ6_bitCount_0f7a4_18 : decode cJ6_bitCount_0f7a4 18 = .ok (.ldc_w 266, 3) := by decide +kernel
theorem dJ6_bitCount_0f7a4_21 : decode cJ6_bitCount_0f7a4 21 = .ok (.iand, 1) := by decide +kernel
theorem dJ6_bitCount_0f7a4_22 : decode cJ6_bitCount_0f7a4 22 = .ok (.iadd, 1) := by decide +kernel
theorem dJ6_bitCount_0f7a4_23 : decode cJ6_bitCount_0f7a4 23 = .ok (.istore_n 0, 1) := by decide +kernel
theorem dJ6_bitCount_0f7a4_24 : decode cJ6_bitCount_0f7a4 24 = .ok (.iload_n 0, 1) := by decide +kernel
theorem dJ6_bitCount_0f7a4_25 : decode cJ6_bitCount_0f7a4 25 = .ok (.iload_n 0, 1) := by decide +kernel
theorem dJ6_bitCount_0f7a4_26 : decode cJ6_bitCount_0f7a4 26 = .ok (.iconst 4, 1) := by decide +kernel
theorem dJ6_bitCount_0f7a4_27 : decode cJ6_bitCount_0f7a4 27 = .ok (.iushr, 1) := by decide +kernel
theorem dJ6_bitCount_0f7a4_28 : decode cJ6_bitCount_0f7a4 28 = .ok (.iadd, 1) := by decide +kernel
theorem dJ6_bitCount_0f7a4_29 : decode cJ6_bitCount_0f7a4 29 = .ok (.ldc_w 267, 3) := by decide +kernel
theorem dJ6_bitCount_0f7a4_32 : decode cJ6_bitCount_0f7a4 32 = .ok (.iand, 1) := by decide +kernel
theorem dJ6_bitCount_0f7a4_33 : decode cJ6_bitCount_0f7a4 33 = .ok (.istore_n 0, 1) := by decide +kernel
theorem dJ6_bitCount_0f7a4_34 : decode cJ6_bitCount_0f7a4 34 = .ok (.iload_n 0, 1) := by decide +kernel
theorem dJ6_bitCount_0f7a4_35 : decode cJ6_bitCount_0f7a4 35 = .ok (.iload_n 0, 1) := by decide +kernel
theorem dJ6_bitCount_0f7a4_36 : decode cJ6_bitCount_0f7a4 36 = .ok (.bipush 8, 2) := by decide +kernel
theorem dJ6_bitCount_0f7a4_38 : decode cJ6_bitCount_0f7a4 38 = .ok (.iushr, 1) := by decide +kernel
theorem dJ6_bitCount_0f7a4_39 : decode cJ6_bitCount_0f7a4 39 = .ok (.iadd, 1) := by decide +kernel
theorem dJ6_bitCount_0f7a4_40 : decode cJ6_bitCount_0f7a4 40 = .ok (.istore_n 0, 1) := by decide +kernel
theorem dJ6_bitCount_0f7a4_41 : decode cJ6_bitCount_0f7a4 41 = .ok (.iload_n 0, 1) := by decide +kernel
theorem dJ6_bitCount_0f7a4_42 : decode cJ6_bitCount_0f7a4 42 = .ok (.iload_n 0, 1) := by decide +kernel
theorem dJ6_bitCount_0f7a4_43 : decode cJ6_bitCount_0f7a4 43 = .ok (.bipush 16, 2) := by decide +kernel
theorem dJ6_bitCount_0f7a4_45 : decode cJ6_bitCount_0f7a4 45 = .ok (.iushr, 1) := by decide +kernel
theorem dJ6_bitCount_0f7a4_46 : decode cJ6_bitCount_0f7a4 46 = .ok (.iadd, 1) := by decide +kernel
theorem dJ6_bitCount_0f7a4_47 : decode cJ6_bitCount_0f7a4 47 = .ok (.istore_n 0, 1) := by decide +kernel
theorem dJ6_bitCount_0f7a4_48 : decode cJ6_bitCount_0f7a4 48 = .ok (.iload_n 0, 1) := by decide +kernel
theorem dJ6_bitCount_0f7a4_49 : decode cJ6_bitCount_0f7a4 49 = .ok (.bipush 63, 2) := by decide +kernel
theorem dJ6_bitCount_0f7a4_51 : decode cJ6_bitCount_0f7a4 51 = .ok (.iand, 1) := by decide +kernel
theorem dJ6_bitCount_0f7a4_52 : decode cJ6_bitCount_0f7a4 52 = .ok (.ireturn, 1) := by decide +kernel
theorem dJ9_max_7cf53_0 : decode cJ9_max_7cf53 0 = .ok (.iload_n 0, 1) := by decide +kernel
theorem dJ9_max_7cf53_1 : decode cJ9_max_7cf53 1 = .ok (.iload_n 1, 1) := by decide +kernel
theorem dJ9_max_7cf53_2 : decode cJ9_max_7cf53 2 = .ok (.if_icmp .lt 7, 3) := by decide +kernel
theorem dJ9_max_7cf53_5 : decode cJ9_max_7cf53 5 = .ok (.iload_n 0, 1) := by decide +kernel
theorem dJ9_max_7cf53_6 : decode cJ9_max_7cf53 6 = .ok (.goto 4, 3) := by decide +kernel
theorem dJ9_max_7cf53_9 : decode cJ9_max_7cf53 9 = .ok (.iload_n 1, 1) := by decide +kernel
theorem dJ9_max_7cf53_10 : decode cJ9_max_7cf53 10 = .ok (.ireturn, 1) := by decide +kernel
theorem dJ9_min_7cf53_0 : decode cJ9_min_7cf53 0 = .ok (.iload_n 0, 1) := by decide +kernel
theorem dJ9_min_7cf53_1 : decode cJ9_min_7cf53 1 = .ok (.iload_n 1, 1) := by decide +kernel
theorem dJ9_min_7cf53_2 : decode cJ9_min_7cf53 2 = .ok (.if_icmp .gt 7, 3) := by decide +kernel
theorem dJ9_min_7cf53_5 : decode cJ9_min_7cf53 5 = .ok (.iload_n 0, 1) := by decide +kernel
theorem dJ9_min_7cf53_6 : decode cJ9_min_7cf53 6 = .ok (.goto 4, 3) := by decide +kernel
theorem dJ9_min_7cf53_9 : decode cJ9_min_7cf53 9 = .ok (.iload_n 1, 1) := by decide +kernel
theorem dJ9_min_7cf53_10 : decode cJ9_min_7cf53 10 = .ok (.ireturn, 1) := by decide +kernel
theorem dJ7_fill_53178_0 : decode cJ7_fill_53178 0 = .ok (.iconst 0, 1) := by decide +kernel
theorem dJ7_fill_53178_1 : decode cJ7_fill_53178 1 = .ok (.istore_n 2, 1) := by decide +kernel
theorem dJ7_fill_53178_2 : decode cJ7_fill_53178 2 = .ok (.aload_n 0, 1) := by decide +kernel
theorem dJ7_fill_53178_3 : decode cJ7_fill_53178 3 = .ok (.arraylength, 1) := by decide +kernel
theorem dJ7_fill_53178_4 : decode cJ7_fill_53178 4 = .ok (.istore_n 3, 1) := by decide +kernel
theorem dJ7_fill_53178_5 : decode cJ7_fill_53178 5 = .ok (.iload_n 2, 1) := by decide +kernel
theorem dJ7_fill_53178_6 : decode cJ7_fill_53178 6 = .ok (.iload_n 3, 1) := by decide +kernel
theorem dJ7_fill_53178_7 : decode cJ7_fill_53178 7 = .ok (.if_icmp .ge 13, 3) := by decide +kernel
theorem dJ7_fill_53178_10 : decode cJ7_fill_53178 10 = .ok (.aload_n 0, 1) := by decide +kernel
theorem dJ7_fill_53178_11 : decode cJ7_fill_53178 11 = .ok (.iload_n 2, 1) := by decide +kernel
theorem dJ7_fill_53178_12 : decode cJ7_fill_53178 12 = .ok (.iload_n 1, 1) := by decide +kernel
theorem dJ7_fill_53178_13 : decode cJ7_fill_53178 13 = .ok (.iastore, 1) := by decide +kernel
theorem dJ7_fill_53178_14 : decode cJ7_fill_53178 14 = .ok (.iinc 2 1, 3) := by decide +kernel
theorem dJ7_fill_53178_17 : decode cJ7_fill_53178 17 = .ok (.goto (-12), 3) := by decide +kernel
theorem dJ7_fill_53178_20 : decode cJ7_fill_53178 20 = .ok (.return_, 1) := by decide +kernel
