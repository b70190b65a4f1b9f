theorem d_M_init_0 : decode cM_init 0 = .ok (.aload_n 0, 1) := by decide +kernel
theorem d_M_init_1 : decode cM_init 1 = .ok (.invokespecial 1, 3) := by decide +kernel
theorem d_M_init_4 : decode cM_init 4 = .ok (.aload_n 0, 1) := by decide +kernel
theorem d_M_init_5 : decode cM_init 5 = .ok (.bipush 9, 2) := by decide +kernel
theorem d_M_init_7 : decode cM_init 7 = .ok (.newarray .int, 2) := by decide +kernel
theorem d_M_init_9 : decode cM_init 9 = .ok (.putfield 7, 3) := by decide +kernel
theorem d_M_init_12 : decode cM_init 12 = .ok (.aload_n 0, 1) := by decide +kernel
theorem d_M_init_13 : decode cM_init 13 = .ok (.bipush 6, 2) := by decide +kernel
theorem d_M_init_15 : decode cM_init 15 = .ok (.newarray .int, 2) := by decide +kernel
theorem d_M_init_17 : decode cM_init 17 = .ok (.putfield 13, 3) := by decide +kernel
theorem d_M_init_20 : decode cM_init 20 = .ok (.aload_n 0, 1) := by decide +kernel
theorem d_M_init_21 : decode cM_init 21 = .ok (.bipush 9, 2) := by decide +kernel
theorem d_M_init_23 : decode cM_init 23 = .ok (.newarray .int, 2) := by decide +kernel
theorem d_M_init_25 : decode cM_init 25 = .ok (.putfield 16, 3) := by decide +kernel
theorem d_M_init_28 : decode cM_init 28 = .ok (.aload_n 0, 1) := by decide +kernel
theorem d_M_init_29 : decode cM_init 29 = .ok (.sipush 360, 3) := by decide +kernel
theorem d_M_init_32 : decode cM_init 32 = .ok (.newarray .boolean, 2) := by decide +kernel
theorem d_M_init_34 : decode cM_init 34 = .ok (.putfield 19, 3) := by decide +kernel
theorem d_M_init_37 : decode cM_init 37 = .ok (.aload_n 0, 1) := by decide +kernel
theorem d_M_init_38 : decode cM_init 38 = .ok (.bipush 40, 2) := by decide +kernel
theorem d_M_init_40 : decode cM_init 40 = .ok (.newarray .boolean, 2) := by decide +kernel
theorem d_M_init_42 : decode cM_init 42 = .ok (.putfield 23, 3) := by decide +kernel
theorem d_M_init_45 : decode cM_init 45 = .ok (.aload_n 0, 1) := by decide +kernel
theorem d_M_init_46 : decode cM_init 46 = .ok (.sipush 243, 3) := by decide +kernel
theorem d_M_init_49 : decode cM_init 49 = .ok (.newarray .boolean, 2) := by decide +kernel
theorem d_M_init_51 : decode cM_init 51 = .ok (.putfield 26, 3) := by decide +kernel
theorem d_M_init_54 : decode cM_init 54 = .ok (.aload_n 0, 1) := by decide +kernel
theorem d_M_init_55 : decode cM_init 55 = .ok (.bipush 9, 2) := by decide +kernel
theorem d_M_init_57 : decode cM_init 57 = .ok (.newarray .int, 2) := by decide +kernel
theorem d_M_init_59 : decode cM_init 59 = .ok (.putfield 29, 3) := by decide +kernel
theorem d_M_init_62 : decode cM_init 62 = .ok (.aload_n 0, 1) := by decide +kernel
theorem d_M_init_63 : decode cM_init 63 = .ok (.sipush 3584, 3) := by decide +kernel
theorem d_M_init_66 : decode cM_init 66 = .ok (.newarray .int, 2) := by decide +kernel
theorem d_M_init_68 : decode cM_init 68 = .ok (.putfield 32, 3) := by decide +kernel
theorem d_M_init_71 : decode cM_init 71 = .ok (.aload_n 0, 1) := by decide +kernel
theorem d_M_init_72 : decode cM_init 72 = .ok (.bipush 9, 2) := by decide +kernel
theorem d_M_init_74 : decode cM_init 74 = .ok (.newarray .int, 2) := by decide +kernel
theorem d_M_init_76 : decode cM_init 76 = .ok (.putfield 35, 3) := by decide +kernel
theorem d_M_init_79 : decode cM_init 79 = .ok (.aload_n 0, 1) := by decide +kernel
theorem d_M_init_80 : decode cM_init 80 = .ok (.sipush 3072, 3) := by decide +kernel
theorem d_M_init_83 : decode cM_init 83 = .ok (.newarray .boolean, 2) := by decide +kernel
theorem d_M_init_85 : decode cM_init 85 = .ok (.putfield 38, 3) := by decide +kernel
theorem d_M_init_88 : decode cM_init 88 = .ok (.aload_n 0, 1) := by decide +kernel
theorem d_M_init_89 : decode cM_init 89 = .ok (.sipush 512, 3) := by decide +kernel
theorem d_M_init_92 : decode cM_init 92 = .ok (.newarray .boolean, 2) := by decide +kernel
theorem d_M_init_94 : decode cM_init 94 = .ok (.putfield 41, 3) := by decide +kernel
theorem d_M_init_97 : decode cM_init 97 = .ok (.aload_n 0, 1) := by decide +kernel
theorem d_M_init_98 : decode cM_init 98 = .ok (.bipush 81, 2) := by decide +kernel
theorem d_M_init_100 : decode cM_init 100 = .ok (.newarray .boolean, 2) := by decide +kernel
theorem d_M_init_102 : decode cM_init 102 = .ok (.putfield 44, 3) := by decide +kernel
theorem d_M_init_105 : decode cM_init 105 = .ok (.aload_n 0, 1) := by decide +kernel
theorem d_M_init_106 : decode cM_init 106 = .ok (.iconst 4, 1) := by decide +kernel
theorem d_M_init_107 : decode cM_init 107 = .ok (.newarray .int, 2) := by decide +kernel
theorem d_M_init_109 : decode cM_init 109 = .ok (.putfield 47, 3) := by decide +kernel
theorem d_M_init_112 : decode cM_init 112 = .ok (.aload_n 0, 1) := by decide +kernel
theorem d_M_init_113 : decode cM_init 113 = .ok (.iconst 4, 1) := by decide +kernel
theorem d_M_init_114 : decode cM_init 114 = .ok (.newarray .int, 2) := by decide +kernel
theorem d_M_init_116 : decode cM_init 116 = .ok (.putfield 50, 3) := by decide +kernel
theorem d_M_init_119 : decode cM_init 119 = .ok (.aload_n 0, 1) := by decide +kernel
theorem d_M_init_120 : decode cM_init 120 = .ok (.iconst 4, 1) := by decide +kernel
theorem d_M_init_121 : decode cM_init 121 = .ok (.newarray .boolean, 2) := by decide +kernel
theorem d_M_init_123 : decode cM_init 123 = .ok (.putfield 53, 3) := by decide +kernel
theorem d_M_init_126 : decode cM_init 126 = .ok (.aload_n 0, 1) := by decide +kernel
theorem d_M_init_127 : decode cM_init 127 = .ok (.sipush 144, 3) := by decide +kernel
theorem d_M_init_130 : decode cM_init 130 = .ok (.newarray .boolean, 2) := by decide +kernel
theorem d_M_init_132 : decode cM_init 132 = .ok (.putfield 56, 3) := by decide +kernel
theorem d_M_init_135 : decode cM_init 135 = .ok (.aload_n 0, 1) := by decide +kernel
theorem d_M_init_136 : decode cM_init 136 = .ok (.sipush 864, 3) := by decide +kernel
theorem d_M_init_139 : decode cM_init 139 = .ok (.newarray .int, 2) := by decide +kernel
theorem d_M_init_141 : decode cM_init 141 = .ok (.putfield 59, 3) := by decide +kernel
theorem d_M_init_144 : decode cM_init 144 = .ok (.aload_n 0, 1) := by decide +kernel
theorem d_M_init_145 : decode cM_init 145 = .ok (.sipush 864, 3) := by decide +kernel
theorem d_M_init_148 : decode cM_init 148 = .ok (.newarray .int, 2) := by decide +kernel
theorem d_M_init_150 : decode cM_init 150 = .ok (.putfield 62, 3) := by decide +kernel
theorem d_M_init_153 : decode cM_init 153 = .ok (.aload_n 0, 1) := by decide +kernel
theorem d_M_init_154 : decode cM_init 154 = .ok (.bipush 10, 2) := by decide +kernel
theorem d_M_init_156 : decode cM_init 156 = .ok (.newarray .int, 2) := by decide +kernel
theorem d_M_init_158 : decode cM_init 158 = .ok (.putfield 65, 3) := by decide +kernel
theorem d_M_init_161 : decode cM_init 161 = .ok (.aload_n 0, 1) := by decide +kernel
theorem d_M_init_162 : decode cM_init 162 = .ok (.bipush 90, 2) := by decide +kernel
theorem d_M_init_164 : decode cM_init 164 = .ok (.newarray .boolean, 2) := by decide +kernel
theorem d_M_init_166 : decode cM_init 166 = .ok (.putfield 68, 3) := by decide +kernel
theorem d_M_init_169 : decode cM_init 169 = .ok (.aload_n 0, 1) := by decide +kernel
theorem d_M_init_170 : decode cM_init 170 = .ok (.sipush 240, 3) := by decide +kernel
theorem d_M_init_173 : decode cM_init 173 = .ok (.newarray .boolean, 2) := by decide +kernel
theorem d_M_init_175 : decode cM_init 175 = .ok (.putfield 71, 3) := by decide +kernel
theorem d_M_init_178 : decode cM_init 178 = .ok (.aload_n 0, 1) := by decide +kernel
theorem d_M_init_179 : decode cM_init 179 = .ok (.bipush 41, 2) := by decide +kernel
theorem d_M_init_181 : decode cM_init 181 = .ok (.newarray .int, 2) := by decide +kernel
theorem d_M_init_183 : decode cM_init 183 = .ok (.putfield 74, 3) := by decide +kernel
theorem d_M_init_186 : decode cM_init 186 = .ok (.aload_n 0, 1) := by decide +kernel
theorem d_M_init_187 : decode cM_init 187 = .ok (.ldc 77, 2) := by decide +kernel
theorem d_M_init_189 : decode cM_init 189 = .ok (.newarray .boolean, 2) := by decide +kernel
theorem d_M_init_191 : decode cM_init 191 = .ok (.putfield 78, 3) := by decide +kernel
theorem d_M_init_194 : decode cM_init 194 = .ok (.iconst 0, 1) := by decide +kernel
theorem d_M_init_195 : decode cM_init 195 = .ok (.istore_n 1, 1) := by decide +kernel
theorem d_M_init_196 : decode cM_init 196 = .ok (.iload_n 1, 1) := by decide +kernel
theorem d_M_init_197 : decode cM_init 197 = .ok (.bipush 9, 2) := by decide +kernel
theorem d_M_init_199 : decode cM_init 199 = .ok (.if_icmp .ge 16, 3) := by decide +kernel
theorem d_M_init_202 : decode cM_init 202 = .ok (.aload_n 0, 1) := by decide +kernel
theorem d_M_init_203 : decode cM_init 203 = .ok (.getfield 16, 3) := by decide +kernel
theorem d_M_init_206 : decode cM_init 206 = .ok (.iload_n 1, 1) := by decide +kernel
theorem d_M_init_207 : decode cM_init 207 = .ok (.iconst (-1), 1) := by decide +kernel
theorem d_M_init_208 : decode cM_init 208 = .ok (.iastore, 1) := by decide +kernel
theorem d_M_init_209 : decode cM_init 209 = .ok (.iinc 1 1, 3) := by decide +kernel
theorem d_M_init_212 : decode cM_init 212 = .ok (.goto (-16), 3) := by decide +kernel
theorem d_M_init_215 : decode cM_init 215 = .ok (.return_, 1) := by decide +kernel
theorem d_M_thrown_0 : decode cM_thrown 0 = .ok (.aload_n 0, 1) := by decide +kernel
theorem d_M_thrown_1 : decode cM_thrown 1 = .ok (.getfield 81, 3) := by decide +kernel
theorem d_M_thrown_4 : decode cM_thrown 4 = .ok (.ireturn, 1) := by decide +kernel
theorem d_M_paper_0 : decode cM_paper 0 = .ok (.aload_n 0, 1) := by decide +kernel
theorem d_M_paper_1 : decode cM_paper 1 = .ok (.iload_n 1, 1) := by decide +kernel
theorem d_M_paper_2 : decode cM_paper 2 = .ok (.invokestatic 89, 3) := by decide +kernel
theorem d_M_paper_5 : decode cM_paper 5 = .ok (.iload_n 2, 1) := by decide +kernel
theorem d_M_paper_6 : decode cM_paper 6 = .ok (.iconst 0, 1) := by decide +kernel
theorem d_M_paper_7 : decode cM_paper 7 = .ok (.sipush 300, 3) := by decide +kernel
theorem d_M_paper_10 : decode cM_paper 10 = .ok (.invokestatic 93, 3) := by decide +kernel
theorem d_M_paper_13 : decode cM_paper 13 = .ok (.invokevirtual 97, 3) := by decide +kernel
theorem d_M_paper_16 : decode cM_paper 16 = .ok (.ifCond .ne 5, 3) := by decide +kernel
theorem d_M_paper_19 : decode cM_paper 19 = .ok (.iconst 0, 1) := by decide +kernel
theorem d_M_paper_20 : decode cM_paper 20 = .ok (.ireturn, 1) := by decide +kernel
theorem d_M_paper_21 : decode cM_paper 21 = .ok (.aload_n 0, 1) := by decide +kernel
theorem d_M_paper_22 : decode cM_paper 22 = .ok (.getfield 7, 3) := by decide +kernel
theorem d_M_paper_25 : decode cM_paper 25 = .ok (.iload_n 1, 1) := by decide +kernel
theorem d_M_paper_26 : decode cM_paper 26 = .ok (.iaload, 1) := by decide +kernel
theorem d_M_paper_27 : decode cM_paper 27 = .ok (.istore_n 3, 1) := by decide +kernel
theorem d_M_paper_28 : decode cM_paper 28 = .ok (.aload_n 0, 1) := by decide +kernel
theorem d_M_paper_29 : decode cM_paper 29 = .ok (.getfield 7, 3) := by decide +kernel
theorem d_M_paper_32 : decode cM_paper 32 = .ok (.iload_n 1, 1) := by decide +kernel
theorem d_M_paper_33 : decode cM_paper 33 = .ok (.iload_n 2, 1) := by decide +kernel
theorem d_M_paper_34 : decode cM_paper 34 = .ok (.iastore, 1) := by decide +kernel
theorem d_M_paper_35 : decode cM_paper 35 = .ok (.aload_n 0, 1) := by decide +kernel
theorem d_M_paper_36 : decode cM_paper 36 = .ok (.invokevirtual 101, 3) := by decide +kernel
theorem d_M_paper_39 : decode cM_paper 39 = .ok (.iload_n 3, 1) := by decide +kernel
theorem d_M_paper_40 : decode cM_paper 40 = .ok (.ireturn, 1) := by decide +kernel
theorem d_M_isPaper_0 : decode cM_isPaper 0 = .ok (.iload_n 0, 1) := by decide +kernel
theorem d_M_isPaper_1 : decode cM_isPaper 1 = .ok (.ifCond .lt 13, 3) := by decide +kernel
theorem d_M_isPaper_4 : decode cM_isPaper 4 = .ok (.iload_n 0, 1) := by decide +kernel
theorem d_M_isPaper_5 : decode cM_isPaper 5 = .ok (.bipush 9, 2) := by decide +kernel
theorem d_M_isPaper_7 : decode cM_isPaper 7 = .ok (.if_icmp .ge 7, 3) := by decide +kernel
theorem d_M_isPaper_10 : decode cM_isPaper 10 = .ok (.iconst 1, 1) := by decide +kernel
theorem d_M_isPaper_11 : decode cM_isPaper 11 = .ok (.goto 4, 3) := by decide +kernel
theorem d_M_isPaper_14 : decode cM_isPaper 14 = .ok (.iconst 0, 1) := by decide +kernel
theorem d_M_isPaper_15 : decode cM_isPaper 15 = .ok (.ireturn, 1) := by decide +kernel
theorem d_M_within_0 : decode cM_within 0 = .ok (.iload_n 0, 1) := by decide +kernel
theorem d_M_within_1 : decode cM_within 1 = .ok (.iload_n 1, 1) := by decide +kernel
theorem d_M_within_2 : decode cM_within 2 = .ok (.if_icmp .lt 12, 3) := by decide +kernel
theorem d_M_within_5 : decode cM_within 5 = .ok (.iload_n 0, 1) := by decide +kernel
theorem d_M_within_6 : decode cM_within 6 = .ok (.iload_n 2, 1) := by decide +kernel
theorem d_M_within_7 : decode cM_within 7 = .ok (.if_icmp .gt 7, 3) := by decide +kernel
theorem d_M_within_10 : decode cM_within 10 = .ok (.iconst 1, 1) := by decide +kernel
theorem d_M_within_11 : decode cM_within 11 = .ok (.goto 4, 3) := by decide +kernel
theorem d_M_within_14 : decode cM_within 14 = .ok (.iconst 0, 1) := by decide +kernel
theorem d_M_within_15 : decode cM_within 15 = .ok (.ireturn, 1) := by decide +kernel
theorem d_M_goes_0 : decode cM_goes 0 = .ok (.aload_n 0, 1) := by decide +kernel
theorem d_M_goes_1 : decode cM_goes 1 = .ok (.iload_n 1, 1) := by decide +kernel
theorem d_M_goes_2 : decode cM_goes 2 = .ok (.ifCond .ne 7, 3) := by decide +kernel
theorem d_M_goes_5 : decode cM_goes 5 = .ok (.iconst 1, 1) := by decide +kernel
theorem d_M_goes_6 : decode cM_goes 6 = .ok (.goto 12, 3) := by decide +kernel
theorem d_M_goes_9 : decode cM_goes 9 = .ok (.iload_n 2, 1) := by decide +kernel
theorem d_M_goes_10 : decode cM_goes 10 = .ok (.ifCond .ne 7, 3) := by decide +kernel
theorem d_M_goes_13 : decode cM_goes 13 = .ok (.iconst 2, 1) := by decide +kernel
theorem d_M_goes_14 : decode cM_goes 14 = .ok (.goto 4, 3) := by decide +kernel
theorem d_M_goes_17 : decode cM_goes 17 = .ok (.iconst 0, 1) := by decide +kernel
theorem d_M_goes_18 : decode cM_goes 18 = .ok (.putfield 81, 3) := by decide +kernel
theorem d_M_goes_21 : decode cM_goes 21 = .ok (.aload_n 0, 1) := by decide +kernel
theorem d_M_goes_22 : decode cM_goes 22 = .ok (.getfield 81, 3) := by decide +kernel
theorem d_M_goes_25 : decode cM_goes 25 = .ok (.ifCond .ne 7, 3) := by decide +kernel
theorem d_M_goes_28 : decode cM_goes 28 = .ok (.iconst 1, 1) := by decide +kernel
theorem d_M_goes_29 : decode cM_goes 29 = .ok (.goto 4, 3) := by decide +kernel
theorem d_M_goes_32 : decode cM_goes 32 = .ok (.iconst 0, 1) := by decide +kernel
theorem d_M_goes_33 : decode cM_goes 33 = .ok (.ireturn, 1) := by decide +kernel
theorem d_M_forget_0 : decode cM_forget 0 = .ok (.aload_n 0, 1) := by decide +kernel
theorem d_M_forget_1 : decode cM_forget 1 = .ok (.iconst 0, 1) := by decide +kernel
theorem d_M_forget_2 : decode cM_forget 2 = .ok (.putfield 85, 3) := by decide +kernel
theorem d_M_forget_5 : decode cM_forget 5 = .ok (.iconst 0, 1) := by decide +kernel
theorem d_M_forget_6 : decode cM_forget 6 = .ok (.istore_n 1, 1) := by decide +kernel
theorem d_M_forget_7 : decode cM_forget 7 = .ok (.iload_n 1, 1) := by decide +kernel
theorem d_M_forget_8 : decode cM_forget 8 = .ok (.sipush 864, 3) := by decide +kernel
theorem d_M_forget_11 : decode cM_forget 11 = .ok (.if_icmp .ge 16, 3) := by decide +kernel
theorem d_M_forget_14 : decode cM_forget 14 = .ok (.aload_n 0, 1) := by decide +kernel
theorem d_M_forget_15 : decode cM_forget 15 = .ok (.getfield 59, 3) := by decide +kernel
theorem d_M_forget_18 : decode cM_forget 18 = .ok (.iload_n 1, 1) := by decide +kernel
theorem d_M_forget_19 : decode cM_forget 19 = .ok (.iconst 0, 1) := by decide +kernel
theorem d_M_forget_20 : decode cM_forget 20 = .ok (.iastore, 1) := by decide +kernel
theorem d_M_forget_21 : decode cM_forget 21 = .ok (.iinc 1 1, 3) := by decide +kernel
theorem d_M_forget_24 : decode cM_forget 24 = .ok (.goto (-17), 3) := by decide +kernel
theorem d_M_forget_27 : decode cM_forget 27 = .ok (.iconst 0, 1) := by decide +kernel
theorem d_M_forget_28 : decode cM_forget 28 = .ok (.istore_n 1, 1) := by decide +kernel
theorem d_M_forget_29 : decode cM_forget 29 = .ok (.iload_n 1, 1) := by decide +kernel
theorem d_M_forget_30 : decode cM_forget 30 = .ok (.sipush 240, 3) := by decide +kernel
theorem d_M_forget_33 : decode cM_forget 33 = .ok (.if_icmp .ge 16, 3) := by decide +kernel
theorem d_M_forget_36 : decode cM_forget 36 = .ok (.aload_n 0, 1) := by decide +kernel
theorem d_M_forget_37 : decode cM_forget 37 = .ok (.getfield 71, 3) := by decide +kernel
theorem d_M_forget_40 : decode cM_forget 40 = .ok (.iload_n 1, 1) := by decide +kernel
theorem d_M_forget_41 : decode cM_forget 41 = .ok (.iconst 0, 1) := by decide +kernel
theorem d_M_forget_42 : decode cM_forget 42 = .ok (.bastore, 1) := by decide +kernel
theorem d_M_forget_43 : decode cM_forget 43 = .ok (.iinc 1 1, 3) := by decide +kernel
theorem d_M_forget_46 : decode cM_forget 46 = .ok (.goto (-17), 3) := by decide +kernel
theorem d_M_forget_49 : decode cM_forget 49 = .ok (.return_, 1) := by decide +kernel
theorem d_M_session_0 : decode cM_session 0 = .ok (.aload_n 0, 1) := by decide +kernel
theorem d_M_session_1 : decode cM_session 1 = .ok (.iload_n 1, 1) := by decide +kernel
theorem d_M_session_2 : decode cM_session 2 = .ok (.invokestatic 104, 3) := by decide +kernel
theorem d_M_session_5 : decode cM_session 5 = .ok (.iload_n 2, 1) := by decide +kernel
theorem d_M_session_6 : decode cM_session 6 = .ok (.iconst 0, 1) := by decide +kernel
theorem d_M_session_7 : decode cM_session 7 = .ok (.sipush 300, 3) := by decide +kernel
theorem d_M_session_10 : decode cM_session 10 = .ok (.invokestatic 93, 3) := by decide +kernel
theorem d_M_session_13 : decode cM_session 13 = .ok (.invokevirtual 97, 3) := by decide +kernel
theorem d_M_session_16 : decode cM_session 16 = .ok (.ifCond .ne 5, 3) := by decide +kernel
theorem d_M_session_19 : decode cM_session 19 = .ok (.iconst 0, 1) := by decide +kernel
theorem d_M_session_20 : decode cM_session 20 = .ok (.ireturn, 1) := by decide +kernel
theorem d_M_session_21 : decode cM_session 21 = .ok (.aload_n 0, 1) := by decide +kernel
theorem d_M_session_22 : decode cM_session 22 = .ok (.getfield 13, 3) := by decide +kernel
theorem d_M_session_25 : decode cM_session 25 = .ok (.iload_n 1, 1) := by decide +kernel
theorem d_M_session_26 : decode cM_session 26 = .ok (.iaload, 1) := by decide +kernel
theorem d_M_session_27 : decode cM_session 27 = .ok (.istore_n 3, 1) := by decide +kernel
theorem d_M_session_28 : decode cM_session 28 = .ok (.aload_n 0, 1) := by decide +kernel
theorem d_M_session_29 : decode cM_session 29 = .ok (.getfield 13, 3) := by decide +kernel
theorem d_M_session_32 : decode cM_session 32 = .ok (.iload_n 1, 1) := by decide +kernel
theorem d_M_session_33 : decode cM_session 33 = .ok (.iload_n 2, 1) := by decide +kernel
theorem d_M_session_34 : decode cM_session 34 = .ok (.iastore, 1) := by decide +kernel
theorem d_M_session_35 : decode cM_session 35 = .ok (.aload_n 0, 1) := by decide +kernel
theorem d_M_session_36 : decode cM_session 36 = .ok (.invokevirtual 101, 3) := by decide +kernel
theorem d_M_session_39 : decode cM_session 39 = .ok (.iload_n 3, 1) := by decide +kernel
theorem d_M_session_40 : decode cM_session 40 = .ok (.ireturn, 1) := by decide +kernel
theorem d_M_isSession_0 : decode cM_isSession 0 = .ok (.iload_n 0, 1) := by decide +kernel
theorem d_M_isSession_1 : decode cM_isSession 1 = .ok (.ifCond .lt 13, 3) := by decide +kernel
theorem d_M_isSession_4 : decode cM_isSession 4 = .ok (.iload_n 0, 1) := by decide +kernel
theorem d_M_isSession_5 : decode cM_isSession 5 = .ok (.bipush 6, 2) := by decide +kernel
theorem d_M_isSession_7 : decode cM_isSession 7 = .ok (.if_icmp .ge 7, 3) := by decide +kernel
theorem d_M_isSession_10 : decode cM_isSession 10 = .ok (.iconst 1, 1) := by decide +kernel
theorem d_M_isSession_11 : decode cM_isSession 11 = .ok (.goto 4, 3) := by decide +kernel
theorem d_M_isSession_14 : decode cM_isSession 14 = .ok (.iconst 0, 1) := by decide +kernel
theorem d_M_isSession_15 : decode cM_isSession 15 = .ok (.ireturn, 1) := by decide +kernel
theorem d_M_enrol_0 : decode cM_enrol 0 = .ok (.aload_n 0, 1) := by decide +kernel
theorem d_M_enrol_1 : decode cM_enrol 1 = .ok (.iload_n 1, 1) := by decide +kernel
theorem d_M_enrol_2 : decode cM_enrol 2 = .ok (.invokestatic 107, 3) := by decide +kernel
theorem d_M_enrol_5 : decode cM_enrol 5 = .ok (.ifCond .eq 14, 3) := by decide +kernel
theorem d_M_enrol_8 : decode cM_enrol 8 = .ok (.iload_n 2, 1) := by decide +kernel
theorem d_M_enrol_9 : decode cM_enrol 9 = .ok (.invokestatic 89, 3) := by decide +kernel
theorem d_M_enrol_12 : decode cM_enrol 12 = .ok (.ifCond .eq 7, 3) := by decide +kernel
theorem d_M_enrol_15 : decode cM_enrol 15 = .ok (.iconst 1, 1) := by decide +kernel
theorem d_M_enrol_16 : decode cM_enrol 16 = .ok (.goto 4, 3) := by decide +kernel
theorem d_M_enrol_19 : decode cM_enrol 19 = .ok (.iconst 0, 1) := by decide +kernel
theorem d_M_enrol_20 : decode cM_enrol 20 = .ok (.iconst 1, 1) := by decide +kernel
theorem d_M_enrol_21 : decode cM_enrol 21 = .ok (.invokevirtual 97, 3) := by decide +kernel
theorem d_M_enrol_24 : decode cM_enrol 24 = .ok (.ifCond .ne 5, 3) := by decide +kernel
theorem d_M_enrol_27 : decode cM_enrol 27 = .ok (.iconst 0, 1) := by decide +kernel
theorem d_M_enrol_28 : decode cM_enrol 28 = .ok (.ireturn, 1) := by decide +kernel
theorem d_M_enrol_29 : decode cM_enrol 29 = .ok (.aload_n 0, 1) := by decide +kernel
theorem d_M_enrol_30 : decode cM_enrol 30 = .ok (.getfield 19, 3) := by decide +kernel
theorem d_M_enrol_33 : decode cM_enrol 33 = .ok (.bipush 9, 2) := by decide +kernel
theorem d_M_enrol_35 : decode cM_enrol 35 = .ok (.iload_n 1, 1) := by decide +kernel
theorem d_M_enrol_36 : decode cM_enrol 36 = .ok (.imul, 1) := by decide +kernel
theorem d_M_enrol_37 : decode cM_enrol 37 = .ok (.iload_n 2, 1) := by decide +kernel
theorem d_M_enrol_38 : decode cM_enrol 38 = .ok (.iadd, 1) := by decide +kernel
theorem d_M_enrol_39 : decode cM_enrol 39 = .ok (.baload, 1) := by decide +kernel
theorem d_M_enrol_40 : decode cM_enrol 40 = .ok (.iload_n 3, 1) := by decide +kernel
theorem d_M_enrol_41 : decode cM_enrol 41 = .ok (.if_icmp .eq 7, 3) := by decide +kernel
theorem d_M_enrol_44 : decode cM_enrol 44 = .ok (.iconst 1, 1) := by decide +kernel
theorem d_M_enrol_45 : decode cM_enrol 45 = .ok (.goto 4, 3) := by decide +kernel
theorem d_M_enrol_48 : decode cM_enrol 48 = .ok (.iconst 0, 1) := by decide +kernel
theorem d_M_enrol_49 : decode cM_enrol 49 = .ok (.istore 4, 2) := by decide +kernel
theorem d_M_enrol_51 : decode cM_enrol 51 = .ok (.aload_n 0, 1) := by decide +kernel
theorem d_M_enrol_52 : decode cM_enrol 52 = .ok (.getfield 19, 3) := by decide +kernel
theorem d_M_enrol_55 : decode cM_enrol 55 = .ok (.bipush 9, 2) := by decide +kernel
theorem d_M_enrol_57 : decode cM_enrol 57 = .ok (.iload_n 1, 1) := by decide +kernel
theorem d_M_enrol_58 : decode cM_enrol 58 = .ok (.imul, 1) := by decide +kernel
theorem d_M_enrol_59 : decode cM_enrol 59 = .ok (.iload_n 2, 1) := by decide +kernel
theorem d_M_enrol_60 : decode cM_enrol 60 = .ok (.iadd, 1) := by decide +kernel
theorem d_M_enrol_61 : decode cM_enrol 61 = .ok (.iload_n 3, 1) := by decide +kernel
theorem d_M_enrol_62 : decode cM_enrol 62 = .ok (.bastore, 1) := by decide +kernel
theorem d_M_enrol_63 : decode cM_enrol 63 = .ok (.iload 4, 2) := by decide +kernel
theorem d_M_enrol_65 : decode cM_enrol 65 = .ok (.ifCond .eq 7, 3) := by decide +kernel
theorem d_M_enrol_68 : decode cM_enrol 68 = .ok (.aload_n 0, 1) := by decide +kernel
theorem d_M_enrol_69 : decode cM_enrol 69 = .ok (.invokevirtual 101, 3) := by decide +kernel
theorem d_M_enrol_72 : decode cM_enrol 72 = .ok (.iload 4, 2) := by decide +kernel
theorem d_M_enrol_74 : decode cM_enrol 74 = .ok (.ireturn, 1) := by decide +kernel
theorem d_M_isCandidate_0 : decode cM_isCandidate 0 = .ok (.iload_n 0, 1) := by decide +kernel
theorem d_M_isCandidate_1 : decode cM_isCandidate 1 = .ok (.ifCond .lt 13, 3) := by decide +kernel
theorem d_M_isCandidate_4 : decode cM_isCandidate 4 = .ok (.iload_n 0, 1) := by decide +kernel
theorem d_M_isCandidate_5 : decode cM_isCandidate 5 = .ok (.bipush 40, 2) := by decide +kernel
theorem d_M_isCandidate_7 : decode cM_isCandidate 7 = .ok (.if_icmp .ge 7, 3) := by decide +kernel
theorem d_M_isCandidate_10 : decode cM_isCandidate 10 = .ok (.iconst 1, 1) := by decide +kernel
theorem d_M_isCandidate_11 : decode cM_isCandidate 11 = .ok (.goto 4, 3) := by decide +kernel
theorem d_M_isCandidate_14 : decode cM_isCandidate 14 = .ok (.iconst 0, 1) := by decide +kernel
theorem d_M_isCandidate_15 : decode cM_isCandidate 15 = .ok (.ireturn, 1) := by decide +kernel
theorem d_M_extra_0 : decode cM_extra 0 = .ok (.aload_n 0, 1) := by decide +kernel
theorem d_M_extra_1 : decode cM_extra 1 = .ok (.iload_n 1, 1) := by decide +kernel
theorem d_M_extra_2 : decode cM_extra 2 = .ok (.invokestatic 107, 3) := by decide +kernel
theorem d_M_extra_5 : decode cM_extra 5 = .ok (.iconst 1, 1) := by decide +kernel
theorem d_M_extra_6 : decode cM_extra 6 = .ok (.invokevirtual 97, 3) := by decide +kernel
theorem d_M_extra_9 : decode cM_extra 9 = .ok (.ifCond .ne 5, 3) := by decide +kernel
theorem d_M_extra_12 : decode cM_extra 12 = .ok (.iconst 0, 1) := by decide +kernel
theorem d_M_extra_13 : decode cM_extra 13 = .ok (.ireturn, 1) := by decide +kernel
theorem d_M_extra_14 : decode cM_extra 14 = .ok (.aload_n 0, 1) := by decide +kernel
theorem d_M_extra_15 : decode cM_extra 15 = .ok (.getfield 23, 3) := by decide +kernel
theorem d_M_extra_18 : decode cM_extra 18 = .ok (.iload_n 1, 1) := by decide +kernel
theorem d_M_extra_19 : decode cM_extra 19 = .ok (.baload, 1) := by decide +kernel
theorem d_M_extra_20 : decode cM_extra 20 = .ok (.iload_n 2, 1) := by decide +kernel
theorem d_M_extra_21 : decode cM_extra 21 = .ok (.if_icmp .eq 7, 3) := by decide +kernel
theorem d_M_extra_24 : decode cM_extra 24 = .ok (.iconst 1, 1) := by decide +kernel
theorem d_M_extra_25 : decode cM_extra 25 = .ok (.goto 4, 3) := by decide +kernel
theorem d_M_extra_28 : decode cM_extra 28 = .ok (.iconst 0, 1) := by decide +kernel
theorem d_M_extra_29 : decode cM_extra 29 = .ok (.istore_n 3, 1) := by decide +kernel
theorem d_M_extra_30 : decode cM_extra 30 = .ok (.aload_n 0, 1) := by decide +kernel
theorem d_M_extra_31 : decode cM_extra 31 = .ok (.getfield 23, 3) := by decide +kernel
theorem d_M_extra_34 : decode cM_extra 34 = .ok (.iload_n 1, 1) := by decide +kernel
theorem d_M_extra_35 : decode cM_extra 35 = .ok (.iload_n 2, 1) := by decide +kernel
theorem d_M_extra_36 : decode cM_extra 36 = .ok (.bastore, 1) := by decide +kernel
theorem d_M_extra_37 : decode cM_extra 37 = .ok (.iload_n 3, 1) := by decide +kernel
theorem d_M_extra_38 : decode cM_extra 38 = .ok (.ireturn, 1) := by decide +kernel
theorem d_M_rule_0 : decode cM_rule 0 = .ok (.iload_n 1, 1) := by decide +kernel
theorem d_M_rule_1 : decode cM_rule 1 = .ok (.iconst 0, 1) := by decide +kernel
theorem d_M_rule_2 : decode cM_rule 2 = .ok (.iconst 2, 1) := by decide +kernel
theorem d_M_rule_3 : decode cM_rule 3 = .ok (.invokestatic 93, 3) := by decide +kernel
theorem d_M_rule_6 : decode cM_rule 6 = .ok (.ifCond .eq 21, 3) := by decide +kernel
theorem d_M_rule_9 : decode cM_rule 9 = .ok (.iload_n 2, 1) := by decide +kernel
theorem d_M_rule_10 : decode cM_rule 10 = .ok (.invokestatic 89, 3) := by decide +kernel
theorem d_M_rule_13 : decode cM_rule 13 = .ok (.ifCond .eq 14, 3) := by decide +kernel
theorem d_M_rule_16 : decode cM_rule 16 = .ok (.iload_n 3, 1) := by decide +kernel
theorem d_M_rule_17 : decode cM_rule 17 = .ok (.invokestatic 89, 3) := by decide +kernel
theorem d_M_rule_20 : decode cM_rule 20 = .ok (.ifCond .eq 7, 3) := by decide +kernel
theorem d_M_rule_23 : decode cM_rule 23 = .ok (.iconst 1, 1) := by decide +kernel
theorem d_M_rule_24 : decode cM_rule 24 = .ok (.goto 4, 3) := by decide +kernel
theorem d_M_rule_27 : decode cM_rule 27 = .ok (.iconst 0, 1) := by decide +kernel
theorem d_M_rule_28 : decode cM_rule 28 = .ok (.istore 5, 2) := by decide +kernel
theorem d_M_rule_30 : decode cM_rule 30 = .ok (.aload_n 0, 1) := by decide +kernel
theorem d_M_rule_31 : decode cM_rule 31 = .ok (.iload 5, 2) := by decide +kernel
theorem d_M_rule_33 : decode cM_rule 33 = .ok (.iload_n 2, 1) := by decide +kernel
theorem d_M_rule_34 : decode cM_rule 34 = .ok (.iload_n 3, 1) := by decide +kernel
theorem d_M_rule_35 : decode cM_rule 35 = .ok (.if_icmp .eq 7, 3) := by decide +kernel
theorem d_M_rule_38 : decode cM_rule 38 = .ok (.iconst 1, 1) := by decide +kernel
theorem d_M_rule_39 : decode cM_rule 39 = .ok (.goto 4, 3) := by decide +kernel
theorem d_M_rule_42 : decode cM_rule 42 = .ok (.iconst 0, 1) := by decide +kernel
theorem d_M_rule_43 : decode cM_rule 43 = .ok (.invokevirtual 97, 3) := by decide +kernel
theorem d_M_rule_46 : decode cM_rule 46 = .ok (.ifCond .ne 5, 3) := by decide +kernel
theorem d_M_rule_49 : decode cM_rule 49 = .ok (.iconst 0, 1) := by decide +kernel
theorem d_M_rule_50 : decode cM_rule 50 = .ok (.ireturn, 1) := by decide +kernel
theorem d_M_rule_51 : decode cM_rule 51 = .ok (.bipush 81, 2) := by decide +kernel
theorem d_M_rule_53 : decode cM_rule 53 = .ok (.iload_n 1, 1) := by decide +kernel
theorem d_M_rule_54 : decode cM_rule 54 = .ok (.imul, 1) := by decide +kernel
theorem d_M_rule_55 : decode cM_rule 55 = .ok (.bipush 9, 2) := by decide +kernel
theorem d_M_rule_57 : decode cM_rule 57 = .ok (.iload_n 2, 1) := by decide +kernel
theorem d_M_rule_58 : decode cM_rule 58 = .ok (.imul, 1) := by decide +kernel
theorem d_M_rule_59 : decode cM_rule 59 = .ok (.iadd, 1) := by decide +kernel
theorem d_M_rule_60 : decode cM_rule 60 = .ok (.iload_n 3, 1) := by decide +kernel
theorem d_M_rule_61 : decode cM_rule 61 = .ok (.iadd, 1) := by decide +kernel
theorem d_M_rule_62 : decode cM_rule 62 = .ok (.istore 6, 2) := by decide +kernel
theorem d_M_rule_64 : decode cM_rule 64 = .ok (.aload_n 0, 1) := by decide +kernel
theorem d_M_rule_65 : decode cM_rule 65 = .ok (.getfield 26, 3) := by decide +kernel
theorem d_M_rule_68 : decode cM_rule 68 = .ok (.iload 6, 2) := by decide +kernel
theorem d_M_rule_70 : decode cM_rule 70 = .ok (.baload, 1) := by decide +kernel
theorem d_M_rule_71 : decode cM_rule 71 = .ok (.iload 4, 2) := by decide +kernel
theorem d_M_rule_73 : decode cM_rule 73 = .ok (.if_icmp .eq 7, 3) := by decide +kernel
theorem d_M_rule_76 : decode cM_rule 76 = .ok (.iconst 1, 1) := by decide +kernel
theorem d_M_rule_77 : decode cM_rule 77 = .ok (.goto 4, 3) := by decide +kernel
theorem d_M_rule_80 : decode cM_rule 80 = .ok (.iconst 0, 1) := by decide +kernel
theorem d_M_rule_81 : decode cM_rule 81 = .ok (.istore 7, 2) := by decide +kernel
theorem d_M_rule_83 : decode cM_rule 83 = .ok (.aload_n 0, 1) := by decide +kernel
theorem d_M_rule_84 : decode cM_rule 84 = .ok (.getfield 26, 3) := by decide +kernel
theorem d_M_rule_87 : decode cM_rule 87 = .ok (.iload 6, 2) := by decide +kernel
theorem d_M_rule_89 : decode cM_rule 89 = .ok (.iload 4, 2) := by decide +kernel
theorem d_M_rule_91 : decode cM_rule 91 = .ok (.bastore, 1) := by decide +kernel
theorem d_M_rule_92 : decode cM_rule 92 = .ok (.iload_n 1, 1) := by decide +kernel
theorem d_M_rule_93 : decode cM_rule 93 = .ok (.iconst 2, 1) := by decide +kernel
theorem d_M_rule_94 : decode cM_rule 94 = .ok (.if_icmp .ge 21, 3) := by decide +kernel
theorem d_M_rule_97 : decode cM_rule 97 = .ok (.aload_n 0, 1) := by decide +kernel
theorem d_M_rule_98 : decode cM_rule 98 = .ok (.getfield 26, 3) := by decide +kernel
theorem d_M_rule_101 : decode cM_rule 101 = .ok (.bipush 81, 2) := by decide +kernel
theorem d_M_rule_103 : decode cM_rule 103 = .ok (.iload_n 1, 1) := by decide +kernel
theorem d_M_rule_104 : decode cM_rule 104 = .ok (.imul, 1) := by decide +kernel
theorem d_M_rule_105 : decode cM_rule 105 = .ok (.bipush 9, 2) := by decide +kernel
theorem d_M_rule_107 : decode cM_rule 107 = .ok (.iload_n 3, 1) := by decide +kernel
theorem d_M_rule_108 : decode cM_rule 108 = .ok (.imul, 1) := by decide +kernel
theorem d_M_rule_109 : decode cM_rule 109 = .ok (.iadd, 1) := by decide +kernel
theorem d_M_rule_110 : decode cM_rule 110 = .ok (.iload_n 2, 1) := by decide +kernel
theorem d_M_rule_111 : decode cM_rule 111 = .ok (.iadd, 1) := by decide +kernel
theorem d_M_rule_112 : decode cM_rule 112 = .ok (.iload 4, 2) := by decide +kernel
theorem d_M_rule_114 : decode cM_rule 114 = .ok (.bastore, 1) := by decide +kernel
theorem d_M_rule_115 : decode cM_rule 115 = .ok (.iload 7, 2) := by decide +kernel
theorem d_M_rule_117 : decode cM_rule 117 = .ok (.ifCond .eq 7, 3) := by decide +kernel
theorem d_M_rule_120 : decode cM_rule 120 = .ok (.aload_n 0, 1) := by decide +kernel
theorem d_M_rule_121 : decode cM_rule 121 = .ok (.invokevirtual 101, 3) := by decide +kernel
theorem d_M_rule_124 : decode cM_rule 124 = .ok (.iload 7, 2) := by decide +kernel
theorem d_M_rule_126 : decode cM_rule 126 = .ok (.ireturn, 1) := by decide +kernel
theorem d_M_fix_0 : decode cM_fix 0 = .ok (.aload_n 0, 1) := by decide +kernel
theorem d_M_fix_1 : decode cM_fix 1 = .ok (.iload_n 1, 1) := by decide +kernel
theorem d_M_fix_2 : decode cM_fix 2 = .ok (.invokestatic 89, 3) := by decide +kernel
theorem d_M_fix_5 : decode cM_fix 5 = .ok (.ifCond .eq 19, 3) := by decide +kernel
theorem d_M_fix_8 : decode cM_fix 8 = .ok (.iload_n 2, 1) := by decide +kernel
theorem d_M_fix_9 : decode cM_fix 9 = .ok (.iconst (-1), 1) := by decide +kernel
theorem d_M_fix_10 : decode cM_fix 10 = .ok (.if_icmp .eq 10, 3) := by decide +kernel
theorem d_M_fix_13 : decode cM_fix 13 = .ok (.iload_n 2, 1) := by decide +kernel
theorem d_M_fix_14 : decode cM_fix 14 = .ok (.invokestatic 104, 3) := by decide +kernel
theorem d_M_fix_17 : decode cM_fix 17 = .ok (.ifCond .eq 7, 3) := by decide +kernel
theorem d_M_fix_20 : decode cM_fix 20 = .ok (.iconst 1, 1) := by decide +kernel
theorem d_M_fix_21 : decode cM_fix 21 = .ok (.goto 4, 3) := by decide +kernel
theorem d_M_fix_24 : decode cM_fix 24 = .ok (.iconst 0, 1) := by decide +kernel
theorem d_M_fix_25 : decode cM_fix 25 = .ok (.iconst 1, 1) := by decide +kernel
theorem d_M_fix_26 : decode cM_fix 26 = .ok (.invokevirtual 97, 3) := by decide +kernel
theorem d_M_fix_29 : decode cM_fix 29 = .ok (.ifCond .ne 5, 3) := by decide +kernel
theorem d_M_fix_32 : decode cM_fix 32 = .ok (.iconst 0, 1) := by decide +kernel
theorem d_M_fix_33 : decode cM_fix 33 = .ok (.ireturn, 1) := by decide +kernel
theorem d_M_fix_34 : decode cM_fix 34 = .ok (.aload_n 0, 1) := by decide +kernel
theorem d_M_fix_35 : decode cM_fix 35 = .ok (.getfield 16, 3) := by decide +kernel
theorem d_M_fix_38 : decode cM_fix 38 = .ok (.iload_n 1, 1) := by decide +kernel
theorem d_M_fix_39 : decode cM_fix 39 = .ok (.iaload, 1) := by decide +kernel
theorem d_M_fix_40 : decode cM_fix 40 = .ok (.istore_n 3, 1) := by decide +kernel
theorem d_M_fix_41 : decode cM_fix 41 = .ok (.aload_n 0, 1) := by decide +kernel
theorem d_M_fix_42 : decode cM_fix 42 = .ok (.getfield 16, 3) := by decide +kernel
theorem d_M_fix_45 : decode cM_fix 45 = .ok (.iload_n 1, 1) := by decide +kernel
theorem d_M_fix_46 : decode cM_fix 46 = .ok (.iload_n 2, 1) := by decide +kernel
theorem d_M_fix_47 : decode cM_fix 47 = .ok (.iastore, 1) := by decide +kernel
theorem d_M_fix_48 : decode cM_fix 48 = .ok (.aload_n 0, 1) := by decide +kernel
theorem d_M_fix_49 : decode cM_fix 49 = .ok (.invokevirtual 101, 3) := by decide +kernel
theorem d_M_fix_52 : decode cM_fix 52 = .ok (.iload_n 3, 1) := by decide +kernel
theorem d_M_fix_53 : decode cM_fix 53 = .ok (.ireturn, 1) := by decide +kernel
theorem d_M_clash_0 : decode cM_clash 0 = .ok (.aload_n 0, 1) := by decide +kernel
theorem d_M_clash_1 : decode cM_clash 1 = .ok (.iload_n 1, 1) := by decide +kernel
theorem d_M_clash_2 : decode cM_clash 2 = .ok (.invokestatic 89, 3) := by decide +kernel
theorem d_M_clash_5 : decode cM_clash 5 = .ok (.ifCond .eq 14, 3) := by decide +kernel
theorem d_M_clash_8 : decode cM_clash 8 = .ok (.iload_n 2, 1) := by decide +kernel
theorem d_M_clash_9 : decode cM_clash 9 = .ok (.invokestatic 89, 3) := by decide +kernel
theorem d_M_clash_12 : decode cM_clash 12 = .ok (.ifCond .eq 7, 3) := by decide +kernel
theorem d_M_clash_15 : decode cM_clash 15 = .ok (.iconst 1, 1) := by decide +kernel
theorem d_M_clash_16 : decode cM_clash 16 = .ok (.goto 4, 3) := by decide +kernel
theorem d_M_clash_19 : decode cM_clash 19 = .ok (.iconst 0, 1) := by decide +kernel
theorem d_M_clash_20 : decode cM_clash 20 = .ok (.iconst 1, 1) := by decide +kernel
theorem d_M_clash_21 : decode cM_clash 21 = .ok (.invokevirtual 97, 3) := by decide +kernel
theorem d_M_clash_24 : decode cM_clash 24 = .ok (.ifCond .eq 12, 3) := by decide +kernel
theorem d_M_clash_27 : decode cM_clash 27 = .ok (.aload_n 0, 1) := by decide +kernel
theorem d_M_clash_28 : decode cM_clash 28 = .ok (.iload_n 1, 1) := by decide +kernel
theorem d_M_clash_29 : decode cM_clash 29 = .ok (.iload_n 2, 1) := by decide +kernel
theorem d_M_clash_30 : decode cM_clash 30 = .ok (.invokevirtual 110, 3) := by decide +kernel
theorem d_M_clash_33 : decode cM_clash 33 = .ok (.goto 4, 3) := by decide +kernel
theorem d_M_clash_36 : decode cM_clash 36 = .ok (.iconst 0, 1) := by decide +kernel
theorem d_M_clash_37 : decode cM_clash 37 = .ok (.ireturn, 1) := by decide +kernel
theorem d_M_common_0 : decode cM_common 0 = .ok (.iconst 0, 1) := by decide +kernel
theorem d_M_common_1 : decode cM_common 1 = .ok (.istore_n 3, 1) := by decide +kernel
theorem d_M_common_2 : decode cM_common 2 = .ok (.iconst 0, 1) := by decide +kernel
theorem d_M_common_3 : decode cM_common 3 = .ok (.istore 4, 2) := by decide +kernel
theorem d_M_common_5 : decode cM_common 5 = .ok (.iload 4, 2) := by decide +kernel
theorem d_M_common_7 : decode cM_common 7 = .ok (.bipush 40, 2) := by decide +kernel
theorem d_M_common_9 : decode cM_common 9 = .ok (.if_icmp .ge 47, 3) := by decide +kernel
theorem d_M_common_12 : decode cM_common 12 = .ok (.aload_n 0, 1) := by decide +kernel
theorem d_M_common_13 : decode cM_common 13 = .ok (.getfield 19, 3) := by decide +kernel
theorem d_M_common_16 : decode cM_common 16 = .ok (.bipush 9, 2) := by decide +kernel
theorem d_M_common_18 : decode cM_common 18 = .ok (.iload 4, 2) := by decide +kernel
theorem d_M_common_20 : decode cM_common 20 = .ok (.imul, 1) := by decide +kernel
theorem d_M_common_21 : decode cM_common 21 = .ok (.iload_n 1, 1) := by decide +kernel
theorem d_M_common_22 : decode cM_common 22 = .ok (.iadd, 1) := by decide +kernel
theorem d_M_common_23 : decode cM_common 23 = .ok (.baload, 1) := by decide +kernel
theorem d_M_common_24 : decode cM_common 24 = .ok (.ifCond .eq 24, 3) := by decide +kernel
theorem d_M_common_27 : decode cM_common 27 = .ok (.aload_n 0, 1) := by decide +kernel
theorem d_M_common_28 : decode cM_common 28 = .ok (.getfield 19, 3) := by decide +kernel
theorem d_M_common_31 : decode cM_common 31 = .ok (.bipush 9, 2) := by decide +kernel
theorem d_M_common_33 : decode cM_common 33 = .ok (.iload 4, 2) := by decide +kernel
theorem d_M_common_35 : decode cM_common 35 = .ok (.imul, 1) := by decide +kernel
theorem d_M_common_36 : decode cM_common 36 = .ok (.iload_n 2, 1) := by decide +kernel
theorem d_M_common_37 : decode cM_common 37 = .ok (.iadd, 1) := by decide +kernel
theorem d_M_common_38 : decode cM_common 38 = .ok (.baload, 1) := by decide +kernel
theorem d_M_common_39 : decode cM_common 39 = .ok (.ifCond .eq 9, 3) := by decide +kernel
theorem d_M_common_42 : decode cM_common 42 = .ok (.iload_n 3, 1) := by decide +kernel
theorem d_M_common_43 : decode cM_common 43 = .ok (.iconst 1, 1) := by decide +kernel
theorem d_M_common_44 : decode cM_common 44 = .ok (.iadd, 1) := by decide +kernel
theorem d_M_common_45 : decode cM_common 45 = .ok (.goto 4, 3) := by decide +kernel
theorem d_M_common_48 : decode cM_common 48 = .ok (.iload_n 3, 1) := by decide +kernel
theorem d_M_common_49 : decode cM_common 49 = .ok (.istore_n 3, 1) := by decide +kernel
theorem d_M_common_50 : decode cM_common 50 = .ok (.iinc 4 1, 3) := by decide +kernel
theorem d_M_common_53 : decode cM_common 53 = .ok (.goto (-48), 3) := by decide +kernel
theorem d_M_common_56 : decode cM_common 56 = .ok (.iload_n 3, 1) := by decide +kernel
theorem d_M_common_57 : decode cM_common 57 = .ok (.ireturn, 1) := by decide +kernel
theorem d_M_plan_0 : decode cM_plan 0 = .ok (.aload_n 0, 1) := by decide +kernel
theorem d_M_plan_1 : decode cM_plan 1 = .ok (.iconst 0, 1) := by decide +kernel
theorem d_M_plan_2 : decode cM_plan 2 = .ok (.putfield 81, 3) := by decide +kernel
theorem d_M_plan_5 : decode cM_plan 5 = .ok (.aload_n 0, 1) := by decide +kernel
theorem d_M_plan_6 : decode cM_plan 6 = .ok (.invokevirtual 101, 3) := by decide +kernel
theorem d_M_plan_9 : decode cM_plan 9 = .ok (.aload_n 0, 1) := by decide +kernel
theorem d_M_plan_10 : decode cM_plan 10 = .ok (.invokevirtual 124, 3) := by decide +kernel
theorem d_M_plan_13 : decode cM_plan 13 = .ok (.istore_n 1, 1) := by decide +kernel
theorem d_M_plan_14 : decode cM_plan 14 = .ok (.iconst 0, 1) := by decide +kernel
theorem d_M_plan_15 : decode cM_plan 15 = .ok (.istore_n 2, 1) := by decide +kernel
theorem d_M_plan_16 : decode cM_plan 16 = .ok (.iload_n 2, 1) := by decide +kernel
theorem d_M_plan_17 : decode cM_plan 17 = .ok (.bipush 9, 2) := by decide +kernel
theorem d_M_plan_19 : decode cM_plan 19 = .ok (.if_icmp .ge 55, 3) := by decide +kernel
theorem d_M_plan_22 : decode cM_plan 22 = .ok (.aload_n 0, 1) := by decide +kernel
theorem d_M_plan_23 : decode cM_plan 23 = .ok (.getfield 35, 3) := by decide +kernel
theorem d_M_plan_26 : decode cM_plan 26 = .ok (.iload_n 2, 1) := by decide +kernel
theorem d_M_plan_27 : decode cM_plan 27 = .ok (.iconst (-1), 1) := by decide +kernel
theorem d_M_plan_28 : decode cM_plan 28 = .ok (.iastore, 1) := by decide +kernel
theorem d_M_plan_29 : decode cM_plan 29 = .ok (.iconst 0, 1) := by decide +kernel
theorem d_M_plan_30 : decode cM_plan 30 = .ok (.istore_n 3, 1) := by decide +kernel
theorem d_M_plan_31 : decode cM_plan 31 = .ok (.iload_n 3, 1) := by decide +kernel
theorem d_M_plan_32 : decode cM_plan 32 = .ok (.bipush 9, 2) := by decide +kernel
theorem d_M_plan_34 : decode cM_plan 34 = .ok (.if_icmp .ge 34, 3) := by decide +kernel
theorem d_M_plan_37 : decode cM_plan 37 = .ok (.aload_n 0, 1) := by decide +kernel
theorem d_M_plan_38 : decode cM_plan 38 = .ok (.getfield 44, 3) := by decide +kernel
theorem d_M_plan_41 : decode cM_plan 41 = .ok (.bipush 9, 2) := by decide +kernel
theorem d_M_plan_43 : decode cM_plan 43 = .ok (.iload_n 2, 1) := by decide +kernel
theorem d_M_plan_44 : decode cM_plan 44 = .ok (.imul, 1) := by decide +kernel
theorem d_M_plan_45 : decode cM_plan 45 = .ok (.iload_n 3, 1) := by decide +kernel
theorem d_M_plan_46 : decode cM_plan 46 = .ok (.iadd, 1) := by decide +kernel
theorem d_M_plan_47 : decode cM_plan 47 = .ok (.aload_n 0, 1) := by decide +kernel
theorem d_M_plan_48 : decode cM_plan 48 = .ok (.iload_n 2, 1) := by decide +kernel
theorem d_M_plan_49 : decode cM_plan 49 = .ok (.iload_n 3, 1) := by decide +kernel
theorem d_M_plan_50 : decode cM_plan 50 = .ok (.invokevirtual 110, 3) := by decide +kernel
theorem d_M_plan_53 : decode cM_plan 53 = .ok (.ifCond .le 7, 3) := by decide +kernel
theorem d_M_plan_56 : decode cM_plan 56 = .ok (.iconst 1, 1) := by decide +kernel
theorem d_M_plan_57 : decode cM_plan 57 = .ok (.goto 4, 3) := by decide +kernel
theorem d_M_plan_60 : decode cM_plan 60 = .ok (.iconst 0, 1) := by decide +kernel
theorem d_M_plan_61 : decode cM_plan 61 = .ok (.bastore, 1) := by decide +kernel
theorem d_M_plan_62 : decode cM_plan 62 = .ok (.iinc 3 1, 3) := by decide +kernel
theorem d_M_plan_65 : decode cM_plan 65 = .ok (.goto (-34), 3) := by decide +kernel
theorem d_M_plan_68 : decode cM_plan 68 = .ok (.iinc 2 1, 3) := by decide +kernel
theorem d_M_plan_71 : decode cM_plan 71 = .ok (.goto (-55), 3) := by decide +kernel
theorem d_M_plan_74 : decode cM_plan 74 = .ok (.iconst 0, 1) := by decide +kernel
theorem d_M_plan_75 : decode cM_plan 75 = .ok (.istore_n 2, 1) := by decide +kernel
theorem d_M_plan_76 : decode cM_plan 76 = .ok (.iload_n 2, 1) := by decide +kernel
theorem d_M_plan_77 : decode cM_plan 77 = .ok (.bipush 6, 2) := by decide +kernel
theorem d_M_plan_79 : decode cM_plan 79 = .ok (.if_icmp .ge 59, 3) := by decide +kernel
theorem d_M_plan_82 : decode cM_plan 82 = .ok (.iconst 0, 1) := by decide +kernel
theorem d_M_plan_83 : decode cM_plan 83 = .ok (.istore_n 3, 1) := by decide +kernel
theorem d_M_plan_84 : decode cM_plan 84 = .ok (.iload_n 3, 1) := by decide +kernel
theorem d_M_plan_85 : decode cM_plan 85 = .ok (.sipush 512, 3) := by decide +kernel
theorem d_M_plan_88 : decode cM_plan 88 = .ok (.if_icmp .ge 44, 3) := by decide +kernel
theorem d_M_plan_91 : decode cM_plan 91 = .ok (.aload_n 0, 1) := by decide +kernel
theorem d_M_plan_92 : decode cM_plan 92 = .ok (.getfield 38, 3) := by decide +kernel
theorem d_M_plan_95 : decode cM_plan 95 = .ok (.sipush 512, 3) := by decide +kernel
theorem d_M_plan_98 : decode cM_plan 98 = .ok (.iload_n 2, 1) := by decide +kernel
theorem d_M_plan_99 : decode cM_plan 99 = .ok (.imul, 1) := by decide +kernel
theorem d_M_plan_100 : decode cM_plan 100 = .ok (.iload_n 3, 1) := by decide +kernel
theorem d_M_plan_101 : decode cM_plan 101 = .ok (.iadd, 1) := by decide +kernel
theorem d_M_plan_102 : decode cM_plan 102 = .ok (.iload_n 3, 1) := by decide +kernel
theorem d_M_plan_103 : decode cM_plan 103 = .ok (.iload_n 1, 1) := by decide +kernel
theorem d_M_plan_104 : decode cM_plan 104 = .ok (.iconst (-1), 1) := by decide +kernel
theorem d_M_plan_105 : decode cM_plan 105 = .ok (.ixor, 1) := by decide +kernel
theorem d_M_plan_106 : decode cM_plan 106 = .ok (.iand, 1) := by decide +kernel
theorem d_M_plan_107 : decode cM_plan 107 = .ok (.ifCond .ne 17, 3) := by decide +kernel
theorem d_M_plan_110 : decode cM_plan 110 = .ok (.aload_n 0, 1) := by decide +kernel
theorem d_M_plan_111 : decode cM_plan 111 = .ok (.iload_n 2, 1) := by decide +kernel
theorem d_M_plan_112 : decode cM_plan 112 = .ok (.iload_n 3, 1) := by decide +kernel
theorem d_M_plan_113 : decode cM_plan 113 = .ok (.iload_n 1, 1) := by decide +kernel
theorem d_M_plan_114 : decode cM_plan 114 = .ok (.invokevirtual 128, 3) := by decide +kernel
theorem d_M_plan_117 : decode cM_plan 117 = .ok (.ifCond .eq 7, 3) := by decide +kernel
theorem d_M_plan_120 : decode cM_plan 120 = .ok (.iconst 1, 1) := by decide +kernel
theorem d_M_plan_121 : decode cM_plan 121 = .ok (.goto 4, 3) := by decide +kernel
theorem d_M_plan_124 : decode cM_plan 124 = .ok (.iconst 0, 1) := by decide +kernel
theorem d_M_plan_125 : decode cM_plan 125 = .ok (.bastore, 1) := by decide +kernel
theorem d_M_plan_126 : decode cM_plan 126 = .ok (.iinc 3 1, 3) := by decide +kernel
theorem d_M_plan_129 : decode cM_plan 129 = .ok (.goto (-45), 3) := by decide +kernel
theorem d_M_plan_132 : decode cM_plan 132 = .ok (.iinc 2 1, 3) := by decide +kernel
theorem d_M_plan_135 : decode cM_plan 135 = .ok (.goto (-59), 3) := by decide +kernel
theorem d_M_plan_138 : decode cM_plan 138 = .ok (.aload_n 0, 1) := by decide +kernel
theorem d_M_plan_139 : decode cM_plan 139 = .ok (.iload_n 1, 1) := by decide +kernel
theorem d_M_plan_140 : decode cM_plan 140 = .ok (.invokevirtual 131, 3) := by decide +kernel
theorem d_M_plan_143 : decode cM_plan 143 = .ok (.istore_n 2, 1) := by decide +kernel
theorem d_M_plan_144 : decode cM_plan 144 = .ok (.iload_n 2, 1) := by decide +kernel
theorem d_M_plan_145 : decode cM_plan 145 = .ok (.bipush 99, 2) := by decide +kernel
theorem d_M_plan_147 : decode cM_plan 147 = .ok (.if_icmp .lt 5, 3) := by decide +kernel
theorem d_M_plan_150 : decode cM_plan 150 = .ok (.iconst (-1), 1) := by decide +kernel
theorem d_M_plan_151 : decode cM_plan 151 = .ok (.ireturn, 1) := by decide +kernel
theorem d_M_plan_152 : decode cM_plan 152 = .ok (.aload_n 0, 1) := by decide +kernel
theorem d_M_plan_153 : decode cM_plan 153 = .ok (.iconst 1, 1) := by decide +kernel
theorem d_M_plan_154 : decode cM_plan 154 = .ok (.putfield 85, 3) := by decide +kernel
theorem d_M_plan_157 : decode cM_plan 157 = .ok (.iconst 0, 1) := by decide +kernel
theorem d_M_plan_158 : decode cM_plan 158 = .ok (.istore_n 3, 1) := by decide +kernel
theorem d_M_plan_159 : decode cM_plan 159 = .ok (.iload_n 3, 1) := by decide +kernel
theorem d_M_plan_160 : decode cM_plan 160 = .ok (.bipush 9, 2) := by decide +kernel
theorem d_M_plan_162 : decode cM_plan 162 = .ok (.if_icmp .ge 79, 3) := by decide +kernel
theorem d_M_plan_165 : decode cM_plan 165 = .ok (.aload_n 0, 1) := by decide +kernel
theorem d_M_plan_166 : decode cM_plan 166 = .ok (.getfield 29, 3) := by decide +kernel
theorem d_M_plan_169 : decode cM_plan 169 = .ok (.iload_n 3, 1) := by decide +kernel
theorem d_M_plan_170 : decode cM_plan 170 = .ok (.iconst (-1), 1) := by decide +kernel
theorem d_M_plan_171 : decode cM_plan 171 = .ok (.iastore, 1) := by decide +kernel
theorem d_M_plan_172 : decode cM_plan 172 = .ok (.iconst 0, 1) := by decide +kernel
theorem d_M_plan_173 : decode cM_plan 173 = .ok (.istore 4, 2) := by decide +kernel
theorem d_M_plan_175 : decode cM_plan 175 = .ok (.iload 4, 2) := by decide +kernel
theorem d_M_plan_177 : decode cM_plan 177 = .ok (.bipush 6, 2) := by decide +kernel
theorem d_M_plan_179 : decode cM_plan 179 = .ok (.if_icmp .ge 56, 3) := by decide +kernel
theorem d_M_plan_182 : decode cM_plan 182 = .ok (.aload_n 0, 1) := by decide +kernel
theorem d_M_plan_183 : decode cM_plan 183 = .ok (.getfield 29, 3) := by decide +kernel
theorem d_M_plan_186 : decode cM_plan 186 = .ok (.iload_n 3, 1) := by decide +kernel
theorem d_M_plan_187 : decode cM_plan 187 = .ok (.iaload, 1) := by decide +kernel
theorem d_M_plan_188 : decode cM_plan 188 = .ok (.iconst (-1), 1) := by decide +kernel
theorem d_M_plan_189 : decode cM_plan 189 = .ok (.if_icmp .ne 46, 3) := by decide +kernel
theorem d_M_plan_192 : decode cM_plan 192 = .ok (.iload_n 1, 1) := by decide +kernel
theorem d_M_plan_193 : decode cM_plan 193 = .ok (.iload_n 3, 1) := by decide +kernel
theorem d_M_plan_194 : decode cM_plan 194 = .ok (.invokestatic 114, 3) := by decide +kernel
theorem d_M_plan_197 : decode cM_plan 197 = .ok (.ifCond .eq 38, 3) := by decide +kernel
theorem d_M_plan_200 : decode cM_plan 200 = .ok (.aload_n 0, 1) := by decide +kernel
theorem d_M_plan_201 : decode cM_plan 201 = .ok (.getfield 35, 3) := by decide +kernel
theorem d_M_plan_204 : decode cM_plan 204 = .ok (.iload_n 3, 1) := by decide +kernel
theorem d_M_plan_205 : decode cM_plan 205 = .ok (.iload 4, 2) := by decide +kernel
theorem d_M_plan_207 : decode cM_plan 207 = .ok (.iastore, 1) := by decide +kernel
theorem d_M_plan_208 : decode cM_plan 208 = .ok (.aload_n 0, 1) := by decide +kernel
theorem d_M_plan_209 : decode cM_plan 209 = .ok (.getfield 29, 3) := by decide +kernel
theorem d_M_plan_212 : decode cM_plan 212 = .ok (.iload_n 3, 1) := by decide +kernel
theorem d_M_plan_213 : decode cM_plan 213 = .ok (.aload_n 0, 1) := by decide +kernel
theorem d_M_plan_214 : decode cM_plan 214 = .ok (.iload_n 1, 1) := by decide +kernel
theorem d_M_plan_215 : decode cM_plan 215 = .ok (.invokevirtual 131, 3) := by decide +kernel
theorem d_M_plan_218 : decode cM_plan 218 = .ok (.iload_n 2, 1) := by decide +kernel
theorem d_M_plan_219 : decode cM_plan 219 = .ok (.if_icmp .ne 8, 3) := by decide +kernel
theorem d_M_plan_222 : decode cM_plan 222 = .ok (.iload 4, 2) := by decide +kernel
theorem d_M_plan_224 : decode cM_plan 224 = .ok (.goto 4, 3) := by decide +kernel
theorem d_M_plan_227 : decode cM_plan 227 = .ok (.iconst (-1), 1) := by decide +kernel
theorem d_M_plan_228 : decode cM_plan 228 = .ok (.iastore, 1) := by decide +kernel
theorem d_M_plan_229 : decode cM_plan 229 = .ok (.iinc 4 1, 3) := by decide +kernel
theorem d_M_plan_232 : decode cM_plan 232 = .ok (.goto (-57), 3) := by decide +kernel
theorem d_M_plan_235 : decode cM_plan 235 = .ok (.iinc 3 1, 3) := by decide +kernel
theorem d_M_plan_238 : decode cM_plan 238 = .ok (.goto (-79), 3) := by decide +kernel
theorem d_M_plan_241 : decode cM_plan 241 = .ok (.iload_n 2, 1) := by decide +kernel
theorem d_M_plan_242 : decode cM_plan 242 = .ok (.ireturn, 1) := by decide +kernel
theorem d_M_held_0 : decode cM_held 0 = .ok (.iconst 0, 1) := by decide +kernel
theorem d_M_held_1 : decode cM_held 1 = .ok (.istore_n 1, 1) := by decide +kernel
theorem d_M_held_2 : decode cM_held 2 = .ok (.iconst 0, 1) := by decide +kernel
theorem d_M_held_3 : decode cM_held 3 = .ok (.istore_n 2, 1) := by decide +kernel
theorem d_M_held_4 : decode cM_held 4 = .ok (.iload_n 2, 1) := by decide +kernel
theorem d_M_held_5 : decode cM_held 5 = .ok (.bipush 9, 2) := by decide +kernel
theorem d_M_held_7 : decode cM_held 7 = .ok (.if_icmp .ge 28, 3) := by decide +kernel
theorem d_M_held_10 : decode cM_held 10 = .ok (.aload_n 0, 1) := by decide +kernel
theorem d_M_held_11 : decode cM_held 11 = .ok (.getfield 7, 3) := by decide +kernel
theorem d_M_held_14 : decode cM_held 14 = .ok (.iload_n 2, 1) := by decide +kernel
theorem d_M_held_15 : decode cM_held 15 = .ok (.iaload, 1) := by decide +kernel
theorem d_M_held_16 : decode cM_held 16 = .ok (.ifCond .le 11, 3) := by decide +kernel
theorem d_M_held_19 : decode cM_held 19 = .ok (.iload_n 1, 1) := by decide +kernel
theorem d_M_held_20 : decode cM_held 20 = .ok (.iconst 1, 1) := by decide +kernel
theorem d_M_held_21 : decode cM_held 21 = .ok (.iload_n 2, 1) := by decide +kernel
theorem d_M_held_22 : decode cM_held 22 = .ok (.ishl, 1) := by decide +kernel
theorem d_M_held_23 : decode cM_held 23 = .ok (.ior, 1) := by decide +kernel
theorem d_M_held_24 : decode cM_held 24 = .ok (.goto 4, 3) := by decide +kernel
theorem d_M_held_27 : decode cM_held 27 = .ok (.iload_n 1, 1) := by decide +kernel
theorem d_M_held_28 : decode cM_held 28 = .ok (.istore_n 1, 1) := by decide +kernel
theorem d_M_held_29 : decode cM_held 29 = .ok (.iinc 2 1, 3) := by decide +kernel
theorem d_M_held_32 : decode cM_held 32 = .ok (.goto (-28), 3) := by decide +kernel
theorem d_M_held_35 : decode cM_held 35 = .ok (.iload_n 1, 1) := by decide +kernel
theorem d_M_held_36 : decode cM_held 36 = .ok (.ireturn, 1) := by decide +kernel
theorem d_M_fits_0 : decode cM_fits 0 = .ok (.iconst 1, 1) := by decide +kernel
theorem d_M_fits_1 : decode cM_fits 1 = .ok (.istore 4, 2) := by decide +kernel
theorem d_M_fits_3 : decode cM_fits 3 = .ok (.iconst 0, 1) := by decide +kernel
theorem d_M_fits_4 : decode cM_fits 4 = .ok (.istore 5, 2) := by decide +kernel
theorem d_M_fits_6 : decode cM_fits 6 = .ok (.iload 5, 2) := by decide +kernel
theorem d_M_fits_8 : decode cM_fits 8 = .ok (.bipush 9, 2) := by decide +kernel
theorem d_M_fits_10 : decode cM_fits 10 = .ok (.if_icmp .ge 224, 3) := by decide +kernel
theorem d_M_fits_13 : decode cM_fits 13 = .ok (.iload 4, 2) := by decide +kernel
theorem d_M_fits_15 : decode cM_fits 15 = .ok (.ifCond .eq 64, 3) := by decide +kernel
theorem d_M_fits_18 : decode cM_fits 18 = .ok (.iload_n 2, 1) := by decide +kernel
theorem d_M_fits_19 : decode cM_fits 19 = .ok (.iload 5, 2) := by decide +kernel
theorem d_M_fits_21 : decode cM_fits 21 = .ok (.invokestatic 114, 3) := by decide +kernel
theorem d_M_fits_24 : decode cM_fits 24 = .ok (.ifCond .eq 51, 3) := by decide +kernel
theorem d_M_fits_27 : decode cM_fits 27 = .ok (.aload_n 0, 1) := by decide +kernel
theorem d_M_fits_28 : decode cM_fits 28 = .ok (.getfield 7, 3) := by decide +kernel
theorem d_M_fits_31 : decode cM_fits 31 = .ok (.iload 5, 2) := by decide +kernel
theorem d_M_fits_33 : decode cM_fits 33 = .ok (.iaload, 1) := by decide +kernel
theorem d_M_fits_34 : decode cM_fits 34 = .ok (.ifCond .le 45, 3) := by decide +kernel
theorem d_M_fits_37 : decode cM_fits 37 = .ok (.aload_n 0, 1) := by decide +kernel
theorem d_M_fits_38 : decode cM_fits 38 = .ok (.getfield 13, 3) := by decide +kernel
theorem d_M_fits_41 : decode cM_fits 41 = .ok (.iload_n 1, 1) := by decide +kernel
theorem d_M_fits_42 : decode cM_fits 42 = .ok (.iaload, 1) := by decide +kernel
theorem d_M_fits_43 : decode cM_fits 43 = .ok (.aload_n 0, 1) := by decide +kernel
theorem d_M_fits_44 : decode cM_fits 44 = .ok (.getfield 7, 3) := by decide +kernel
theorem d_M_fits_47 : decode cM_fits 47 = .ok (.iload 5, 2) := by decide +kernel
theorem d_M_fits_49 : decode cM_fits 49 = .ok (.iaload, 1) := by decide +kernel
theorem d_M_fits_50 : decode cM_fits 50 = .ok (.if_icmp .lt 29, 3) := by decide +kernel
theorem d_M_fits_53 : decode cM_fits 53 = .ok (.aload_n 0, 1) := by decide +kernel
theorem d_M_fits_54 : decode cM_fits 54 = .ok (.getfield 16, 3) := by decide +kernel
theorem d_M_fits_57 : decode cM_fits 57 = .ok (.iload 5, 2) := by decide +kernel
theorem d_M_fits_59 : decode cM_fits 59 = .ok (.iaload, 1) := by decide +kernel
theorem d_M_fits_60 : decode cM_fits 60 = .ok (.iconst (-1), 1) := by decide +kernel
theorem d_M_fits_61 : decode cM_fits 61 = .ok (.if_icmp .eq 14, 3) := by decide +kernel
theorem d_M_fits_64 : decode cM_fits 64 = .ok (.aload_n 0, 1) := by decide +kernel
theorem d_M_fits_65 : decode cM_fits 65 = .ok (.getfield 16, 3) := by decide +kernel
theorem d_M_fits_68 : decode cM_fits 68 = .ok (.iload 5, 2) := by decide +kernel
theorem d_M_fits_70 : decode cM_fits 70 = .ok (.iaload, 1) := by decide +kernel
theorem d_M_fits_71 : decode cM_fits 71 = .ok (.iload_n 1, 1) := by decide +kernel
theorem d_M_fits_72 : decode cM_fits 72 = .ok (.if_icmp .ne 7, 3) := by decide +kernel
theorem d_M_fits_75 : decode cM_fits 75 = .ok (.iconst 1, 1) := by decide +kernel
theorem d_M_fits_76 : decode cM_fits 76 = .ok (.goto 4, 3) := by decide +kernel
theorem d_M_fits_79 : decode cM_fits 79 = .ok (.iconst 0, 1) := by decide +kernel
theorem d_M_fits_80 : decode cM_fits 80 = .ok (.istore 4, 2) := by decide +kernel
theorem d_M_fits_82 : decode cM_fits 82 = .ok (.iconst 0, 1) := by decide +kernel
theorem d_M_fits_83 : decode cM_fits 83 = .ok (.istore 6, 2) := by decide +kernel
theorem d_M_fits_85 : decode cM_fits 85 = .ok (.iload 6, 2) := by decide +kernel
theorem d_M_fits_87 : decode cM_fits 87 = .ok (.bipush 9, 2) := by decide +kernel
theorem d_M_fits_89 : decode cM_fits 89 = .ok (.if_icmp .ge 139, 3) := by decide +kernel
theorem d_M_fits_92 : decode cM_fits 92 = .ok (.iload_n 2, 1) := by decide +kernel
theorem d_M_fits_93 : decode cM_fits 93 = .ok (.iload 5, 2) := by decide +kernel
theorem d_M_fits_95 : decode cM_fits 95 = .ok (.invokestatic 114, 3) := by decide +kernel
theorem d_M_fits_98 : decode cM_fits 98 = .ok (.ifCond .eq 130, 3) := by decide +kernel
theorem d_M_fits_101 : decode cM_fits 101 = .ok (.iload 4, 2) := by decide +kernel
theorem d_M_fits_103 : decode cM_fits 103 = .ok (.ifCond .eq 125, 3) := by decide +kernel
theorem d_M_fits_106 : decode cM_fits 106 = .ok (.iload_n 2, 1) := by decide +kernel
theorem d_M_fits_107 : decode cM_fits 107 = .ok (.iload 6, 2) := by decide +kernel
theorem d_M_fits_109 : decode cM_fits 109 = .ok (.invokestatic 114, 3) := by decide +kernel
theorem d_M_fits_112 : decode cM_fits 112 = .ok (.istore 7, 2) := by decide +kernel
theorem d_M_fits_114 : decode cM_fits 114 = .ok (.iload_n 3, 1) := by decide +kernel
theorem d_M_fits_115 : decode cM_fits 115 = .ok (.iload 6, 2) := by decide +kernel
theorem d_M_fits_117 : decode cM_fits 117 = .ok (.invokestatic 114, 3) := by decide +kernel
theorem d_M_fits_120 : decode cM_fits 120 = .ok (.istore 8, 2) := by decide +kernel
theorem d_M_fits_122 : decode cM_fits 122 = .ok (.iload 7, 2) := by decide +kernel
theorem d_M_fits_124 : decode cM_fits 124 = .ok (.ifCond .eq 65, 3) := by decide +kernel
theorem d_M_fits_127 : decode cM_fits 127 = .ok (.iload 5, 2) := by decide +kernel
theorem d_M_fits_129 : decode cM_fits 129 = .ok (.iload 6, 2) := by decide +kernel
theorem d_M_fits_131 : decode cM_fits 131 = .ok (.if_icmp .eq 58, 3) := by decide +kernel
theorem d_M_fits_134 : decode cM_fits 134 = .ok (.aload_n 0, 1) := by decide +kernel
theorem d_M_fits_135 : decode cM_fits 135 = .ok (.getfield 26, 3) := by decide +kernel
theorem d_M_fits_138 : decode cM_fits 138 = .ok (.bipush 81, 2) := by decide +kernel
theorem d_M_fits_140 : decode cM_fits 140 = .ok (.bipush 9, 2) := by decide +kernel
theorem d_M_fits_142 : decode cM_fits 142 = .ok (.iload 5, 2) := by decide +kernel
theorem d_M_fits_144 : decode cM_fits 144 = .ok (.imul, 1) := by decide +kernel
theorem d_M_fits_145 : decode cM_fits 145 = .ok (.iadd, 1) := by decide +kernel
theorem d_M_fits_146 : decode cM_fits 146 = .ok (.iload 6, 2) := by decide +kernel
theorem d_M_fits_148 : decode cM_fits 148 = .ok (.iadd, 1) := by decide +kernel
theorem d_M_fits_149 : decode cM_fits 149 = .ok (.baload, 1) := by decide +kernel
theorem d_M_fits_150 : decode cM_fits 150 = .ok (.ifCond .ne 69, 3) := by decide +kernel
theorem d_M_fits_153 : decode cM_fits 153 = .ok (.aload_n 0, 1) := by decide +kernel
theorem d_M_fits_154 : decode cM_fits 154 = .ok (.getfield 26, 3) := by decide +kernel
theorem d_M_fits_157 : decode cM_fits 157 = .ok (.sipush 162, 3) := by decide +kernel
theorem d_M_fits_160 : decode cM_fits 160 = .ok (.bipush 9, 2) := by decide +kernel
theorem d_M_fits_162 : decode cM_fits 162 = .ok (.iload 5, 2) := by decide +kernel
theorem d_M_fits_164 : decode cM_fits 164 = .ok (.imul, 1) := by decide +kernel
theorem d_M_fits_165 : decode cM_fits 165 = .ok (.iadd, 1) := by decide +kernel
theorem d_M_fits_166 : decode cM_fits 166 = .ok (.iload 6, 2) := by decide +kernel
theorem d_M_fits_168 : decode cM_fits 168 = .ok (.iadd, 1) := by decide +kernel
theorem d_M_fits_169 : decode cM_fits 169 = .ok (.baload, 1) := by decide +kernel
theorem d_M_fits_170 : decode cM_fits 170 = .ok (.ifCond .ne 49, 3) := by decide +kernel
theorem d_M_fits_173 : decode cM_fits 173 = .ok (.aload_n 0, 1) := by decide +kernel
theorem d_M_fits_174 : decode cM_fits 174 = .ok (.getfield 44, 3) := by decide +kernel
theorem d_M_fits_177 : decode cM_fits 177 = .ok (.bipush 9, 2) := by decide +kernel
theorem d_M_fits_179 : decode cM_fits 179 = .ok (.iload 5, 2) := by decide +kernel
theorem d_M_fits_181 : decode cM_fits 181 = .ok (.imul, 1) := by decide +kernel
theorem d_M_fits_182 : decode cM_fits 182 = .ok (.iload 6, 2) := by decide +kernel
theorem d_M_fits_184 : decode cM_fits 184 = .ok (.iadd, 1) := by decide +kernel
theorem d_M_fits_185 : decode cM_fits 185 = .ok (.baload, 1) := by decide +kernel
theorem d_M_fits_186 : decode cM_fits 186 = .ok (.ifCond .ne 33, 3) := by decide +kernel
theorem d_M_fits_189 : decode cM_fits 189 = .ok (.iload 8, 2) := by decide +kernel
theorem d_M_fits_191 : decode cM_fits 191 = .ok (.ifCond .eq 24, 3) := by decide +kernel
theorem d_M_fits_194 : decode cM_fits 194 = .ok (.iload 7, 2) := by decide +kernel
theorem d_M_fits_196 : decode cM_fits 196 = .ok (.ifCond .ne 19, 3) := by decide +kernel
theorem d_M_fits_199 : decode cM_fits 199 = .ok (.aload_n 0, 1) := by decide +kernel
theorem d_M_fits_200 : decode cM_fits 200 = .ok (.getfield 26, 3) := by decide +kernel
theorem d_M_fits_203 : decode cM_fits 203 = .ok (.bipush 9, 2) := by decide +kernel
theorem d_M_fits_205 : decode cM_fits 205 = .ok (.iload 5, 2) := by decide +kernel
theorem d_M_fits_207 : decode cM_fits 207 = .ok (.imul, 1) := by decide +kernel
theorem d_M_fits_208 : decode cM_fits 208 = .ok (.iload 6, 2) := by decide +kernel
theorem d_M_fits_210 : decode cM_fits 210 = .ok (.iadd, 1) := by decide +kernel
theorem d_M_fits_211 : decode cM_fits 211 = .ok (.baload, 1) := by decide +kernel
theorem d_M_fits_212 : decode cM_fits 212 = .ok (.ifCond .ne 7, 3) := by decide +kernel
theorem d_M_fits_215 : decode cM_fits 215 = .ok (.iconst 1, 1) := by decide +kernel
theorem d_M_fits_216 : decode cM_fits 216 = .ok (.goto 4, 3) := by decide +kernel
theorem d_M_fits_219 : decode cM_fits 219 = .ok (.iconst 0, 1) := by decide +kernel
theorem d_M_fits_220 : decode cM_fits 220 = .ok (.istore 4, 2) := by decide +kernel
theorem d_M_fits_222 : decode cM_fits 222 = .ok (.iinc 6 1, 3) := by decide +kernel
theorem d_M_fits_225 : decode cM_fits 225 = .ok (.goto (-140), 3) := by decide +kernel
theorem d_M_fits_228 : decode cM_fits 228 = .ok (.iinc 5 1, 3) := by decide +kernel
theorem d_M_fits_231 : decode cM_fits 231 = .ok (.goto (-225), 3) := by decide +kernel
theorem d_M_fits_234 : decode cM_fits 234 = .ok (.iload 4, 2) := by decide +kernel
theorem d_M_fits_236 : decode cM_fits 236 = .ok (.ireturn, 1) := by decide +kernel
theorem d_M_has_0 : decode cM_has 0 = .ok (.iload_n 0, 1) := by decide +kernel
theorem d_M_has_1 : decode cM_has 1 = .ok (.iload_n 1, 1) := by decide +kernel
theorem d_M_has_2 : decode cM_has 2 = .ok (.ishr, 1) := by decide +kernel
theorem d_M_has_3 : decode cM_has 3 = .ok (.iconst 1, 1) := by decide +kernel
theorem d_M_has_4 : decode cM_has 4 = .ok (.iand, 1) := by decide +kernel
theorem d_M_has_5 : decode cM_has 5 = .ok (.iconst 1, 1) := by decide +kernel
theorem d_M_has_6 : decode cM_has 6 = .ok (.if_icmp .ne 7, 3) := by decide +kernel
theorem d_M_has_9 : decode cM_has 9 = .ok (.iconst 1, 1) := by decide +kernel
theorem d_M_has_10 : decode cM_has 10 = .ok (.goto 4, 3) := by decide +kernel
theorem d_M_has_13 : decode cM_has 13 = .ok (.iconst 0, 1) := by decide +kernel
theorem d_M_has_14 : decode cM_has 14 = .ok (.ireturn, 1) := by decide +kernel
theorem d_M_least_0 : decode cM_least 0 = .ok (.iconst 0, 1) := by decide +kernel
theorem d_M_least_1 : decode cM_least 1 = .ok (.istore_n 2, 1) := by decide +kernel
theorem d_M_least_2 : decode cM_least 2 = .ok (.iload_n 2, 1) := by decide +kernel
theorem d_M_least_3 : decode cM_least 3 = .ok (.sipush 512, 3) := by decide +kernel
theorem d_M_least_6 : decode cM_least 6 = .ok (.if_icmp .ge 30, 3) := by decide +kernel
theorem d_M_least_9 : decode cM_least 9 = .ok (.aload_n 0, 1) := by decide +kernel
theorem d_M_least_10 : decode cM_least 10 = .ok (.getfield 32, 3) := by decide +kernel
theorem d_M_least_13 : decode cM_least 13 = .ok (.sipush 3072, 3) := by decide +kernel
theorem d_M_least_16 : decode cM_least 16 = .ok (.iload_n 2, 1) := by decide +kernel
theorem d_M_least_17 : decode cM_least 17 = .ok (.iadd, 1) := by decide +kernel
theorem d_M_least_18 : decode cM_least 18 = .ok (.iload_n 2, 1) := by decide +kernel
theorem d_M_least_19 : decode cM_least 19 = .ok (.iload_n 1, 1) := by decide +kernel
theorem d_M_least_20 : decode cM_least 20 = .ok (.if_icmp .ne 7, 3) := by decide +kernel
theorem d_M_least_23 : decode cM_least 23 = .ok (.iconst 0, 1) := by decide +kernel
theorem d_M_least_24 : decode cM_least 24 = .ok (.goto 5, 3) := by decide +kernel
theorem d_M_least_27 : decode cM_least 27 = .ok (.bipush 99, 2) := by decide +kernel
theorem d_M_least_29 : decode cM_least 29 = .ok (.iastore, 1) := by decide +kernel
theorem d_M_least_30 : decode cM_least 30 = .ok (.iinc 2 1, 3) := by decide +kernel
theorem d_M_least_33 : decode cM_least 33 = .ok (.goto (-31), 3) := by decide +kernel
theorem d_M_least_36 : decode cM_least 36 = .ok (.iconst 5, 1) := by decide +kernel
theorem d_M_least_37 : decode cM_least 37 = .ok (.istore_n 2, 1) := by decide +kernel
theorem d_M_least_38 : decode cM_least 38 = .ok (.iload_n 2, 1) := by decide +kernel
theorem d_M_least_39 : decode cM_least 39 = .ok (.ifCond .lt 227, 3) := by decide +kernel
theorem d_M_least_42 : decode cM_least 42 = .ok (.iconst 0, 1) := by decide +kernel
theorem d_M_least_43 : decode cM_least 43 = .ok (.istore_n 3, 1) := by decide +kernel
theorem d_M_least_44 : decode cM_least 44 = .ok (.iload_n 3, 1) := by decide +kernel
theorem d_M_least_45 : decode cM_least 45 = .ok (.sipush 512, 3) := by decide +kernel
theorem d_M_least_48 : decode cM_least 48 = .ok (.if_icmp .ge 44, 3) := by decide +kernel
theorem d_M_least_51 : decode cM_least 51 = .ok (.aload_n 0, 1) := by decide +kernel
theorem d_M_least_52 : decode cM_least 52 = .ok (.getfield 41, 3) := by decide +kernel
theorem d_M_least_55 : decode cM_least 55 = .ok (.iload_n 3, 1) := by decide +kernel
theorem d_M_least_56 : decode cM_least 56 = .ok (.aload_n 0, 1) := by decide +kernel
theorem d_M_least_57 : decode cM_least 57 = .ok (.getfield 38, 3) := by decide +kernel
theorem d_M_least_60 : decode cM_least 60 = .ok (.sipush 512, 3) := by decide +kernel
theorem d_M_least_63 : decode cM_least 63 = .ok (.iload_n 2, 1) := by decide +kernel
theorem d_M_least_64 : decode cM_least 64 = .ok (.imul, 1) := by decide +kernel
theorem d_M_least_65 : decode cM_least 65 = .ok (.iload_n 3, 1) := by decide +kernel
theorem d_M_least_66 : decode cM_least 66 = .ok (.iadd, 1) := by decide +kernel
theorem d_M_least_67 : decode cM_least 67 = .ok (.baload, 1) := by decide +kernel
theorem d_M_least_68 : decode cM_least 68 = .ok (.ifCond .eq 16, 3) := by decide +kernel
theorem d_M_least_71 : decode cM_least 71 = .ok (.aload_n 0, 1) := by decide +kernel
theorem d_M_least_72 : decode cM_least 72 = .ok (.iload_n 2, 1) := by decide +kernel
theorem d_M_least_73 : decode cM_least 73 = .ok (.iload_n 3, 1) := by decide +kernel
theorem d_M_least_74 : decode cM_least 74 = .ok (.invokevirtual 118, 3) := by decide +kernel
theorem d_M_least_77 : decode cM_least 77 = .ok (.ifCond .eq 7, 3) := by decide +kernel
theorem d_M_least_80 : decode cM_least 80 = .ok (.iconst 1, 1) := by decide +kernel
theorem d_M_least_81 : decode cM_least 81 = .ok (.goto 4, 3) := by decide +kernel
theorem d_M_least_84 : decode cM_least 84 = .ok (.iconst 0, 1) := by decide +kernel
theorem d_M_least_85 : decode cM_least 85 = .ok (.bastore, 1) := by decide +kernel
theorem d_M_least_86 : decode cM_least 86 = .ok (.iinc 3 1, 3) := by decide +kernel
theorem d_M_least_89 : decode cM_least 89 = .ok (.goto (-45), 3) := by decide +kernel
theorem d_M_least_92 : decode cM_least 92 = .ok (.iconst 0, 1) := by decide +kernel
theorem d_M_least_93 : decode cM_least 93 = .ok (.istore_n 3, 1) := by decide +kernel
theorem d_M_least_94 : decode cM_least 94 = .ok (.iload_n 3, 1) := by decide +kernel
theorem d_M_least_95 : decode cM_least 95 = .ok (.sipush 512, 3) := by decide +kernel
theorem d_M_least_98 : decode cM_least 98 = .ok (.if_icmp .ge 162, 3) := by decide +kernel
theorem d_M_least_101 : decode cM_least 101 = .ok (.aload_n 0, 1) := by decide +kernel
theorem d_M_least_102 : decode cM_least 102 = .ok (.getfield 32, 3) := by decide +kernel
theorem d_M_least_105 : decode cM_least 105 = .ok (.sipush 512, 3) := by decide +kernel
theorem d_M_least_108 : decode cM_least 108 = .ok (.iload_n 2, 1) := by decide +kernel
theorem d_M_least_109 : decode cM_least 109 = .ok (.imul, 1) := by decide +kernel
theorem d_M_least_110 : decode cM_least 110 = .ok (.iload_n 3, 1) := by decide +kernel
theorem d_M_least_111 : decode cM_least 111 = .ok (.iadd, 1) := by decide +kernel
theorem d_M_least_112 : decode cM_least 112 = .ok (.bipush 99, 2) := by decide +kernel
theorem d_M_least_114 : decode cM_least 114 = .ok (.iastore, 1) := by decide +kernel
theorem d_M_least_115 : decode cM_least 115 = .ok (.iload_n 1, 1) := by decide +kernel
theorem d_M_least_116 : decode cM_least 116 = .ok (.iload_n 3, 1) := by decide +kernel
theorem d_M_least_117 : decode cM_least 117 = .ok (.iconst (-1), 1) := by decide +kernel
theorem d_M_least_118 : decode cM_least 118 = .ok (.ixor, 1) := by decide +kernel
theorem d_M_least_119 : decode cM_least 119 = .ok (.iand, 1) := by decide +kernel
theorem d_M_least_120 : decode cM_least 120 = .ok (.istore 4, 2) := by decide +kernel
theorem d_M_least_122 : decode cM_least 122 = .ok (.iload 4, 2) := by decide +kernel
theorem d_M_least_124 : decode cM_least 124 = .ok (.istore 5, 2) := by decide +kernel
theorem d_M_least_126 : decode cM_least 126 = .ok (.iload_n 3, 1) := by decide +kernel
theorem d_M_least_127 : decode cM_least 127 = .ok (.iload_n 1, 1) := by decide +kernel
theorem d_M_least_128 : decode cM_least 128 = .ok (.iconst (-1), 1) := by decide +kernel
theorem d_M_least_129 : decode cM_least 129 = .ok (.ixor, 1) := by decide +kernel
theorem d_M_least_130 : decode cM_least 130 = .ok (.iand, 1) := by decide +kernel
theorem d_M_least_131 : decode cM_least 131 = .ok (.ifCond .ne 7, 3) := by decide +kernel
theorem d_M_least_134 : decode cM_least 134 = .ok (.iconst 1, 1) := by decide +kernel
theorem d_M_least_135 : decode cM_least 135 = .ok (.goto 4, 3) := by decide +kernel
theorem d_M_least_138 : decode cM_least 138 = .ok (.iconst 0, 1) := by decide +kernel
theorem d_M_least_139 : decode cM_least 139 = .ok (.istore 6, 2) := by decide +kernel
theorem d_M_least_141 : decode cM_least 141 = .ok (.iload 6, 2) := by decide +kernel
theorem d_M_least_143 : decode cM_least 143 = .ok (.ifCond .eq 111, 3) := by decide +kernel
theorem d_M_least_146 : decode cM_least 146 = .ok (.aload_n 0, 1) := by decide +kernel
theorem d_M_least_147 : decode cM_least 147 = .ok (.getfield 32, 3) := by decide +kernel
theorem d_M_least_150 : decode cM_least 150 = .ok (.sipush 512, 3) := by decide +kernel
theorem d_M_least_153 : decode cM_least 153 = .ok (.iload_n 2, 1) := by decide +kernel
theorem d_M_least_154 : decode cM_least 154 = .ok (.imul, 1) := by decide +kernel
theorem d_M_least_155 : decode cM_least 155 = .ok (.sipush 512, 3) := by decide +kernel
theorem d_M_least_158 : decode cM_least 158 = .ok (.iadd, 1) := by decide +kernel
theorem d_M_least_159 : decode cM_least 159 = .ok (.iload_n 3, 1) := by decide +kernel
theorem d_M_least_160 : decode cM_least 160 = .ok (.iload 5, 2) := by decide +kernel
theorem d_M_least_162 : decode cM_least 162 = .ok (.ior, 1) := by decide +kernel
theorem d_M_least_163 : decode cM_least 163 = .ok (.iadd, 1) := by decide +kernel
theorem d_M_least_164 : decode cM_least 164 = .ok (.iaload, 1) := by decide +kernel
theorem d_M_least_165 : decode cM_least 165 = .ok (.iload 5, 2) := by decide +kernel
theorem d_M_least_167 : decode cM_least 167 = .ok (.ifCond .ne 7, 3) := by decide +kernel
theorem d_M_least_170 : decode cM_least 170 = .ok (.iconst 0, 1) := by decide +kernel
theorem d_M_least_171 : decode cM_least 171 = .ok (.goto 4, 3) := by decide +kernel
theorem d_M_least_174 : decode cM_least 174 = .ok (.iconst 1, 1) := by decide +kernel
theorem d_M_least_175 : decode cM_least 175 = .ok (.iadd, 1) := by decide +kernel
theorem d_M_least_176 : decode cM_least 176 = .ok (.istore 7, 2) := by decide +kernel
theorem d_M_least_178 : decode cM_least 178 = .ok (.aload_n 0, 1) := by decide +kernel
theorem d_M_least_179 : decode cM_least 179 = .ok (.getfield 41, 3) := by decide +kernel
theorem d_M_least_182 : decode cM_least 182 = .ok (.iload 5, 2) := by decide +kernel
theorem d_M_least_184 : decode cM_least 184 = .ok (.baload, 1) := by decide +kernel
theorem d_M_least_185 : decode cM_least 185 = .ok (.ifCond .eq 45, 3) := by decide +kernel
theorem d_M_least_188 : decode cM_least 188 = .ok (.iload 7, 2) := by decide +kernel
theorem d_M_least_190 : decode cM_least 190 = .ok (.aload_n 0, 1) := by decide +kernel
theorem d_M_least_191 : decode cM_least 191 = .ok (.getfield 32, 3) := by decide +kernel
theorem d_M_least_194 : decode cM_least 194 = .ok (.sipush 512, 3) := by decide +kernel
theorem d_M_least_197 : decode cM_least 197 = .ok (.iload_n 2, 1) := by decide +kernel
theorem d_M_least_198 : decode cM_least 198 = .ok (.imul, 1) := by decide +kernel
theorem d_M_least_199 : decode cM_least 199 = .ok (.iload_n 3, 1) := by decide +kernel
theorem d_M_least_200 : decode cM_least 200 = .ok (.iadd, 1) := by decide +kernel
theorem d_M_least_201 : decode cM_least 201 = .ok (.iaload, 1) := by decide +kernel
theorem d_M_least_202 : decode cM_least 202 = .ok (.if_icmp .ge 28, 3) := by decide +kernel
theorem d_M_least_205 : decode cM_least 205 = .ok (.aload_n 0, 1) := by decide +kernel
theorem d_M_least_206 : decode cM_least 206 = .ok (.iload 5, 2) := by decide +kernel
theorem d_M_least_208 : decode cM_least 208 = .ok (.iload_n 3, 1) := by decide +kernel
theorem d_M_least_209 : decode cM_least 209 = .ok (.iload_n 1, 1) := by decide +kernel
theorem d_M_least_210 : decode cM_least 210 = .ok (.invokevirtual 121, 3) := by decide +kernel
theorem d_M_least_213 : decode cM_least 213 = .ok (.ifCond .eq 17, 3) := by decide +kernel
theorem d_M_least_216 : decode cM_least 216 = .ok (.aload_n 0, 1) := by decide +kernel
theorem d_M_least_217 : decode cM_least 217 = .ok (.getfield 32, 3) := by decide +kernel
theorem d_M_least_220 : decode cM_least 220 = .ok (.sipush 512, 3) := by decide +kernel
theorem d_M_least_223 : decode cM_least 223 = .ok (.iload_n 2, 1) := by decide +kernel
theorem d_M_least_224 : decode cM_least 224 = .ok (.imul, 1) := by decide +kernel
theorem d_M_least_225 : decode cM_least 225 = .ok (.iload_n 3, 1) := by decide +kernel
theorem d_M_least_226 : decode cM_least 226 = .ok (.iadd, 1) := by decide +kernel
theorem d_M_least_227 : decode cM_least 227 = .ok (.iload 7, 2) := by decide +kernel
theorem d_M_least_229 : decode cM_least 229 = .ok (.iastore, 1) := by decide +kernel
theorem d_M_least_230 : decode cM_least 230 = .ok (.iload 5, 2) := by decide +kernel
theorem d_M_least_232 : decode cM_least 232 = .ok (.ifCond .le 7, 3) := by decide +kernel
theorem d_M_least_235 : decode cM_least 235 = .ok (.iconst 1, 1) := by decide +kernel
theorem d_M_least_236 : decode cM_least 236 = .ok (.goto 4, 3) := by decide +kernel
theorem d_M_least_239 : decode cM_least 239 = .ok (.iconst 0, 1) := by decide +kernel
theorem d_M_least_240 : decode cM_least 240 = .ok (.istore 6, 2) := by decide +kernel
theorem d_M_least_242 : decode cM_least 242 = .ok (.iload 5, 2) := by decide +kernel
theorem d_M_least_244 : decode cM_least 244 = .ok (.iconst 1, 1) := by decide +kernel
theorem d_M_least_245 : decode cM_least 245 = .ok (.isub, 1) := by decide +kernel
theorem d_M_least_246 : decode cM_least 246 = .ok (.iload 4, 2) := by decide +kernel
theorem d_M_least_248 : decode cM_least 248 = .ok (.iand, 1) := by decide +kernel
theorem d_M_least_249 : decode cM_least 249 = .ok (.istore 5, 2) := by decide +kernel
theorem d_M_least_251 : decode cM_least 251 = .ok (.goto (-110), 3) := by decide +kernel
theorem d_M_least_254 : decode cM_least 254 = .ok (.iinc 3 1, 3) := by decide +kernel
theorem d_M_least_257 : decode cM_least 257 = .ok (.goto (-163), 3) := by decide +kernel
theorem d_M_least_260 : decode cM_least 260 = .ok (.iinc 2 (-1), 3) := by decide +kernel
theorem d_M_least_263 : decode cM_least 263 = .ok (.goto (-225), 3) := by decide +kernel
theorem d_M_least_266 : decode cM_least 266 = .ok (.aload_n 0, 1) := by decide +kernel
theorem d_M_least_267 : decode cM_least 267 = .ok (.getfield 32, 3) := by decide +kernel
theorem d_M_least_270 : decode cM_least 270 = .ok (.iconst 0, 1) := by decide +kernel
theorem d_M_least_271 : decode cM_least 271 = .ok (.iaload, 1) := by decide +kernel
theorem d_M_least_272 : decode cM_least 272 = .ok (.ireturn, 1) := by decide +kernel
theorem d_M_keeps_0 : decode cM_keeps 0 = .ok (.iconst 1, 1) := by decide +kernel
theorem d_M_keeps_1 : decode cM_keeps 1 = .ok (.istore_n 3, 1) := by decide +kernel
theorem d_M_keeps_2 : decode cM_keeps 2 = .ok (.iconst 0, 1) := by decide +kernel
theorem d_M_keeps_3 : decode cM_keeps 3 = .ok (.istore 4, 2) := by decide +kernel
theorem d_M_keeps_5 : decode cM_keeps 5 = .ok (.iload 4, 2) := by decide +kernel
theorem d_M_keeps_7 : decode cM_keeps 7 = .ok (.bipush 9, 2) := by decide +kernel
theorem d_M_keeps_9 : decode cM_keeps 9 = .ok (.if_icmp .ge 55, 3) := by decide +kernel
theorem d_M_keeps_12 : decode cM_keeps 12 = .ok (.iload_n 3, 1) := by decide +kernel
theorem d_M_keeps_13 : decode cM_keeps 13 = .ok (.ifCond .eq 43, 3) := by decide +kernel
theorem d_M_keeps_16 : decode cM_keeps 16 = .ok (.aload_n 0, 1) := by decide +kernel
theorem d_M_keeps_17 : decode cM_keeps 17 = .ok (.getfield 35, 3) := by decide +kernel
theorem d_M_keeps_20 : decode cM_keeps 20 = .ok (.iload 4, 2) := by decide +kernel
theorem d_M_keeps_22 : decode cM_keeps 22 = .ok (.iaload, 1) := by decide +kernel
theorem d_M_keeps_23 : decode cM_keeps 23 = .ok (.iconst (-1), 1) := by decide +kernel
theorem d_M_keeps_24 : decode cM_keeps 24 = .ok (.if_icmp .eq 28, 3) := by decide +kernel
theorem d_M_keeps_27 : decode cM_keeps 27 = .ok (.iload_n 2, 1) := by decide +kernel
theorem d_M_keeps_28 : decode cM_keeps 28 = .ok (.iload 4, 2) := by decide +kernel
theorem d_M_keeps_30 : decode cM_keeps 30 = .ok (.invokestatic 114, 3) := by decide +kernel
theorem d_M_keeps_33 : decode cM_keeps 33 = .ok (.aload_n 0, 1) := by decide +kernel
theorem d_M_keeps_34 : decode cM_keeps 34 = .ok (.getfield 35, 3) := by decide +kernel
theorem d_M_keeps_37 : decode cM_keeps 37 = .ok (.iload 4, 2) := by decide +kernel
theorem d_M_keeps_39 : decode cM_keeps 39 = .ok (.iaload, 1) := by decide +kernel
theorem d_M_keeps_40 : decode cM_keeps 40 = .ok (.iload_n 1, 1) := by decide +kernel
theorem d_M_keeps_41 : decode cM_keeps 41 = .ok (.if_icmp .ne 7, 3) := by decide +kernel
theorem d_M_keeps_44 : decode cM_keeps 44 = .ok (.iconst 1, 1) := by decide +kernel
theorem d_M_keeps_45 : decode cM_keeps 45 = .ok (.goto 4, 3) := by decide +kernel
theorem d_M_keeps_48 : decode cM_keeps 48 = .ok (.iconst 0, 1) := by decide +kernel
theorem d_M_keeps_49 : decode cM_keeps 49 = .ok (.if_icmp .ne 7, 3) := by decide +kernel
theorem d_M_keeps_52 : decode cM_keeps 52 = .ok (.iconst 1, 1) := by decide +kernel
theorem d_M_keeps_53 : decode cM_keeps 53 = .ok (.goto 4, 3) := by decide +kernel
theorem d_M_keeps_56 : decode cM_keeps 56 = .ok (.iconst 0, 1) := by decide +kernel
theorem d_M_keeps_57 : decode cM_keeps 57 = .ok (.istore_n 3, 1) := by decide +kernel
theorem d_M_keeps_58 : decode cM_keeps 58 = .ok (.iinc 4 1, 3) := by decide +kernel
theorem d_M_keeps_61 : decode cM_keeps 61 = .ok (.goto (-56), 3) := by decide +kernel
theorem d_M_keeps_64 : decode cM_keeps 64 = .ok (.iload_n 3, 1) := by decide +kernel
theorem d_M_keeps_65 : decode cM_keeps 65 = .ok (.ireturn, 1) := by decide +kernel
theorem d_M_follows_0 : decode cM_follows 0 = .ok (.iload_n 1, 1) := by decide +kernel
theorem d_M_follows_1 : decode cM_follows 1 = .ok (.iload_n 2, 1) := by decide +kernel
theorem d_M_follows_2 : decode cM_follows 2 = .ok (.iand, 1) := by decide +kernel
theorem d_M_follows_3 : decode cM_follows 3 = .ok (.ifCond .ne 7, 3) := by decide +kernel
theorem d_M_follows_6 : decode cM_follows 6 = .ok (.iconst 1, 1) := by decide +kernel
theorem d_M_follows_7 : decode cM_follows 7 = .ok (.goto 4, 3) := by decide +kernel
theorem d_M_follows_10 : decode cM_follows 10 = .ok (.iconst 0, 1) := by decide +kernel
theorem d_M_follows_11 : decode cM_follows 11 = .ok (.istore 4, 2) := by decide +kernel
theorem d_M_follows_13 : decode cM_follows 13 = .ok (.iconst 0, 1) := by decide +kernel
theorem d_M_follows_14 : decode cM_follows 14 = .ok (.istore 5, 2) := by decide +kernel
theorem d_M_follows_16 : decode cM_follows 16 = .ok (.iload 5, 2) := by decide +kernel
theorem d_M_follows_18 : decode cM_follows 18 = .ok (.bipush 9, 2) := by decide +kernel
theorem d_M_follows_20 : decode cM_follows 20 = .ok (.if_icmp .ge 113, 3) := by decide +kernel
theorem d_M_follows_23 : decode cM_follows 23 = .ok (.iconst 0, 1) := by decide +kernel
theorem d_M_follows_24 : decode cM_follows 24 = .ok (.istore 6, 2) := by decide +kernel
theorem d_M_follows_26 : decode cM_follows 26 = .ok (.iload 6, 2) := by decide +kernel
theorem d_M_follows_28 : decode cM_follows 28 = .ok (.bipush 9, 2) := by decide +kernel
theorem d_M_follows_30 : decode cM_follows 30 = .ok (.if_icmp .ge 97, 3) := by decide +kernel
theorem d_M_follows_33 : decode cM_follows 33 = .ok (.iload 4, 2) := by decide +kernel
theorem d_M_follows_35 : decode cM_follows 35 = .ok (.ifCond .eq 92, 3) := by decide +kernel
theorem d_M_follows_38 : decode cM_follows 38 = .ok (.iload_n 1, 1) := by decide +kernel
theorem d_M_follows_39 : decode cM_follows 39 = .ok (.iload 5, 2) := by decide +kernel
theorem d_M_follows_41 : decode cM_follows 41 = .ok (.invokestatic 114, 3) := by decide +kernel
theorem d_M_follows_44 : decode cM_follows 44 = .ok (.ifCond .eq 83, 3) := by decide +kernel
theorem d_M_follows_47 : decode cM_follows 47 = .ok (.aload_n 0, 1) := by decide +kernel
theorem d_M_follows_48 : decode cM_follows 48 = .ok (.getfield 26, 3) := by decide +kernel
theorem d_M_follows_51 : decode cM_follows 51 = .ok (.sipush 162, 3) := by decide +kernel
theorem d_M_follows_54 : decode cM_follows 54 = .ok (.bipush 9, 2) := by decide +kernel
theorem d_M_follows_56 : decode cM_follows 56 = .ok (.iload 6, 2) := by decide +kernel
theorem d_M_follows_58 : decode cM_follows 58 = .ok (.imul, 1) := by decide +kernel
theorem d_M_follows_59 : decode cM_follows 59 = .ok (.iadd, 1) := by decide +kernel
theorem d_M_follows_60 : decode cM_follows 60 = .ok (.iload 5, 2) := by decide +kernel
theorem d_M_follows_62 : decode cM_follows 62 = .ok (.iadd, 1) := by decide +kernel
theorem d_M_follows_63 : decode cM_follows 63 = .ok (.baload, 1) := by decide +kernel
theorem d_M_follows_64 : decode cM_follows 64 = .ok (.ifCond .eq 21, 3) := by decide +kernel
theorem d_M_follows_67 : decode cM_follows 67 = .ok (.iload_n 3, 1) := by decide +kernel
theorem d_M_follows_68 : decode cM_follows 68 = .ok (.iload 6, 2) := by decide +kernel
theorem d_M_follows_70 : decode cM_follows 70 = .ok (.invokestatic 114, 3) := by decide +kernel
theorem d_M_follows_73 : decode cM_follows 73 = .ok (.ifCond .eq 12, 3) := by decide +kernel
theorem d_M_follows_76 : decode cM_follows 76 = .ok (.iload_n 2, 1) := by decide +kernel
theorem d_M_follows_77 : decode cM_follows 77 = .ok (.iload 6, 2) := by decide +kernel
theorem d_M_follows_79 : decode cM_follows 79 = .ok (.invokestatic 114, 3) := by decide +kernel
theorem d_M_follows_82 : decode cM_follows 82 = .ok (.ifCond .eq 36, 3) := by decide +kernel
theorem d_M_follows_85 : decode cM_follows 85 = .ok (.aload_n 0, 1) := by decide +kernel
theorem d_M_follows_86 : decode cM_follows 86 = .ok (.getfield 26, 3) := by decide +kernel
theorem d_M_follows_89 : decode cM_follows 89 = .ok (.sipush 162, 3) := by decide +kernel
theorem d_M_follows_92 : decode cM_follows 92 = .ok (.bipush 9, 2) := by decide +kernel
theorem d_M_follows_94 : decode cM_follows 94 = .ok (.iload 5, 2) := by decide +kernel
theorem d_M_follows_96 : decode cM_follows 96 = .ok (.imul, 1) := by decide +kernel
theorem d_M_follows_97 : decode cM_follows 97 = .ok (.iadd, 1) := by decide +kernel
theorem d_M_follows_98 : decode cM_follows 98 = .ok (.iload 6, 2) := by decide +kernel
theorem d_M_follows_100 : decode cM_follows 100 = .ok (.iadd, 1) := by decide +kernel
theorem d_M_follows_101 : decode cM_follows 101 = .ok (.baload, 1) := by decide +kernel
theorem d_M_follows_102 : decode cM_follows 102 = .ok (.ifCond .eq 12, 3) := by decide +kernel
theorem d_M_follows_105 : decode cM_follows 105 = .ok (.iload_n 2, 1) := by decide +kernel
theorem d_M_follows_106 : decode cM_follows 106 = .ok (.iload 6, 2) := by decide +kernel
theorem d_M_follows_108 : decode cM_follows 108 = .ok (.invokestatic 114, 3) := by decide +kernel
theorem d_M_follows_111 : decode cM_follows 111 = .ok (.ifCond .ne 7, 3) := by decide +kernel
theorem d_M_follows_114 : decode cM_follows 114 = .ok (.iconst 1, 1) := by decide +kernel
theorem d_M_follows_115 : decode cM_follows 115 = .ok (.goto 4, 3) := by decide +kernel
theorem d_M_follows_118 : decode cM_follows 118 = .ok (.iconst 0, 1) := by decide +kernel
theorem d_M_follows_119 : decode cM_follows 119 = .ok (.istore 4, 2) := by decide +kernel
theorem d_M_follows_121 : decode cM_follows 121 = .ok (.iinc 6 1, 3) := by decide +kernel
theorem d_M_follows_124 : decode cM_follows 124 = .ok (.goto (-98), 3) := by decide +kernel
theorem d_M_follows_127 : decode cM_follows 127 = .ok (.iinc 5 1, 3) := by decide +kernel
theorem d_M_follows_130 : decode cM_follows 130 = .ok (.goto (-114), 3) := by decide +kernel
theorem d_M_follows_133 : decode cM_follows 133 = .ok (.iload 4, 2) := by decide +kernel
theorem d_M_follows_135 : decode cM_follows 135 = .ok (.ireturn, 1) := by decide +kernel
theorem d_M_planned_0 : decode cM_planned 0 = .ok (.aload_n 0, 1) := by decide +kernel
theorem d_M_planned_1 : decode cM_planned 1 = .ok (.iload_n 1, 1) := by decide +kernel
theorem d_M_planned_2 : decode cM_planned 2 = .ok (.invokestatic 89, 3) := by decide +kernel
theorem d_M_planned_5 : decode cM_planned 5 = .ok (.iconst 1, 1) := by decide +kernel
theorem d_M_planned_6 : decode cM_planned 6 = .ok (.invokevirtual 97, 3) := by decide +kernel
theorem d_M_planned_9 : decode cM_planned 9 = .ok (.ifCond .eq 19, 3) := by decide +kernel
theorem d_M_planned_12 : decode cM_planned 12 = .ok (.aload_n 0, 1) := by decide +kernel
theorem d_M_planned_13 : decode cM_planned 13 = .ok (.getfield 85, 3) := by decide +kernel
theorem d_M_planned_16 : decode cM_planned 16 = .ok (.ifCond .eq 12, 3) := by decide +kernel
theorem d_M_planned_19 : decode cM_planned 19 = .ok (.aload_n 0, 1) := by decide +kernel
theorem d_M_planned_20 : decode cM_planned 20 = .ok (.getfield 29, 3) := by decide +kernel
theorem d_M_planned_23 : decode cM_planned 23 = .ok (.iload_n 1, 1) := by decide +kernel
theorem d_M_planned_24 : decode cM_planned 24 = .ok (.iaload, 1) := by decide +kernel
theorem d_M_planned_25 : decode cM_planned 25 = .ok (.goto 15, 3) := by decide +kernel
theorem d_M_planned_28 : decode cM_planned 28 = .ok (.aload_n 0, 1) := by decide +kernel
theorem d_M_planned_29 : decode cM_planned 29 = .ok (.getfield 81, 3) := by decide +kernel
theorem d_M_planned_32 : decode cM_planned 32 = .ok (.ifCond .ne 7, 3) := by decide +kernel
theorem d_M_planned_35 : decode cM_planned 35 = .ok (.iconst (-1), 1) := by decide +kernel
theorem d_M_planned_36 : decode cM_planned 36 = .ok (.goto 4, 3) := by decide +kernel
theorem d_M_planned_39 : decode cM_planned 39 = .ok (.iconst 0, 1) := by decide +kernel
theorem d_M_planned_40 : decode cM_planned 40 = .ok (.ireturn, 1) := by decide +kernel
theorem d_M_strain_0 : decode cM_strain 0 = .ok (.aload_n 0, 1) := by decide +kernel
theorem d_M_strain_1 : decode cM_strain 1 = .ok (.iconst 0, 1) := by decide +kernel
theorem d_M_strain_2 : decode cM_strain 2 = .ok (.putfield 81, 3) := by decide +kernel
theorem d_M_strain_5 : decode cM_strain 5 = .ok (.iconst 0, 1) := by decide +kernel
theorem d_M_strain_6 : decode cM_strain 6 = .ok (.istore_n 1, 1) := by decide +kernel
theorem d_M_strain_7 : decode cM_strain 7 = .ok (.iconst 0, 1) := by decide +kernel
theorem d_M_strain_8 : decode cM_strain 8 = .ok (.istore_n 2, 1) := by decide +kernel
theorem d_M_strain_9 : decode cM_strain 9 = .ok (.iload_n 2, 1) := by decide +kernel
theorem d_M_strain_10 : decode cM_strain 10 = .ok (.bipush 40, 2) := by decide +kernel
theorem d_M_strain_12 : decode cM_strain 12 = .ok (.if_icmp .ge 52, 3) := by decide +kernel
theorem d_M_strain_15 : decode cM_strain 15 = .ok (.iconst 0, 1) := by decide +kernel
theorem d_M_strain_16 : decode cM_strain 16 = .ok (.istore_n 3, 1) := by decide +kernel
theorem d_M_strain_17 : decode cM_strain 17 = .ok (.iload_n 3, 1) := by decide +kernel
theorem d_M_strain_18 : decode cM_strain 18 = .ok (.iconst 5, 1) := by decide +kernel
theorem d_M_strain_19 : decode cM_strain 19 = .ok (.if_icmp .ge 39, 3) := by decide +kernel
theorem d_M_strain_22 : decode cM_strain 22 = .ok (.aload_n 0, 1) := by decide +kernel
theorem d_M_strain_23 : decode cM_strain 23 = .ok (.iload_n 2, 1) := by decide +kernel
theorem d_M_strain_24 : decode cM_strain 24 = .ok (.iload_n 3, 1) := by decide +kernel
theorem d_M_strain_25 : decode cM_strain 25 = .ok (.invokevirtual 135, 3) := by decide +kernel
theorem d_M_strain_28 : decode cM_strain 28 = .ok (.iconst (-1), 1) := by decide +kernel
theorem d_M_strain_29 : decode cM_strain 29 = .ok (.if_icmp .eq 21, 3) := by decide +kernel
theorem d_M_strain_32 : decode cM_strain 32 = .ok (.aload_n 0, 1) := by decide +kernel
theorem d_M_strain_33 : decode cM_strain 33 = .ok (.iload_n 2, 1) := by decide +kernel
theorem d_M_strain_34 : decode cM_strain 34 = .ok (.iload_n 3, 1) := by decide +kernel
theorem d_M_strain_35 : decode cM_strain 35 = .ok (.iconst 1, 1) := by decide +kernel
theorem d_M_strain_36 : decode cM_strain 36 = .ok (.iadd, 1) := by decide +kernel
theorem d_M_strain_37 : decode cM_strain 37 = .ok (.invokevirtual 135, 3) := by decide +kernel
theorem d_M_strain_40 : decode cM_strain 40 = .ok (.iconst (-1), 1) := by decide +kernel
theorem d_M_strain_41 : decode cM_strain 41 = .ok (.if_icmp .eq 9, 3) := by decide +kernel
theorem d_M_strain_44 : decode cM_strain 44 = .ok (.iload_n 1, 1) := by decide +kernel
theorem d_M_strain_45 : decode cM_strain 45 = .ok (.iconst 1, 1) := by decide +kernel
theorem d_M_strain_46 : decode cM_strain 46 = .ok (.iadd, 1) := by decide +kernel
theorem d_M_strain_47 : decode cM_strain 47 = .ok (.goto 4, 3) := by decide +kernel
theorem d_M_strain_50 : decode cM_strain 50 = .ok (.iload_n 1, 1) := by decide +kernel
theorem d_M_strain_51 : decode cM_strain 51 = .ok (.istore_n 1, 1) := by decide +kernel
theorem d_M_strain_52 : decode cM_strain 52 = .ok (.iinc 3 1, 3) := by decide +kernel
theorem d_M_strain_55 : decode cM_strain 55 = .ok (.goto (-38), 3) := by decide +kernel
theorem d_M_strain_58 : decode cM_strain 58 = .ok (.iinc 2 1, 3) := by decide +kernel
theorem d_M_strain_61 : decode cM_strain 61 = .ok (.goto (-52), 3) := by decide +kernel
theorem d_M_strain_64 : decode cM_strain 64 = .ok (.iload_n 1, 1) := by decide +kernel
theorem d_M_strain_65 : decode cM_strain 65 = .ok (.ireturn, 1) := by decide +kernel
theorem d_M_paperOf_0 : decode cM_paperOf 0 = .ok (.iconst 0, 1) := by decide +kernel
theorem d_M_paperOf_1 : decode cM_paperOf 1 = .ok (.istore_n 3, 1) := by decide +kernel
theorem d_M_paperOf_2 : decode cM_paperOf 2 = .ok (.iload_n 3, 1) := by decide +kernel
theorem d_M_paperOf_3 : decode cM_paperOf 3 = .ok (.bipush 9, 2) := by decide +kernel
theorem d_M_paperOf_5 : decode cM_paperOf 5 = .ok (.if_icmp .ge 42, 3) := by decide +kernel
theorem d_M_paperOf_8 : decode cM_paperOf 8 = .ok (.aload_n 0, 1) := by decide +kernel
theorem d_M_paperOf_9 : decode cM_paperOf 9 = .ok (.getfield 85, 3) := by decide +kernel
theorem d_M_paperOf_12 : decode cM_paperOf 12 = .ok (.ifCond .eq 29, 3) := by decide +kernel
theorem d_M_paperOf_15 : decode cM_paperOf 15 = .ok (.aload_n 0, 1) := by decide +kernel
theorem d_M_paperOf_16 : decode cM_paperOf 16 = .ok (.getfield 19, 3) := by decide +kernel
theorem d_M_paperOf_19 : decode cM_paperOf 19 = .ok (.bipush 9, 2) := by decide +kernel
theorem d_M_paperOf_21 : decode cM_paperOf 21 = .ok (.iload_n 1, 1) := by decide +kernel
theorem d_M_paperOf_22 : decode cM_paperOf 22 = .ok (.imul, 1) := by decide +kernel
theorem d_M_paperOf_23 : decode cM_paperOf 23 = .ok (.iload_n 3, 1) := by decide +kernel
theorem d_M_paperOf_24 : decode cM_paperOf 24 = .ok (.iadd, 1) := by decide +kernel
theorem d_M_paperOf_25 : decode cM_paperOf 25 = .ok (.baload, 1) := by decide +kernel
theorem d_M_paperOf_26 : decode cM_paperOf 26 = .ok (.ifCond .eq 15, 3) := by decide +kernel
theorem d_M_paperOf_29 : decode cM_paperOf 29 = .ok (.aload_n 0, 1) := by decide +kernel
theorem d_M_paperOf_30 : decode cM_paperOf 30 = .ok (.getfield 29, 3) := by decide +kernel
theorem d_M_paperOf_33 : decode cM_paperOf 33 = .ok (.iload_n 3, 1) := by decide +kernel
theorem d_M_paperOf_34 : decode cM_paperOf 34 = .ok (.iaload, 1) := by decide +kernel
theorem d_M_paperOf_35 : decode cM_paperOf 35 = .ok (.iload_n 2, 1) := by decide +kernel
theorem d_M_paperOf_36 : decode cM_paperOf 36 = .ok (.if_icmp .ne 5, 3) := by decide +kernel
theorem d_M_paperOf_39 : decode cM_paperOf 39 = .ok (.iload_n 3, 1) := by decide +kernel
theorem d_M_paperOf_40 : decode cM_paperOf 40 = .ok (.ireturn, 1) := by decide +kernel
theorem d_M_paperOf_41 : decode cM_paperOf 41 = .ok (.iinc 3 1, 3) := by decide +kernel
theorem d_M_paperOf_44 : decode cM_paperOf 44 = .ok (.goto (-42), 3) := by decide +kernel
theorem d_M_paperOf_47 : decode cM_paperOf 47 = .ok (.iconst (-1), 1) := by decide +kernel
theorem d_M_paperOf_48 : decode cM_paperOf 48 = .ok (.ireturn, 1) := by decide +kernel
theorem d_M_room_0 : decode cM_room 0 = .ok (.aload_n 0, 1) := by decide +kernel
theorem d_M_room_1 : decode cM_room 1 = .ok (.iload_n 1, 1) := by decide +kernel
theorem d_M_room_2 : decode cM_room 2 = .ok (.invokestatic 138, 3) := by decide +kernel
theorem d_M_room_5 : decode cM_room 5 = .ok (.iload_n 2, 1) := by decide +kernel
theorem d_M_room_6 : decode cM_room 6 = .ok (.iconst 0, 1) := by decide +kernel
theorem d_M_room_7 : decode cM_room 7 = .ok (.bipush 6, 2) := by decide +kernel
theorem d_M_room_9 : decode cM_room 9 = .ok (.invokestatic 93, 3) := by decide +kernel
theorem d_M_room_12 : decode cM_room 12 = .ok (.ifCond .eq 17, 3) := by decide +kernel
theorem d_M_room_15 : decode cM_room 15 = .ok (.iload_n 3, 1) := by decide +kernel
theorem d_M_room_16 : decode cM_room 16 = .ok (.iconst 0, 1) := by decide +kernel
theorem d_M_room_17 : decode cM_room 17 = .ok (.bipush 6, 2) := by decide +kernel
theorem d_M_room_19 : decode cM_room 19 = .ok (.invokestatic 93, 3) := by decide +kernel
theorem d_M_room_22 : decode cM_room 22 = .ok (.ifCond .eq 7, 3) := by decide +kernel
theorem d_M_room_25 : decode cM_room 25 = .ok (.iconst 1, 1) := by decide +kernel
theorem d_M_room_26 : decode cM_room 26 = .ok (.goto 4, 3) := by decide +kernel
theorem d_M_room_29 : decode cM_room 29 = .ok (.iconst 0, 1) := by decide +kernel
theorem d_M_room_30 : decode cM_room 30 = .ok (.invokevirtual 97, 3) := by decide +kernel
theorem d_M_room_33 : decode cM_room 33 = .ok (.ifCond .ne 4, 3) := by decide +kernel
theorem d_M_room_36 : decode cM_room 36 = .ok (.return_, 1) := by decide +kernel
theorem d_M_room_37 : decode cM_room 37 = .ok (.aload_n 0, 1) := by decide +kernel
theorem d_M_room_38 : decode cM_room 38 = .ok (.getfield 47, 3) := by decide +kernel
theorem d_M_room_41 : decode cM_room 41 = .ok (.iload_n 1, 1) := by decide +kernel
theorem d_M_room_42 : decode cM_room 42 = .ok (.iload_n 2, 1) := by decide +kernel
theorem d_M_room_43 : decode cM_room 43 = .ok (.iastore, 1) := by decide +kernel
theorem d_M_room_44 : decode cM_room 44 = .ok (.aload_n 0, 1) := by decide +kernel
theorem d_M_room_45 : decode cM_room 45 = .ok (.getfield 50, 3) := by decide +kernel
theorem d_M_room_48 : decode cM_room 48 = .ok (.iload_n 1, 1) := by decide +kernel
theorem d_M_room_49 : decode cM_room 49 = .ok (.iload_n 3, 1) := by decide +kernel
theorem d_M_room_50 : decode cM_room 50 = .ok (.iastore, 1) := by decide +kernel
theorem d_M_room_51 : decode cM_room 51 = .ok (.aload_n 0, 1) := by decide +kernel
theorem d_M_room_52 : decode cM_room 52 = .ok (.getfield 53, 3) := by decide +kernel
theorem d_M_room_55 : decode cM_room 55 = .ok (.iload_n 1, 1) := by decide +kernel
theorem d_M_room_56 : decode cM_room 56 = .ok (.iload 4, 2) := by decide +kernel
theorem d_M_room_58 : decode cM_room 58 = .ok (.bastore, 1) := by decide +kernel
theorem d_M_room_59 : decode cM_room 59 = .ok (.bipush 36, 2) := by decide +kernel
theorem d_M_room_61 : decode cM_room 61 = .ok (.iload_n 1, 1) := by decide +kernel
theorem d_M_room_62 : decode cM_room 62 = .ok (.imul, 1) := by decide +kernel
theorem d_M_room_63 : decode cM_room 63 = .ok (.istore 5, 2) := by decide +kernel
theorem d_M_room_65 : decode cM_room 65 = .ok (.iload 5, 2) := by decide +kernel
theorem d_M_room_67 : decode cM_room 67 = .ok (.bipush 36, 2) := by decide +kernel
theorem d_M_room_69 : decode cM_room 69 = .ok (.iload_n 1, 1) := by decide +kernel
theorem d_M_room_70 : decode cM_room 70 = .ok (.imul, 1) := by decide +kernel
theorem d_M_room_71 : decode cM_room 71 = .ok (.bipush 36, 2) := by decide +kernel
theorem d_M_room_73 : decode cM_room 73 = .ok (.iadd, 1) := by decide +kernel
theorem d_M_room_74 : decode cM_room 74 = .ok (.if_icmp .ge 48, 3) := by decide +kernel
theorem d_M_room_77 : decode cM_room 77 = .ok (.aload_n 0, 1) := by decide +kernel
theorem d_M_room_78 : decode cM_room 78 = .ok (.getfield 56, 3) := by decide +kernel
theorem d_M_room_81 : decode cM_room 81 = .ok (.iload 5, 2) := by decide +kernel
theorem d_M_room_83 : decode cM_room 83 = .ok (.iconst 0, 1) := by decide +kernel
theorem d_M_room_84 : decode cM_room 84 = .ok (.bastore, 1) := by decide +kernel
theorem d_M_room_85 : decode cM_room 85 = .ok (.iconst 0, 1) := by decide +kernel
theorem d_M_room_86 : decode cM_room 86 = .ok (.istore 6, 2) := by decide +kernel
theorem d_M_room_88 : decode cM_room 88 = .ok (.iload 6, 2) := by decide +kernel
theorem d_M_room_90 : decode cM_room 90 = .ok (.bipush 6, 2) := by decide +kernel
theorem d_M_room_92 : decode cM_room 92 = .ok (.if_icmp .ge 24, 3) := by decide +kernel
theorem d_M_room_95 : decode cM_room 95 = .ok (.aload_n 0, 1) := by decide +kernel
theorem d_M_room_96 : decode cM_room 96 = .ok (.getfield 59, 3) := by decide +kernel
theorem d_M_room_99 : decode cM_room 99 = .ok (.sipush 144, 3) := by decide +kernel
theorem d_M_room_102 : decode cM_room 102 = .ok (.iload 6, 2) := by decide +kernel
theorem d_M_room_104 : decode cM_room 104 = .ok (.imul, 1) := by decide +kernel
theorem d_M_room_105 : decode cM_room 105 = .ok (.iload 5, 2) := by decide +kernel
theorem d_M_room_107 : decode cM_room 107 = .ok (.iadd, 1) := by decide +kernel
theorem d_M_room_108 : decode cM_room 108 = .ok (.iconst 0, 1) := by decide +kernel
theorem d_M_room_109 : decode cM_room 109 = .ok (.iastore, 1) := by decide +kernel
theorem d_M_room_110 : decode cM_room 110 = .ok (.iinc 6 1, 3) := by decide +kernel
theorem d_M_room_113 : decode cM_room 113 = .ok (.goto (-25), 3) := by decide +kernel
theorem d_M_room_116 : decode cM_room 116 = .ok (.iinc 5 1, 3) := by decide +kernel
theorem d_M_room_119 : decode cM_room 119 = .ok (.goto (-54), 3) := by decide +kernel
theorem d_M_room_122 : decode cM_room 122 = .ok (.iconst 0, 1) := by decide +kernel
theorem d_M_room_123 : decode cM_room 123 = .ok (.istore 5, 2) := by decide +kernel
theorem d_M_room_125 : decode cM_room 125 = .ok (.iload 5, 2) := by decide +kernel
theorem d_M_room_127 : decode cM_room 127 = .ok (.sipush 240, 3) := by decide +kernel
theorem d_M_room_130 : decode cM_room 130 = .ok (.if_icmp .ge 17, 3) := by decide +kernel
theorem d_M_room_133 : decode cM_room 133 = .ok (.aload_n 0, 1) := by decide +kernel
theorem d_M_room_134 : decode cM_room 134 = .ok (.getfield 71, 3) := by decide +kernel
theorem d_M_room_137 : decode cM_room 137 = .ok (.iload 5, 2) := by decide +kernel
theorem d_M_room_139 : decode cM_room 139 = .ok (.iconst 0, 1) := by decide +kernel
theorem d_M_room_140 : decode cM_room 140 = .ok (.bastore, 1) := by decide +kernel
theorem d_M_room_141 : decode cM_room 141 = .ok (.iinc 5 1, 3) := by decide +kernel
theorem d_M_room_144 : decode cM_room 144 = .ok (.goto (-19), 3) := by decide +kernel
theorem d_M_room_147 : decode cM_room 147 = .ok (.return_, 1) := by decide +kernel
theorem d_M_isRoom_0 : decode cM_isRoom 0 = .ok (.iload_n 0, 1) := by decide +kernel
theorem d_M_isRoom_1 : decode cM_isRoom 1 = .ok (.ifCond .lt 12, 3) := by decide +kernel
theorem d_M_isRoom_4 : decode cM_isRoom 4 = .ok (.iload_n 0, 1) := by decide +kernel
theorem d_M_isRoom_5 : decode cM_isRoom 5 = .ok (.iconst 4, 1) := by decide +kernel
theorem d_M_isRoom_6 : decode cM_isRoom 6 = .ok (.if_icmp .ge 7, 3) := by decide +kernel
theorem d_M_isRoom_9 : decode cM_isRoom 9 = .ok (.iconst 1, 1) := by decide +kernel
theorem d_M_isRoom_10 : decode cM_isRoom 10 = .ok (.goto 4, 3) := by decide +kernel
theorem d_M_isRoom_13 : decode cM_isRoom 13 = .ok (.iconst 0, 1) := by decide +kernel
theorem d_M_isRoom_14 : decode cM_isRoom 14 = .ok (.ireturn, 1) := by decide +kernel
theorem d_M_block_0 : decode cM_block 0 = .ok (.aload_n 0, 1) := by decide +kernel
theorem d_M_block_1 : decode cM_block 1 = .ok (.iload_n 1, 1) := by decide +kernel
theorem d_M_block_2 : decode cM_block 2 = .ok (.iload_n 2, 1) := by decide +kernel
theorem d_M_block_3 : decode cM_block 3 = .ok (.iload_n 3, 1) := by decide +kernel
theorem d_M_block_4 : decode cM_block 4 = .ok (.invokevirtual 141, 3) := by decide +kernel
theorem d_M_block_7 : decode cM_block 7 = .ok (.istore 5, 2) := by decide +kernel
theorem d_M_block_9 : decode cM_block 9 = .ok (.iload 5, 2) := by decide +kernel
theorem d_M_block_11 : decode cM_block 11 = .ok (.ifCond .eq 17, 3) := by decide +kernel
theorem d_M_block_14 : decode cM_block 14 = .ok (.bipush 36, 2) := by decide +kernel
theorem d_M_block_16 : decode cM_block 16 = .ok (.iload_n 1, 1) := by decide +kernel
theorem d_M_block_17 : decode cM_block 17 = .ok (.imul, 1) := by decide +kernel
theorem d_M_block_18 : decode cM_block 18 = .ok (.bipush 6, 2) := by decide +kernel
theorem d_M_block_20 : decode cM_block 20 = .ok (.iload_n 2, 1) := by decide +kernel
theorem d_M_block_21 : decode cM_block 21 = .ok (.imul, 1) := by decide +kernel
theorem d_M_block_22 : decode cM_block 22 = .ok (.iadd, 1) := by decide +kernel
theorem d_M_block_23 : decode cM_block 23 = .ok (.iload_n 3, 1) := by decide +kernel
theorem d_M_block_24 : decode cM_block 24 = .ok (.iadd, 1) := by decide +kernel
theorem d_M_block_25 : decode cM_block 25 = .ok (.goto 4, 3) := by decide +kernel
theorem d_M_block_28 : decode cM_block 28 = .ok (.iconst 0, 1) := by decide +kernel
theorem d_M_block_29 : decode cM_block 29 = .ok (.istore 6, 2) := by decide +kernel
theorem d_M_block_31 : decode cM_block 31 = .ok (.iconst 0, 1) := by decide +kernel
theorem d_M_block_32 : decode cM_block 32 = .ok (.istore 7, 2) := by decide +kernel
theorem d_M_block_34 : decode cM_block 34 = .ok (.iconst 0, 1) := by decide +kernel
theorem d_M_block_35 : decode cM_block 35 = .ok (.istore 8, 2) := by decide +kernel
theorem d_M_block_37 : decode cM_block 37 = .ok (.iload 8, 2) := by decide +kernel
theorem d_M_block_39 : decode cM_block 39 = .ok (.bipush 6, 2) := by decide +kernel
theorem d_M_block_41 : decode cM_block 41 = .ok (.if_icmp .ge 38, 3) := by decide +kernel
theorem d_M_block_44 : decode cM_block 44 = .ok (.iload 7, 2) := by decide +kernel
theorem d_M_block_46 : decode cM_block 46 = .ok (.ifCond .ne 20, 3) := by decide +kernel
theorem d_M_block_49 : decode cM_block 49 = .ok (.aload_n 0, 1) := by decide +kernel
theorem d_M_block_50 : decode cM_block 50 = .ok (.getfield 59, 3) := by decide +kernel
theorem d_M_block_53 : decode cM_block 53 = .ok (.sipush 144, 3) := by decide +kernel
theorem d_M_block_56 : decode cM_block 56 = .ok (.iload 8, 2) := by decide +kernel
theorem d_M_block_58 : decode cM_block 58 = .ok (.imul, 1) := by decide +kernel
theorem d_M_block_59 : decode cM_block 59 = .ok (.iload 6, 2) := by decide +kernel
theorem d_M_block_61 : decode cM_block 61 = .ok (.iadd, 1) := by decide +kernel
theorem d_M_block_62 : decode cM_block 62 = .ok (.iaload, 1) := by decide +kernel
theorem d_M_block_63 : decode cM_block 63 = .ok (.ifCond .le 7, 3) := by decide +kernel
theorem d_M_block_66 : decode cM_block 66 = .ok (.iconst 1, 1) := by decide +kernel
theorem d_M_block_67 : decode cM_block 67 = .ok (.goto 4, 3) := by decide +kernel
theorem d_M_block_70 : decode cM_block 70 = .ok (.iconst 0, 1) := by decide +kernel
theorem d_M_block_71 : decode cM_block 71 = .ok (.istore 7, 2) := by decide +kernel
theorem d_M_block_73 : decode cM_block 73 = .ok (.iinc 8 1, 3) := by decide +kernel
theorem d_M_block_76 : decode cM_block 76 = .ok (.goto (-39), 3) := by decide +kernel
theorem d_M_block_79 : decode cM_block 79 = .ok (.aload_n 0, 1) := by decide +kernel
theorem d_M_block_80 : decode cM_block 80 = .ok (.iload 5, 2) := by decide +kernel
theorem d_M_block_82 : decode cM_block 82 = .ok (.iload 7, 2) := by decide +kernel
theorem d_M_block_84 : decode cM_block 84 = .ok (.ifCond .ne 7, 3) := by decide +kernel
theorem d_M_block_87 : decode cM_block 87 = .ok (.iconst 1, 1) := by decide +kernel
theorem d_M_block_88 : decode cM_block 88 = .ok (.goto 4, 3) := by decide +kernel
theorem d_M_block_91 : decode cM_block 91 = .ok (.iconst 0, 1) := by decide +kernel
theorem d_M_block_92 : decode cM_block 92 = .ok (.invokevirtual 97, 3) := by decide +kernel
theorem d_M_block_95 : decode cM_block 95 = .ok (.ifCond .ne 5, 3) := by decide +kernel
theorem d_M_block_98 : decode cM_block 98 = .ok (.iconst 0, 1) := by decide +kernel
theorem d_M_block_99 : decode cM_block 99 = .ok (.ireturn, 1) := by decide +kernel
theorem d_M_block_100 : decode cM_block 100 = .ok (.aload_n 0, 1) := by decide +kernel
theorem d_M_block_101 : decode cM_block 101 = .ok (.getfield 56, 3) := by decide +kernel
theorem d_M_block_104 : decode cM_block 104 = .ok (.iload 6, 2) := by decide +kernel
theorem d_M_block_106 : decode cM_block 106 = .ok (.baload, 1) := by decide +kernel
theorem d_M_block_107 : decode cM_block 107 = .ok (.iload 4, 2) := by decide +kernel
theorem d_M_block_109 : decode cM_block 109 = .ok (.if_icmp .eq 7, 3) := by decide +kernel
theorem d_M_block_112 : decode cM_block 112 = .ok (.iconst 1, 1) := by decide +kernel
theorem d_M_block_113 : decode cM_block 113 = .ok (.goto 4, 3) := by decide +kernel
theorem d_M_block_116 : decode cM_block 116 = .ok (.iconst 0, 1) := by decide +kernel
theorem d_M_block_117 : decode cM_block 117 = .ok (.istore 8, 2) := by decide +kernel
theorem d_M_block_119 : decode cM_block 119 = .ok (.aload_n 0, 1) := by decide +kernel
theorem d_M_block_120 : decode cM_block 120 = .ok (.getfield 56, 3) := by decide +kernel
theorem d_M_block_123 : decode cM_block 123 = .ok (.iload 6, 2) := by decide +kernel
theorem d_M_block_125 : decode cM_block 125 = .ok (.iload 4, 2) := by decide +kernel
theorem d_M_block_127 : decode cM_block 127 = .ok (.bastore, 1) := by decide +kernel
theorem d_M_block_128 : decode cM_block 128 = .ok (.iload 8, 2) := by decide +kernel
theorem d_M_block_130 : decode cM_block 130 = .ok (.ireturn, 1) := by decide +kernel
theorem d_M_isSeat_0 : decode cM_isSeat 0 = .ok (.iload_n 1, 1) := by decide +kernel
theorem d_M_isSeat_1 : decode cM_isSeat 1 = .ok (.invokestatic 138, 3) := by decide +kernel
theorem d_M_isSeat_4 : decode cM_isSeat 4 = .ok (.ifCond .eq 35, 3) := by decide +kernel
theorem d_M_isSeat_7 : decode cM_isSeat 7 = .ok (.iload_n 2, 1) := by decide +kernel
theorem d_M_isSeat_8 : decode cM_isSeat 8 = .ok (.ifCond .lt 31, 3) := by decide +kernel
theorem d_M_isSeat_11 : decode cM_isSeat 11 = .ok (.iload_n 2, 1) := by decide +kernel
theorem d_M_isSeat_12 : decode cM_isSeat 12 = .ok (.aload_n 0, 1) := by decide +kernel
theorem d_M_isSeat_13 : decode cM_isSeat 13 = .ok (.getfield 47, 3) := by decide +kernel
theorem d_M_isSeat_16 : decode cM_isSeat 16 = .ok (.iload_n 1, 1) := by decide +kernel
theorem d_M_isSeat_17 : decode cM_isSeat 17 = .ok (.iaload, 1) := by decide +kernel
theorem d_M_isSeat_18 : decode cM_isSeat 18 = .ok (.if_icmp .ge 21, 3) := by decide +kernel
theorem d_M_isSeat_21 : decode cM_isSeat 21 = .ok (.iload_n 3, 1) := by decide +kernel
theorem d_M_isSeat_22 : decode cM_isSeat 22 = .ok (.ifCond .lt 17, 3) := by decide +kernel
theorem d_M_isSeat_25 : decode cM_isSeat 25 = .ok (.iload_n 3, 1) := by decide +kernel
theorem d_M_isSeat_26 : decode cM_isSeat 26 = .ok (.aload_n 0, 1) := by decide +kernel
theorem d_M_isSeat_27 : decode cM_isSeat 27 = .ok (.getfield 50, 3) := by decide +kernel
theorem d_M_isSeat_30 : decode cM_isSeat 30 = .ok (.iload_n 1, 1) := by decide +kernel
theorem d_M_isSeat_31 : decode cM_isSeat 31 = .ok (.iaload, 1) := by decide +kernel
theorem d_M_isSeat_32 : decode cM_isSeat 32 = .ok (.if_icmp .ge 7, 3) := by decide +kernel
theorem d_M_isSeat_35 : decode cM_isSeat 35 = .ok (.iconst 1, 1) := by decide +kernel
theorem d_M_isSeat_36 : decode cM_isSeat 36 = .ok (.goto 4, 3) := by decide +kernel
theorem d_M_isSeat_39 : decode cM_isSeat 39 = .ok (.iconst 0, 1) := by decide +kernel
theorem d_M_isSeat_40 : decode cM_isSeat 40 = .ok (.ireturn, 1) := by decide +kernel
theorem d_M_seat_0 : decode cM_seat 0 = .ok (.aload_n 0, 1) := by decide +kernel
theorem d_M_seat_1 : decode cM_seat 1 = .ok (.iload_n 1, 1) := by decide +kernel
theorem d_M_seat_2 : decode cM_seat 2 = .ok (.invokestatic 104, 3) := by decide +kernel
theorem d_M_seat_5 : decode cM_seat 5 = .ok (.aload_n 0, 1) := by decide +kernel
theorem d_M_seat_6 : decode cM_seat 6 = .ok (.getfield 85, 3) := by decide +kernel
theorem d_M_seat_9 : decode cM_seat 9 = .ok (.invokevirtual 97, 3) := by decide +kernel
theorem d_M_seat_12 : decode cM_seat 12 = .ok (.ifCond .ne 5, 3) := by decide +kernel
theorem d_M_seat_15 : decode cM_seat 15 = .ok (.iconst 0, 1) := by decide +kernel
theorem d_M_seat_16 : decode cM_seat 16 = .ok (.ireturn, 1) := by decide +kernel
theorem d_M_seat_17 : decode cM_seat 17 = .ok (.iconst 0, 1) := by decide +kernel
theorem d_M_seat_18 : decode cM_seat 18 = .ok (.istore_n 2, 1) := by decide +kernel
theorem d_M_seat_19 : decode cM_seat 19 = .ok (.iconst 0, 1) := by decide +kernel
theorem d_M_seat_20 : decode cM_seat 20 = .ok (.istore_n 3, 1) := by decide +kernel
theorem d_M_seat_21 : decode cM_seat 21 = .ok (.iload_n 3, 1) := by decide +kernel
theorem d_M_seat_22 : decode cM_seat 22 = .ok (.bipush 40, 2) := by decide +kernel
theorem d_M_seat_24 : decode cM_seat 24 = .ok (.if_icmp .ge 94, 3) := by decide +kernel
theorem d_M_seat_27 : decode cM_seat 27 = .ok (.aload_n 0, 1) := by decide +kernel
theorem d_M_seat_28 : decode cM_seat 28 = .ok (.iload_n 3, 1) := by decide +kernel
theorem d_M_seat_29 : decode cM_seat 29 = .ok (.iload_n 1, 1) := by decide +kernel
theorem d_M_seat_30 : decode cM_seat 30 = .ok (.invokevirtual 135, 3) := by decide +kernel
theorem d_M_seat_33 : decode cM_seat 33 = .ok (.istore 4, 2) := by decide +kernel
theorem d_M_seat_35 : decode cM_seat 35 = .ok (.iload 4, 2) := by decide +kernel
theorem d_M_seat_37 : decode cM_seat 37 = .ok (.iconst (-1), 1) := by decide +kernel
theorem d_M_seat_38 : decode cM_seat 38 = .ok (.if_icmp .eq 74, 3) := by decide +kernel
theorem d_M_seat_41 : decode cM_seat 41 = .ok (.aload_n 0, 1) := by decide +kernel
theorem d_M_seat_42 : decode cM_seat 42 = .ok (.iload_n 3, 1) := by decide +kernel
theorem d_M_seat_43 : decode cM_seat 43 = .ok (.iload_n 1, 1) := by decide +kernel
theorem d_M_seat_44 : decode cM_seat 44 = .ok (.invokevirtual 148, 3) := by decide +kernel
theorem d_M_seat_47 : decode cM_seat 47 = .ok (.iconst (-1), 1) := by decide +kernel
theorem d_M_seat_48 : decode cM_seat 48 = .ok (.if_icmp .ne 64, 3) := by decide +kernel
theorem d_M_seat_51 : decode cM_seat 51 = .ok (.aload_n 0, 1) := by decide +kernel
theorem d_M_seat_52 : decode cM_seat 52 = .ok (.iload_n 1, 1) := by decide +kernel
theorem d_M_seat_53 : decode cM_seat 53 = .ok (.iload_n 3, 1) := by decide +kernel
theorem d_M_seat_54 : decode cM_seat 54 = .ok (.iload 4, 2) := by decide +kernel
theorem d_M_seat_56 : decode cM_seat 56 = .ok (.invokevirtual 151, 3) := by decide +kernel
theorem d_M_seat_59 : decode cM_seat 59 = .ok (.istore 5, 2) := by decide +kernel
theorem d_M_seat_61 : decode cM_seat 61 = .ok (.iload 5, 2) := by decide +kernel
theorem d_M_seat_63 : decode cM_seat 63 = .ok (.iconst (-1), 1) := by decide +kernel
theorem d_M_seat_64 : decode cM_seat 64 = .ok (.if_icmp .ne 9, 3) := by decide +kernel
theorem d_M_seat_67 : decode cM_seat 67 = .ok (.iload_n 2, 1) := by decide +kernel
theorem d_M_seat_68 : decode cM_seat 68 = .ok (.iconst 1, 1) := by decide +kernel
theorem d_M_seat_69 : decode cM_seat 69 = .ok (.iadd, 1) := by decide +kernel
theorem d_M_seat_70 : decode cM_seat 70 = .ok (.goto 4, 3) := by decide +kernel
theorem d_M_seat_73 : decode cM_seat 73 = .ok (.iload_n 2, 1) := by decide +kernel
theorem d_M_seat_74 : decode cM_seat 74 = .ok (.istore_n 2, 1) := by decide +kernel
theorem d_M_seat_75 : decode cM_seat 75 = .ok (.iload 5, 2) := by decide +kernel
theorem d_M_seat_77 : decode cM_seat 77 = .ok (.iconst (-1), 1) := by decide +kernel
theorem d_M_seat_78 : decode cM_seat 78 = .ok (.if_icmp .eq 34, 3) := by decide +kernel
theorem d_M_seat_81 : decode cM_seat 81 = .ok (.aload_n 0, 1) := by decide +kernel
theorem d_M_seat_82 : decode cM_seat 82 = .ok (.getfield 59, 3) := by decide +kernel
theorem d_M_seat_85 : decode cM_seat 85 = .ok (.sipush 144, 3) := by decide +kernel
theorem d_M_seat_88 : decode cM_seat 88 = .ok (.iload_n 1, 1) := by decide +kernel
theorem d_M_seat_89 : decode cM_seat 89 = .ok (.imul, 1) := by decide +kernel
theorem d_M_seat_90 : decode cM_seat 90 = .ok (.iload 5, 2) := by decide +kernel
theorem d_M_seat_92 : decode cM_seat 92 = .ok (.iadd, 1) := by decide +kernel
theorem d_M_seat_93 : decode cM_seat 93 = .ok (.iload_n 3, 1) := by decide +kernel
theorem d_M_seat_94 : decode cM_seat 94 = .ok (.iconst 1, 1) := by decide +kernel
theorem d_M_seat_95 : decode cM_seat 95 = .ok (.iadd, 1) := by decide +kernel
theorem d_M_seat_96 : decode cM_seat 96 = .ok (.iastore, 1) := by decide +kernel
theorem d_M_seat_97 : decode cM_seat 97 = .ok (.aload_n 0, 1) := by decide +kernel
theorem d_M_seat_98 : decode cM_seat 98 = .ok (.getfield 62, 3) := by decide +kernel
theorem d_M_seat_101 : decode cM_seat 101 = .ok (.sipush 144, 3) := by decide +kernel
theorem d_M_seat_104 : decode cM_seat 104 = .ok (.iload_n 1, 1) := by decide +kernel
theorem d_M_seat_105 : decode cM_seat 105 = .ok (.imul, 1) := by decide +kernel
theorem d_M_seat_106 : decode cM_seat 106 = .ok (.iload 5, 2) := by decide +kernel
theorem d_M_seat_108 : decode cM_seat 108 = .ok (.iadd, 1) := by decide +kernel
theorem d_M_seat_109 : decode cM_seat 109 = .ok (.iload 4, 2) := by decide +kernel
theorem d_M_seat_111 : decode cM_seat 111 = .ok (.iastore, 1) := by decide +kernel
theorem d_M_seat_112 : decode cM_seat 112 = .ok (.iinc 3 1, 3) := by decide +kernel
theorem d_M_seat_115 : decode cM_seat 115 = .ok (.goto (-94), 3) := by decide +kernel
theorem d_M_seat_118 : decode cM_seat 118 = .ok (.iload_n 2, 1) := by decide +kernel
theorem d_M_seat_119 : decode cM_seat 119 = .ok (.ireturn, 1) := by decide +kernel
theorem d_M_place_0 : decode cM_place 0 = .ok (.iconst 0, 1) := by decide +kernel
theorem d_M_place_1 : decode cM_place 1 = .ok (.istore_n 3, 1) := by decide +kernel
theorem d_M_place_2 : decode cM_place 2 = .ok (.iload_n 3, 1) := by decide +kernel
theorem d_M_place_3 : decode cM_place 3 = .ok (.sipush 144, 3) := by decide +kernel
theorem d_M_place_6 : decode cM_place 6 = .ok (.if_icmp .ge 29, 3) := by decide +kernel
theorem d_M_place_9 : decode cM_place 9 = .ok (.aload_n 0, 1) := by decide +kernel
theorem d_M_place_10 : decode cM_place 10 = .ok (.getfield 59, 3) := by decide +kernel
theorem d_M_place_13 : decode cM_place 13 = .ok (.sipush 144, 3) := by decide +kernel
theorem d_M_place_16 : decode cM_place 16 = .ok (.iload_n 2, 1) := by decide +kernel
theorem d_M_place_17 : decode cM_place 17 = .ok (.imul, 1) := by decide +kernel
theorem d_M_place_18 : decode cM_place 18 = .ok (.iload_n 3, 1) := by decide +kernel
theorem d_M_place_19 : decode cM_place 19 = .ok (.iadd, 1) := by decide +kernel
theorem d_M_place_20 : decode cM_place 20 = .ok (.iaload, 1) := by decide +kernel
theorem d_M_place_21 : decode cM_place 21 = .ok (.iload_n 1, 1) := by decide +kernel
theorem d_M_place_22 : decode cM_place 22 = .ok (.iconst 1, 1) := by decide +kernel
theorem d_M_place_23 : decode cM_place 23 = .ok (.iadd, 1) := by decide +kernel
theorem d_M_place_24 : decode cM_place 24 = .ok (.if_icmp .ne 5, 3) := by decide +kernel
theorem d_M_place_27 : decode cM_place 27 = .ok (.iload_n 3, 1) := by decide +kernel
theorem d_M_place_28 : decode cM_place 28 = .ok (.ireturn, 1) := by decide +kernel
theorem d_M_place_29 : decode cM_place 29 = .ok (.iinc 3 1, 3) := by decide +kernel
theorem d_M_place_32 : decode cM_place 32 = .ok (.goto (-30), 3) := by decide +kernel
theorem d_M_place_35 : decode cM_place 35 = .ok (.iconst (-1), 1) := by decide +kernel
theorem d_M_place_36 : decode cM_place 36 = .ok (.ireturn, 1) := by decide +kernel
theorem d_M_seatFor_0 : decode cM_seatFor 0 = .ok (.iconst 0, 1) := by decide +kernel
theorem d_M_seatFor_1 : decode cM_seatFor 1 = .ok (.istore 4, 2) := by decide +kernel
theorem d_M_seatFor_3 : decode cM_seatFor 3 = .ok (.iload 4, 2) := by decide +kernel
theorem d_M_seatFor_5 : decode cM_seatFor 5 = .ok (.sipush 144, 3) := by decide +kernel
theorem d_M_seatFor_8 : decode cM_seatFor 8 = .ok (.if_icmp .ge 183, 3) := by decide +kernel
theorem d_M_seatFor_11 : decode cM_seatFor 11 = .ok (.iload 4, 2) := by decide +kernel
theorem d_M_seatFor_13 : decode cM_seatFor 13 = .ok (.bipush 36, 2) := by decide +kernel
theorem d_M_seatFor_15 : decode cM_seatFor 15 = .ok (.idiv, 1) := by decide +kernel
theorem d_M_seatFor_16 : decode cM_seatFor 16 = .ok (.istore 5, 2) := by decide +kernel
theorem d_M_seatFor_18 : decode cM_seatFor 18 = .ok (.iload 4, 2) := by decide +kernel
theorem d_M_seatFor_20 : decode cM_seatFor 20 = .ok (.bipush 36, 2) := by decide +kernel
theorem d_M_seatFor_22 : decode cM_seatFor 22 = .ok (.irem, 1) := by decide +kernel
theorem d_M_seatFor_23 : decode cM_seatFor 23 = .ok (.bipush 6, 2) := by decide +kernel
theorem d_M_seatFor_25 : decode cM_seatFor 25 = .ok (.idiv, 1) := by decide +kernel
theorem d_M_seatFor_26 : decode cM_seatFor 26 = .ok (.istore 6, 2) := by decide +kernel
theorem d_M_seatFor_28 : decode cM_seatFor 28 = .ok (.iload 4, 2) := by decide +kernel
theorem d_M_seatFor_30 : decode cM_seatFor 30 = .ok (.bipush 6, 2) := by decide +kernel
theorem d_M_seatFor_32 : decode cM_seatFor 32 = .ok (.irem, 1) := by decide +kernel
theorem d_M_seatFor_33 : decode cM_seatFor 33 = .ok (.istore 7, 2) := by decide +kernel
theorem d_M_seatFor_35 : decode cM_seatFor 35 = .ok (.aload_n 0, 1) := by decide +kernel
theorem d_M_seatFor_36 : decode cM_seatFor 36 = .ok (.iload 5, 2) := by decide +kernel
theorem d_M_seatFor_38 : decode cM_seatFor 38 = .ok (.iload 6, 2) := by decide +kernel
theorem d_M_seatFor_40 : decode cM_seatFor 40 = .ok (.iload 7, 2) := by decide +kernel
theorem d_M_seatFor_42 : decode cM_seatFor 42 = .ok (.invokevirtual 141, 3) := by decide +kernel
theorem d_M_seatFor_45 : decode cM_seatFor 45 = .ok (.ifCond .eq 49, 3) := by decide +kernel
theorem d_M_seatFor_48 : decode cM_seatFor 48 = .ok (.aload_n 0, 1) := by decide +kernel
theorem d_M_seatFor_49 : decode cM_seatFor 49 = .ok (.getfield 53, 3) := by decide +kernel
theorem d_M_seatFor_52 : decode cM_seatFor 52 = .ok (.iload 5, 2) := by decide +kernel
theorem d_M_seatFor_54 : decode cM_seatFor 54 = .ok (.baload, 1) := by decide +kernel
theorem d_M_seatFor_55 : decode cM_seatFor 55 = .ok (.aload_n 0, 1) := by decide +kernel
theorem d_M_seatFor_56 : decode cM_seatFor 56 = .ok (.getfield 23, 3) := by decide +kernel
theorem d_M_seatFor_59 : decode cM_seatFor 59 = .ok (.iload_n 2, 1) := by decide +kernel
theorem d_M_seatFor_60 : decode cM_seatFor 60 = .ok (.baload, 1) := by decide +kernel
theorem d_M_seatFor_61 : decode cM_seatFor 61 = .ok (.if_icmp .ne 33, 3) := by decide +kernel
theorem d_M_seatFor_64 : decode cM_seatFor 64 = .ok (.aload_n 0, 1) := by decide +kernel
theorem d_M_seatFor_65 : decode cM_seatFor 65 = .ok (.getfield 56, 3) := by decide +kernel
theorem d_M_seatFor_68 : decode cM_seatFor 68 = .ok (.iload 4, 2) := by decide +kernel
theorem d_M_seatFor_70 : decode cM_seatFor 70 = .ok (.baload, 1) := by decide +kernel
theorem d_M_seatFor_71 : decode cM_seatFor 71 = .ok (.ifCond .ne 23, 3) := by decide +kernel
theorem d_M_seatFor_74 : decode cM_seatFor 74 = .ok (.aload_n 0, 1) := by decide +kernel
theorem d_M_seatFor_75 : decode cM_seatFor 75 = .ok (.getfield 59, 3) := by decide +kernel
theorem d_M_seatFor_78 : decode cM_seatFor 78 = .ok (.sipush 144, 3) := by decide +kernel
theorem d_M_seatFor_81 : decode cM_seatFor 81 = .ok (.iload_n 1, 1) := by decide +kernel
theorem d_M_seatFor_82 : decode cM_seatFor 82 = .ok (.imul, 1) := by decide +kernel
theorem d_M_seatFor_83 : decode cM_seatFor 83 = .ok (.iload 4, 2) := by decide +kernel
theorem d_M_seatFor_85 : decode cM_seatFor 85 = .ok (.iadd, 1) := by decide +kernel
theorem d_M_seatFor_86 : decode cM_seatFor 86 = .ok (.iaload, 1) := by decide +kernel
theorem d_M_seatFor_87 : decode cM_seatFor 87 = .ok (.ifCond .ne 7, 3) := by decide +kernel
theorem d_M_seatFor_90 : decode cM_seatFor 90 = .ok (.iconst 1, 1) := by decide +kernel
theorem d_M_seatFor_91 : decode cM_seatFor 91 = .ok (.goto 4, 3) := by decide +kernel
theorem d_M_seatFor_94 : decode cM_seatFor 94 = .ok (.iconst 0, 1) := by decide +kernel
theorem d_M_seatFor_95 : decode cM_seatFor 95 = .ok (.istore 8, 2) := by decide +kernel
theorem d_M_seatFor_97 : decode cM_seatFor 97 = .ok (.aload_n 0, 1) := by decide +kernel
theorem d_M_seatFor_98 : decode cM_seatFor 98 = .ok (.iload_n 1, 1) := by decide +kernel
theorem d_M_seatFor_99 : decode cM_seatFor 99 = .ok (.iload 5, 2) := by decide +kernel
theorem d_M_seatFor_101 : decode cM_seatFor 101 = .ok (.iload 6, 2) := by decide +kernel
theorem d_M_seatFor_103 : decode cM_seatFor 103 = .ok (.iload 7, 2) := by decide +kernel
theorem d_M_seatFor_105 : decode cM_seatFor 105 = .ok (.iconst 1, 1) := by decide +kernel
theorem d_M_seatFor_106 : decode cM_seatFor 106 = .ok (.isub, 1) := by decide +kernel
theorem d_M_seatFor_107 : decode cM_seatFor 107 = .ok (.iload_n 3, 1) := by decide +kernel
theorem d_M_seatFor_108 : decode cM_seatFor 108 = .ok (.invokevirtual 144, 3) := by decide +kernel
theorem d_M_seatFor_111 : decode cM_seatFor 111 = .ok (.ifCond .ne 54, 3) := by decide +kernel
theorem d_M_seatFor_114 : decode cM_seatFor 114 = .ok (.aload_n 0, 1) := by decide +kernel
theorem d_M_seatFor_115 : decode cM_seatFor 115 = .ok (.iload_n 1, 1) := by decide +kernel
theorem d_M_seatFor_116 : decode cM_seatFor 116 = .ok (.iload 5, 2) := by decide +kernel
theorem d_M_seatFor_118 : decode cM_seatFor 118 = .ok (.iload 6, 2) := by decide +kernel
theorem d_M_seatFor_120 : decode cM_seatFor 120 = .ok (.iload 7, 2) := by decide +kernel
theorem d_M_seatFor_122 : decode cM_seatFor 122 = .ok (.iconst 1, 1) := by decide +kernel
theorem d_M_seatFor_123 : decode cM_seatFor 123 = .ok (.iadd, 1) := by decide +kernel
theorem d_M_seatFor_124 : decode cM_seatFor 124 = .ok (.iload_n 3, 1) := by decide +kernel
theorem d_M_seatFor_125 : decode cM_seatFor 125 = .ok (.invokevirtual 144, 3) := by decide +kernel
theorem d_M_seatFor_128 : decode cM_seatFor 128 = .ok (.ifCond .ne 37, 3) := by decide +kernel
theorem d_M_seatFor_131 : decode cM_seatFor 131 = .ok (.aload_n 0, 1) := by decide +kernel
theorem d_M_seatFor_132 : decode cM_seatFor 132 = .ok (.iload_n 1, 1) := by decide +kernel
theorem d_M_seatFor_133 : decode cM_seatFor 133 = .ok (.iload 5, 2) := by decide +kernel
theorem d_M_seatFor_135 : decode cM_seatFor 135 = .ok (.iload 6, 2) := by decide +kernel
theorem d_M_seatFor_137 : decode cM_seatFor 137 = .ok (.iconst 1, 1) := by decide +kernel
theorem d_M_seatFor_138 : decode cM_seatFor 138 = .ok (.isub, 1) := by decide +kernel
theorem d_M_seatFor_139 : decode cM_seatFor 139 = .ok (.iload 7, 2) := by decide +kernel
theorem d_M_seatFor_141 : decode cM_seatFor 141 = .ok (.iload_n 3, 1) := by decide +kernel
theorem d_M_seatFor_142 : decode cM_seatFor 142 = .ok (.invokevirtual 144, 3) := by decide +kernel
theorem d_M_seatFor_145 : decode cM_seatFor 145 = .ok (.ifCond .ne 20, 3) := by decide +kernel
theorem d_M_seatFor_148 : decode cM_seatFor 148 = .ok (.aload_n 0, 1) := by decide +kernel
theorem d_M_seatFor_149 : decode cM_seatFor 149 = .ok (.iload_n 1, 1) := by decide +kernel
theorem d_M_seatFor_150 : decode cM_seatFor 150 = .ok (.iload 5, 2) := by decide +kernel
theorem d_M_seatFor_152 : decode cM_seatFor 152 = .ok (.iload 6, 2) := by decide +kernel
theorem d_M_seatFor_154 : decode cM_seatFor 154 = .ok (.iconst 1, 1) := by decide +kernel
theorem d_M_seatFor_155 : decode cM_seatFor 155 = .ok (.iadd, 1) := by decide +kernel
theorem d_M_seatFor_156 : decode cM_seatFor 156 = .ok (.iload 7, 2) := by decide +kernel
theorem d_M_seatFor_158 : decode cM_seatFor 158 = .ok (.iload_n 3, 1) := by decide +kernel
theorem d_M_seatFor_159 : decode cM_seatFor 159 = .ok (.invokevirtual 144, 3) := by decide +kernel
theorem d_M_seatFor_162 : decode cM_seatFor 162 = .ok (.ifCond .eq 7, 3) := by decide +kernel
theorem d_M_seatFor_165 : decode cM_seatFor 165 = .ok (.iconst 1, 1) := by decide +kernel
theorem d_M_seatFor_166 : decode cM_seatFor 166 = .ok (.goto 4, 3) := by decide +kernel
theorem d_M_seatFor_169 : decode cM_seatFor 169 = .ok (.iconst 0, 1) := by decide +kernel
theorem d_M_seatFor_170 : decode cM_seatFor 170 = .ok (.istore 9, 2) := by decide +kernel
theorem d_M_seatFor_172 : decode cM_seatFor 172 = .ok (.iload 8, 2) := by decide +kernel
theorem d_M_seatFor_174 : decode cM_seatFor 174 = .ok (.ifCond .eq 11, 3) := by decide +kernel
theorem d_M_seatFor_177 : decode cM_seatFor 177 = .ok (.iload 9, 2) := by decide +kernel
theorem d_M_seatFor_179 : decode cM_seatFor 179 = .ok (.ifCond .ne 6, 3) := by decide +kernel
theorem d_M_seatFor_182 : decode cM_seatFor 182 = .ok (.iload 4, 2) := by decide +kernel
theorem d_M_seatFor_184 : decode cM_seatFor 184 = .ok (.ireturn, 1) := by decide +kernel
theorem d_M_seatFor_185 : decode cM_seatFor 185 = .ok (.iinc 4 1, 3) := by decide +kernel
theorem d_M_seatFor_188 : decode cM_seatFor 188 = .ok (.goto (-185), 3) := by decide +kernel
theorem d_M_seatFor_191 : decode cM_seatFor 191 = .ok (.iconst (-1), 1) := by decide +kernel
theorem d_M_seatFor_192 : decode cM_seatFor 192 = .ok (.ireturn, 1) := by decide +kernel
theorem d_M_sitsFor_0 : decode cM_sitsFor 0 = .ok (.aload_n 0, 1) := by decide +kernel
theorem d_M_sitsFor_1 : decode cM_sitsFor 1 = .ok (.iload_n 2, 1) := by decide +kernel
theorem d_M_sitsFor_2 : decode cM_sitsFor 2 = .ok (.iload_n 3, 1) := by decide +kernel
theorem d_M_sitsFor_3 : decode cM_sitsFor 3 = .ok (.iload 4, 2) := by decide +kernel
theorem d_M_sitsFor_5 : decode cM_sitsFor 5 = .ok (.invokevirtual 141, 3) := by decide +kernel
theorem d_M_sitsFor_8 : decode cM_sitsFor 8 = .ok (.ifCond .ne 5, 3) := by decide +kernel
theorem d_M_sitsFor_11 : decode cM_sitsFor 11 = .ok (.iconst 0, 1) := by decide +kernel
theorem d_M_sitsFor_12 : decode cM_sitsFor 12 = .ok (.ireturn, 1) := by decide +kernel
theorem d_M_sitsFor_13 : decode cM_sitsFor 13 = .ok (.sipush 144, 3) := by decide +kernel
theorem d_M_sitsFor_16 : decode cM_sitsFor 16 = .ok (.iload_n 1, 1) := by decide +kernel
theorem d_M_sitsFor_17 : decode cM_sitsFor 17 = .ok (.imul, 1) := by decide +kernel
theorem d_M_sitsFor_18 : decode cM_sitsFor 18 = .ok (.bipush 36, 2) := by decide +kernel
theorem d_M_sitsFor_20 : decode cM_sitsFor 20 = .ok (.iload_n 2, 1) := by decide +kernel
theorem d_M_sitsFor_21 : decode cM_sitsFor 21 = .ok (.imul, 1) := by decide +kernel
theorem d_M_sitsFor_22 : decode cM_sitsFor 22 = .ok (.iadd, 1) := by decide +kernel
theorem d_M_sitsFor_23 : decode cM_sitsFor 23 = .ok (.bipush 6, 2) := by decide +kernel
theorem d_M_sitsFor_25 : decode cM_sitsFor 25 = .ok (.iload_n 3, 1) := by decide +kernel
theorem d_M_sitsFor_26 : decode cM_sitsFor 26 = .ok (.imul, 1) := by decide +kernel
theorem d_M_sitsFor_27 : decode cM_sitsFor 27 = .ok (.iadd, 1) := by decide +kernel
theorem d_M_sitsFor_28 : decode cM_sitsFor 28 = .ok (.iload 4, 2) := by decide +kernel
theorem d_M_sitsFor_30 : decode cM_sitsFor 30 = .ok (.iadd, 1) := by decide +kernel
theorem d_M_sitsFor_31 : decode cM_sitsFor 31 = .ok (.istore 6, 2) := by decide +kernel
theorem d_M_sitsFor_33 : decode cM_sitsFor 33 = .ok (.aload_n 0, 1) := by decide +kernel
theorem d_M_sitsFor_34 : decode cM_sitsFor 34 = .ok (.getfield 59, 3) := by decide +kernel
theorem d_M_sitsFor_37 : decode cM_sitsFor 37 = .ok (.iload 6, 2) := by decide +kernel
theorem d_M_sitsFor_39 : decode cM_sitsFor 39 = .ok (.iaload, 1) := by decide +kernel
theorem d_M_sitsFor_40 : decode cM_sitsFor 40 = .ok (.ifCond .le 19, 3) := by decide +kernel
theorem d_M_sitsFor_43 : decode cM_sitsFor 43 = .ok (.aload_n 0, 1) := by decide +kernel
theorem d_M_sitsFor_44 : decode cM_sitsFor 44 = .ok (.getfield 62, 3) := by decide +kernel
theorem d_M_sitsFor_47 : decode cM_sitsFor 47 = .ok (.iload 6, 2) := by decide +kernel
theorem d_M_sitsFor_49 : decode cM_sitsFor 49 = .ok (.iaload, 1) := by decide +kernel
theorem d_M_sitsFor_50 : decode cM_sitsFor 50 = .ok (.iload 5, 2) := by decide +kernel
theorem d_M_sitsFor_52 : decode cM_sitsFor 52 = .ok (.if_icmp .ne 7, 3) := by decide +kernel
theorem d_M_sitsFor_55 : decode cM_sitsFor 55 = .ok (.iconst 1, 1) := by decide +kernel
theorem d_M_sitsFor_56 : decode cM_sitsFor 56 = .ok (.goto 4, 3) := by decide +kernel
theorem d_M_sitsFor_59 : decode cM_sitsFor 59 = .ok (.iconst 0, 1) := by decide +kernel
theorem d_M_sitsFor_60 : decode cM_sitsFor 60 = .ok (.ireturn, 1) := by decide +kernel
theorem d_M_leave_0 : decode cM_leave 0 = .ok (.aload_n 0, 1) := by decide +kernel
theorem d_M_leave_1 : decode cM_leave 1 = .ok (.iload_n 1, 1) := by decide +kernel
theorem d_M_leave_2 : decode cM_leave 2 = .ok (.invokestatic 107, 3) := by decide +kernel
theorem d_M_leave_5 : decode cM_leave 5 = .ok (.ifCond .eq 14, 3) := by decide +kernel
theorem d_M_leave_8 : decode cM_leave 8 = .ok (.iload_n 2, 1) := by decide +kernel
theorem d_M_leave_9 : decode cM_leave 9 = .ok (.invokestatic 104, 3) := by decide +kernel
theorem d_M_leave_12 : decode cM_leave 12 = .ok (.ifCond .eq 7, 3) := by decide +kernel
theorem d_M_leave_15 : decode cM_leave 15 = .ok (.iconst 1, 1) := by decide +kernel
theorem d_M_leave_16 : decode cM_leave 16 = .ok (.goto 4, 3) := by decide +kernel
theorem d_M_leave_19 : decode cM_leave 19 = .ok (.iconst 0, 1) := by decide +kernel
theorem d_M_leave_20 : decode cM_leave 20 = .ok (.iconst 1, 1) := by decide +kernel
theorem d_M_leave_21 : decode cM_leave 21 = .ok (.invokevirtual 97, 3) := by decide +kernel
theorem d_M_leave_24 : decode cM_leave 24 = .ok (.ifCond .ne 5, 3) := by decide +kernel
theorem d_M_leave_27 : decode cM_leave 27 = .ok (.iconst 0, 1) := by decide +kernel
theorem d_M_leave_28 : decode cM_leave 28 = .ok (.ireturn, 1) := by decide +kernel
theorem d_M_leave_29 : decode cM_leave 29 = .ok (.aload_n 0, 1) := by decide +kernel
theorem d_M_leave_30 : decode cM_leave 30 = .ok (.iload_n 1, 1) := by decide +kernel
theorem d_M_leave_31 : decode cM_leave 31 = .ok (.iload_n 2, 1) := by decide +kernel
theorem d_M_leave_32 : decode cM_leave 32 = .ok (.invokevirtual 148, 3) := by decide +kernel
theorem d_M_leave_35 : decode cM_leave 35 = .ok (.istore_n 3, 1) := by decide +kernel
theorem d_M_leave_36 : decode cM_leave 36 = .ok (.iload_n 3, 1) := by decide +kernel
theorem d_M_leave_37 : decode cM_leave 37 = .ok (.iconst (-1), 1) := by decide +kernel
theorem d_M_leave_38 : decode cM_leave 38 = .ok (.if_icmp .eq 16, 3) := by decide +kernel
theorem d_M_leave_41 : decode cM_leave 41 = .ok (.aload_n 0, 1) := by decide +kernel
theorem d_M_leave_42 : decode cM_leave 42 = .ok (.getfield 59, 3) := by decide +kernel
theorem d_M_leave_45 : decode cM_leave 45 = .ok (.sipush 144, 3) := by decide +kernel
theorem d_M_leave_48 : decode cM_leave 48 = .ok (.iload_n 2, 1) := by decide +kernel
theorem d_M_leave_49 : decode cM_leave 49 = .ok (.imul, 1) := by decide +kernel
theorem d_M_leave_50 : decode cM_leave 50 = .ok (.iload_n 3, 1) := by decide +kernel
theorem d_M_leave_51 : decode cM_leave 51 = .ok (.iadd, 1) := by decide +kernel
theorem d_M_leave_52 : decode cM_leave 52 = .ok (.iconst 0, 1) := by decide +kernel
theorem d_M_leave_53 : decode cM_leave 53 = .ok (.iastore, 1) := by decide +kernel
theorem d_M_leave_54 : decode cM_leave 54 = .ok (.iload_n 3, 1) := by decide +kernel
theorem d_M_leave_55 : decode cM_leave 55 = .ok (.invokestatic 155, 3) := by decide +kernel
theorem d_M_leave_58 : decode cM_leave 58 = .ok (.ireturn, 1) := by decide +kernel
theorem d_M_told_0 : decode cM_told 0 = .ok (.iload_n 0, 1) := by decide +kernel
theorem d_M_told_1 : decode cM_told 1 = .ok (.iconst (-1), 1) := by decide +kernel
theorem d_M_told_2 : decode cM_told 2 = .ok (.if_icmp .ne 7, 3) := by decide +kernel
theorem d_M_told_5 : decode cM_told 5 = .ok (.iconst (-1), 1) := by decide +kernel
theorem d_M_told_6 : decode cM_told 6 = .ok (.goto 26, 3) := by decide +kernel
theorem d_M_told_9 : decode cM_told 9 = .ok (.bipush 100, 2) := by decide +kernel
theorem d_M_told_11 : decode cM_told 11 = .ok (.iload_n 0, 1) := by decide +kernel
theorem d_M_told_12 : decode cM_told 12 = .ok (.bipush 36, 2) := by decide +kernel
theorem d_M_told_14 : decode cM_told 14 = .ok (.idiv, 1) := by decide +kernel
theorem d_M_told_15 : decode cM_told 15 = .ok (.imul, 1) := by decide +kernel
theorem d_M_told_16 : decode cM_told 16 = .ok (.bipush 10, 2) := by decide +kernel
theorem d_M_told_18 : decode cM_told 18 = .ok (.iload_n 0, 1) := by decide +kernel
theorem d_M_told_19 : decode cM_told 19 = .ok (.bipush 36, 2) := by decide +kernel
theorem d_M_told_21 : decode cM_told 21 = .ok (.irem, 1) := by decide +kernel
theorem d_M_told_22 : decode cM_told 22 = .ok (.bipush 6, 2) := by decide +kernel
theorem d_M_told_24 : decode cM_told 24 = .ok (.idiv, 1) := by decide +kernel
theorem d_M_told_25 : decode cM_told 25 = .ok (.imul, 1) := by decide +kernel
theorem d_M_told_26 : decode cM_told 26 = .ok (.iadd, 1) := by decide +kernel
theorem d_M_told_27 : decode cM_told 27 = .ok (.iload_n 0, 1) := by decide +kernel
theorem d_M_told_28 : decode cM_told 28 = .ok (.bipush 6, 2) := by decide +kernel
theorem d_M_told_30 : decode cM_told 30 = .ok (.irem, 1) := by decide +kernel
theorem d_M_told_31 : decode cM_told 31 = .ok (.iadd, 1) := by decide +kernel
theorem d_M_told_32 : decode cM_told 32 = .ok (.ireturn, 1) := by decide +kernel
theorem d_M_where_0 : decode cM_where 0 = .ok (.aload_n 0, 1) := by decide +kernel
theorem d_M_where_1 : decode cM_where 1 = .ok (.iload_n 1, 1) := by decide +kernel
theorem d_M_where_2 : decode cM_where 2 = .ok (.invokestatic 107, 3) := by decide +kernel
theorem d_M_where_5 : decode cM_where 5 = .ok (.ifCond .eq 14, 3) := by decide +kernel
theorem d_M_where_8 : decode cM_where 8 = .ok (.iload_n 2, 1) := by decide +kernel
theorem d_M_where_9 : decode cM_where 9 = .ok (.invokestatic 104, 3) := by decide +kernel
theorem d_M_where_12 : decode cM_where 12 = .ok (.ifCond .eq 7, 3) := by decide +kernel
theorem d_M_where_15 : decode cM_where 15 = .ok (.iconst 1, 1) := by decide +kernel
theorem d_M_where_16 : decode cM_where 16 = .ok (.goto 4, 3) := by decide +kernel
theorem d_M_where_19 : decode cM_where 19 = .ok (.iconst 0, 1) := by decide +kernel
theorem d_M_where_20 : decode cM_where 20 = .ok (.iconst 1, 1) := by decide +kernel
theorem d_M_where_21 : decode cM_where 21 = .ok (.invokevirtual 97, 3) := by decide +kernel
theorem d_M_where_24 : decode cM_where 24 = .ok (.ifCond .eq 15, 3) := by decide +kernel
theorem d_M_where_27 : decode cM_where 27 = .ok (.aload_n 0, 1) := by decide +kernel
theorem d_M_where_28 : decode cM_where 28 = .ok (.iload_n 1, 1) := by decide +kernel
theorem d_M_where_29 : decode cM_where 29 = .ok (.iload_n 2, 1) := by decide +kernel
theorem d_M_where_30 : decode cM_where 30 = .ok (.invokevirtual 148, 3) := by decide +kernel
theorem d_M_where_33 : decode cM_where 33 = .ok (.invokestatic 155, 3) := by decide +kernel
theorem d_M_where_36 : decode cM_where 36 = .ok (.goto 4, 3) := by decide +kernel
theorem d_M_where_39 : decode cM_where 39 = .ok (.iconst 0, 1) := by decide +kernel
theorem d_M_where_40 : decode cM_where 40 = .ok (.ireturn, 1) := by decide +kernel
theorem d_M_who_0 : decode cM_who 0 = .ok (.aload_n 0, 1) := by decide +kernel
theorem d_M_who_1 : decode cM_who 1 = .ok (.iload_n 1, 1) := by decide +kernel
theorem d_M_who_2 : decode cM_who 2 = .ok (.invokestatic 104, 3) := by decide +kernel
theorem d_M_who_5 : decode cM_who 5 = .ok (.ifCond .eq 18, 3) := by decide +kernel
theorem d_M_who_8 : decode cM_who 8 = .ok (.aload_n 0, 1) := by decide +kernel
theorem d_M_who_9 : decode cM_who 9 = .ok (.iload_n 2, 1) := by decide +kernel
theorem d_M_who_10 : decode cM_who 10 = .ok (.iload_n 3, 1) := by decide +kernel
theorem d_M_who_11 : decode cM_who 11 = .ok (.iload 4, 2) := by decide +kernel
theorem d_M_who_13 : decode cM_who 13 = .ok (.invokevirtual 141, 3) := by decide +kernel
theorem d_M_who_16 : decode cM_who 16 = .ok (.ifCond .eq 7, 3) := by decide +kernel
theorem d_M_who_19 : decode cM_who 19 = .ok (.iconst 1, 1) := by decide +kernel
theorem d_M_who_20 : decode cM_who 20 = .ok (.goto 4, 3) := by decide +kernel
theorem d_M_who_23 : decode cM_who 23 = .ok (.iconst 0, 1) := by decide +kernel
theorem d_M_who_24 : decode cM_who 24 = .ok (.iconst 1, 1) := by decide +kernel
theorem d_M_who_25 : decode cM_who 25 = .ok (.invokevirtual 97, 3) := by decide +kernel
theorem d_M_who_28 : decode cM_who 28 = .ok (.ifCond .ne 5, 3) := by decide +kernel
theorem d_M_who_31 : decode cM_who 31 = .ok (.iconst 0, 1) := by decide +kernel
theorem d_M_who_32 : decode cM_who 32 = .ok (.ireturn, 1) := by decide +kernel
theorem d_M_who_33 : decode cM_who 33 = .ok (.aload_n 0, 1) := by decide +kernel
theorem d_M_who_34 : decode cM_who 34 = .ok (.getfield 59, 3) := by decide +kernel
theorem d_M_who_37 : decode cM_who 37 = .ok (.sipush 144, 3) := by decide +kernel
theorem d_M_who_40 : decode cM_who 40 = .ok (.iload_n 1, 1) := by decide +kernel
theorem d_M_who_41 : decode cM_who 41 = .ok (.imul, 1) := by decide +kernel
theorem d_M_who_42 : decode cM_who 42 = .ok (.bipush 36, 2) := by decide +kernel
theorem d_M_who_44 : decode cM_who 44 = .ok (.iload_n 2, 1) := by decide +kernel
theorem d_M_who_45 : decode cM_who 45 = .ok (.imul, 1) := by decide +kernel
theorem d_M_who_46 : decode cM_who 46 = .ok (.iadd, 1) := by decide +kernel
theorem d_M_who_47 : decode cM_who 47 = .ok (.bipush 6, 2) := by decide +kernel
theorem d_M_who_49 : decode cM_who 49 = .ok (.iload_n 3, 1) := by decide +kernel
theorem d_M_who_50 : decode cM_who 50 = .ok (.imul, 1) := by decide +kernel
theorem d_M_who_51 : decode cM_who 51 = .ok (.iadd, 1) := by decide +kernel
theorem d_M_who_52 : decode cM_who 52 = .ok (.iload 4, 2) := by decide +kernel
theorem d_M_who_54 : decode cM_who 54 = .ok (.iadd, 1) := by decide +kernel
theorem d_M_who_55 : decode cM_who 55 = .ok (.iaload, 1) := by decide +kernel
theorem d_M_who_56 : decode cM_who 56 = .ok (.iconst 1, 1) := by decide +kernel
theorem d_M_who_57 : decode cM_who 57 = .ok (.isub, 1) := by decide +kernel
theorem d_M_who_58 : decode cM_who 58 = .ok (.ireturn, 1) := by decide +kernel
theorem d_M_most_0 : decode cM_most 0 = .ok (.aload_n 0, 1) := by decide +kernel
theorem d_M_most_1 : decode cM_most 1 = .ok (.iload_n 1, 1) := by decide +kernel
theorem d_M_most_2 : decode cM_most 2 = .ok (.invokestatic 158, 3) := by decide +kernel
theorem d_M_most_5 : decode cM_most 5 = .ok (.iload_n 2, 1) := by decide +kernel
theorem d_M_most_6 : decode cM_most 6 = .ok (.iconst 0, 1) := by decide +kernel
theorem d_M_most_7 : decode cM_most 7 = .ok (.bipush 6, 2) := by decide +kernel
theorem d_M_most_9 : decode cM_most 9 = .ok (.invokestatic 93, 3) := by decide +kernel
theorem d_M_most_12 : decode cM_most 12 = .ok (.invokevirtual 97, 3) := by decide +kernel
theorem d_M_most_15 : decode cM_most 15 = .ok (.ifCond .ne 5, 3) := by decide +kernel
theorem d_M_most_18 : decode cM_most 18 = .ok (.iconst 0, 1) := by decide +kernel
theorem d_M_most_19 : decode cM_most 19 = .ok (.ireturn, 1) := by decide +kernel
theorem d_M_most_20 : decode cM_most 20 = .ok (.aload_n 0, 1) := by decide +kernel
theorem d_M_most_21 : decode cM_most 21 = .ok (.getfield 65, 3) := by decide +kernel
theorem d_M_most_24 : decode cM_most 24 = .ok (.iload_n 1, 1) := by decide +kernel
theorem d_M_most_25 : decode cM_most 25 = .ok (.iaload, 1) := by decide +kernel
theorem d_M_most_26 : decode cM_most 26 = .ok (.istore_n 3, 1) := by decide +kernel
theorem d_M_most_27 : decode cM_most 27 = .ok (.aload_n 0, 1) := by decide +kernel
theorem d_M_most_28 : decode cM_most 28 = .ok (.getfield 65, 3) := by decide +kernel
theorem d_M_most_31 : decode cM_most 31 = .ok (.iload_n 1, 1) := by decide +kernel
theorem d_M_most_32 : decode cM_most 32 = .ok (.iload_n 2, 1) := by decide +kernel
theorem d_M_most_33 : decode cM_most 33 = .ok (.iastore, 1) := by decide +kernel
theorem d_M_most_34 : decode cM_most 34 = .ok (.iload_n 3, 1) := by decide +kernel
theorem d_M_most_35 : decode cM_most 35 = .ok (.ireturn, 1) := by decide +kernel
theorem d_M_isInvigilator_0 : decode cM_isInvigilator 0 = .ok (.iload_n 0, 1) := by decide +kernel
theorem d_M_isInvigilator_1 : decode cM_isInvigilator 1 = .ok (.ifCond .lt 13, 3) := by decide +kernel
theorem d_M_isInvigilator_4 : decode cM_isInvigilator 4 = .ok (.iload_n 0, 1) := by decide +kernel
theorem d_M_isInvigilator_5 : decode cM_isInvigilator 5 = .ok (.bipush 10, 2) := by decide +kernel
theorem d_M_isInvigilator_7 : decode cM_isInvigilator 7 = .ok (.if_icmp .ge 7, 3) := by decide +kernel
theorem d_M_isInvigilator_10 : decode cM_isInvigilator 10 = .ok (.iconst 1, 1) := by decide +kernel
theorem d_M_isInvigilator_11 : decode cM_isInvigilator 11 = .ok (.goto 4, 3) := by decide +kernel
theorem d_M_isInvigilator_14 : decode cM_isInvigilator 14 = .ok (.iconst 0, 1) := by decide +kernel
theorem d_M_isInvigilator_15 : decode cM_isInvigilator 15 = .ok (.ireturn, 1) := by decide +kernel
theorem d_M_own_0 : decode cM_own 0 = .ok (.aload_n 0, 1) := by decide +kernel
theorem d_M_own_1 : decode cM_own 1 = .ok (.iload_n 1, 1) := by decide +kernel
theorem d_M_own_2 : decode cM_own 2 = .ok (.invokestatic 158, 3) := by decide +kernel
theorem d_M_own_5 : decode cM_own 5 = .ok (.ifCond .eq 14, 3) := by decide +kernel
theorem d_M_own_8 : decode cM_own 8 = .ok (.iload_n 2, 1) := by decide +kernel
theorem d_M_own_9 : decode cM_own 9 = .ok (.invokestatic 89, 3) := by decide +kernel
theorem d_M_own_12 : decode cM_own 12 = .ok (.ifCond .eq 7, 3) := by decide +kernel
theorem d_M_own_15 : decode cM_own 15 = .ok (.iconst 1, 1) := by decide +kernel
theorem d_M_own_16 : decode cM_own 16 = .ok (.goto 4, 3) := by decide +kernel
theorem d_M_own_19 : decode cM_own 19 = .ok (.iconst 0, 1) := by decide +kernel
theorem d_M_own_20 : decode cM_own 20 = .ok (.iconst 1, 1) := by decide +kernel
theorem d_M_own_21 : decode cM_own 21 = .ok (.invokevirtual 97, 3) := by decide +kernel
theorem d_M_own_24 : decode cM_own 24 = .ok (.ifCond .ne 5, 3) := by decide +kernel
theorem d_M_own_27 : decode cM_own 27 = .ok (.iconst 0, 1) := by decide +kernel
theorem d_M_own_28 : decode cM_own 28 = .ok (.ireturn, 1) := by decide +kernel
theorem d_M_own_29 : decode cM_own 29 = .ok (.aload_n 0, 1) := by decide +kernel
theorem d_M_own_30 : decode cM_own 30 = .ok (.getfield 68, 3) := by decide +kernel
theorem d_M_own_33 : decode cM_own 33 = .ok (.bipush 9, 2) := by decide +kernel
theorem d_M_own_35 : decode cM_own 35 = .ok (.iload_n 1, 1) := by decide +kernel
theorem d_M_own_36 : decode cM_own 36 = .ok (.imul, 1) := by decide +kernel
theorem d_M_own_37 : decode cM_own 37 = .ok (.iload_n 2, 1) := by decide +kernel
theorem d_M_own_38 : decode cM_own 38 = .ok (.iadd, 1) := by decide +kernel
theorem d_M_own_39 : decode cM_own 39 = .ok (.baload, 1) := by decide +kernel
theorem d_M_own_40 : decode cM_own 40 = .ok (.iload_n 3, 1) := by decide +kernel
theorem d_M_own_41 : decode cM_own 41 = .ok (.if_icmp .eq 7, 3) := by decide +kernel
theorem d_M_own_44 : decode cM_own 44 = .ok (.iconst 1, 1) := by decide +kernel
theorem d_M_own_45 : decode cM_own 45 = .ok (.goto 4, 3) := by decide +kernel
theorem d_M_own_48 : decode cM_own 48 = .ok (.iconst 0, 1) := by decide +kernel
theorem d_M_own_49 : decode cM_own 49 = .ok (.istore 4, 2) := by decide +kernel
theorem d_M_own_51 : decode cM_own 51 = .ok (.aload_n 0, 1) := by decide +kernel
theorem d_M_own_52 : decode cM_own 52 = .ok (.getfield 68, 3) := by decide +kernel
theorem d_M_own_55 : decode cM_own 55 = .ok (.bipush 9, 2) := by decide +kernel
theorem d_M_own_57 : decode cM_own 57 = .ok (.iload_n 1, 1) := by decide +kernel
theorem d_M_own_58 : decode cM_own 58 = .ok (.imul, 1) := by decide +kernel
theorem d_M_own_59 : decode cM_own 59 = .ok (.iload_n 2, 1) := by decide +kernel
theorem d_M_own_60 : decode cM_own 60 = .ok (.iadd, 1) := by decide +kernel
theorem d_M_own_61 : decode cM_own 61 = .ok (.iload_n 3, 1) := by decide +kernel
theorem d_M_own_62 : decode cM_own 62 = .ok (.bastore, 1) := by decide +kernel
theorem d_M_own_63 : decode cM_own 63 = .ok (.iload 4, 2) := by decide +kernel
theorem d_M_own_65 : decode cM_own 65 = .ok (.ireturn, 1) := by decide +kernel
theorem d_M_watch_0 : decode cM_watch 0 = .ok (.aload_n 0, 1) := by decide +kernel
theorem d_M_watch_1 : decode cM_watch 1 = .ok (.iload_n 1, 1) := by decide +kernel
theorem d_M_watch_2 : decode cM_watch 2 = .ok (.invokestatic 104, 3) := by decide +kernel
theorem d_M_watch_5 : decode cM_watch 5 = .ok (.iconst 1, 1) := by decide +kernel
theorem d_M_watch_6 : decode cM_watch 6 = .ok (.invokevirtual 97, 3) := by decide +kernel
theorem d_M_watch_9 : decode cM_watch 9 = .ok (.ifCond .ne 5, 3) := by decide +kernel
theorem d_M_watch_12 : decode cM_watch 12 = .ok (.iconst 0, 1) := by decide +kernel
theorem d_M_watch_13 : decode cM_watch 13 = .ok (.ireturn, 1) := by decide +kernel
theorem d_M_watch_14 : decode cM_watch 14 = .ok (.bipush 40, 2) := by decide +kernel
theorem d_M_watch_16 : decode cM_watch 16 = .ok (.iload_n 1, 1) := by decide +kernel
theorem d_M_watch_17 : decode cM_watch 17 = .ok (.imul, 1) := by decide +kernel
theorem d_M_watch_18 : decode cM_watch 18 = .ok (.istore_n 2, 1) := by decide +kernel
theorem d_M_watch_19 : decode cM_watch 19 = .ok (.iload_n 2, 1) := by decide +kernel
theorem d_M_watch_20 : decode cM_watch 20 = .ok (.bipush 40, 2) := by decide +kernel
theorem d_M_watch_22 : decode cM_watch 22 = .ok (.iload_n 1, 1) := by decide +kernel
theorem d_M_watch_23 : decode cM_watch 23 = .ok (.imul, 1) := by decide +kernel
theorem d_M_watch_24 : decode cM_watch 24 = .ok (.bipush 40, 2) := by decide +kernel
theorem d_M_watch_26 : decode cM_watch 26 = .ok (.iadd, 1) := by decide +kernel
theorem d_M_watch_27 : decode cM_watch 27 = .ok (.if_icmp .ge 16, 3) := by decide +kernel
theorem d_M_watch_30 : decode cM_watch 30 = .ok (.aload_n 0, 1) := by decide +kernel
theorem d_M_watch_31 : decode cM_watch 31 = .ok (.getfield 71, 3) := by decide +kernel
theorem d_M_watch_34 : decode cM_watch 34 = .ok (.iload_n 2, 1) := by decide +kernel
theorem d_M_watch_35 : decode cM_watch 35 = .ok (.iconst 0, 1) := by decide +kernel
theorem d_M_watch_36 : decode cM_watch 36 = .ok (.bastore, 1) := by decide +kernel
theorem d_M_watch_37 : decode cM_watch 37 = .ok (.iinc 2 1, 3) := by decide +kernel
theorem d_M_watch_40 : decode cM_watch 40 = .ok (.goto (-21), 3) := by decide +kernel
theorem d_M_watch_43 : decode cM_watch 43 = .ok (.iconst 0, 1) := by decide +kernel
theorem d_M_watch_44 : decode cM_watch 44 = .ok (.istore_n 2, 1) := by decide +kernel
theorem d_M_watch_45 : decode cM_watch 45 = .ok (.iconst 0, 1) := by decide +kernel
theorem d_M_watch_46 : decode cM_watch 46 = .ok (.istore_n 3, 1) := by decide +kernel
theorem d_M_watch_47 : decode cM_watch 47 = .ok (.iload_n 3, 1) := by decide +kernel
theorem d_M_watch_48 : decode cM_watch 48 = .ok (.iconst 4, 1) := by decide +kernel
theorem d_M_watch_49 : decode cM_watch 49 = .ok (.if_icmp .ge 49, 3) := by decide +kernel
theorem d_M_watch_52 : decode cM_watch 52 = .ok (.aload_n 0, 1) := by decide +kernel
theorem d_M_watch_53 : decode cM_watch 53 = .ok (.iload_n 1, 1) := by decide +kernel
theorem d_M_watch_54 : decode cM_watch 54 = .ok (.iload_n 3, 1) := by decide +kernel
theorem d_M_watch_55 : decode cM_watch 55 = .ok (.invokevirtual 164, 3) := by decide +kernel
theorem d_M_watch_58 : decode cM_watch 58 = .ok (.bipush 7, 2) := by decide +kernel
theorem d_M_watch_60 : decode cM_watch 60 = .ok (.iadd, 1) := by decide +kernel
theorem d_M_watch_61 : decode cM_watch 61 = .ok (.bipush 8, 2) := by decide +kernel
theorem d_M_watch_63 : decode cM_watch 63 = .ok (.idiv, 1) := by decide +kernel
theorem d_M_watch_64 : decode cM_watch 64 = .ok (.istore 4, 2) := by decide +kernel
theorem d_M_watch_66 : decode cM_watch 66 = .ok (.iconst 0, 1) := by decide +kernel
theorem d_M_watch_67 : decode cM_watch 67 = .ok (.istore 5, 2) := by decide +kernel
theorem d_M_watch_69 : decode cM_watch 69 = .ok (.iload 5, 2) := by decide +kernel
theorem d_M_watch_71 : decode cM_watch 71 = .ok (.iload 4, 2) := by decide +kernel
theorem d_M_watch_73 : decode cM_watch 73 = .ok (.if_icmp .ge 19, 3) := by decide +kernel
theorem d_M_watch_76 : decode cM_watch 76 = .ok (.aload_n 0, 1) := by decide +kernel
theorem d_M_watch_77 : decode cM_watch 77 = .ok (.getfield 74, 3) := by decide +kernel
theorem d_M_watch_80 : decode cM_watch 80 = .ok (.iload_n 2, 1) := by decide +kernel
theorem d_M_watch_81 : decode cM_watch 81 = .ok (.iload_n 3, 1) := by decide +kernel
theorem d_M_watch_82 : decode cM_watch 82 = .ok (.iastore, 1) := by decide +kernel
theorem d_M_watch_83 : decode cM_watch 83 = .ok (.iinc 2 1, 3) := by decide +kernel
theorem d_M_watch_86 : decode cM_watch 86 = .ok (.iinc 5 1, 3) := by decide +kernel
theorem d_M_watch_89 : decode cM_watch 89 = .ok (.goto (-20), 3) := by decide +kernel
theorem d_M_watch_92 : decode cM_watch 92 = .ok (.iinc 3 1, 3) := by decide +kernel
theorem d_M_watch_95 : decode cM_watch 95 = .ok (.goto (-48), 3) := by decide +kernel
theorem d_M_watch_98 : decode cM_watch 98 = .ok (.iload_n 2, 1) := by decide +kernel
theorem d_M_watch_99 : decode cM_watch 99 = .ok (.bipush 10, 2) := by decide +kernel
theorem d_M_watch_101 : decode cM_watch 101 = .ok (.if_icmp .le 5, 3) := by decide +kernel
theorem d_M_watch_104 : decode cM_watch 104 = .ok (.iconst 0, 1) := by decide +kernel
theorem d_M_watch_105 : decode cM_watch 105 = .ok (.ireturn, 1) := by decide +kernel
theorem d_M_watch_106 : decode cM_watch 106 = .ok (.iconst 0, 1) := by decide +kernel
theorem d_M_watch_107 : decode cM_watch 107 = .ok (.istore_n 3, 1) := by decide +kernel
theorem d_M_watch_108 : decode cM_watch 108 = .ok (.iload_n 3, 1) := by decide +kernel
theorem d_M_watch_109 : decode cM_watch 109 = .ok (.sipush 1024, 3) := by decide +kernel
theorem d_M_watch_112 : decode cM_watch 112 = .ok (.if_icmp .ge 22, 3) := by decide +kernel
theorem d_M_watch_115 : decode cM_watch 115 = .ok (.aload_n 0, 1) := by decide +kernel
theorem d_M_watch_116 : decode cM_watch 116 = .ok (.getfield 78, 3) := by decide +kernel
theorem d_M_watch_119 : decode cM_watch 119 = .ok (.sipush 1024, 3) := by decide +kernel
theorem d_M_watch_122 : decode cM_watch 122 = .ok (.iload_n 2, 1) := by decide +kernel
theorem d_M_watch_123 : decode cM_watch 123 = .ok (.imul, 1) := by decide +kernel
theorem d_M_watch_124 : decode cM_watch 124 = .ok (.iload_n 3, 1) := by decide +kernel
theorem d_M_watch_125 : decode cM_watch 125 = .ok (.iadd, 1) := by decide +kernel
theorem d_M_watch_126 : decode cM_watch 126 = .ok (.iconst 1, 1) := by decide +kernel
theorem d_M_watch_127 : decode cM_watch 127 = .ok (.bastore, 1) := by decide +kernel
theorem d_M_watch_128 : decode cM_watch 128 = .ok (.iinc 3 1, 3) := by decide +kernel
theorem d_M_watch_131 : decode cM_watch 131 = .ok (.goto (-23), 3) := by decide +kernel
theorem d_M_watch_134 : decode cM_watch 134 = .ok (.iload_n 2, 1) := by decide +kernel
theorem d_M_watch_135 : decode cM_watch 135 = .ok (.iconst 1, 1) := by decide +kernel
theorem d_M_watch_136 : decode cM_watch 136 = .ok (.isub, 1) := by decide +kernel
theorem d_M_watch_137 : decode cM_watch 137 = .ok (.istore_n 3, 1) := by decide +kernel
theorem d_M_watch_138 : decode cM_watch 138 = .ok (.iload_n 3, 1) := by decide +kernel
theorem d_M_watch_139 : decode cM_watch 139 = .ok (.ifCond .lt 162, 3) := by decide +kernel
theorem d_M_watch_142 : decode cM_watch 142 = .ok (.iconst 0, 1) := by decide +kernel
theorem d_M_watch_143 : decode cM_watch 143 = .ok (.istore 4, 2) := by decide +kernel
theorem d_M_watch_145 : decode cM_watch 145 = .ok (.iload 4, 2) := by decide +kernel
theorem d_M_watch_147 : decode cM_watch 147 = .ok (.sipush 1024, 3) := by decide +kernel
theorem d_M_watch_150 : decode cM_watch 150 = .ok (.if_icmp .ge 23, 3) := by decide +kernel
theorem d_M_watch_153 : decode cM_watch 153 = .ok (.aload_n 0, 1) := by decide +kernel
theorem d_M_watch_154 : decode cM_watch 154 = .ok (.getfield 78, 3) := by decide +kernel
theorem d_M_watch_157 : decode cM_watch 157 = .ok (.sipush 1024, 3) := by decide +kernel
theorem d_M_watch_160 : decode cM_watch 160 = .ok (.iload_n 3, 1) := by decide +kernel
theorem d_M_watch_161 : decode cM_watch 161 = .ok (.imul, 1) := by decide +kernel
theorem d_M_watch_162 : decode cM_watch 162 = .ok (.iload 4, 2) := by decide +kernel
theorem d_M_watch_164 : decode cM_watch 164 = .ok (.iadd, 1) := by decide +kernel
theorem d_M_watch_165 : decode cM_watch 165 = .ok (.iconst 0, 1) := by decide +kernel
theorem d_M_watch_166 : decode cM_watch 166 = .ok (.bastore, 1) := by decide +kernel
theorem d_M_watch_167 : decode cM_watch 167 = .ok (.iinc 4 1, 3) := by decide +kernel
theorem d_M_watch_170 : decode cM_watch 170 = .ok (.goto (-25), 3) := by decide +kernel
theorem d_M_watch_173 : decode cM_watch 173 = .ok (.iconst 0, 1) := by decide +kernel
theorem d_M_watch_174 : decode cM_watch 174 = .ok (.istore 4, 2) := by decide +kernel
theorem d_M_watch_176 : decode cM_watch 176 = .ok (.iload 4, 2) := by decide +kernel
theorem d_M_watch_178 : decode cM_watch 178 = .ok (.bipush 10, 2) := by decide +kernel
theorem d_M_watch_180 : decode cM_watch 180 = .ok (.if_icmp .ge 115, 3) := by decide +kernel
theorem d_M_watch_183 : decode cM_watch 183 = .ok (.aload_n 0, 1) := by decide +kernel
theorem d_M_watch_184 : decode cM_watch 184 = .ok (.iload_n 1, 1) := by decide +kernel
theorem d_M_watch_185 : decode cM_watch 185 = .ok (.aload_n 0, 1) := by decide +kernel
theorem d_M_watch_186 : decode cM_watch 186 = .ok (.getfield 74, 3) := by decide +kernel
theorem d_M_watch_189 : decode cM_watch 189 = .ok (.iload_n 3, 1) := by decide +kernel
theorem d_M_watch_190 : decode cM_watch 190 = .ok (.iaload, 1) := by decide +kernel
theorem d_M_watch_191 : decode cM_watch 191 = .ok (.iload 4, 2) := by decide +kernel
theorem d_M_watch_193 : decode cM_watch 193 = .ok (.invokevirtual 167, 3) := by decide +kernel
theorem d_M_watch_196 : decode cM_watch 196 = .ok (.istore 5, 2) := by decide +kernel
theorem d_M_watch_198 : decode cM_watch 198 = .ok (.iconst 0, 1) := by decide +kernel
theorem d_M_watch_199 : decode cM_watch 199 = .ok (.istore 6, 2) := by decide +kernel
theorem d_M_watch_201 : decode cM_watch 201 = .ok (.iload 6, 2) := by decide +kernel
theorem d_M_watch_203 : decode cM_watch 203 = .ok (.sipush 1024, 3) := by decide +kernel
theorem d_M_watch_206 : decode cM_watch 206 = .ok (.if_icmp .ge 83, 3) := by decide +kernel
theorem d_M_watch_209 : decode cM_watch 209 = .ok (.iload 5, 2) := by decide +kernel
theorem d_M_watch_211 : decode cM_watch 211 = .ok (.ifCond .eq 78, 3) := by decide +kernel
theorem d_M_watch_214 : decode cM_watch 214 = .ok (.aload_n 0, 1) := by decide +kernel
theorem d_M_watch_215 : decode cM_watch 215 = .ok (.getfield 78, 3) := by decide +kernel
theorem d_M_watch_218 : decode cM_watch 218 = .ok (.sipush 1024, 3) := by decide +kernel
theorem d_M_watch_221 : decode cM_watch 221 = .ok (.iload_n 3, 1) := by decide +kernel
theorem d_M_watch_222 : decode cM_watch 222 = .ok (.imul, 1) := by decide +kernel
theorem d_M_watch_223 : decode cM_watch 223 = .ok (.iload 6, 2) := by decide +kernel
theorem d_M_watch_225 : decode cM_watch 225 = .ok (.iadd, 1) := by decide +kernel
theorem d_M_watch_226 : decode cM_watch 226 = .ok (.aload_n 0, 1) := by decide +kernel
theorem d_M_watch_227 : decode cM_watch 227 = .ok (.getfield 78, 3) := by decide +kernel
theorem d_M_watch_230 : decode cM_watch 230 = .ok (.sipush 1024, 3) := by decide +kernel
theorem d_M_watch_233 : decode cM_watch 233 = .ok (.iload_n 3, 1) := by decide +kernel
theorem d_M_watch_234 : decode cM_watch 234 = .ok (.imul, 1) := by decide +kernel
theorem d_M_watch_235 : decode cM_watch 235 = .ok (.iload 6, 2) := by decide +kernel
theorem d_M_watch_237 : decode cM_watch 237 = .ok (.iadd, 1) := by decide +kernel
theorem d_M_watch_238 : decode cM_watch 238 = .ok (.baload, 1) := by decide +kernel
theorem d_M_watch_239 : decode cM_watch 239 = .ok (.ifCond .ne 38, 3) := by decide +kernel
theorem d_M_watch_242 : decode cM_watch 242 = .ok (.iload 6, 2) := by decide +kernel
theorem d_M_watch_244 : decode cM_watch 244 = .ok (.iload 4, 2) := by decide +kernel
theorem d_M_watch_246 : decode cM_watch 246 = .ok (.invokestatic 114, 3) := by decide +kernel
theorem d_M_watch_249 : decode cM_watch 249 = .ok (.ifCond .ne 32, 3) := by decide +kernel
theorem d_M_watch_252 : decode cM_watch 252 = .ok (.aload_n 0, 1) := by decide +kernel
theorem d_M_watch_253 : decode cM_watch 253 = .ok (.getfield 78, 3) := by decide +kernel
theorem d_M_watch_256 : decode cM_watch 256 = .ok (.sipush 1024, 3) := by decide +kernel
theorem d_M_watch_259 : decode cM_watch 259 = .ok (.iload_n 3, 1) := by decide +kernel
theorem d_M_watch_260 : decode cM_watch 260 = .ok (.imul, 1) := by decide +kernel
theorem d_M_watch_261 : decode cM_watch 261 = .ok (.sipush 1024, 3) := by decide +kernel
theorem d_M_watch_264 : decode cM_watch 264 = .ok (.iadd, 1) := by decide +kernel
theorem d_M_watch_265 : decode cM_watch 265 = .ok (.iload 6, 2) := by decide +kernel
theorem d_M_watch_267 : decode cM_watch 267 = .ok (.iconst 1, 1) := by decide +kernel
theorem d_M_watch_268 : decode cM_watch 268 = .ok (.iload 4, 2) := by decide +kernel
theorem d_M_watch_270 : decode cM_watch 270 = .ok (.ishl, 1) := by decide +kernel
theorem d_M_watch_271 : decode cM_watch 271 = .ok (.ior, 1) := by decide +kernel
theorem d_M_watch_272 : decode cM_watch 272 = .ok (.iadd, 1) := by decide +kernel
theorem d_M_watch_273 : decode cM_watch 273 = .ok (.baload, 1) := by decide +kernel
theorem d_M_watch_274 : decode cM_watch 274 = .ok (.ifCond .eq 7, 3) := by decide +kernel
theorem d_M_watch_277 : decode cM_watch 277 = .ok (.iconst 1, 1) := by decide +kernel
theorem d_M_watch_278 : decode cM_watch 278 = .ok (.goto 4, 3) := by decide +kernel
theorem d_M_watch_281 : decode cM_watch 281 = .ok (.iconst 0, 1) := by decide +kernel
theorem d_M_watch_282 : decode cM_watch 282 = .ok (.bastore, 1) := by decide +kernel
theorem d_M_watch_283 : decode cM_watch 283 = .ok (.iinc 6 1, 3) := by decide +kernel
theorem d_M_watch_286 : decode cM_watch 286 = .ok (.goto (-85), 3) := by decide +kernel
theorem d_M_watch_289 : decode cM_watch 289 = .ok (.iinc 4 1, 3) := by decide +kernel
theorem d_M_watch_292 : decode cM_watch 292 = .ok (.goto (-116), 3) := by decide +kernel
theorem d_M_watch_295 : decode cM_watch 295 = .ok (.iinc 3 (-1), 3) := by decide +kernel
theorem d_M_watch_298 : decode cM_watch 298 = .ok (.goto (-160), 3) := by decide +kernel
theorem d_M_watch_301 : decode cM_watch 301 = .ok (.aload_n 0, 1) := by decide +kernel
theorem d_M_watch_302 : decode cM_watch 302 = .ok (.getfield 78, 3) := by decide +kernel
theorem d_M_watch_305 : decode cM_watch 305 = .ok (.iconst 0, 1) := by decide +kernel
theorem d_M_watch_306 : decode cM_watch 306 = .ok (.baload, 1) := by decide +kernel
theorem d_M_watch_307 : decode cM_watch 307 = .ok (.ifCond .eq 16, 3) := by decide +kernel
theorem d_M_watch_310 : decode cM_watch 310 = .ok (.aload_n 0, 1) := by decide +kernel
theorem d_M_watch_311 : decode cM_watch 311 = .ok (.iload_n 1, 1) := by decide +kernel
theorem d_M_watch_312 : decode cM_watch 312 = .ok (.iload_n 2, 1) := by decide +kernel
theorem d_M_watch_313 : decode cM_watch 313 = .ok (.invokevirtual 170, 3) := by decide +kernel
theorem d_M_watch_316 : decode cM_watch 316 = .ok (.ifCond .eq 7, 3) := by decide +kernel
theorem d_M_watch_319 : decode cM_watch 319 = .ok (.iconst 1, 1) := by decide +kernel
theorem d_M_watch_320 : decode cM_watch 320 = .ok (.goto 4, 3) := by decide +kernel
theorem d_M_watch_323 : decode cM_watch 323 = .ok (.iconst 0, 1) := by decide +kernel
theorem d_M_watch_324 : decode cM_watch 324 = .ok (.ireturn, 1) := by decide +kernel
theorem d_M_sitting_0 : decode cM_sitting 0 = .ok (.iconst 0, 1) := by decide +kernel
theorem d_M_sitting_1 : decode cM_sitting 1 = .ok (.istore_n 3, 1) := by decide +kernel
theorem d_M_sitting_2 : decode cM_sitting 2 = .ok (.bipush 36, 2) := by decide +kernel
theorem d_M_sitting_4 : decode cM_sitting 4 = .ok (.iload_n 2, 1) := by decide +kernel
theorem d_M_sitting_5 : decode cM_sitting 5 = .ok (.imul, 1) := by decide +kernel
theorem d_M_sitting_6 : decode cM_sitting 6 = .ok (.istore 4, 2) := by decide +kernel
theorem d_M_sitting_8 : decode cM_sitting 8 = .ok (.iload 4, 2) := by decide +kernel
theorem d_M_sitting_10 : decode cM_sitting 10 = .ok (.bipush 36, 2) := by decide +kernel
theorem d_M_sitting_12 : decode cM_sitting 12 = .ok (.iload_n 2, 1) := by decide +kernel
theorem d_M_sitting_13 : decode cM_sitting 13 = .ok (.imul, 1) := by decide +kernel
theorem d_M_sitting_14 : decode cM_sitting 14 = .ok (.bipush 36, 2) := by decide +kernel
theorem d_M_sitting_16 : decode cM_sitting 16 = .ok (.iadd, 1) := by decide +kernel
theorem d_M_sitting_17 : decode cM_sitting 17 = .ok (.if_icmp .ge 33, 3) := by decide +kernel
theorem d_M_sitting_20 : decode cM_sitting 20 = .ok (.aload_n 0, 1) := by decide +kernel
theorem d_M_sitting_21 : decode cM_sitting 21 = .ok (.getfield 59, 3) := by decide +kernel
theorem d_M_sitting_24 : decode cM_sitting 24 = .ok (.sipush 144, 3) := by decide +kernel
theorem d_M_sitting_27 : decode cM_sitting 27 = .ok (.iload_n 1, 1) := by decide +kernel
theorem d_M_sitting_28 : decode cM_sitting 28 = .ok (.imul, 1) := by decide +kernel
theorem d_M_sitting_29 : decode cM_sitting 29 = .ok (.iload 4, 2) := by decide +kernel
theorem d_M_sitting_31 : decode cM_sitting 31 = .ok (.iadd, 1) := by decide +kernel
theorem d_M_sitting_32 : decode cM_sitting 32 = .ok (.iaload, 1) := by decide +kernel
theorem d_M_sitting_33 : decode cM_sitting 33 = .ok (.ifCond .le 9, 3) := by decide +kernel
theorem d_M_sitting_36 : decode cM_sitting 36 = .ok (.iload_n 3, 1) := by decide +kernel
theorem d_M_sitting_37 : decode cM_sitting 37 = .ok (.iconst 1, 1) := by decide +kernel
theorem d_M_sitting_38 : decode cM_sitting 38 = .ok (.iadd, 1) := by decide +kernel
theorem d_M_sitting_39 : decode cM_sitting 39 = .ok (.goto 4, 3) := by decide +kernel
theorem d_M_sitting_42 : decode cM_sitting 42 = .ok (.iload_n 3, 1) := by decide +kernel
theorem d_M_sitting_43 : decode cM_sitting 43 = .ok (.istore_n 3, 1) := by decide +kernel
theorem d_M_sitting_44 : decode cM_sitting 44 = .ok (.iinc 4 1, 3) := by decide +kernel
theorem d_M_sitting_47 : decode cM_sitting 47 = .ok (.goto (-39), 3) := by decide +kernel
theorem d_M_sitting_50 : decode cM_sitting 50 = .ok (.iload_n 3, 1) := by decide +kernel
theorem d_M_sitting_51 : decode cM_sitting 51 = .ok (.ireturn, 1) := by decide +kernel
theorem d_M_mayWatch_0 : decode cM_mayWatch 0 = .ok (.aload_n 0, 1) := by decide +kernel
theorem d_M_mayWatch_1 : decode cM_mayWatch 1 = .ok (.iload_n 3, 1) := by decide +kernel
theorem d_M_mayWatch_2 : decode cM_mayWatch 2 = .ok (.invokevirtual 161, 3) := by decide +kernel
theorem d_M_mayWatch_5 : decode cM_mayWatch 5 = .ok (.aload_n 0, 1) := by decide +kernel
theorem d_M_mayWatch_6 : decode cM_mayWatch 6 = .ok (.getfield 65, 3) := by decide +kernel
theorem d_M_mayWatch_9 : decode cM_mayWatch 9 = .ok (.iload_n 3, 1) := by decide +kernel
theorem d_M_mayWatch_10 : decode cM_mayWatch 10 = .ok (.iaload, 1) := by decide +kernel
theorem d_M_mayWatch_11 : decode cM_mayWatch 11 = .ok (.if_icmp .ge 7, 3) := by decide +kernel
theorem d_M_mayWatch_14 : decode cM_mayWatch 14 = .ok (.iconst 1, 1) := by decide +kernel
theorem d_M_mayWatch_15 : decode cM_mayWatch 15 = .ok (.goto 4, 3) := by decide +kernel
theorem d_M_mayWatch_18 : decode cM_mayWatch 18 = .ok (.iconst 0, 1) := by decide +kernel
theorem d_M_mayWatch_19 : decode cM_mayWatch 19 = .ok (.istore 4, 2) := by decide +kernel
theorem d_M_mayWatch_21 : decode cM_mayWatch 21 = .ok (.bipush 36, 2) := by decide +kernel
theorem d_M_mayWatch_23 : decode cM_mayWatch 23 = .ok (.iload_n 2, 1) := by decide +kernel
theorem d_M_mayWatch_24 : decode cM_mayWatch 24 = .ok (.imul, 1) := by decide +kernel
theorem d_M_mayWatch_25 : decode cM_mayWatch 25 = .ok (.istore 5, 2) := by decide +kernel
theorem d_M_mayWatch_27 : decode cM_mayWatch 27 = .ok (.iload 5, 2) := by decide +kernel
theorem d_M_mayWatch_29 : decode cM_mayWatch 29 = .ok (.bipush 36, 2) := by decide +kernel
theorem d_M_mayWatch_31 : decode cM_mayWatch 31 = .ok (.iload_n 2, 1) := by decide +kernel
theorem d_M_mayWatch_32 : decode cM_mayWatch 32 = .ok (.imul, 1) := by decide +kernel
theorem d_M_mayWatch_33 : decode cM_mayWatch 33 = .ok (.bipush 36, 2) := by decide +kernel
theorem d_M_mayWatch_35 : decode cM_mayWatch 35 = .ok (.iadd, 1) := by decide +kernel
theorem d_M_mayWatch_36 : decode cM_mayWatch 36 = .ok (.if_icmp .ge 63, 3) := by decide +kernel
theorem d_M_mayWatch_39 : decode cM_mayWatch 39 = .ok (.iload 4, 2) := by decide +kernel
theorem d_M_mayWatch_41 : decode cM_mayWatch 41 = .ok (.ifCond .eq 49, 3) := by decide +kernel
theorem d_M_mayWatch_44 : decode cM_mayWatch 44 = .ok (.aload_n 0, 1) := by decide +kernel
theorem d_M_mayWatch_45 : decode cM_mayWatch 45 = .ok (.getfield 59, 3) := by decide +kernel
theorem d_M_mayWatch_48 : decode cM_mayWatch 48 = .ok (.sipush 144, 3) := by decide +kernel
theorem d_M_mayWatch_51 : decode cM_mayWatch 51 = .ok (.iload_n 1, 1) := by decide +kernel
theorem d_M_mayWatch_52 : decode cM_mayWatch 52 = .ok (.imul, 1) := by decide +kernel
theorem d_M_mayWatch_53 : decode cM_mayWatch 53 = .ok (.iload 5, 2) := by decide +kernel
theorem d_M_mayWatch_55 : decode cM_mayWatch 55 = .ok (.iadd, 1) := by decide +kernel
theorem d_M_mayWatch_56 : decode cM_mayWatch 56 = .ok (.iaload, 1) := by decide +kernel
theorem d_M_mayWatch_57 : decode cM_mayWatch 57 = .ok (.ifCond .eq 29, 3) := by decide +kernel
theorem d_M_mayWatch_60 : decode cM_mayWatch 60 = .ok (.aload_n 0, 1) := by decide +kernel
theorem d_M_mayWatch_61 : decode cM_mayWatch 61 = .ok (.getfield 68, 3) := by decide +kernel
theorem d_M_mayWatch_64 : decode cM_mayWatch 64 = .ok (.bipush 9, 2) := by decide +kernel
theorem d_M_mayWatch_66 : decode cM_mayWatch 66 = .ok (.iload_n 3, 1) := by decide +kernel
theorem d_M_mayWatch_67 : decode cM_mayWatch 67 = .ok (.imul, 1) := by decide +kernel
theorem d_M_mayWatch_68 : decode cM_mayWatch 68 = .ok (.aload_n 0, 1) := by decide +kernel
theorem d_M_mayWatch_69 : decode cM_mayWatch 69 = .ok (.getfield 62, 3) := by decide +kernel
theorem d_M_mayWatch_72 : decode cM_mayWatch 72 = .ok (.sipush 144, 3) := by decide +kernel
theorem d_M_mayWatch_75 : decode cM_mayWatch 75 = .ok (.iload_n 1, 1) := by decide +kernel
theorem d_M_mayWatch_76 : decode cM_mayWatch 76 = .ok (.imul, 1) := by decide +kernel
theorem d_M_mayWatch_77 : decode cM_mayWatch 77 = .ok (.iload 5, 2) := by decide +kernel
theorem d_M_mayWatch_79 : decode cM_mayWatch 79 = .ok (.iadd, 1) := by decide +kernel
theorem d_M_mayWatch_80 : decode cM_mayWatch 80 = .ok (.iaload, 1) := by decide +kernel
theorem d_M_mayWatch_81 : decode cM_mayWatch 81 = .ok (.iadd, 1) := by decide +kernel
theorem d_M_mayWatch_82 : decode cM_mayWatch 82 = .ok (.baload, 1) := by decide +kernel
theorem d_M_mayWatch_83 : decode cM_mayWatch 83 = .ok (.ifCond .ne 7, 3) := by decide +kernel
theorem d_M_mayWatch_86 : decode cM_mayWatch 86 = .ok (.iconst 1, 1) := by decide +kernel
theorem d_M_mayWatch_87 : decode cM_mayWatch 87 = .ok (.goto 4, 3) := by decide +kernel
theorem d_M_mayWatch_90 : decode cM_mayWatch 90 = .ok (.iconst 0, 1) := by decide +kernel
theorem d_M_mayWatch_91 : decode cM_mayWatch 91 = .ok (.istore 4, 2) := by decide +kernel
theorem d_M_mayWatch_93 : decode cM_mayWatch 93 = .ok (.iinc 5 1, 3) := by decide +kernel
theorem d_M_mayWatch_96 : decode cM_mayWatch 96 = .ok (.goto (-69), 3) := by decide +kernel
theorem d_M_mayWatch_99 : decode cM_mayWatch 99 = .ok (.iload 4, 2) := by decide +kernel
theorem d_M_mayWatch_101 : decode cM_mayWatch 101 = .ok (.ireturn, 1) := by decide +kernel
theorem d_M_sessionsOf_0 : decode cM_sessionsOf 0 = .ok (.iconst 0, 1) := by decide +kernel
theorem d_M_sessionsOf_1 : decode cM_sessionsOf 1 = .ok (.istore_n 2, 1) := by decide +kernel
theorem d_M_sessionsOf_2 : decode cM_sessionsOf 2 = .ok (.iconst 0, 1) := by decide +kernel
theorem d_M_sessionsOf_3 : decode cM_sessionsOf 3 = .ok (.istore_n 3, 1) := by decide +kernel
theorem d_M_sessionsOf_4 : decode cM_sessionsOf 4 = .ok (.iload_n 3, 1) := by decide +kernel
theorem d_M_sessionsOf_5 : decode cM_sessionsOf 5 = .ok (.bipush 6, 2) := by decide +kernel
theorem d_M_sessionsOf_7 : decode cM_sessionsOf 7 = .ok (.if_icmp .ge 72, 3) := by decide +kernel
theorem d_M_sessionsOf_10 : decode cM_sessionsOf 10 = .ok (.iconst 0, 1) := by decide +kernel
theorem d_M_sessionsOf_11 : decode cM_sessionsOf 11 = .ok (.istore 4, 2) := by decide +kernel
theorem d_M_sessionsOf_13 : decode cM_sessionsOf 13 = .ok (.iconst 0, 1) := by decide +kernel
theorem d_M_sessionsOf_14 : decode cM_sessionsOf 14 = .ok (.istore 5, 2) := by decide +kernel
theorem d_M_sessionsOf_16 : decode cM_sessionsOf 16 = .ok (.iload 5, 2) := by decide +kernel
theorem d_M_sessionsOf_18 : decode cM_sessionsOf 18 = .ok (.iconst 4, 1) := by decide +kernel
theorem d_M_sessionsOf_19 : decode cM_sessionsOf 19 = .ok (.if_icmp .ge 41, 3) := by decide +kernel
theorem d_M_sessionsOf_22 : decode cM_sessionsOf 22 = .ok (.iload 4, 2) := by decide +kernel
theorem d_M_sessionsOf_24 : decode cM_sessionsOf 24 = .ok (.ifCond .ne 23, 3) := by decide +kernel
theorem d_M_sessionsOf_27 : decode cM_sessionsOf 27 = .ok (.aload_n 0, 1) := by decide +kernel
theorem d_M_sessionsOf_28 : decode cM_sessionsOf 28 = .ok (.getfield 71, 3) := by decide +kernel
theorem d_M_sessionsOf_31 : decode cM_sessionsOf 31 = .ok (.bipush 40, 2) := by decide +kernel
theorem d_M_sessionsOf_33 : decode cM_sessionsOf 33 = .ok (.iload_n 3, 1) := by decide +kernel
theorem d_M_sessionsOf_34 : decode cM_sessionsOf 34 = .ok (.imul, 1) := by decide +kernel
theorem d_M_sessionsOf_35 : decode cM_sessionsOf 35 = .ok (.bipush 10, 2) := by decide +kernel
theorem d_M_sessionsOf_37 : decode cM_sessionsOf 37 = .ok (.iload 5, 2) := by decide +kernel
theorem d_M_sessionsOf_39 : decode cM_sessionsOf 39 = .ok (.imul, 1) := by decide +kernel
theorem d_M_sessionsOf_40 : decode cM_sessionsOf 40 = .ok (.iadd, 1) := by decide +kernel
theorem d_M_sessionsOf_41 : decode cM_sessionsOf 41 = .ok (.iload_n 1, 1) := by decide +kernel
theorem d_M_sessionsOf_42 : decode cM_sessionsOf 42 = .ok (.iadd, 1) := by decide +kernel
theorem d_M_sessionsOf_43 : decode cM_sessionsOf 43 = .ok (.baload, 1) := by decide +kernel
theorem d_M_sessionsOf_44 : decode cM_sessionsOf 44 = .ok (.ifCond .eq 7, 3) := by decide +kernel
theorem d_M_sessionsOf_47 : decode cM_sessionsOf 47 = .ok (.iconst 1, 1) := by decide +kernel
theorem d_M_sessionsOf_48 : decode cM_sessionsOf 48 = .ok (.goto 4, 3) := by decide +kernel
theorem d_M_sessionsOf_51 : decode cM_sessionsOf 51 = .ok (.iconst 0, 1) := by decide +kernel
theorem d_M_sessionsOf_52 : decode cM_sessionsOf 52 = .ok (.istore 4, 2) := by decide +kernel
theorem d_M_sessionsOf_54 : decode cM_sessionsOf 54 = .ok (.iinc 5 1, 3) := by decide +kernel
theorem d_M_sessionsOf_57 : decode cM_sessionsOf 57 = .ok (.goto (-41), 3) := by decide +kernel
theorem d_M_sessionsOf_60 : decode cM_sessionsOf 60 = .ok (.iload 4, 2) := by decide +kernel
theorem d_M_sessionsOf_62 : decode cM_sessionsOf 62 = .ok (.ifCond .eq 9, 3) := by decide +kernel
theorem d_M_sessionsOf_65 : decode cM_sessionsOf 65 = .ok (.iload_n 2, 1) := by decide +kernel
theorem d_M_sessionsOf_66 : decode cM_sessionsOf 66 = .ok (.iconst 1, 1) := by decide +kernel
theorem d_M_sessionsOf_67 : decode cM_sessionsOf 67 = .ok (.iadd, 1) := by decide +kernel
theorem d_M_sessionsOf_68 : decode cM_sessionsOf 68 = .ok (.goto 4, 3) := by decide +kernel
theorem d_M_sessionsOf_71 : decode cM_sessionsOf 71 = .ok (.iload_n 2, 1) := by decide +kernel
theorem d_M_sessionsOf_72 : decode cM_sessionsOf 72 = .ok (.istore_n 2, 1) := by decide +kernel
theorem d_M_sessionsOf_73 : decode cM_sessionsOf 73 = .ok (.iinc 3 1, 3) := by decide +kernel
theorem d_M_sessionsOf_76 : decode cM_sessionsOf 76 = .ok (.goto (-72), 3) := by decide +kernel
theorem d_M_sessionsOf_79 : decode cM_sessionsOf 79 = .ok (.iload_n 2, 1) := by decide +kernel
theorem d_M_sessionsOf_80 : decode cM_sessionsOf 80 = .ok (.ireturn, 1) := by decide +kernel
theorem d_M_given_0 : decode cM_given 0 = .ok (.iconst 0, 1) := by decide +kernel
theorem d_M_given_1 : decode cM_given 1 = .ok (.istore_n 3, 1) := by decide +kernel
theorem d_M_given_2 : decode cM_given 2 = .ok (.iconst 0, 1) := by decide +kernel
theorem d_M_given_3 : decode cM_given 3 = .ok (.istore 4, 2) := by decide +kernel
theorem d_M_given_5 : decode cM_given 5 = .ok (.iload 4, 2) := by decide +kernel
theorem d_M_given_7 : decode cM_given 7 = .ok (.iload_n 2, 1) := by decide +kernel
theorem d_M_given_8 : decode cM_given 8 = .ok (.if_icmp .ge 127, 3) := by decide +kernel
theorem d_M_given_11 : decode cM_given 11 = .ok (.iconst 0, 1) := by decide +kernel
theorem d_M_given_12 : decode cM_given 12 = .ok (.istore 5, 2) := by decide +kernel
theorem d_M_given_14 : decode cM_given 14 = .ok (.iconst 0, 1) := by decide +kernel
theorem d_M_given_15 : decode cM_given 15 = .ok (.istore 6, 2) := by decide +kernel
theorem d_M_given_17 : decode cM_given 17 = .ok (.iload 6, 2) := by decide +kernel
theorem d_M_given_19 : decode cM_given 19 = .ok (.bipush 10, 2) := by decide +kernel
theorem d_M_given_21 : decode cM_given 21 = .ok (.if_icmp .ge 108, 3) := by decide +kernel
theorem d_M_given_24 : decode cM_given 24 = .ok (.iload 5, 2) := by decide +kernel
theorem d_M_given_26 : decode cM_given 26 = .ok (.ifCond .ne 103, 3) := by decide +kernel
theorem d_M_given_29 : decode cM_given 29 = .ok (.iload_n 3, 1) := by decide +kernel
theorem d_M_given_30 : decode cM_given 30 = .ok (.iload 6, 2) := by decide +kernel
theorem d_M_given_32 : decode cM_given 32 = .ok (.invokestatic 114, 3) := by decide +kernel
theorem d_M_given_35 : decode cM_given 35 = .ok (.ifCond .ne 49, 3) := by decide +kernel
theorem d_M_given_38 : decode cM_given 38 = .ok (.aload_n 0, 1) := by decide +kernel
theorem d_M_given_39 : decode cM_given 39 = .ok (.iload_n 1, 1) := by decide +kernel
theorem d_M_given_40 : decode cM_given 40 = .ok (.aload_n 0, 1) := by decide +kernel
theorem d_M_given_41 : decode cM_given 41 = .ok (.getfield 74, 3) := by decide +kernel
theorem d_M_given_44 : decode cM_given 44 = .ok (.iload 4, 2) := by decide +kernel
theorem d_M_given_46 : decode cM_given 46 = .ok (.iaload, 1) := by decide +kernel
theorem d_M_given_47 : decode cM_given 47 = .ok (.iload 6, 2) := by decide +kernel
theorem d_M_given_49 : decode cM_given 49 = .ok (.invokevirtual 167, 3) := by decide +kernel
theorem d_M_given_52 : decode cM_given 52 = .ok (.ifCond .eq 32, 3) := by decide +kernel
theorem d_M_given_55 : decode cM_given 55 = .ok (.aload_n 0, 1) := by decide +kernel
theorem d_M_given_56 : decode cM_given 56 = .ok (.getfield 78, 3) := by decide +kernel
theorem d_M_given_59 : decode cM_given 59 = .ok (.sipush 1024, 3) := by decide +kernel
theorem d_M_given_62 : decode cM_given 62 = .ok (.iload 4, 2) := by decide +kernel
theorem d_M_given_64 : decode cM_given 64 = .ok (.imul, 1) := by decide +kernel
theorem d_M_given_65 : decode cM_given 65 = .ok (.sipush 1024, 3) := by decide +kernel
theorem d_M_given_68 : decode cM_given 68 = .ok (.iadd, 1) := by decide +kernel
theorem d_M_given_69 : decode cM_given 69 = .ok (.iload_n 3, 1) := by decide +kernel
theorem d_M_given_70 : decode cM_given 70 = .ok (.iconst 1, 1) := by decide +kernel
theorem d_M_given_71 : decode cM_given 71 = .ok (.iload 6, 2) := by decide +kernel
theorem d_M_given_73 : decode cM_given 73 = .ok (.ishl, 1) := by decide +kernel
theorem d_M_given_74 : decode cM_given 74 = .ok (.ior, 1) := by decide +kernel
theorem d_M_given_75 : decode cM_given 75 = .ok (.iadd, 1) := by decide +kernel
theorem d_M_given_76 : decode cM_given 76 = .ok (.baload, 1) := by decide +kernel
theorem d_M_given_77 : decode cM_given 77 = .ok (.ifCond .eq 7, 3) := by decide +kernel
theorem d_M_given_80 : decode cM_given 80 = .ok (.iconst 1, 1) := by decide +kernel
theorem d_M_given_81 : decode cM_given 81 = .ok (.goto 4, 3) := by decide +kernel
theorem d_M_given_84 : decode cM_given 84 = .ok (.iconst 0, 1) := by decide +kernel
theorem d_M_given_85 : decode cM_given 85 = .ok (.istore 5, 2) := by decide +kernel
theorem d_M_given_87 : decode cM_given 87 = .ok (.iload 5, 2) := by decide +kernel
theorem d_M_given_89 : decode cM_given 89 = .ok (.ifCond .eq 34, 3) := by decide +kernel
theorem d_M_given_92 : decode cM_given 92 = .ok (.iload_n 3, 1) := by decide +kernel
theorem d_M_given_93 : decode cM_given 93 = .ok (.iconst 1, 1) := by decide +kernel
theorem d_M_given_94 : decode cM_given 94 = .ok (.iload 6, 2) := by decide +kernel
theorem d_M_given_96 : decode cM_given 96 = .ok (.ishl, 1) := by decide +kernel
theorem d_M_given_97 : decode cM_given 97 = .ok (.ior, 1) := by decide +kernel
theorem d_M_given_98 : decode cM_given 98 = .ok (.istore_n 3, 1) := by decide +kernel
theorem d_M_given_99 : decode cM_given 99 = .ok (.aload_n 0, 1) := by decide +kernel
theorem d_M_given_100 : decode cM_given 100 = .ok (.getfield 71, 3) := by decide +kernel
theorem d_M_given_103 : decode cM_given 103 = .ok (.bipush 40, 2) := by decide +kernel
theorem d_M_given_105 : decode cM_given 105 = .ok (.iload_n 1, 1) := by decide +kernel
theorem d_M_given_106 : decode cM_given 106 = .ok (.imul, 1) := by decide +kernel
theorem d_M_given_107 : decode cM_given 107 = .ok (.bipush 10, 2) := by decide +kernel
theorem d_M_given_109 : decode cM_given 109 = .ok (.aload_n 0, 1) := by decide +kernel
theorem d_M_given_110 : decode cM_given 110 = .ok (.getfield 74, 3) := by decide +kernel
theorem d_M_given_113 : decode cM_given 113 = .ok (.iload 4, 2) := by decide +kernel
theorem d_M_given_115 : decode cM_given 115 = .ok (.iaload, 1) := by decide +kernel
theorem d_M_given_116 : decode cM_given 116 = .ok (.imul, 1) := by decide +kernel
theorem d_M_given_117 : decode cM_given 117 = .ok (.iadd, 1) := by decide +kernel
theorem d_M_given_118 : decode cM_given 118 = .ok (.iload 6, 2) := by decide +kernel
theorem d_M_given_120 : decode cM_given 120 = .ok (.iadd, 1) := by decide +kernel
theorem d_M_given_121 : decode cM_given 121 = .ok (.iconst 1, 1) := by decide +kernel
theorem d_M_given_122 : decode cM_given 122 = .ok (.bastore, 1) := by decide +kernel
theorem d_M_given_123 : decode cM_given 123 = .ok (.iinc 6 1, 3) := by decide +kernel
theorem d_M_given_126 : decode cM_given 126 = .ok (.goto (-109), 3) := by decide +kernel
theorem d_M_given_129 : decode cM_given 129 = .ok (.iinc 4 1, 3) := by decide +kernel
theorem d_M_given_132 : decode cM_given 132 = .ok (.goto (-127), 3) := by decide +kernel
theorem d_M_given_135 : decode cM_given 135 = .ok (.iconst 1, 1) := by decide +kernel
theorem d_M_given_136 : decode cM_given 136 = .ok (.ireturn, 1) := by decide +kernel
theorem d_M_watcher_0 : decode cM_watcher 0 = .ok (.aload_n 0, 1) := by decide +kernel
theorem d_M_watcher_1 : decode cM_watcher 1 = .ok (.iload_n 1, 1) := by decide +kernel
theorem d_M_watcher_2 : decode cM_watcher 2 = .ok (.invokestatic 104, 3) := by decide +kernel
theorem d_M_watcher_5 : decode cM_watcher 5 = .ok (.ifCond .eq 18, 3) := by decide +kernel
theorem d_M_watcher_8 : decode cM_watcher 8 = .ok (.iload_n 2, 1) := by decide +kernel
theorem d_M_watcher_9 : decode cM_watcher 9 = .ok (.invokestatic 138, 3) := by decide +kernel
theorem d_M_watcher_12 : decode cM_watcher 12 = .ok (.ifCond .eq 11, 3) := by decide +kernel
theorem d_M_watcher_15 : decode cM_watcher 15 = .ok (.iload_n 3, 1) := by decide +kernel
theorem d_M_watcher_16 : decode cM_watcher 16 = .ok (.ifCond .lt 7, 3) := by decide +kernel
theorem d_M_watcher_19 : decode cM_watcher 19 = .ok (.iconst 1, 1) := by decide +kernel
theorem d_M_watcher_20 : decode cM_watcher 20 = .ok (.goto 4, 3) := by decide +kernel
theorem d_M_watcher_23 : decode cM_watcher 23 = .ok (.iconst 0, 1) := by decide +kernel
theorem d_M_watcher_24 : decode cM_watcher 24 = .ok (.iconst 1, 1) := by decide +kernel
theorem d_M_watcher_25 : decode cM_watcher 25 = .ok (.invokevirtual 97, 3) := by decide +kernel
theorem d_M_watcher_28 : decode cM_watcher 28 = .ok (.ifCond .ne 5, 3) := by decide +kernel
theorem d_M_watcher_31 : decode cM_watcher 31 = .ok (.iconst 0, 1) := by decide +kernel
theorem d_M_watcher_32 : decode cM_watcher 32 = .ok (.ireturn, 1) := by decide +kernel
theorem d_M_watcher_33 : decode cM_watcher 33 = .ok (.iconst 0, 1) := by decide +kernel
theorem d_M_watcher_34 : decode cM_watcher 34 = .ok (.istore 4, 2) := by decide +kernel
theorem d_M_watcher_36 : decode cM_watcher 36 = .ok (.iconst 0, 1) := by decide +kernel
theorem d_M_watcher_37 : decode cM_watcher 37 = .ok (.istore 5, 2) := by decide +kernel
theorem d_M_watcher_39 : decode cM_watcher 39 = .ok (.iload 5, 2) := by decide +kernel
theorem d_M_watcher_41 : decode cM_watcher 41 = .ok (.bipush 10, 2) := by decide +kernel
theorem d_M_watcher_43 : decode cM_watcher 43 = .ok (.if_icmp .ge 41, 3) := by decide +kernel
theorem d_M_watcher_46 : decode cM_watcher 46 = .ok (.aload_n 0, 1) := by decide +kernel
theorem d_M_watcher_47 : decode cM_watcher 47 = .ok (.getfield 71, 3) := by decide +kernel
theorem d_M_watcher_50 : decode cM_watcher 50 = .ok (.bipush 40, 2) := by decide +kernel
theorem d_M_watcher_52 : decode cM_watcher 52 = .ok (.iload_n 1, 1) := by decide +kernel
theorem d_M_watcher_53 : decode cM_watcher 53 = .ok (.imul, 1) := by decide +kernel
theorem d_M_watcher_54 : decode cM_watcher 54 = .ok (.bipush 10, 2) := by decide +kernel
theorem d_M_watcher_56 : decode cM_watcher 56 = .ok (.iload_n 2, 1) := by decide +kernel
theorem d_M_watcher_57 : decode cM_watcher 57 = .ok (.imul, 1) := by decide +kernel
theorem d_M_watcher_58 : decode cM_watcher 58 = .ok (.iadd, 1) := by decide +kernel
theorem d_M_watcher_59 : decode cM_watcher 59 = .ok (.iload 5, 2) := by decide +kernel
theorem d_M_watcher_61 : decode cM_watcher 61 = .ok (.iadd, 1) := by decide +kernel
theorem d_M_watcher_62 : decode cM_watcher 62 = .ok (.baload, 1) := by decide +kernel
theorem d_M_watcher_63 : decode cM_watcher 63 = .ok (.ifCond .eq 15, 3) := by decide +kernel
theorem d_M_watcher_66 : decode cM_watcher 66 = .ok (.iload 4, 2) := by decide +kernel
theorem d_M_watcher_68 : decode cM_watcher 68 = .ok (.iload_n 3, 1) := by decide +kernel
theorem d_M_watcher_69 : decode cM_watcher 69 = .ok (.if_icmp .ne 6, 3) := by decide +kernel
theorem d_M_watcher_72 : decode cM_watcher 72 = .ok (.iload 5, 2) := by decide +kernel
theorem d_M_watcher_74 : decode cM_watcher 74 = .ok (.ireturn, 1) := by decide +kernel
theorem d_M_watcher_75 : decode cM_watcher 75 = .ok (.iinc 4 1, 3) := by decide +kernel
theorem d_M_watcher_78 : decode cM_watcher 78 = .ok (.iinc 5 1, 3) := by decide +kernel
theorem d_M_watcher_81 : decode cM_watcher 81 = .ok (.goto (-42), 3) := by decide +kernel
theorem d_M_watcher_84 : decode cM_watcher 84 = .ok (.iconst (-1), 1) := by decide +kernel
theorem d_M_watcher_85 : decode cM_watcher 85 = .ok (.ireturn, 1) := by decide +kernel
theorem d_M_count_0 : decode cM_count 0 = .ok (.aload_n 0, 1) := by decide +kernel
theorem d_M_count_1 : decode cM_count 1 = .ok (.iload_n 1, 1) := by decide +kernel
theorem d_M_count_2 : decode cM_count 2 = .ok (.iconst 0, 1) := by decide +kernel
theorem d_M_count_3 : decode cM_count 3 = .ok (.iconst 4, 1) := by decide +kernel
theorem d_M_count_4 : decode cM_count 4 = .ok (.invokestatic 93, 3) := by decide +kernel
theorem d_M_count_7 : decode cM_count 7 = .ok (.iconst 1, 1) := by decide +kernel
theorem d_M_count_8 : decode cM_count 8 = .ok (.invokevirtual 97, 3) := by decide +kernel
theorem d_M_count_11 : decode cM_count 11 = .ok (.ifCond .ne 5, 3) := by decide +kernel
theorem d_M_count_14 : decode cM_count 14 = .ok (.iconst 0, 1) := by decide +kernel
theorem d_M_count_15 : decode cM_count 15 = .ok (.ireturn, 1) := by decide +kernel
theorem d_M_count_16 : decode cM_count 16 = .ok (.iconst 0, 1) := by decide +kernel
theorem d_M_count_17 : decode cM_count 17 = .ok (.istore_n 2, 1) := by decide +kernel
theorem d_M_count_18 : decode cM_count 18 = .ok (.iload_n 1, 1) := by decide +kernel
theorem d_M_count_19 : decode cM_count 19 = .ok (.ifCond .ne 37, 3) := by decide +kernel
theorem d_M_count_22 : decode cM_count 22 = .ok (.iconst 0, 1) := by decide +kernel
theorem d_M_count_23 : decode cM_count 23 = .ok (.istore_n 3, 1) := by decide +kernel
theorem d_M_count_24 : decode cM_count 24 = .ok (.iload_n 3, 1) := by decide +kernel
theorem d_M_count_25 : decode cM_count 25 = .ok (.bipush 9, 2) := by decide +kernel
theorem d_M_count_27 : decode cM_count 27 = .ok (.if_icmp .ge 26, 3) := by decide +kernel
theorem d_M_count_30 : decode cM_count 30 = .ok (.aload_n 0, 1) := by decide +kernel
theorem d_M_count_31 : decode cM_count 31 = .ok (.getfield 7, 3) := by decide +kernel
theorem d_M_count_34 : decode cM_count 34 = .ok (.iload_n 3, 1) := by decide +kernel
theorem d_M_count_35 : decode cM_count 35 = .ok (.iaload, 1) := by decide +kernel
theorem d_M_count_36 : decode cM_count 36 = .ok (.ifCond .le 9, 3) := by decide +kernel
theorem d_M_count_39 : decode cM_count 39 = .ok (.iload_n 2, 1) := by decide +kernel
theorem d_M_count_40 : decode cM_count 40 = .ok (.iconst 1, 1) := by decide +kernel
theorem d_M_count_41 : decode cM_count 41 = .ok (.iadd, 1) := by decide +kernel
theorem d_M_count_42 : decode cM_count 42 = .ok (.goto 4, 3) := by decide +kernel
theorem d_M_count_45 : decode cM_count 45 = .ok (.iload_n 2, 1) := by decide +kernel
theorem d_M_count_46 : decode cM_count 46 = .ok (.istore_n 2, 1) := by decide +kernel
theorem d_M_count_47 : decode cM_count 47 = .ok (.iinc 3 1, 3) := by decide +kernel
theorem d_M_count_50 : decode cM_count 50 = .ok (.goto (-26), 3) := by decide +kernel
theorem d_M_count_53 : decode cM_count 53 = .ok (.goto 128, 3) := by decide +kernel
theorem d_M_count_56 : decode cM_count 56 = .ok (.iload_n 1, 1) := by decide +kernel
theorem d_M_count_57 : decode cM_count 57 = .ok (.iconst 1, 1) := by decide +kernel
theorem d_M_count_58 : decode cM_count 58 = .ok (.if_icmp .ne 38, 3) := by decide +kernel
theorem d_M_count_61 : decode cM_count 61 = .ok (.iconst 0, 1) := by decide +kernel
theorem d_M_count_62 : decode cM_count 62 = .ok (.istore_n 3, 1) := by decide +kernel
theorem d_M_count_63 : decode cM_count 63 = .ok (.iload_n 3, 1) := by decide +kernel
theorem d_M_count_64 : decode cM_count 64 = .ok (.sipush 360, 3) := by decide +kernel
theorem d_M_count_67 : decode cM_count 67 = .ok (.if_icmp .ge 26, 3) := by decide +kernel
theorem d_M_count_70 : decode cM_count 70 = .ok (.aload_n 0, 1) := by decide +kernel
theorem d_M_count_71 : decode cM_count 71 = .ok (.getfield 19, 3) := by decide +kernel
theorem d_M_count_74 : decode cM_count 74 = .ok (.iload_n 3, 1) := by decide +kernel
theorem d_M_count_75 : decode cM_count 75 = .ok (.baload, 1) := by decide +kernel
theorem d_M_count_76 : decode cM_count 76 = .ok (.ifCond .eq 9, 3) := by decide +kernel
theorem d_M_count_79 : decode cM_count 79 = .ok (.iload_n 2, 1) := by decide +kernel
theorem d_M_count_80 : decode cM_count 80 = .ok (.iconst 1, 1) := by decide +kernel
theorem d_M_count_81 : decode cM_count 81 = .ok (.iadd, 1) := by decide +kernel
theorem d_M_count_82 : decode cM_count 82 = .ok (.goto 4, 3) := by decide +kernel
theorem d_M_count_85 : decode cM_count 85 = .ok (.iload_n 2, 1) := by decide +kernel
theorem d_M_count_86 : decode cM_count 86 = .ok (.istore_n 2, 1) := by decide +kernel
theorem d_M_count_87 : decode cM_count 87 = .ok (.iinc 3 1, 3) := by decide +kernel
theorem d_M_count_90 : decode cM_count 90 = .ok (.goto (-27), 3) := by decide +kernel
theorem d_M_count_93 : decode cM_count 93 = .ok (.goto 88, 3) := by decide +kernel
theorem d_M_count_96 : decode cM_count 96 = .ok (.iload_n 1, 1) := by decide +kernel
theorem d_M_count_97 : decode cM_count 97 = .ok (.iconst 2, 1) := by decide +kernel
theorem d_M_count_98 : decode cM_count 98 = .ok (.if_icmp .ne 11, 3) := by decide +kernel
theorem d_M_count_101 : decode cM_count 101 = .ok (.aload_n 0, 1) := by decide +kernel
theorem d_M_count_102 : decode cM_count 102 = .ok (.invokevirtual 173, 3) := by decide +kernel
theorem d_M_count_105 : decode cM_count 105 = .ok (.istore_n 2, 1) := by decide +kernel
theorem d_M_count_106 : decode cM_count 106 = .ok (.goto 75, 3) := by decide +kernel
theorem d_M_count_109 : decode cM_count 109 = .ok (.iload_n 1, 1) := by decide +kernel
theorem d_M_count_110 : decode cM_count 110 = .ok (.iconst 3, 1) := by decide +kernel
theorem d_M_count_111 : decode cM_count 111 = .ok (.if_icmp .ne 38, 3) := by decide +kernel
theorem d_M_count_114 : decode cM_count 114 = .ok (.iconst 0, 1) := by decide +kernel
theorem d_M_count_115 : decode cM_count 115 = .ok (.istore_n 3, 1) := by decide +kernel
theorem d_M_count_116 : decode cM_count 116 = .ok (.iload_n 3, 1) := by decide +kernel
theorem d_M_count_117 : decode cM_count 117 = .ok (.sipush 864, 3) := by decide +kernel
theorem d_M_count_120 : decode cM_count 120 = .ok (.if_icmp .ge 26, 3) := by decide +kernel
theorem d_M_count_123 : decode cM_count 123 = .ok (.aload_n 0, 1) := by decide +kernel
theorem d_M_count_124 : decode cM_count 124 = .ok (.getfield 59, 3) := by decide +kernel
theorem d_M_count_127 : decode cM_count 127 = .ok (.iload_n 3, 1) := by decide +kernel
theorem d_M_count_128 : decode cM_count 128 = .ok (.iaload, 1) := by decide +kernel
theorem d_M_count_129 : decode cM_count 129 = .ok (.ifCond .le 9, 3) := by decide +kernel
theorem d_M_count_132 : decode cM_count 132 = .ok (.iload_n 2, 1) := by decide +kernel
theorem d_M_count_133 : decode cM_count 133 = .ok (.iconst 1, 1) := by decide +kernel
theorem d_M_count_134 : decode cM_count 134 = .ok (.iadd, 1) := by decide +kernel
theorem d_M_count_135 : decode cM_count 135 = .ok (.goto 4, 3) := by decide +kernel
theorem d_M_count_138 : decode cM_count 138 = .ok (.iload_n 2, 1) := by decide +kernel
theorem d_M_count_139 : decode cM_count 139 = .ok (.istore_n 2, 1) := by decide +kernel
theorem d_M_count_140 : decode cM_count 140 = .ok (.iinc 3 1, 3) := by decide +kernel
theorem d_M_count_143 : decode cM_count 143 = .ok (.goto (-27), 3) := by decide +kernel
theorem d_M_count_146 : decode cM_count 146 = .ok (.goto 35, 3) := by decide +kernel
theorem d_M_count_149 : decode cM_count 149 = .ok (.iconst 0, 1) := by decide +kernel
theorem d_M_count_150 : decode cM_count 150 = .ok (.istore_n 3, 1) := by decide +kernel
theorem d_M_count_151 : decode cM_count 151 = .ok (.iload_n 3, 1) := by decide +kernel
theorem d_M_count_152 : decode cM_count 152 = .ok (.sipush 240, 3) := by decide +kernel
theorem d_M_count_155 : decode cM_count 155 = .ok (.if_icmp .ge 26, 3) := by decide +kernel
theorem d_M_count_158 : decode cM_count 158 = .ok (.aload_n 0, 1) := by decide +kernel
theorem d_M_count_159 : decode cM_count 159 = .ok (.getfield 71, 3) := by decide +kernel
theorem d_M_count_162 : decode cM_count 162 = .ok (.iload_n 3, 1) := by decide +kernel
theorem d_M_count_163 : decode cM_count 163 = .ok (.baload, 1) := by decide +kernel
theorem d_M_count_164 : decode cM_count 164 = .ok (.ifCond .eq 9, 3) := by decide +kernel
theorem d_M_count_167 : decode cM_count 167 = .ok (.iload_n 2, 1) := by decide +kernel
theorem d_M_count_168 : decode cM_count 168 = .ok (.iconst 1, 1) := by decide +kernel
theorem d_M_count_169 : decode cM_count 169 = .ok (.iadd, 1) := by decide +kernel
theorem d_M_count_170 : decode cM_count 170 = .ok (.goto 4, 3) := by decide +kernel
theorem d_M_count_173 : decode cM_count 173 = .ok (.iload_n 2, 1) := by decide +kernel
theorem d_M_count_174 : decode cM_count 174 = .ok (.istore_n 2, 1) := by decide +kernel
theorem d_M_count_175 : decode cM_count 175 = .ok (.iinc 3 1, 3) := by decide +kernel
theorem d_M_count_178 : decode cM_count 178 = .ok (.goto (-27), 3) := by decide +kernel
theorem d_M_count_181 : decode cM_count 181 = .ok (.iload_n 2, 1) := by decide +kernel
theorem d_M_count_182 : decode cM_count 182 = .ok (.ireturn, 1) := by decide +kernel
theorem d_M_used_0 : decode cM_used 0 = .ok (.iconst 0, 1) := by decide +kernel
theorem d_M_used_1 : decode cM_used 1 = .ok (.istore_n 1, 1) := by decide +kernel
theorem d_M_used_2 : decode cM_used 2 = .ok (.iconst 0, 1) := by decide +kernel
theorem d_M_used_3 : decode cM_used 3 = .ok (.istore_n 2, 1) := by decide +kernel
theorem d_M_used_4 : decode cM_used 4 = .ok (.iload_n 2, 1) := by decide +kernel
theorem d_M_used_5 : decode cM_used 5 = .ok (.bipush 6, 2) := by decide +kernel
theorem d_M_used_7 : decode cM_used 7 = .ok (.if_icmp .ge 67, 3) := by decide +kernel
theorem d_M_used_10 : decode cM_used 10 = .ok (.iconst 0, 1) := by decide +kernel
theorem d_M_used_11 : decode cM_used 11 = .ok (.istore_n 3, 1) := by decide +kernel
theorem d_M_used_12 : decode cM_used 12 = .ok (.iconst 0, 1) := by decide +kernel
theorem d_M_used_13 : decode cM_used 13 = .ok (.istore 4, 2) := by decide +kernel
theorem d_M_used_15 : decode cM_used 15 = .ok (.iload 4, 2) := by decide +kernel
theorem d_M_used_17 : decode cM_used 17 = .ok (.bipush 9, 2) := by decide +kernel
theorem d_M_used_19 : decode cM_used 19 = .ok (.if_icmp .ge 37, 3) := by decide +kernel
theorem d_M_used_22 : decode cM_used 22 = .ok (.iload_n 3, 1) := by decide +kernel
theorem d_M_used_23 : decode cM_used 23 = .ok (.ifCond .ne 21, 3) := by decide +kernel
theorem d_M_used_26 : decode cM_used 26 = .ok (.aload_n 0, 1) := by decide +kernel
theorem d_M_used_27 : decode cM_used 27 = .ok (.getfield 85, 3) := by decide +kernel
theorem d_M_used_30 : decode cM_used 30 = .ok (.ifCond .eq 18, 3) := by decide +kernel
theorem d_M_used_33 : decode cM_used 33 = .ok (.aload_n 0, 1) := by decide +kernel
theorem d_M_used_34 : decode cM_used 34 = .ok (.getfield 29, 3) := by decide +kernel
theorem d_M_used_37 : decode cM_used 37 = .ok (.iload 4, 2) := by decide +kernel
theorem d_M_used_39 : decode cM_used 39 = .ok (.iaload, 1) := by decide +kernel
theorem d_M_used_40 : decode cM_used 40 = .ok (.iload_n 2, 1) := by decide +kernel
theorem d_M_used_41 : decode cM_used 41 = .ok (.if_icmp .ne 7, 3) := by decide +kernel
theorem d_M_used_44 : decode cM_used 44 = .ok (.iconst 1, 1) := by decide +kernel
theorem d_M_used_45 : decode cM_used 45 = .ok (.goto 4, 3) := by decide +kernel
theorem d_M_used_48 : decode cM_used 48 = .ok (.iconst 0, 1) := by decide +kernel
theorem d_M_used_49 : decode cM_used 49 = .ok (.istore_n 3, 1) := by decide +kernel
theorem d_M_used_50 : decode cM_used 50 = .ok (.iinc 4 1, 3) := by decide +kernel
theorem d_M_used_53 : decode cM_used 53 = .ok (.goto (-38), 3) := by decide +kernel
theorem d_M_used_56 : decode cM_used 56 = .ok (.iload_n 3, 1) := by decide +kernel
theorem d_M_used_57 : decode cM_used 57 = .ok (.ifCond .eq 9, 3) := by decide +kernel
theorem d_M_used_60 : decode cM_used 60 = .ok (.iload_n 1, 1) := by decide +kernel
theorem d_M_used_61 : decode cM_used 61 = .ok (.iconst 1, 1) := by decide +kernel
theorem d_M_used_62 : decode cM_used 62 = .ok (.iadd, 1) := by decide +kernel
theorem d_M_used_63 : decode cM_used 63 = .ok (.goto 4, 3) := by decide +kernel
theorem d_M_used_66 : decode cM_used 66 = .ok (.iload_n 1, 1) := by decide +kernel
theorem d_M_used_67 : decode cM_used 67 = .ok (.istore_n 1, 1) := by decide +kernel
theorem d_M_used_68 : decode cM_used 68 = .ok (.iinc 2 1, 3) := by decide +kernel
theorem d_M_used_71 : decode cM_used 71 = .ok (.goto (-67), 3) := by decide +kernel
theorem d_M_used_74 : decode cM_used 74 = .ok (.iload_n 1, 1) := by decide +kernel
theorem d_M_used_75 : decode cM_used 75 = .ok (.ireturn, 1) := by decide +kernel
