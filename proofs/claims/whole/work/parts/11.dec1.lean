theorem dX0_init_0 : decode cX0_init 0 = .ok (.aload_n 0, 1) := by decide +kernel
theorem dX0_init_1 : decode cX0_init 1 = .ok (.invokespecial 3, 3) := by decide +kernel
theorem dX0_init_4 : decode cX0_init 4 = .ok (.aload_n 0, 1) := by decide +kernel
theorem dX0_init_5 : decode cX0_init 5 = .ok (.bipush 9, 2) := by decide +kernel
theorem dX0_init_7 : decode cX0_init 7 = .ok (.putfield 9, 3) := by decide +kernel
theorem dX0_init_10 : decode cX0_init 10 = .ok (.aload_n 0, 1) := by decide +kernel
theorem dX0_init_11 : decode cX0_init 11 = .ok (.iconst 4, 1) := by decide +kernel
theorem dX0_init_12 : decode cX0_init 12 = .ok (.putfield 15, 3) := by decide +kernel
theorem dX0_init_15 : decode cX0_init 15 = .ok (.aload_n 0, 1) := by decide +kernel
theorem dX0_init_16 : decode cX0_init 16 = .ok (.iconst 5, 1) := by decide +kernel
theorem dX0_init_17 : decode cX0_init 17 = .ok (.newarray .int, 2) := by decide +kernel
theorem dX0_init_19 : decode cX0_init 19 = .ok (.putfield 18, 3) := by decide +kernel
theorem dX0_init_22 : decode cX0_init 22 = .ok (.aload_n 0, 1) := by decide +kernel
theorem dX0_init_23 : decode cX0_init 23 = .ok (.iconst 5, 1) := by decide +kernel
theorem dX0_init_24 : decode cX0_init 24 = .ok (.newarray .int, 2) := by decide +kernel
theorem dX0_init_26 : decode cX0_init 26 = .ok (.putfield 22, 3) := by decide +kernel
theorem dX0_init_29 : decode cX0_init 29 = .ok (.aload_n 0, 1) := by decide +kernel
theorem dX0_init_30 : decode cX0_init 30 = .ok (.iconst 5, 1) := by decide +kernel
theorem dX0_init_31 : decode cX0_init 31 = .ok (.newarray .int, 2) := by decide +kernel
theorem dX0_init_33 : decode cX0_init 33 = .ok (.putfield 25, 3) := by decide +kernel
theorem dX0_init_36 : decode cX0_init 36 = .ok (.aload_n 0, 1) := by decide +kernel
theorem dX0_init_37 : decode cX0_init 37 = .ok (.bipush 14, 2) := by decide +kernel
theorem dX0_init_39 : decode cX0_init 39 = .ok (.newarray .int, 2) := by decide +kernel
theorem dX0_init_41 : decode cX0_init 41 = .ok (.putfield 28, 3) := by decide +kernel
theorem dX0_init_44 : decode cX0_init 44 = .ok (.aload_n 0, 1) := by decide +kernel
theorem dX0_init_45 : decode cX0_init 45 = .ok (.bipush 14, 2) := by decide +kernel
theorem dX0_init_47 : decode cX0_init 47 = .ok (.newarray .int, 2) := by decide +kernel
theorem dX0_init_49 : decode cX0_init 49 = .ok (.putfield 31, 3) := by decide +kernel
theorem dX0_init_52 : decode cX0_init 52 = .ok (.aload_n 0, 1) := by decide +kernel
theorem dX0_init_53 : decode cX0_init 53 = .ok (.bipush 14, 2) := by decide +kernel
theorem dX0_init_55 : decode cX0_init 55 = .ok (.newarray .int, 2) := by decide +kernel
theorem dX0_init_57 : decode cX0_init 57 = .ok (.putfield 34, 3) := by decide +kernel
theorem dX0_init_60 : decode cX0_init 60 = .ok (.aload_n 0, 1) := by decide +kernel
theorem dX0_init_61 : decode cX0_init 61 = .ok (.bipush 14, 2) := by decide +kernel
theorem dX0_init_63 : decode cX0_init 63 = .ok (.newarray .int, 2) := by decide +kernel
theorem dX0_init_65 : decode cX0_init 65 = .ok (.putfield 37, 3) := by decide +kernel
theorem dX0_init_68 : decode cX0_init 68 = .ok (.aload_n 0, 1) := by decide +kernel
theorem dX0_init_69 : decode cX0_init 69 = .ok (.bipush 10, 2) := by decide +kernel
theorem dX0_init_71 : decode cX0_init 71 = .ok (.newarray .int, 2) := by decide +kernel
theorem dX0_init_73 : decode cX0_init 73 = .ok (.putfield 40, 3) := by decide +kernel
theorem dX0_init_76 : decode cX0_init 76 = .ok (.aload_n 0, 1) := by decide +kernel
theorem dX0_init_77 : decode cX0_init 77 = .ok (.bipush 50, 2) := by decide +kernel
theorem dX0_init_79 : decode cX0_init 79 = .ok (.newarray .int, 2) := by decide +kernel
theorem dX0_init_81 : decode cX0_init 81 = .ok (.putfield 43, 3) := by decide +kernel
theorem dX0_init_84 : decode cX0_init 84 = .ok (.return_, 1) := by decide +kernel
theorem dX0_copyFrom_0 : decode cX0_copyFrom 0 = .ok (.aload_n 0, 1) := by decide +kernel
theorem dX0_copyFrom_1 : decode cX0_copyFrom 1 = .ok (.aload_n 1, 1) := by decide +kernel
theorem dX0_copyFrom_2 : decode cX0_copyFrom 2 = .ok (.getfield 46, 3) := by decide +kernel
theorem dX0_copyFrom_5 : decode cX0_copyFrom 5 = .ok (.putfield 46, 3) := by decide +kernel
theorem dX0_copyFrom_8 : decode cX0_copyFrom 8 = .ok (.aload_n 0, 1) := by decide +kernel
theorem dX0_copyFrom_9 : decode cX0_copyFrom 9 = .ok (.aload_n 1, 1) := by decide +kernel
theorem dX0_copyFrom_10 : decode cX0_copyFrom 10 = .ok (.getfield 49, 3) := by decide +kernel
theorem dX0_copyFrom_13 : decode cX0_copyFrom 13 = .ok (.putfield 49, 3) := by decide +kernel
theorem dX0_copyFrom_16 : decode cX0_copyFrom 16 = .ok (.aload_n 0, 1) := by decide +kernel
theorem dX0_copyFrom_17 : decode cX0_copyFrom 17 = .ok (.aload_n 1, 1) := by decide +kernel
theorem dX0_copyFrom_18 : decode cX0_copyFrom 18 = .ok (.getfield 52, 3) := by decide +kernel
theorem dX0_copyFrom_21 : decode cX0_copyFrom 21 = .ok (.putfield 52, 3) := by decide +kernel
theorem dX0_copyFrom_24 : decode cX0_copyFrom 24 = .ok (.aload_n 0, 1) := by decide +kernel
theorem dX0_copyFrom_25 : decode cX0_copyFrom 25 = .ok (.aload_n 1, 1) := by decide +kernel
theorem dX0_copyFrom_26 : decode cX0_copyFrom 26 = .ok (.getfield 55, 3) := by decide +kernel
theorem dX0_copyFrom_29 : decode cX0_copyFrom 29 = .ok (.putfield 55, 3) := by decide +kernel
theorem dX0_copyFrom_32 : decode cX0_copyFrom 32 = .ok (.aload_n 0, 1) := by decide +kernel
theorem dX0_copyFrom_33 : decode cX0_copyFrom 33 = .ok (.aload_n 1, 1) := by decide +kernel
theorem dX0_copyFrom_34 : decode cX0_copyFrom 34 = .ok (.getfield 9, 3) := by decide +kernel
theorem dX0_copyFrom_37 : decode cX0_copyFrom 37 = .ok (.putfield 9, 3) := by decide +kernel
theorem dX0_copyFrom_40 : decode cX0_copyFrom 40 = .ok (.aload_n 0, 1) := by decide +kernel
theorem dX0_copyFrom_41 : decode cX0_copyFrom 41 = .ok (.aload_n 1, 1) := by decide +kernel
theorem dX0_copyFrom_42 : decode cX0_copyFrom 42 = .ok (.getfield 15, 3) := by decide +kernel
theorem dX0_copyFrom_45 : decode cX0_copyFrom 45 = .ok (.putfield 15, 3) := by decide +kernel
theorem dX0_copyFrom_48 : decode cX0_copyFrom 48 = .ok (.aload_n 0, 1) := by decide +kernel
theorem dX0_copyFrom_49 : decode cX0_copyFrom 49 = .ok (.aload_n 1, 1) := by decide +kernel
theorem dX0_copyFrom_50 : decode cX0_copyFrom 50 = .ok (.getfield 58, 3) := by decide +kernel
theorem dX0_copyFrom_53 : decode cX0_copyFrom 53 = .ok (.putfield 58, 3) := by decide +kernel
theorem dX0_copyFrom_56 : decode cX0_copyFrom 56 = .ok (.aload_n 0, 1) := by decide +kernel
theorem dX0_copyFrom_57 : decode cX0_copyFrom 57 = .ok (.aload_n 1, 1) := by decide +kernel
theorem dX0_copyFrom_58 : decode cX0_copyFrom 58 = .ok (.getfield 61, 3) := by decide +kernel
theorem dX0_copyFrom_61 : decode cX0_copyFrom 61 = .ok (.putfield 61, 3) := by decide +kernel
theorem dX0_copyFrom_64 : decode cX0_copyFrom 64 = .ok (.aload_n 0, 1) := by decide +kernel
theorem dX0_copyFrom_65 : decode cX0_copyFrom 65 = .ok (.aload_n 1, 1) := by decide +kernel
theorem dX0_copyFrom_66 : decode cX0_copyFrom 66 = .ok (.getfield 64, 3) := by decide +kernel
theorem dX0_copyFrom_69 : decode cX0_copyFrom 69 = .ok (.putfield 64, 3) := by decide +kernel
theorem dX0_copyFrom_72 : decode cX0_copyFrom 72 = .ok (.aload_n 0, 1) := by decide +kernel
theorem dX0_copyFrom_73 : decode cX0_copyFrom 73 = .ok (.aload_n 1, 1) := by decide +kernel
theorem dX0_copyFrom_74 : decode cX0_copyFrom 74 = .ok (.getfield 67, 3) := by decide +kernel
theorem dX0_copyFrom_77 : decode cX0_copyFrom 77 = .ok (.putfield 67, 3) := by decide +kernel
theorem dX0_copyFrom_80 : decode cX0_copyFrom 80 = .ok (.aload_n 0, 1) := by decide +kernel
theorem dX0_copyFrom_81 : decode cX0_copyFrom 81 = .ok (.aload_n 1, 1) := by decide +kernel
theorem dX0_copyFrom_82 : decode cX0_copyFrom 82 = .ok (.getfield 70, 3) := by decide +kernel
theorem dX0_copyFrom_85 : decode cX0_copyFrom 85 = .ok (.putfield 70, 3) := by decide +kernel
theorem dX0_copyFrom_88 : decode cX0_copyFrom 88 = .ok (.aload_n 1, 1) := by decide +kernel
theorem dX0_copyFrom_89 : decode cX0_copyFrom 89 = .ok (.getfield 18, 3) := by decide +kernel
theorem dX0_copyFrom_92 : decode cX0_copyFrom 92 = .ok (.iconst 0, 1) := by decide +kernel
theorem dX0_copyFrom_93 : decode cX0_copyFrom 93 = .ok (.aload_n 0, 1) := by decide +kernel
theorem dX0_copyFrom_94 : decode cX0_copyFrom 94 = .ok (.getfield 18, 3) := by decide +kernel
theorem dX0_copyFrom_97 : decode cX0_copyFrom 97 = .ok (.iconst 0, 1) := by decide +kernel
theorem dX0_copyFrom_98 : decode cX0_copyFrom 98 = .ok (.iconst 5, 1) := by decide +kernel
theorem dX0_copyFrom_99 : decode cX0_copyFrom 99 = .ok (.invokestatic 73, 3) := by decide +kernel
theorem dX0_copyFrom_102 : decode cX0_copyFrom 102 = .ok (.aload_n 1, 1) := by decide +kernel
theorem dX0_copyFrom_103 : decode cX0_copyFrom 103 = .ok (.getfield 22, 3) := by decide +kernel
theorem dX0_copyFrom_106 : decode cX0_copyFrom 106 = .ok (.iconst 0, 1) := by decide +kernel
theorem dX0_copyFrom_107 : decode cX0_copyFrom 107 = .ok (.aload_n 0, 1) := by decide +kernel
theorem dX0_copyFrom_108 : decode cX0_copyFrom 108 = .ok (.getfield 22, 3) := by decide +kernel
theorem dX0_copyFrom_111 : decode cX0_copyFrom 111 = .ok (.iconst 0, 1) := by decide +kernel
theorem dX0_copyFrom_112 : decode cX0_copyFrom 112 = .ok (.iconst 5, 1) := by decide +kernel
theorem dX0_copyFrom_113 : decode cX0_copyFrom 113 = .ok (.invokestatic 73, 3) := by decide +kernel
theorem dX0_copyFrom_116 : decode cX0_copyFrom 116 = .ok (.aload_n 1, 1) := by decide +kernel
theorem dX0_copyFrom_117 : decode cX0_copyFrom 117 = .ok (.getfield 25, 3) := by decide +kernel
theorem dX0_copyFrom_120 : decode cX0_copyFrom 120 = .ok (.iconst 0, 1) := by decide +kernel
theorem dX0_copyFrom_121 : decode cX0_copyFrom 121 = .ok (.aload_n 0, 1) := by decide +kernel
theorem dX0_copyFrom_122 : decode cX0_copyFrom 122 = .ok (.getfield 25, 3) := by decide +kernel
theorem dX0_copyFrom_125 : decode cX0_copyFrom 125 = .ok (.iconst 0, 1) := by decide +kernel
theorem dX0_copyFrom_126 : decode cX0_copyFrom 126 = .ok (.iconst 5, 1) := by decide +kernel
theorem dX0_copyFrom_127 : decode cX0_copyFrom 127 = .ok (.invokestatic 73, 3) := by decide +kernel
theorem dX0_copyFrom_130 : decode cX0_copyFrom 130 = .ok (.aload_n 1, 1) := by decide +kernel
theorem dX0_copyFrom_131 : decode cX0_copyFrom 131 = .ok (.getfield 28, 3) := by decide +kernel
theorem dX0_copyFrom_134 : decode cX0_copyFrom 134 = .ok (.iconst 0, 1) := by decide +kernel
theorem dX0_copyFrom_135 : decode cX0_copyFrom 135 = .ok (.aload_n 0, 1) := by decide +kernel
theorem dX0_copyFrom_136 : decode cX0_copyFrom 136 = .ok (.getfield 28, 3) := by decide +kernel
theorem dX0_copyFrom_139 : decode cX0_copyFrom 139 = .ok (.iconst 0, 1) := by decide +kernel
theorem dX0_copyFrom_140 : decode cX0_copyFrom 140 = .ok (.bipush 14, 2) := by decide +kernel
theorem dX0_copyFrom_142 : decode cX0_copyFrom 142 = .ok (.invokestatic 73, 3) := by decide +kernel
theorem dX0_copyFrom_145 : decode cX0_copyFrom 145 = .ok (.aload_n 1, 1) := by decide +kernel
theorem dX0_copyFrom_146 : decode cX0_copyFrom 146 = .ok (.getfield 31, 3) := by decide +kernel
theorem dX0_copyFrom_149 : decode cX0_copyFrom 149 = .ok (.iconst 0, 1) := by decide +kernel
theorem dX0_copyFrom_150 : decode cX0_copyFrom 150 = .ok (.aload_n 0, 1) := by decide +kernel
theorem dX0_copyFrom_151 : decode cX0_copyFrom 151 = .ok (.getfield 31, 3) := by decide +kernel
theorem dX0_copyFrom_154 : decode cX0_copyFrom 154 = .ok (.iconst 0, 1) := by decide +kernel
theorem dX0_copyFrom_155 : decode cX0_copyFrom 155 = .ok (.bipush 14, 2) := by decide +kernel
theorem dX0_copyFrom_157 : decode cX0_copyFrom 157 = .ok (.invokestatic 73, 3) := by decide +kernel
theorem dX0_copyFrom_160 : decode cX0_copyFrom 160 = .ok (.aload_n 1, 1) := by decide +kernel
theorem dX0_copyFrom_161 : decode cX0_copyFrom 161 = .ok (.getfield 34, 3) := by decide +kernel
theorem dX0_copyFrom_164 : decode cX0_copyFrom 164 = .ok (.iconst 0, 1) := by decide +kernel
theorem dX0_copyFrom_165 : decode cX0_copyFrom 165 = .ok (.aload_n 0, 1) := by decide +kernel
theorem dX0_copyFrom_166 : decode cX0_copyFrom 166 = .ok (.getfield 34, 3) := by decide +kernel
theorem dX0_copyFrom_169 : decode cX0_copyFrom 169 = .ok (.iconst 0, 1) := by decide +kernel
theorem dX0_copyFrom_170 : decode cX0_copyFrom 170 = .ok (.bipush 14, 2) := by decide +kernel
theorem dX0_copyFrom_172 : decode cX0_copyFrom 172 = .ok (.invokestatic 73, 3) := by decide +kernel
theorem dX0_copyFrom_175 : decode cX0_copyFrom 175 = .ok (.aload_n 1, 1) := by decide +kernel
theorem dX0_copyFrom_176 : decode cX0_copyFrom 176 = .ok (.getfield 37, 3) := by decide +kernel
theorem dX0_copyFrom_179 : decode cX0_copyFrom 179 = .ok (.iconst 0, 1) := by decide +kernel
theorem dX0_copyFrom_180 : decode cX0_copyFrom 180 = .ok (.aload_n 0, 1) := by decide +kernel
theorem dX0_copyFrom_181 : decode cX0_copyFrom 181 = .ok (.getfield 37, 3) := by decide +kernel
theorem dX0_copyFrom_184 : decode cX0_copyFrom 184 = .ok (.iconst 0, 1) := by decide +kernel
theorem dX0_copyFrom_185 : decode cX0_copyFrom 185 = .ok (.bipush 14, 2) := by decide +kernel
theorem dX0_copyFrom_187 : decode cX0_copyFrom 187 = .ok (.invokestatic 73, 3) := by decide +kernel
theorem dX0_copyFrom_190 : decode cX0_copyFrom 190 = .ok (.aload_n 1, 1) := by decide +kernel
theorem dX0_copyFrom_191 : decode cX0_copyFrom 191 = .ok (.getfield 40, 3) := by decide +kernel
theorem dX0_copyFrom_194 : decode cX0_copyFrom 194 = .ok (.iconst 0, 1) := by decide +kernel
theorem dX0_copyFrom_195 : decode cX0_copyFrom 195 = .ok (.aload_n 0, 1) := by decide +kernel
theorem dX0_copyFrom_196 : decode cX0_copyFrom 196 = .ok (.getfield 40, 3) := by decide +kernel
theorem dX0_copyFrom_199 : decode cX0_copyFrom 199 = .ok (.iconst 0, 1) := by decide +kernel
theorem dX0_copyFrom_200 : decode cX0_copyFrom 200 = .ok (.bipush 10, 2) := by decide +kernel
theorem dX0_copyFrom_202 : decode cX0_copyFrom 202 = .ok (.invokestatic 73, 3) := by decide +kernel
theorem dX0_copyFrom_205 : decode cX0_copyFrom 205 = .ok (.aload_n 1, 1) := by decide +kernel
theorem dX0_copyFrom_206 : decode cX0_copyFrom 206 = .ok (.getfield 43, 3) := by decide +kernel
theorem dX0_copyFrom_209 : decode cX0_copyFrom 209 = .ok (.iconst 0, 1) := by decide +kernel
theorem dX0_copyFrom_210 : decode cX0_copyFrom 210 = .ok (.aload_n 0, 1) := by decide +kernel
theorem dX0_copyFrom_211 : decode cX0_copyFrom 211 = .ok (.getfield 43, 3) := by decide +kernel
theorem dX0_copyFrom_214 : decode cX0_copyFrom 214 = .ok (.iconst 0, 1) := by decide +kernel
theorem dX0_copyFrom_215 : decode cX0_copyFrom 215 = .ok (.bipush 50, 2) := by decide +kernel
theorem dX0_copyFrom_217 : decode cX0_copyFrom 217 = .ok (.invokestatic 73, 3) := by decide +kernel
theorem dX0_copyFrom_220 : decode cX0_copyFrom 220 = .ok (.return_, 1) := by decide +kernel
theorem dX0_isParty_0 : decode cX0_isParty 0 = .ok (.iload_n 1, 1) := by decide +kernel
theorem dX0_isParty_1 : decode cX0_isParty 1 = .ok (.ifCond .lt 15, 3) := by decide +kernel
theorem dX0_isParty_4 : decode cX0_isParty 4 = .ok (.iload_n 1, 1) := by decide +kernel
theorem dX0_isParty_5 : decode cX0_isParty 5 = .ok (.aload_n 0, 1) := by decide +kernel
theorem dX0_isParty_6 : decode cX0_isParty 6 = .ok (.getfield 61, 3) := by decide +kernel
theorem dX0_isParty_9 : decode cX0_isParty 9 = .ok (.if_icmp .ge 7, 3) := by decide +kernel
theorem dX0_isParty_12 : decode cX0_isParty 12 = .ok (.iconst 1, 1) := by decide +kernel
theorem dX0_isParty_13 : decode cX0_isParty 13 = .ok (.goto 4, 3) := by decide +kernel
theorem dX0_isParty_16 : decode cX0_isParty 16 = .ok (.iconst 0, 1) := by decide +kernel
theorem dX0_isParty_17 : decode cX0_isParty 17 = .ok (.ireturn, 1) := by decide +kernel
theorem dX0_isTree_0 : decode cX0_isTree 0 = .ok (.iload_n 1, 1) := by decide +kernel
theorem dX0_isTree_1 : decode cX0_isTree 1 = .ok (.ifCond .lt 15, 3) := by decide +kernel
theorem dX0_isTree_4 : decode cX0_isTree 4 = .ok (.iload_n 1, 1) := by decide +kernel
theorem dX0_isTree_5 : decode cX0_isTree 5 = .ok (.aload_n 0, 1) := by decide +kernel
theorem dX0_isTree_6 : decode cX0_isTree 6 = .ok (.getfield 64, 3) := by decide +kernel
theorem dX0_isTree_9 : decode cX0_isTree 9 = .ok (.if_icmp .ge 7, 3) := by decide +kernel
theorem dX0_isTree_12 : decode cX0_isTree 12 = .ok (.iconst 1, 1) := by decide +kernel
theorem dX0_isTree_13 : decode cX0_isTree 13 = .ok (.goto 4, 3) := by decide +kernel
theorem dX0_isTree_16 : decode cX0_isTree 16 = .ok (.iconst 0, 1) := by decide +kernel
theorem dX0_isTree_17 : decode cX0_isTree 17 = .ok (.ireturn, 1) := by decide +kernel
theorem dX0_isEater_0 : decode cX0_isEater 0 = .ok (.iload_n 1, 1) := by decide +kernel
theorem dX0_isEater_1 : decode cX0_isEater 1 = .ok (.ifCond .lt 15, 3) := by decide +kernel
theorem dX0_isEater_4 : decode cX0_isEater 4 = .ok (.iload_n 1, 1) := by decide +kernel
theorem dX0_isEater_5 : decode cX0_isEater 5 = .ok (.aload_n 0, 1) := by decide +kernel
theorem dX0_isEater_6 : decode cX0_isEater 6 = .ok (.getfield 67, 3) := by decide +kernel
theorem dX0_isEater_9 : decode cX0_isEater 9 = .ok (.if_icmp .ge 7, 3) := by decide +kernel
theorem dX0_isEater_12 : decode cX0_isEater 12 = .ok (.iconst 1, 1) := by decide +kernel
theorem dX0_isEater_13 : decode cX0_isEater 13 = .ok (.goto 4, 3) := by decide +kernel
theorem dX0_isEater_16 : decode cX0_isEater 16 = .ok (.iconst 0, 1) := by decide +kernel
theorem dX0_isEater_17 : decode cX0_isEater 17 = .ok (.ireturn, 1) := by decide +kernel
theorem dX0_isFenced_0 : decode cX0_isFenced 0 = .ok (.aload_n 0, 1) := by decide +kernel
theorem dX0_isFenced_1 : decode cX0_isFenced 1 = .ok (.getfield 58, 3) := by decide +kernel
theorem dX0_isFenced_4 : decode cX0_isFenced 4 = .ok (.iload_n 1, 1) := by decide +kernel
theorem dX0_isFenced_5 : decode cX0_isFenced 5 = .ok (.ishr, 1) := by decide +kernel
theorem dX0_isFenced_6 : decode cX0_isFenced 6 = .ok (.iconst 1, 1) := by decide +kernel
theorem dX0_isFenced_7 : decode cX0_isFenced 7 = .ok (.iand, 1) := by decide +kernel
theorem dX0_isFenced_8 : decode cX0_isFenced 8 = .ok (.iconst 1, 1) := by decide +kernel
theorem dX0_isFenced_9 : decode cX0_isFenced 9 = .ok (.if_icmp .ne 7, 3) := by decide +kernel
theorem dX0_isFenced_12 : decode cX0_isFenced 12 = .ok (.iconst 1, 1) := by decide +kernel
theorem dX0_isFenced_13 : decode cX0_isFenced 13 = .ok (.goto 4, 3) := by decide +kernel
theorem dX0_isFenced_16 : decode cX0_isFenced 16 = .ok (.iconst 0, 1) := by decide +kernel
theorem dX0_isFenced_17 : decode cX0_isFenced 17 = .ok (.ireturn, 1) := by decide +kernel
theorem dX0_turnFence_0 : decode cX0_turnFence 0 = .ok (.aload_n 0, 1) := by decide +kernel
theorem dX0_turnFence_1 : decode cX0_turnFence 1 = .ok (.dup, 1) := by decide +kernel
theorem dX0_turnFence_2 : decode cX0_turnFence 2 = .ok (.getfield 58, 3) := by decide +kernel
theorem dX0_turnFence_5 : decode cX0_turnFence 5 = .ok (.iconst 1, 1) := by decide +kernel
theorem dX0_turnFence_6 : decode cX0_turnFence 6 = .ok (.iload_n 1, 1) := by decide +kernel
theorem dX0_turnFence_7 : decode cX0_turnFence 7 = .ok (.ishl, 1) := by decide +kernel
theorem dX0_turnFence_8 : decode cX0_turnFence 8 = .ok (.ixor, 1) := by decide +kernel
theorem dX0_turnFence_9 : decode cX0_turnFence 9 = .ok (.putfield 58, 3) := by decide +kernel
theorem dX0_turnFence_12 : decode cX0_turnFence 12 = .ok (.return_, 1) := by decide +kernel
theorem dX0_tasteFor_0 : decode cX0_tasteFor 0 = .ok (.aload_n 0, 1) := by decide +kernel
theorem dX0_tasteFor_1 : decode cX0_tasteFor 1 = .ok (.getfield 43, 3) := by decide +kernel
theorem dX0_tasteFor_4 : decode cX0_tasteFor 4 = .ok (.iload_n 1, 1) := by decide +kernel
theorem dX0_tasteFor_5 : decode cX0_tasteFor 5 = .ok (.iconst 5, 1) := by decide +kernel
theorem dX0_tasteFor_6 : decode cX0_tasteFor 6 = .ok (.imul, 1) := by decide +kernel
theorem dX0_tasteFor_7 : decode cX0_tasteFor 7 = .ok (.iload_n 2, 1) := by decide +kernel
theorem dX0_tasteFor_8 : decode cX0_tasteFor 8 = .ok (.iadd, 1) := by decide +kernel
theorem dX0_tasteFor_9 : decode cX0_tasteFor 9 = .ok (.iaload, 1) := by decide +kernel
theorem dX0_tasteFor_10 : decode cX0_tasteFor 10 = .ok (.ireturn, 1) := by decide +kernel
theorem dX0_addParty_0 : decode cX0_addParty 0 = .ok (.aload_n 0, 1) := by decide +kernel
theorem dX0_addParty_1 : decode cX0_addParty 1 = .ok (.getfield 61, 3) := by decide +kernel
theorem dX0_addParty_4 : decode cX0_addParty 4 = .ok (.istore_n 2, 1) := by decide +kernel
theorem dX0_addParty_5 : decode cX0_addParty 5 = .ok (.aload_n 0, 1) := by decide +kernel
theorem dX0_addParty_6 : decode cX0_addParty 6 = .ok (.getfield 18, 3) := by decide +kernel
theorem dX0_addParty_9 : decode cX0_addParty 9 = .ok (.iload_n 2, 1) := by decide +kernel
theorem dX0_addParty_10 : decode cX0_addParty 10 = .ok (.iload_n 1, 1) := by decide +kernel
theorem dX0_addParty_11 : decode cX0_addParty 11 = .ok (.iastore, 1) := by decide +kernel
theorem dX0_addParty_12 : decode cX0_addParty 12 = .ok (.aload_n 0, 1) := by decide +kernel
theorem dX0_addParty_13 : decode cX0_addParty 13 = .ok (.getfield 22, 3) := by decide +kernel
theorem dX0_addParty_16 : decode cX0_addParty 16 = .ok (.iload_n 2, 1) := by decide +kernel
theorem dX0_addParty_17 : decode cX0_addParty 17 = .ok (.iconst 0, 1) := by decide +kernel
theorem dX0_addParty_18 : decode cX0_addParty 18 = .ok (.iastore, 1) := by decide +kernel
theorem dX0_addParty_19 : decode cX0_addParty 19 = .ok (.aload_n 0, 1) := by decide +kernel
theorem dX0_addParty_20 : decode cX0_addParty 20 = .ok (.getfield 25, 3) := by decide +kernel
theorem dX0_addParty_23 : decode cX0_addParty 23 = .ok (.iload_n 2, 1) := by decide +kernel
theorem dX0_addParty_24 : decode cX0_addParty 24 = .ok (.iconst 0, 1) := by decide +kernel
theorem dX0_addParty_25 : decode cX0_addParty 25 = .ok (.iastore, 1) := by decide +kernel
theorem dX0_addParty_26 : decode cX0_addParty 26 = .ok (.aload_n 0, 1) := by decide +kernel
theorem dX0_addParty_27 : decode cX0_addParty 27 = .ok (.dup, 1) := by decide +kernel
theorem dX0_addParty_28 : decode cX0_addParty 28 = .ok (.getfield 61, 3) := by decide +kernel
theorem dX0_addParty_31 : decode cX0_addParty 31 = .ok (.iconst 1, 1) := by decide +kernel
theorem dX0_addParty_32 : decode cX0_addParty 32 = .ok (.iadd, 1) := by decide +kernel
theorem dX0_addParty_33 : decode cX0_addParty 33 = .ok (.putfield 61, 3) := by decide +kernel
theorem dX0_addParty_36 : decode cX0_addParty 36 = .ok (.iload_n 2, 1) := by decide +kernel
theorem dX0_addParty_37 : decode cX0_addParty 37 = .ok (.ireturn, 1) := by decide +kernel
theorem dX0_addEater_0 : decode cX0_addEater 0 = .ok (.aload_n 0, 1) := by decide +kernel
theorem dX0_addEater_1 : decode cX0_addEater 1 = .ok (.getfield 67, 3) := by decide +kernel
theorem dX0_addEater_4 : decode cX0_addEater 4 = .ok (.istore_n 2, 1) := by decide +kernel
theorem dX0_addEater_5 : decode cX0_addEater 5 = .ok (.aload_n 0, 1) := by decide +kernel
theorem dX0_addEater_6 : decode cX0_addEater 6 = .ok (.getfield 40, 3) := by decide +kernel
theorem dX0_addEater_9 : decode cX0_addEater 9 = .ok (.iload_n 2, 1) := by decide +kernel
theorem dX0_addEater_10 : decode cX0_addEater 10 = .ok (.iload_n 1, 1) := by decide +kernel
theorem dX0_addEater_11 : decode cX0_addEater 11 = .ok (.iastore, 1) := by decide +kernel
theorem dX0_addEater_12 : decode cX0_addEater 12 = .ok (.iconst 0, 1) := by decide +kernel
theorem dX0_addEater_13 : decode cX0_addEater 13 = .ok (.istore_n 3, 1) := by decide +kernel
theorem dX0_addEater_14 : decode cX0_addEater 14 = .ok (.iload_n 3, 1) := by decide +kernel
theorem dX0_addEater_15 : decode cX0_addEater 15 = .ok (.iconst 5, 1) := by decide +kernel
theorem dX0_addEater_16 : decode cX0_addEater 16 = .ok (.if_icmp .ge 20, 3) := by decide +kernel
theorem dX0_addEater_19 : decode cX0_addEater 19 = .ok (.aload_n 0, 1) := by decide +kernel
theorem dX0_addEater_20 : decode cX0_addEater 20 = .ok (.getfield 43, 3) := by decide +kernel
theorem dX0_addEater_23 : decode cX0_addEater 23 = .ok (.iload_n 2, 1) := by decide +kernel
theorem dX0_addEater_24 : decode cX0_addEater 24 = .ok (.iconst 5, 1) := by decide +kernel
theorem dX0_addEater_25 : decode cX0_addEater 25 = .ok (.imul, 1) := by decide +kernel
theorem dX0_addEater_26 : decode cX0_addEater 26 = .ok (.iload_n 3, 1) := by decide +kernel
theorem dX0_addEater_27 : decode cX0_addEater 27 = .ok (.iadd, 1) := by decide +kernel
theorem dX0_addEater_28 : decode cX0_addEater 28 = .ok (.iconst 5, 1) := by decide +kernel
theorem dX0_addEater_29 : decode cX0_addEater 29 = .ok (.iastore, 1) := by decide +kernel
theorem dX0_addEater_30 : decode cX0_addEater 30 = .ok (.iinc 3 1, 3) := by decide +kernel
theorem dX0_addEater_33 : decode cX0_addEater 33 = .ok (.goto (-19), 3) := by decide +kernel
theorem dX0_addEater_36 : decode cX0_addEater 36 = .ok (.aload_n 0, 1) := by decide +kernel
theorem dX0_addEater_37 : decode cX0_addEater 37 = .ok (.dup, 1) := by decide +kernel
theorem dX0_addEater_38 : decode cX0_addEater 38 = .ok (.getfield 67, 3) := by decide +kernel
theorem dX0_addEater_41 : decode cX0_addEater 41 = .ok (.iconst 1, 1) := by decide +kernel
theorem dX0_addEater_42 : decode cX0_addEater 42 = .ok (.iadd, 1) := by decide +kernel
theorem dX0_addEater_43 : decode cX0_addEater 43 = .ok (.putfield 67, 3) := by decide +kernel
theorem dX0_addEater_46 : decode cX0_addEater 46 = .ok (.iload_n 2, 1) := by decide +kernel
theorem dX0_addEater_47 : decode cX0_addEater 47 = .ok (.ireturn, 1) := by decide +kernel
theorem dX0_addTree_0 : decode cX0_addTree 0 = .ok (.aload_n 0, 1) := by decide +kernel
theorem dX0_addTree_1 : decode cX0_addTree 1 = .ok (.getfield 64, 3) := by decide +kernel
theorem dX0_addTree_4 : decode cX0_addTree 4 = .ok (.istore 4, 2) := by decide +kernel
theorem dX0_addTree_6 : decode cX0_addTree 6 = .ok (.aload_n 0, 1) := by decide +kernel
theorem dX0_addTree_7 : decode cX0_addTree 7 = .ok (.getfield 28, 3) := by decide +kernel
theorem dX0_addTree_10 : decode cX0_addTree 10 = .ok (.iload 4, 2) := by decide +kernel
theorem dX0_addTree_12 : decode cX0_addTree 12 = .ok (.iload_n 1, 1) := by decide +kernel
theorem dX0_addTree_13 : decode cX0_addTree 13 = .ok (.iastore, 1) := by decide +kernel
theorem dX0_addTree_14 : decode cX0_addTree 14 = .ok (.aload_n 0, 1) := by decide +kernel
theorem dX0_addTree_15 : decode cX0_addTree 15 = .ok (.getfield 31, 3) := by decide +kernel
theorem dX0_addTree_18 : decode cX0_addTree 18 = .ok (.iload 4, 2) := by decide +kernel
theorem dX0_addTree_20 : decode cX0_addTree 20 = .ok (.iload_n 2, 1) := by decide +kernel
theorem dX0_addTree_21 : decode cX0_addTree 21 = .ok (.iastore, 1) := by decide +kernel
theorem dX0_addTree_22 : decode cX0_addTree 22 = .ok (.aload_n 0, 1) := by decide +kernel
theorem dX0_addTree_23 : decode cX0_addTree 23 = .ok (.getfield 34, 3) := by decide +kernel
theorem dX0_addTree_26 : decode cX0_addTree 26 = .ok (.iload 4, 2) := by decide +kernel
theorem dX0_addTree_28 : decode cX0_addTree 28 = .ok (.iload_n 3, 1) := by decide +kernel
theorem dX0_addTree_29 : decode cX0_addTree 29 = .ok (.iastore, 1) := by decide +kernel
theorem dX0_addTree_30 : decode cX0_addTree 30 = .ok (.aload_n 0, 1) := by decide +kernel
theorem dX0_addTree_31 : decode cX0_addTree 31 = .ok (.getfield 37, 3) := by decide +kernel
theorem dX0_addTree_34 : decode cX0_addTree 34 = .ok (.iload 4, 2) := by decide +kernel
theorem dX0_addTree_36 : decode cX0_addTree 36 = .ok (.iconst 0, 1) := by decide +kernel
theorem dX0_addTree_37 : decode cX0_addTree 37 = .ok (.iastore, 1) := by decide +kernel
theorem dX0_addTree_38 : decode cX0_addTree 38 = .ok (.aload_n 0, 1) := by decide +kernel
theorem dX0_addTree_39 : decode cX0_addTree 39 = .ok (.dup, 1) := by decide +kernel
theorem dX0_addTree_40 : decode cX0_addTree 40 = .ok (.getfield 64, 3) := by decide +kernel
theorem dX0_addTree_43 : decode cX0_addTree 43 = .ok (.iconst 1, 1) := by decide +kernel
theorem dX0_addTree_44 : decode cX0_addTree 44 = .ok (.iadd, 1) := by decide +kernel
theorem dX0_addTree_45 : decode cX0_addTree 45 = .ok (.putfield 64, 3) := by decide +kernel
theorem dX0_addTree_48 : decode cX0_addTree 48 = .ok (.iload 4, 2) := by decide +kernel
theorem dX0_addTree_50 : decode cX0_addTree 50 = .ok (.ireturn, 1) := by decide +kernel
theorem dX0_setRule_0 : decode cX0_setRule 0 = .ok (.iload_n 1, 1) := by decide +kernel
theorem dX0_setRule_1 : decode cX0_setRule 1 = .ok (.ifCond .ne 22, 3) := by decide +kernel
theorem dX0_setRule_4 : decode cX0_setRule 4 = .ok (.iload_n 2, 1) := by decide +kernel
theorem dX0_setRule_5 : decode cX0_setRule 5 = .ok (.iconst 0, 1) := by decide +kernel
theorem dX0_setRule_6 : decode cX0_setRule 6 = .ok (.sipush 1000, 3) := by decide +kernel
theorem dX0_setRule_9 : decode cX0_setRule 9 = .ok (.invokestatic 79, 3) := by decide +kernel
theorem dX0_setRule_12 : decode cX0_setRule 12 = .ok (.ifCond .eq 11, 3) := by decide +kernel
theorem dX0_setRule_15 : decode cX0_setRule 15 = .ok (.aload_n 0, 1) := by decide +kernel
theorem dX0_setRule_16 : decode cX0_setRule 16 = .ok (.iload_n 2, 1) := by decide +kernel
theorem dX0_setRule_17 : decode cX0_setRule 17 = .ok (.putfield 52, 3) := by decide +kernel
theorem dX0_setRule_20 : decode cX0_setRule 20 = .ok (.goto 75, 3) := by decide +kernel
theorem dX0_setRule_23 : decode cX0_setRule 23 = .ok (.iload_n 1, 1) := by decide +kernel
theorem dX0_setRule_24 : decode cX0_setRule 24 = .ok (.iconst 1, 1) := by decide +kernel
theorem dX0_setRule_25 : decode cX0_setRule 25 = .ok (.if_icmp .ne 22, 3) := by decide +kernel
theorem dX0_setRule_28 : decode cX0_setRule 28 = .ok (.iload_n 2, 1) := by decide +kernel
theorem dX0_setRule_29 : decode cX0_setRule 29 = .ok (.iconst 0, 1) := by decide +kernel
theorem dX0_setRule_30 : decode cX0_setRule 30 = .ok (.sipush 1000, 3) := by decide +kernel
theorem dX0_setRule_33 : decode cX0_setRule 33 = .ok (.invokestatic 79, 3) := by decide +kernel
theorem dX0_setRule_36 : decode cX0_setRule 36 = .ok (.ifCond .eq 11, 3) := by decide +kernel
theorem dX0_setRule_39 : decode cX0_setRule 39 = .ok (.aload_n 0, 1) := by decide +kernel
theorem dX0_setRule_40 : decode cX0_setRule 40 = .ok (.iload_n 2, 1) := by decide +kernel
theorem dX0_setRule_41 : decode cX0_setRule 41 = .ok (.putfield 55, 3) := by decide +kernel
theorem dX0_setRule_44 : decode cX0_setRule 44 = .ok (.goto 51, 3) := by decide +kernel
theorem dX0_setRule_47 : decode cX0_setRule 47 = .ok (.iload_n 1, 1) := by decide +kernel
theorem dX0_setRule_48 : decode cX0_setRule 48 = .ok (.iconst 2, 1) := by decide +kernel
theorem dX0_setRule_49 : decode cX0_setRule 49 = .ok (.if_icmp .ne 21, 3) := by decide +kernel
theorem dX0_setRule_52 : decode cX0_setRule 52 = .ok (.iload_n 2, 1) := by decide +kernel
theorem dX0_setRule_53 : decode cX0_setRule 53 = .ok (.iconst 1, 1) := by decide +kernel
theorem dX0_setRule_54 : decode cX0_setRule 54 = .ok (.bipush 99, 2) := by decide +kernel
theorem dX0_setRule_56 : decode cX0_setRule 56 = .ok (.invokestatic 79, 3) := by decide +kernel
theorem dX0_setRule_59 : decode cX0_setRule 59 = .ok (.ifCond .eq 11, 3) := by decide +kernel
theorem dX0_setRule_62 : decode cX0_setRule 62 = .ok (.aload_n 0, 1) := by decide +kernel
theorem dX0_setRule_63 : decode cX0_setRule 63 = .ok (.iload_n 2, 1) := by decide +kernel
theorem dX0_setRule_64 : decode cX0_setRule 64 = .ok (.putfield 9, 3) := by decide +kernel
theorem dX0_setRule_67 : decode cX0_setRule 67 = .ok (.goto 28, 3) := by decide +kernel
theorem dX0_setRule_70 : decode cX0_setRule 70 = .ok (.iload_n 1, 1) := by decide +kernel
theorem dX0_setRule_71 : decode cX0_setRule 71 = .ok (.iconst 3, 1) := by decide +kernel
theorem dX0_setRule_72 : decode cX0_setRule 72 = .ok (.if_icmp .ne 21, 3) := by decide +kernel
theorem dX0_setRule_75 : decode cX0_setRule 75 = .ok (.iload_n 2, 1) := by decide +kernel
theorem dX0_setRule_76 : decode cX0_setRule 76 = .ok (.iconst 1, 1) := by decide +kernel
theorem dX0_setRule_77 : decode cX0_setRule 77 = .ok (.bipush 52, 2) := by decide +kernel
theorem dX0_setRule_79 : decode cX0_setRule 79 = .ok (.invokestatic 79, 3) := by decide +kernel
theorem dX0_setRule_82 : decode cX0_setRule 82 = .ok (.ifCond .eq 11, 3) := by decide +kernel
theorem dX0_setRule_85 : decode cX0_setRule 85 = .ok (.aload_n 0, 1) := by decide +kernel
theorem dX0_setRule_86 : decode cX0_setRule 86 = .ok (.iload_n 2, 1) := by decide +kernel
theorem dX0_setRule_87 : decode cX0_setRule 87 = .ok (.putfield 15, 3) := by decide +kernel
theorem dX0_setRule_90 : decode cX0_setRule 90 = .ok (.goto 5, 3) := by decide +kernel
theorem dX0_setRule_93 : decode cX0_setRule 93 = .ok (.iconst 0, 1) := by decide +kernel
theorem dX0_setRule_94 : decode cX0_setRule 94 = .ok (.ireturn, 1) := by decide +kernel
theorem dX0_setRule_95 : decode cX0_setRule 95 = .ok (.iconst 1, 1) := by decide +kernel
theorem dX0_setRule_96 : decode cX0_setRule 96 = .ok (.ireturn, 1) := by decide +kernel
theorem dX0_setValue_0 : decode cX0_setValue 0 = .ok (.iload_n 1, 1) := by decide +kernel
theorem dX0_setValue_1 : decode cX0_setValue 1 = .ok (.iconst 4, 1) := by decide +kernel
theorem dX0_setValue_2 : decode cX0_setValue 2 = .ok (.if_icmp .ne 31, 3) := by decide +kernel
theorem dX0_setValue_5 : decode cX0_setValue 5 = .ok (.aload_n 0, 1) := by decide +kernel
theorem dX0_setValue_6 : decode cX0_setValue 6 = .ok (.iload_n 2, 1) := by decide +kernel
theorem dX0_setValue_7 : decode cX0_setValue 7 = .ok (.invokevirtual 83, 3) := by decide +kernel
theorem dX0_setValue_10 : decode cX0_setValue 10 = .ok (.ifCond .eq 23, 3) := by decide +kernel
theorem dX0_setValue_13 : decode cX0_setValue 13 = .ok (.iload_n 3, 1) := by decide +kernel
theorem dX0_setValue_14 : decode cX0_setValue 14 = .ok (.iconst 0, 1) := by decide +kernel
theorem dX0_setValue_15 : decode cX0_setValue 15 = .ok (.bipush 99, 2) := by decide +kernel
theorem dX0_setValue_17 : decode cX0_setValue 17 = .ok (.invokestatic 79, 3) := by decide +kernel
theorem dX0_setValue_20 : decode cX0_setValue 20 = .ok (.ifCond .eq 13, 3) := by decide +kernel
theorem dX0_setValue_23 : decode cX0_setValue 23 = .ok (.aload_n 0, 1) := by decide +kernel
theorem dX0_setValue_24 : decode cX0_setValue 24 = .ok (.getfield 37, 3) := by decide +kernel
theorem dX0_setValue_27 : decode cX0_setValue 27 = .ok (.iload_n 2, 1) := by decide +kernel
theorem dX0_setValue_28 : decode cX0_setValue 28 = .ok (.iload_n 3, 1) := by decide +kernel
theorem dX0_setValue_29 : decode cX0_setValue 29 = .ok (.iastore, 1) := by decide +kernel
theorem dX0_setValue_30 : decode cX0_setValue 30 = .ok (.goto 108, 3) := by decide +kernel
theorem dX0_setValue_33 : decode cX0_setValue 33 = .ok (.iload_n 1, 1) := by decide +kernel
theorem dX0_setValue_34 : decode cX0_setValue 34 = .ok (.iconst 5, 1) := by decide +kernel
theorem dX0_setValue_35 : decode cX0_setValue 35 = .ok (.if_icmp .ne 31, 3) := by decide +kernel
theorem dX0_setValue_38 : decode cX0_setValue 38 = .ok (.aload_n 0, 1) := by decide +kernel
theorem dX0_setValue_39 : decode cX0_setValue 39 = .ok (.iload_n 2, 1) := by decide +kernel
theorem dX0_setValue_40 : decode cX0_setValue 40 = .ok (.invokevirtual 87, 3) := by decide +kernel
theorem dX0_setValue_43 : decode cX0_setValue 43 = .ok (.ifCond .eq 23, 3) := by decide +kernel
theorem dX0_setValue_46 : decode cX0_setValue 46 = .ok (.iload_n 3, 1) := by decide +kernel
theorem dX0_setValue_47 : decode cX0_setValue 47 = .ok (.iconst 0, 1) := by decide +kernel
theorem dX0_setValue_48 : decode cX0_setValue 48 = .ok (.bipush 20, 2) := by decide +kernel
theorem dX0_setValue_50 : decode cX0_setValue 50 = .ok (.invokestatic 79, 3) := by decide +kernel
theorem dX0_setValue_53 : decode cX0_setValue 53 = .ok (.ifCond .eq 13, 3) := by decide +kernel
theorem dX0_setValue_56 : decode cX0_setValue 56 = .ok (.aload_n 0, 1) := by decide +kernel
theorem dX0_setValue_57 : decode cX0_setValue 57 = .ok (.getfield 40, 3) := by decide +kernel
theorem dX0_setValue_60 : decode cX0_setValue 60 = .ok (.iload_n 2, 1) := by decide +kernel
theorem dX0_setValue_61 : decode cX0_setValue 61 = .ok (.iload_n 3, 1) := by decide +kernel
theorem dX0_setValue_62 : decode cX0_setValue 62 = .ok (.iastore, 1) := by decide +kernel
theorem dX0_setValue_63 : decode cX0_setValue 63 = .ok (.goto 75, 3) := by decide +kernel
theorem dX0_setValue_66 : decode cX0_setValue 66 = .ok (.iload_n 1, 1) := by decide +kernel
theorem dX0_setValue_67 : decode cX0_setValue 67 = .ok (.bipush 6, 2) := by decide +kernel
theorem dX0_setValue_69 : decode cX0_setValue 69 = .ok (.if_icmp .ne 32, 3) := by decide +kernel
theorem dX0_setValue_72 : decode cX0_setValue 72 = .ok (.aload_n 0, 1) := by decide +kernel
theorem dX0_setValue_73 : decode cX0_setValue 73 = .ok (.iload_n 2, 1) := by decide +kernel
theorem dX0_setValue_74 : decode cX0_setValue 74 = .ok (.invokevirtual 90, 3) := by decide +kernel
theorem dX0_setValue_77 : decode cX0_setValue 77 = .ok (.ifCond .eq 24, 3) := by decide +kernel
theorem dX0_setValue_80 : decode cX0_setValue 80 = .ok (.iload_n 3, 1) := by decide +kernel
theorem dX0_setValue_81 : decode cX0_setValue 81 = .ok (.iconst 0, 1) := by decide +kernel
theorem dX0_setValue_82 : decode cX0_setValue 82 = .ok (.sipush 999, 3) := by decide +kernel
theorem dX0_setValue_85 : decode cX0_setValue 85 = .ok (.invokestatic 79, 3) := by decide +kernel
theorem dX0_setValue_88 : decode cX0_setValue 88 = .ok (.ifCond .eq 13, 3) := by decide +kernel
theorem dX0_setValue_91 : decode cX0_setValue 91 = .ok (.aload_n 0, 1) := by decide +kernel
theorem dX0_setValue_92 : decode cX0_setValue 92 = .ok (.getfield 18, 3) := by decide +kernel
theorem dX0_setValue_95 : decode cX0_setValue 95 = .ok (.iload_n 2, 1) := by decide +kernel
theorem dX0_setValue_96 : decode cX0_setValue 96 = .ok (.iload_n 3, 1) := by decide +kernel
theorem dX0_setValue_97 : decode cX0_setValue 97 = .ok (.iastore, 1) := by decide +kernel
theorem dX0_setValue_98 : decode cX0_setValue 98 = .ok (.goto 40, 3) := by decide +kernel
theorem dX0_setValue_101 : decode cX0_setValue 101 = .ok (.iload_n 1, 1) := by decide +kernel
theorem dX0_setValue_102 : decode cX0_setValue 102 = .ok (.bipush 7, 2) := by decide +kernel
theorem dX0_setValue_104 : decode cX0_setValue 104 = .ok (.if_icmp .ne 32, 3) := by decide +kernel
theorem dX0_setValue_107 : decode cX0_setValue 107 = .ok (.aload_n 0, 1) := by decide +kernel
theorem dX0_setValue_108 : decode cX0_setValue 108 = .ok (.iload_n 2, 1) := by decide +kernel
theorem dX0_setValue_109 : decode cX0_setValue 109 = .ok (.invokevirtual 90, 3) := by decide +kernel
theorem dX0_setValue_112 : decode cX0_setValue 112 = .ok (.ifCond .eq 24, 3) := by decide +kernel
theorem dX0_setValue_115 : decode cX0_setValue 115 = .ok (.iload_n 3, 1) := by decide +kernel
theorem dX0_setValue_116 : decode cX0_setValue 116 = .ok (.iconst 0, 1) := by decide +kernel
theorem dX0_setValue_117 : decode cX0_setValue 117 = .ok (.sipush 9999, 3) := by decide +kernel
theorem dX0_setValue_120 : decode cX0_setValue 120 = .ok (.invokestatic 79, 3) := by decide +kernel
theorem dX0_setValue_123 : decode cX0_setValue 123 = .ok (.ifCond .eq 13, 3) := by decide +kernel
theorem dX0_setValue_126 : decode cX0_setValue 126 = .ok (.aload_n 0, 1) := by decide +kernel
theorem dX0_setValue_127 : decode cX0_setValue 127 = .ok (.getfield 22, 3) := by decide +kernel
theorem dX0_setValue_130 : decode cX0_setValue 130 = .ok (.iload_n 2, 1) := by decide +kernel
theorem dX0_setValue_131 : decode cX0_setValue 131 = .ok (.iload_n 3, 1) := by decide +kernel
theorem dX0_setValue_132 : decode cX0_setValue 132 = .ok (.iastore, 1) := by decide +kernel
theorem dX0_setValue_133 : decode cX0_setValue 133 = .ok (.goto 5, 3) := by decide +kernel
theorem dX0_setValue_136 : decode cX0_setValue 136 = .ok (.iconst 0, 1) := by decide +kernel
theorem dX0_setValue_137 : decode cX0_setValue 137 = .ok (.ireturn, 1) := by decide +kernel
theorem dX0_setValue_138 : decode cX0_setValue 138 = .ok (.iconst 1, 1) := by decide +kernel
theorem dX0_setValue_139 : decode cX0_setValue 139 = .ok (.ireturn, 1) := by decide +kernel
theorem dX0_drawOfThousand_0 : decode cX0_drawOfThousand 0 = .ok (.aload_n 0, 1) := by decide +kernel
theorem dX0_drawOfThousand_1 : decode cX0_drawOfThousand 1 = .ok (.ldc 93, 2) := by decide +kernel
theorem dX0_drawOfThousand_3 : decode cX0_drawOfThousand 3 = .ok (.aload_n 0, 1) := by decide +kernel
theorem dX0_drawOfThousand_4 : decode cX0_drawOfThousand 4 = .ok (.getfield 49, 3) := by decide +kernel
theorem dX0_drawOfThousand_7 : decode cX0_drawOfThousand 7 = .ok (.imul, 1) := by decide +kernel
theorem dX0_drawOfThousand_8 : decode cX0_drawOfThousand 8 = .ok (.ldc 94, 2) := by decide +kernel
theorem dX0_drawOfThousand_10 : decode cX0_drawOfThousand 10 = .ok (.iadd, 1) := by decide +kernel
theorem dX0_drawOfThousand_11 : decode cX0_drawOfThousand 11 = .ok (.putfield 49, 3) := by decide +kernel
theorem dX0_drawOfThousand_14 : decode cX0_drawOfThousand 14 = .ok (.aload_n 0, 1) := by decide +kernel
theorem dX0_drawOfThousand_15 : decode cX0_drawOfThousand 15 = .ok (.getfield 49, 3) := by decide +kernel
theorem dX0_drawOfThousand_18 : decode cX0_drawOfThousand 18 = .ok (.bipush 8, 2) := by decide +kernel
theorem dX0_drawOfThousand_20 : decode cX0_drawOfThousand 20 = .ok (.iushr, 1) := by decide +kernel
theorem dX0_drawOfThousand_21 : decode cX0_drawOfThousand 21 = .ok (.sipush 1000, 3) := by decide +kernel
theorem dX0_drawOfThousand_24 : decode cX0_drawOfThousand 24 = .ok (.irem, 1) := by decide +kernel
theorem dX0_drawOfThousand_25 : decode cX0_drawOfThousand 25 = .ok (.ireturn, 1) := by decide +kernel
theorem dX0_cook_0 : decode cX0_cook 0 = .ok (.iconst 0, 1) := by decide +kernel
theorem dX0_cook_1 : decode cX0_cook 1 = .ok (.istore_n 3, 1) := by decide +kernel
theorem dX0_cook_2 : decode cX0_cook 2 = .ok (.iconst 0, 1) := by decide +kernel
theorem dX0_cook_3 : decode cX0_cook 3 = .ok (.istore 4, 2) := by decide +kernel
theorem dX0_cook_5 : decode cX0_cook 5 = .ok (.iload 4, 2) := by decide +kernel
theorem dX0_cook_7 : decode cX0_cook 7 = .ok (.aload_n 0, 1) := by decide +kernel
theorem dX0_cook_8 : decode cX0_cook 8 = .ok (.getfield 64, 3) := by decide +kernel
theorem dX0_cook_11 : decode cX0_cook 11 = .ok (.if_icmp .ge 57, 3) := by decide +kernel
theorem dX0_cook_14 : decode cX0_cook 14 = .ok (.iload_n 3, 1) := by decide +kernel
theorem dX0_cook_15 : decode cX0_cook 15 = .ok (.iload_n 2, 1) := by decide +kernel
theorem dX0_cook_16 : decode cX0_cook 16 = .ok (.if_icmp .ge 52, 3) := by decide +kernel
theorem dX0_cook_19 : decode cX0_cook 19 = .ok (.aload_n 0, 1) := by decide +kernel
theorem dX0_cook_20 : decode cX0_cook 20 = .ok (.getfield 28, 3) := by decide +kernel
theorem dX0_cook_23 : decode cX0_cook 23 = .ok (.iload 4, 2) := by decide +kernel
theorem dX0_cook_25 : decode cX0_cook 25 = .ok (.iaload, 1) := by decide +kernel
theorem dX0_cook_26 : decode cX0_cook 26 = .ok (.iload_n 1, 1) := by decide +kernel
theorem dX0_cook_27 : decode cX0_cook 27 = .ok (.if_icmp .ne 35, 3) := by decide +kernel
theorem dX0_cook_30 : decode cX0_cook 30 = .ok (.iload_n 2, 1) := by decide +kernel
theorem dX0_cook_31 : decode cX0_cook 31 = .ok (.iload_n 3, 1) := by decide +kernel
theorem dX0_cook_32 : decode cX0_cook 32 = .ok (.isub, 1) := by decide +kernel
theorem dX0_cook_33 : decode cX0_cook 33 = .ok (.aload_n 0, 1) := by decide +kernel
theorem dX0_cook_34 : decode cX0_cook 34 = .ok (.getfield 37, 3) := by decide +kernel
theorem dX0_cook_37 : decode cX0_cook 37 = .ok (.iload 4, 2) := by decide +kernel
theorem dX0_cook_39 : decode cX0_cook 39 = .ok (.iaload, 1) := by decide +kernel
theorem dX0_cook_40 : decode cX0_cook 40 = .ok (.invokestatic 95, 3) := by decide +kernel
theorem dX0_cook_43 : decode cX0_cook 43 = .ok (.istore 5, 2) := by decide +kernel
theorem dX0_cook_45 : decode cX0_cook 45 = .ok (.aload_n 0, 1) := by decide +kernel
theorem dX0_cook_46 : decode cX0_cook 46 = .ok (.getfield 37, 3) := by decide +kernel
theorem dX0_cook_49 : decode cX0_cook 49 = .ok (.iload 4, 2) := by decide +kernel
theorem dX0_cook_51 : decode cX0_cook 51 = .ok (.dup2, 1) := by decide +kernel
theorem dX0_cook_52 : decode cX0_cook 52 = .ok (.iaload, 1) := by decide +kernel
theorem dX0_cook_53 : decode cX0_cook 53 = .ok (.iload 5, 2) := by decide +kernel
theorem dX0_cook_55 : decode cX0_cook 55 = .ok (.isub, 1) := by decide +kernel
theorem dX0_cook_56 : decode cX0_cook 56 = .ok (.iastore, 1) := by decide +kernel
theorem dX0_cook_57 : decode cX0_cook 57 = .ok (.iload_n 3, 1) := by decide +kernel
theorem dX0_cook_58 : decode cX0_cook 58 = .ok (.iload 5, 2) := by decide +kernel
theorem dX0_cook_60 : decode cX0_cook 60 = .ok (.iadd, 1) := by decide +kernel
theorem dX0_cook_61 : decode cX0_cook 61 = .ok (.istore_n 3, 1) := by decide +kernel
theorem dX0_cook_62 : decode cX0_cook 62 = .ok (.iinc 4 1, 3) := by decide +kernel
theorem dX0_cook_65 : decode cX0_cook 65 = .ok (.goto (-60), 3) := by decide +kernel
theorem dX0_cook_68 : decode cX0_cook 68 = .ok (.aload_n 0, 1) := by decide +kernel
theorem dX0_cook_69 : decode cX0_cook 69 = .ok (.getfield 18, 3) := by decide +kernel
theorem dX0_cook_72 : decode cX0_cook 72 = .ok (.iload_n 1, 1) := by decide +kernel
theorem dX0_cook_73 : decode cX0_cook 73 = .ok (.sipush 999, 3) := by decide +kernel
theorem dX0_cook_76 : decode cX0_cook 76 = .ok (.aload_n 0, 1) := by decide +kernel
theorem dX0_cook_77 : decode cX0_cook 77 = .ok (.getfield 18, 3) := by decide +kernel
theorem dX0_cook_80 : decode cX0_cook 80 = .ok (.iload_n 1, 1) := by decide +kernel
theorem dX0_cook_81 : decode cX0_cook 81 = .ok (.iaload, 1) := by decide +kernel
theorem dX0_cook_82 : decode cX0_cook 82 = .ok (.iload_n 3, 1) := by decide +kernel
theorem dX0_cook_83 : decode cX0_cook 83 = .ok (.iadd, 1) := by decide +kernel
theorem dX0_cook_84 : decode cX0_cook 84 = .ok (.invokestatic 95, 3) := by decide +kernel
theorem dX0_cook_87 : decode cX0_cook 87 = .ok (.iastore, 1) := by decide +kernel
theorem dX0_cook_88 : decode cX0_cook 88 = .ok (.iload_n 3, 1) := by decide +kernel
theorem dX0_cook_89 : decode cX0_cook 89 = .ok (.ireturn, 1) := by decide +kernel
theorem dX0_hangingOf_0 : decode cX0_hangingOf 0 = .ok (.iconst 0, 1) := by decide +kernel
theorem dX0_hangingOf_1 : decode cX0_hangingOf 1 = .ok (.istore_n 2, 1) := by decide +kernel
theorem dX0_hangingOf_2 : decode cX0_hangingOf 2 = .ok (.iconst 0, 1) := by decide +kernel
theorem dX0_hangingOf_3 : decode cX0_hangingOf 3 = .ok (.istore_n 3, 1) := by decide +kernel
theorem dX0_hangingOf_4 : decode cX0_hangingOf 4 = .ok (.iload_n 3, 1) := by decide +kernel
theorem dX0_hangingOf_5 : decode cX0_hangingOf 5 = .ok (.aload_n 0, 1) := by decide +kernel
theorem dX0_hangingOf_6 : decode cX0_hangingOf 6 = .ok (.getfield 64, 3) := by decide +kernel
theorem dX0_hangingOf_9 : decode cX0_hangingOf 9 = .ok (.if_icmp .ge 28, 3) := by decide +kernel
theorem dX0_hangingOf_12 : decode cX0_hangingOf 12 = .ok (.aload_n 0, 1) := by decide +kernel
theorem dX0_hangingOf_13 : decode cX0_hangingOf 13 = .ok (.getfield 28, 3) := by decide +kernel
theorem dX0_hangingOf_16 : decode cX0_hangingOf 16 = .ok (.iload_n 3, 1) := by decide +kernel
theorem dX0_hangingOf_17 : decode cX0_hangingOf 17 = .ok (.iaload, 1) := by decide +kernel
theorem dX0_hangingOf_18 : decode cX0_hangingOf 18 = .ok (.iload_n 1, 1) := by decide +kernel
theorem dX0_hangingOf_19 : decode cX0_hangingOf 19 = .ok (.if_icmp .ne 12, 3) := by decide +kernel
theorem dX0_hangingOf_22 : decode cX0_hangingOf 22 = .ok (.iload_n 2, 1) := by decide +kernel
theorem dX0_hangingOf_23 : decode cX0_hangingOf 23 = .ok (.aload_n 0, 1) := by decide +kernel
theorem dX0_hangingOf_24 : decode cX0_hangingOf 24 = .ok (.getfield 37, 3) := by decide +kernel
theorem dX0_hangingOf_27 : decode cX0_hangingOf 27 = .ok (.iload_n 3, 1) := by decide +kernel
theorem dX0_hangingOf_28 : decode cX0_hangingOf 28 = .ok (.iaload, 1) := by decide +kernel
theorem dX0_hangingOf_29 : decode cX0_hangingOf 29 = .ok (.iadd, 1) := by decide +kernel
theorem dX0_hangingOf_30 : decode cX0_hangingOf 30 = .ok (.istore_n 2, 1) := by decide +kernel
theorem dX0_hangingOf_31 : decode cX0_hangingOf 31 = .ok (.iinc 3 1, 3) := by decide +kernel
theorem dX0_hangingOf_34 : decode cX0_hangingOf 34 = .ok (.goto (-30), 3) := by decide +kernel
theorem dX0_hangingOf_37 : decode cX0_hangingOf 37 = .ok (.iload_n 2, 1) := by decide +kernel
theorem dX0_hangingOf_38 : decode cX0_hangingOf 38 = .ok (.ireturn, 1) := by decide +kernel
theorem dX0_treeFor_0 : decode cX0_treeFor 0 = .ok (.iconst (-1), 1) := by decide +kernel
theorem dX0_treeFor_1 : decode cX0_treeFor 1 = .ok (.istore_n 3, 1) := by decide +kernel
theorem dX0_treeFor_2 : decode cX0_treeFor 2 = .ok (.iconst 0, 1) := by decide +kernel
theorem dX0_treeFor_3 : decode cX0_treeFor 3 = .ok (.istore 4, 2) := by decide +kernel
theorem dX0_treeFor_5 : decode cX0_treeFor 5 = .ok (.iconst 0, 1) := by decide +kernel
theorem dX0_treeFor_6 : decode cX0_treeFor 6 = .ok (.istore 5, 2) := by decide +kernel
theorem dX0_treeFor_8 : decode cX0_treeFor 8 = .ok (.iload 5, 2) := by decide +kernel
theorem dX0_treeFor_10 : decode cX0_treeFor 10 = .ok (.aload_n 0, 1) := by decide +kernel
theorem dX0_treeFor_11 : decode cX0_treeFor 11 = .ok (.getfield 64, 3) := by decide +kernel
theorem dX0_treeFor_14 : decode cX0_treeFor 14 = .ok (.if_icmp .ge 64, 3) := by decide +kernel
theorem dX0_treeFor_17 : decode cX0_treeFor 17 = .ok (.aload_n 0, 1) := by decide +kernel
theorem dX0_treeFor_18 : decode cX0_treeFor 18 = .ok (.getfield 31, 3) := by decide +kernel
theorem dX0_treeFor_21 : decode cX0_treeFor 21 = .ok (.iload 5, 2) := by decide +kernel
theorem dX0_treeFor_23 : decode cX0_treeFor 23 = .ok (.iaload, 1) := by decide +kernel
theorem dX0_treeFor_24 : decode cX0_treeFor 24 = .ok (.iload_n 2, 1) := by decide +kernel
theorem dX0_treeFor_25 : decode cX0_treeFor 25 = .ok (.if_icmp .ne 47, 3) := by decide +kernel
theorem dX0_treeFor_28 : decode cX0_treeFor 28 = .ok (.aload_n 0, 1) := by decide +kernel
theorem dX0_treeFor_29 : decode cX0_treeFor 29 = .ok (.getfield 37, 3) := by decide +kernel
theorem dX0_treeFor_32 : decode cX0_treeFor 32 = .ok (.iload 5, 2) := by decide +kernel
theorem dX0_treeFor_34 : decode cX0_treeFor 34 = .ok (.iaload, 1) := by decide +kernel
theorem dX0_treeFor_35 : decode cX0_treeFor 35 = .ok (.ifCond .le 37, 3) := by decide +kernel
theorem dX0_treeFor_38 : decode cX0_treeFor 38 = .ok (.aload_n 0, 1) := by decide +kernel
theorem dX0_treeFor_39 : decode cX0_treeFor 39 = .ok (.iload_n 1, 1) := by decide +kernel
theorem dX0_treeFor_40 : decode cX0_treeFor 40 = .ok (.aload_n 0, 1) := by decide +kernel
theorem dX0_treeFor_41 : decode cX0_treeFor 41 = .ok (.getfield 28, 3) := by decide +kernel
theorem dX0_treeFor_44 : decode cX0_treeFor 44 = .ok (.iload 5, 2) := by decide +kernel
theorem dX0_treeFor_46 : decode cX0_treeFor 46 = .ok (.iaload, 1) := by decide +kernel
theorem dX0_treeFor_47 : decode cX0_treeFor 47 = .ok (.invokevirtual 101, 3) := by decide +kernel
theorem dX0_treeFor_50 : decode cX0_treeFor 50 = .ok (.iload 4, 2) := by decide +kernel
theorem dX0_treeFor_52 : decode cX0_treeFor 52 = .ok (.if_icmp .le 20, 3) := by decide +kernel
theorem dX0_treeFor_55 : decode cX0_treeFor 55 = .ok (.iload 5, 2) := by decide +kernel
theorem dX0_treeFor_57 : decode cX0_treeFor 57 = .ok (.istore_n 3, 1) := by decide +kernel
theorem dX0_treeFor_58 : decode cX0_treeFor 58 = .ok (.aload_n 0, 1) := by decide +kernel
theorem dX0_treeFor_59 : decode cX0_treeFor 59 = .ok (.iload_n 1, 1) := by decide +kernel
theorem dX0_treeFor_60 : decode cX0_treeFor 60 = .ok (.aload_n 0, 1) := by decide +kernel
theorem dX0_treeFor_61 : decode cX0_treeFor 61 = .ok (.getfield 28, 3) := by decide +kernel
theorem dX0_treeFor_64 : decode cX0_treeFor 64 = .ok (.iload 5, 2) := by decide +kernel
theorem dX0_treeFor_66 : decode cX0_treeFor 66 = .ok (.iaload, 1) := by decide +kernel
theorem dX0_treeFor_67 : decode cX0_treeFor 67 = .ok (.invokevirtual 101, 3) := by decide +kernel
theorem dX0_treeFor_70 : decode cX0_treeFor 70 = .ok (.istore 4, 2) := by decide +kernel
theorem dX0_treeFor_72 : decode cX0_treeFor 72 = .ok (.iinc 5 1, 3) := by decide +kernel
theorem dX0_treeFor_75 : decode cX0_treeFor 75 = .ok (.goto (-67), 3) := by decide +kernel
theorem dX0_treeFor_78 : decode cX0_treeFor 78 = .ok (.iload_n 3, 1) := by decide +kernel
theorem dX0_treeFor_79 : decode cX0_treeFor 79 = .ok (.ireturn, 1) := by decide +kernel
theorem dX0_jamFor_0 : decode cX0_jamFor 0 = .ok (.iconst (-1), 1) := by decide +kernel
theorem dX0_jamFor_1 : decode cX0_jamFor 1 = .ok (.istore_n 2, 1) := by decide +kernel
theorem dX0_jamFor_2 : decode cX0_jamFor 2 = .ok (.iconst 0, 1) := by decide +kernel
theorem dX0_jamFor_3 : decode cX0_jamFor 3 = .ok (.istore_n 3, 1) := by decide +kernel
theorem dX0_jamFor_4 : decode cX0_jamFor 4 = .ok (.iconst 0, 1) := by decide +kernel
theorem dX0_jamFor_5 : decode cX0_jamFor 5 = .ok (.istore 4, 2) := by decide +kernel
theorem dX0_jamFor_7 : decode cX0_jamFor 7 = .ok (.iload 4, 2) := by decide +kernel
theorem dX0_jamFor_9 : decode cX0_jamFor 9 = .ok (.aload_n 0, 1) := by decide +kernel
theorem dX0_jamFor_10 : decode cX0_jamFor 10 = .ok (.getfield 61, 3) := by decide +kernel
theorem dX0_jamFor_13 : decode cX0_jamFor 13 = .ok (.if_icmp .ge 41, 3) := by decide +kernel
theorem dX0_jamFor_16 : decode cX0_jamFor 16 = .ok (.aload_n 0, 1) := by decide +kernel
theorem dX0_jamFor_17 : decode cX0_jamFor 17 = .ok (.getfield 18, 3) := by decide +kernel
theorem dX0_jamFor_20 : decode cX0_jamFor 20 = .ok (.iload 4, 2) := by decide +kernel
theorem dX0_jamFor_22 : decode cX0_jamFor 22 = .ok (.iaload, 1) := by decide +kernel
theorem dX0_jamFor_23 : decode cX0_jamFor 23 = .ok (.ifCond .le 25, 3) := by decide +kernel
theorem dX0_jamFor_26 : decode cX0_jamFor 26 = .ok (.aload_n 0, 1) := by decide +kernel
theorem dX0_jamFor_27 : decode cX0_jamFor 27 = .ok (.iload_n 1, 1) := by decide +kernel
theorem dX0_jamFor_28 : decode cX0_jamFor 28 = .ok (.iload 4, 2) := by decide +kernel
theorem dX0_jamFor_30 : decode cX0_jamFor 30 = .ok (.invokevirtual 101, 3) := by decide +kernel
theorem dX0_jamFor_33 : decode cX0_jamFor 33 = .ok (.iload_n 3, 1) := by decide +kernel
theorem dX0_jamFor_34 : decode cX0_jamFor 34 = .ok (.if_icmp .le 14, 3) := by decide +kernel
theorem dX0_jamFor_37 : decode cX0_jamFor 37 = .ok (.iload 4, 2) := by decide +kernel
theorem dX0_jamFor_39 : decode cX0_jamFor 39 = .ok (.istore_n 2, 1) := by decide +kernel
theorem dX0_jamFor_40 : decode cX0_jamFor 40 = .ok (.aload_n 0, 1) := by decide +kernel
theorem dX0_jamFor_41 : decode cX0_jamFor 41 = .ok (.iload_n 1, 1) := by decide +kernel
theorem dX0_jamFor_42 : decode cX0_jamFor 42 = .ok (.iload 4, 2) := by decide +kernel
theorem dX0_jamFor_44 : decode cX0_jamFor 44 = .ok (.invokevirtual 101, 3) := by decide +kernel
theorem dX0_jamFor_47 : decode cX0_jamFor 47 = .ok (.istore_n 3, 1) := by decide +kernel
theorem dX0_jamFor_48 : decode cX0_jamFor 48 = .ok (.iinc 4 1, 3) := by decide +kernel
theorem dX0_jamFor_51 : decode cX0_jamFor 51 = .ok (.goto (-44), 3) := by decide +kernel
theorem dX0_jamFor_54 : decode cX0_jamFor 54 = .ok (.iload_n 2, 1) := by decide +kernel
theorem dX0_jamFor_55 : decode cX0_jamFor 55 = .ok (.ireturn, 1) := by decide +kernel
theorem dX0_seatsOf_0 : decode cX0_seatsOf 0 = .ok (.iconst 0, 1) := by decide +kernel
theorem dX0_seatsOf_1 : decode cX0_seatsOf 1 = .ok (.istore_n 2, 1) := by decide +kernel
theorem dX0_seatsOf_2 : decode cX0_seatsOf 2 = .ok (.iconst 0, 1) := by decide +kernel
theorem dX0_seatsOf_3 : decode cX0_seatsOf 3 = .ok (.istore_n 3, 1) := by decide +kernel
theorem dX0_seatsOf_4 : decode cX0_seatsOf 4 = .ok (.iload_n 3, 1) := by decide +kernel
theorem dX0_seatsOf_5 : decode cX0_seatsOf 5 = .ok (.aload_n 0, 1) := by decide +kernel
theorem dX0_seatsOf_6 : decode cX0_seatsOf 6 = .ok (.getfield 61, 3) := by decide +kernel
theorem dX0_seatsOf_9 : decode cX0_seatsOf 9 = .ok (.if_icmp .ge 27, 3) := by decide +kernel
theorem dX0_seatsOf_12 : decode cX0_seatsOf 12 = .ok (.iload_n 1, 1) := by decide +kernel
theorem dX0_seatsOf_13 : decode cX0_seatsOf 13 = .ok (.iload_n 3, 1) := by decide +kernel
theorem dX0_seatsOf_14 : decode cX0_seatsOf 14 = .ok (.ishr, 1) := by decide +kernel
theorem dX0_seatsOf_15 : decode cX0_seatsOf 15 = .ok (.iconst 1, 1) := by decide +kernel
theorem dX0_seatsOf_16 : decode cX0_seatsOf 16 = .ok (.iand, 1) := by decide +kernel
theorem dX0_seatsOf_17 : decode cX0_seatsOf 17 = .ok (.iconst 1, 1) := by decide +kernel
theorem dX0_seatsOf_18 : decode cX0_seatsOf 18 = .ok (.if_icmp .ne 12, 3) := by decide +kernel
theorem dX0_seatsOf_21 : decode cX0_seatsOf 21 = .ok (.iload_n 2, 1) := by decide +kernel
theorem dX0_seatsOf_22 : decode cX0_seatsOf 22 = .ok (.aload_n 0, 1) := by decide +kernel
theorem dX0_seatsOf_23 : decode cX0_seatsOf 23 = .ok (.getfield 25, 3) := by decide +kernel
theorem dX0_seatsOf_26 : decode cX0_seatsOf 26 = .ok (.iload_n 3, 1) := by decide +kernel
theorem dX0_seatsOf_27 : decode cX0_seatsOf 27 = .ok (.iaload, 1) := by decide +kernel
theorem dX0_seatsOf_28 : decode cX0_seatsOf 28 = .ok (.iadd, 1) := by decide +kernel
theorem dX0_seatsOf_29 : decode cX0_seatsOf 29 = .ok (.istore_n 2, 1) := by decide +kernel
theorem dX0_seatsOf_30 : decode cX0_seatsOf 30 = .ok (.iinc 3 1, 3) := by decide +kernel
theorem dX0_seatsOf_33 : decode cX0_seatsOf 33 = .ok (.goto (-29), 3) := by decide +kernel
theorem dX0_seatsOf_36 : decode cX0_seatsOf 36 = .ok (.iload_n 2, 1) := by decide +kernel
theorem dX0_seatsOf_37 : decode cX0_seatsOf 37 = .ok (.ireturn, 1) := by decide +kernel
theorem dX0_partyWithMostSeats_0 : decode cX0_partyWithMostSeats 0 = .ok (.iconst (-1), 1) := by decide +kernel
theorem dX0_partyWithMostSeats_1 : decode cX0_partyWithMostSeats 1 = .ok (.istore_n 1, 1) := by decide +kernel
theorem dX0_partyWithMostSeats_2 : decode cX0_partyWithMostSeats 2 = .ok (.iconst 0, 1) := by decide +kernel
theorem dX0_partyWithMostSeats_3 : decode cX0_partyWithMostSeats 3 = .ok (.istore_n 2, 1) := by decide +kernel
theorem dX0_partyWithMostSeats_4 : decode cX0_partyWithMostSeats 4 = .ok (.iload_n 2, 1) := by decide +kernel
theorem dX0_partyWithMostSeats_5 : decode cX0_partyWithMostSeats 5 = .ok (.aload_n 0, 1) := by decide +kernel
theorem dX0_partyWithMostSeats_6 : decode cX0_partyWithMostSeats 6 = .ok (.getfield 61, 3) := by decide +kernel
theorem dX0_partyWithMostSeats_9 : decode cX0_partyWithMostSeats 9 = .ok (.if_icmp .ge 31, 3) := by decide +kernel
theorem dX0_partyWithMostSeats_12 : decode cX0_partyWithMostSeats 12 = .ok (.iload_n 1, 1) := by decide +kernel
theorem dX0_partyWithMostSeats_13 : decode cX0_partyWithMostSeats 13 = .ok (.iconst (-1), 1) := by decide +kernel
theorem dX0_partyWithMostSeats_14 : decode cX0_partyWithMostSeats 14 = .ok (.if_icmp .eq 18, 3) := by decide +kernel
theorem dX0_partyWithMostSeats_17 : decode cX0_partyWithMostSeats 17 = .ok (.aload_n 0, 1) := by decide +kernel
theorem dX0_partyWithMostSeats_18 : decode cX0_partyWithMostSeats 18 = .ok (.getfield 25, 3) := by decide +kernel
theorem dX0_partyWithMostSeats_21 : decode cX0_partyWithMostSeats 21 = .ok (.iload_n 2, 1) := by decide +kernel
theorem dX0_partyWithMostSeats_22 : decode cX0_partyWithMostSeats 22 = .ok (.iaload, 1) := by decide +kernel
theorem dX0_partyWithMostSeats_23 : decode cX0_partyWithMostSeats 23 = .ok (.aload_n 0, 1) := by decide +kernel
theorem dX0_partyWithMostSeats_24 : decode cX0_partyWithMostSeats 24 = .ok (.getfield 25, 3) := by decide +kernel
theorem dX0_partyWithMostSeats_27 : decode cX0_partyWithMostSeats 27 = .ok (.iload_n 1, 1) := by decide +kernel
theorem dX0_partyWithMostSeats_28 : decode cX0_partyWithMostSeats 28 = .ok (.iaload, 1) := by decide +kernel
theorem dX0_partyWithMostSeats_29 : decode cX0_partyWithMostSeats 29 = .ok (.if_icmp .le 5, 3) := by decide +kernel
theorem dX0_partyWithMostSeats_32 : decode cX0_partyWithMostSeats 32 = .ok (.iload_n 2, 1) := by decide +kernel
theorem dX0_partyWithMostSeats_33 : decode cX0_partyWithMostSeats 33 = .ok (.istore_n 1, 1) := by decide +kernel
theorem dX0_partyWithMostSeats_34 : decode cX0_partyWithMostSeats 34 = .ok (.iinc 2 1, 3) := by decide +kernel
theorem dX0_partyWithMostSeats_37 : decode cX0_partyWithMostSeats 37 = .ok (.goto (-33), 3) := by decide +kernel
theorem dX0_partyWithMostSeats_40 : decode cX0_partyWithMostSeats 40 = .ok (.iload_n 1, 1) := by decide +kernel
theorem dX0_partyWithMostSeats_41 : decode cX0_partyWithMostSeats 41 = .ok (.ireturn, 1) := by decide +kernel
theorem dX0_seatAnew_0 : decode cX0_seatAnew 0 = .ok (.iconst 0, 1) := by decide +kernel
theorem dX0_seatAnew_1 : decode cX0_seatAnew 1 = .ok (.istore_n 1, 1) := by decide +kernel
theorem dX0_seatAnew_2 : decode cX0_seatAnew 2 = .ok (.iconst 0, 1) := by decide +kernel
theorem dX0_seatAnew_3 : decode cX0_seatAnew 3 = .ok (.istore_n 2, 1) := by decide +kernel
theorem dX0_seatAnew_4 : decode cX0_seatAnew 4 = .ok (.iload_n 2, 1) := by decide +kernel
theorem dX0_seatAnew_5 : decode cX0_seatAnew 5 = .ok (.aload_n 0, 1) := by decide +kernel
theorem dX0_seatAnew_6 : decode cX0_seatAnew 6 = .ok (.getfield 61, 3) := by decide +kernel
theorem dX0_seatAnew_9 : decode cX0_seatAnew 9 = .ok (.if_icmp .ge 18, 3) := by decide +kernel
theorem dX0_seatAnew_12 : decode cX0_seatAnew 12 = .ok (.iload_n 1, 1) := by decide +kernel
theorem dX0_seatAnew_13 : decode cX0_seatAnew 13 = .ok (.aload_n 0, 1) := by decide +kernel
theorem dX0_seatAnew_14 : decode cX0_seatAnew 14 = .ok (.getfield 22, 3) := by decide +kernel
theorem dX0_seatAnew_17 : decode cX0_seatAnew 17 = .ok (.iload_n 2, 1) := by decide +kernel
theorem dX0_seatAnew_18 : decode cX0_seatAnew 18 = .ok (.iaload, 1) := by decide +kernel
theorem dX0_seatAnew_19 : decode cX0_seatAnew 19 = .ok (.iadd, 1) := by decide +kernel
theorem dX0_seatAnew_20 : decode cX0_seatAnew 20 = .ok (.istore_n 1, 1) := by decide +kernel
theorem dX0_seatAnew_21 : decode cX0_seatAnew 21 = .ok (.iinc 2 1, 3) := by decide +kernel
theorem dX0_seatAnew_24 : decode cX0_seatAnew 24 = .ok (.goto (-20), 3) := by decide +kernel
theorem dX0_seatAnew_27 : decode cX0_seatAnew 27 = .ok (.iload_n 1, 1) := by decide +kernel
theorem dX0_seatAnew_28 : decode cX0_seatAnew 28 = .ok (.ifCond .gt 4, 3) := by decide +kernel
theorem dX0_seatAnew_31 : decode cX0_seatAnew 31 = .ok (.return_, 1) := by decide +kernel
theorem dX0_seatAnew_32 : decode cX0_seatAnew 32 = .ok (.aload_n 0, 1) := by decide +kernel
theorem dX0_seatAnew_33 : decode cX0_seatAnew 33 = .ok (.getfield 9, 3) := by decide +kernel
theorem dX0_seatAnew_36 : decode cX0_seatAnew 36 = .ok (.istore_n 2, 1) := by decide +kernel
theorem dX0_seatAnew_37 : decode cX0_seatAnew 37 = .ok (.iconst 0, 1) := by decide +kernel
theorem dX0_seatAnew_38 : decode cX0_seatAnew 38 = .ok (.istore_n 3, 1) := by decide +kernel
theorem dX0_seatAnew_39 : decode cX0_seatAnew 39 = .ok (.iload_n 3, 1) := by decide +kernel
theorem dX0_seatAnew_40 : decode cX0_seatAnew 40 = .ok (.aload_n 0, 1) := by decide +kernel
theorem dX0_seatAnew_41 : decode cX0_seatAnew 41 = .ok (.getfield 61, 3) := by decide +kernel
theorem dX0_seatAnew_44 : decode cX0_seatAnew 44 = .ok (.if_icmp .ge 37, 3) := by decide +kernel
theorem dX0_seatAnew_47 : decode cX0_seatAnew 47 = .ok (.aload_n 0, 1) := by decide +kernel
theorem dX0_seatAnew_48 : decode cX0_seatAnew 48 = .ok (.getfield 25, 3) := by decide +kernel
theorem dX0_seatAnew_51 : decode cX0_seatAnew 51 = .ok (.iload_n 3, 1) := by decide +kernel
theorem dX0_seatAnew_52 : decode cX0_seatAnew 52 = .ok (.aload_n 0, 1) := by decide +kernel
theorem dX0_seatAnew_53 : decode cX0_seatAnew 53 = .ok (.getfield 22, 3) := by decide +kernel
theorem dX0_seatAnew_56 : decode cX0_seatAnew 56 = .ok (.iload_n 3, 1) := by decide +kernel
theorem dX0_seatAnew_57 : decode cX0_seatAnew 57 = .ok (.iaload, 1) := by decide +kernel
theorem dX0_seatAnew_58 : decode cX0_seatAnew 58 = .ok (.aload_n 0, 1) := by decide +kernel
theorem dX0_seatAnew_59 : decode cX0_seatAnew 59 = .ok (.getfield 9, 3) := by decide +kernel
theorem dX0_seatAnew_62 : decode cX0_seatAnew 62 = .ok (.imul, 1) := by decide +kernel
theorem dX0_seatAnew_63 : decode cX0_seatAnew 63 = .ok (.iload_n 1, 1) := by decide +kernel
theorem dX0_seatAnew_64 : decode cX0_seatAnew 64 = .ok (.idiv, 1) := by decide +kernel
theorem dX0_seatAnew_65 : decode cX0_seatAnew 65 = .ok (.iastore, 1) := by decide +kernel
theorem dX0_seatAnew_66 : decode cX0_seatAnew 66 = .ok (.iload_n 2, 1) := by decide +kernel
theorem dX0_seatAnew_67 : decode cX0_seatAnew 67 = .ok (.aload_n 0, 1) := by decide +kernel
theorem dX0_seatAnew_68 : decode cX0_seatAnew 68 = .ok (.getfield 25, 3) := by decide +kernel
theorem dX0_seatAnew_71 : decode cX0_seatAnew 71 = .ok (.iload_n 3, 1) := by decide +kernel
theorem dX0_seatAnew_72 : decode cX0_seatAnew 72 = .ok (.iaload, 1) := by decide +kernel
theorem dX0_seatAnew_73 : decode cX0_seatAnew 73 = .ok (.isub, 1) := by decide +kernel
theorem dX0_seatAnew_74 : decode cX0_seatAnew 74 = .ok (.istore_n 2, 1) := by decide +kernel
theorem dX0_seatAnew_75 : decode cX0_seatAnew 75 = .ok (.iinc 3 1, 3) := by decide +kernel
theorem dX0_seatAnew_78 : decode cX0_seatAnew 78 = .ok (.goto (-39), 3) := by decide +kernel
theorem dX0_seatAnew_81 : decode cX0_seatAnew 81 = .ok (.iconst 0, 1) := by decide +kernel
theorem dX0_seatAnew_82 : decode cX0_seatAnew 82 = .ok (.istore_n 3, 1) := by decide +kernel
theorem dX0_seatAnew_83 : decode cX0_seatAnew 83 = .ok (.iconst 0, 1) := by decide +kernel
theorem dX0_seatAnew_84 : decode cX0_seatAnew 84 = .ok (.istore 4, 2) := by decide +kernel
theorem dX0_seatAnew_86 : decode cX0_seatAnew 86 = .ok (.iload 4, 2) := by decide +kernel
theorem dX0_seatAnew_88 : decode cX0_seatAnew 88 = .ok (.iload_n 2, 1) := by decide +kernel
theorem dX0_seatAnew_89 : decode cX0_seatAnew 89 = .ok (.if_icmp .ge 41, 3) := by decide +kernel
theorem dX0_seatAnew_92 : decode cX0_seatAnew 92 = .ok (.aload_n 0, 1) := by decide +kernel
theorem dX0_seatAnew_93 : decode cX0_seatAnew 93 = .ok (.iload_n 1, 1) := by decide +kernel
theorem dX0_seatAnew_94 : decode cX0_seatAnew 94 = .ok (.iload_n 3, 1) := by decide +kernel
theorem dX0_seatAnew_95 : decode cX0_seatAnew 95 = .ok (.invokevirtual 104, 3) := by decide +kernel
theorem dX0_seatAnew_98 : decode cX0_seatAnew 98 = .ok (.istore 5, 2) := by decide +kernel
theorem dX0_seatAnew_100 : decode cX0_seatAnew 100 = .ok (.iload 5, 2) := by decide +kernel
theorem dX0_seatAnew_102 : decode cX0_seatAnew 102 = .ok (.iconst (-1), 1) := by decide +kernel
theorem dX0_seatAnew_103 : decode cX0_seatAnew 103 = .ok (.if_icmp .eq 21, 3) := by decide +kernel
theorem dX0_seatAnew_106 : decode cX0_seatAnew 106 = .ok (.aload_n 0, 1) := by decide +kernel
theorem dX0_seatAnew_107 : decode cX0_seatAnew 107 = .ok (.getfield 25, 3) := by decide +kernel
theorem dX0_seatAnew_110 : decode cX0_seatAnew 110 = .ok (.iload 5, 2) := by decide +kernel
theorem dX0_seatAnew_112 : decode cX0_seatAnew 112 = .ok (.dup2, 1) := by decide +kernel
theorem dX0_seatAnew_113 : decode cX0_seatAnew 113 = .ok (.iaload, 1) := by decide +kernel
theorem dX0_seatAnew_114 : decode cX0_seatAnew 114 = .ok (.iconst 1, 1) := by decide +kernel
theorem dX0_seatAnew_115 : decode cX0_seatAnew 115 = .ok (.iadd, 1) := by decide +kernel
theorem dX0_seatAnew_116 : decode cX0_seatAnew 116 = .ok (.iastore, 1) := by decide +kernel
theorem dX0_seatAnew_117 : decode cX0_seatAnew 117 = .ok (.iload_n 3, 1) := by decide +kernel
theorem dX0_seatAnew_118 : decode cX0_seatAnew 118 = .ok (.iconst 1, 1) := by decide +kernel
theorem dX0_seatAnew_119 : decode cX0_seatAnew 119 = .ok (.iload 5, 2) := by decide +kernel
theorem dX0_seatAnew_121 : decode cX0_seatAnew 121 = .ok (.ishl, 1) := by decide +kernel
theorem dX0_seatAnew_122 : decode cX0_seatAnew 122 = .ok (.ior, 1) := by decide +kernel
theorem dX0_seatAnew_123 : decode cX0_seatAnew 123 = .ok (.istore_n 3, 1) := by decide +kernel
theorem dX0_seatAnew_124 : decode cX0_seatAnew 124 = .ok (.iinc 4 1, 3) := by decide +kernel
theorem dX0_seatAnew_127 : decode cX0_seatAnew 127 = .ok (.goto (-41), 3) := by decide +kernel
theorem dX0_seatAnew_130 : decode cX0_seatAnew 130 = .ok (.return_, 1) := by decide +kernel
theorem dX0_greatestRemainder_0 : decode cX0_greatestRemainder 0 = .ok (.iconst (-1), 1) := by decide +kernel
theorem dX0_greatestRemainder_1 : decode cX0_greatestRemainder 1 = .ok (.istore_n 3, 1) := by decide +kernel
theorem dX0_greatestRemainder_2 : decode cX0_greatestRemainder 2 = .ok (.iconst (-1), 1) := by decide +kernel
theorem dX0_greatestRemainder_3 : decode cX0_greatestRemainder 3 = .ok (.istore 4, 2) := by decide +kernel
theorem dX0_greatestRemainder_5 : decode cX0_greatestRemainder 5 = .ok (.iconst 0, 1) := by decide +kernel
theorem dX0_greatestRemainder_6 : decode cX0_greatestRemainder 6 = .ok (.istore 5, 2) := by decide +kernel
theorem dX0_greatestRemainder_8 : decode cX0_greatestRemainder 8 = .ok (.iload 5, 2) := by decide +kernel
theorem dX0_greatestRemainder_10 : decode cX0_greatestRemainder 10 = .ok (.aload_n 0, 1) := by decide +kernel
theorem dX0_greatestRemainder_11 : decode cX0_greatestRemainder 11 = .ok (.getfield 61, 3) := by decide +kernel
theorem dX0_greatestRemainder_14 : decode cX0_greatestRemainder 14 = .ok (.if_icmp .ge 84, 3) := by decide +kernel
theorem dX0_greatestRemainder_17 : decode cX0_greatestRemainder 17 = .ok (.iload_n 2, 1) := by decide +kernel
theorem dX0_greatestRemainder_18 : decode cX0_greatestRemainder 18 = .ok (.iload 5, 2) := by decide +kernel
theorem dX0_greatestRemainder_20 : decode cX0_greatestRemainder 20 = .ok (.ishr, 1) := by decide +kernel
theorem dX0_greatestRemainder_21 : decode cX0_greatestRemainder 21 = .ok (.iconst 1, 1) := by decide +kernel
theorem dX0_greatestRemainder_22 : decode cX0_greatestRemainder 22 = .ok (.iand, 1) := by decide +kernel
theorem dX0_greatestRemainder_23 : decode cX0_greatestRemainder 23 = .ok (.ifCond .ne 69, 3) := by decide +kernel
theorem dX0_greatestRemainder_26 : decode cX0_greatestRemainder 26 = .ok (.iload_n 1, 1) := by decide +kernel
theorem dX0_greatestRemainder_27 : decode cX0_greatestRemainder 27 = .ok (.ifCond .le 20, 3) := by decide +kernel
theorem dX0_greatestRemainder_30 : decode cX0_greatestRemainder 30 = .ok (.aload_n 0, 1) := by decide +kernel
theorem dX0_greatestRemainder_31 : decode cX0_greatestRemainder 31 = .ok (.getfield 22, 3) := by decide +kernel
theorem dX0_greatestRemainder_34 : decode cX0_greatestRemainder 34 = .ok (.iload 5, 2) := by decide +kernel
theorem dX0_greatestRemainder_36 : decode cX0_greatestRemainder 36 = .ok (.iaload, 1) := by decide +kernel
theorem dX0_greatestRemainder_37 : decode cX0_greatestRemainder 37 = .ok (.aload_n 0, 1) := by decide +kernel
theorem dX0_greatestRemainder_38 : decode cX0_greatestRemainder 38 = .ok (.getfield 9, 3) := by decide +kernel
theorem dX0_greatestRemainder_41 : decode cX0_greatestRemainder 41 = .ok (.imul, 1) := by decide +kernel
theorem dX0_greatestRemainder_42 : decode cX0_greatestRemainder 42 = .ok (.iload_n 1, 1) := by decide +kernel
theorem dX0_greatestRemainder_43 : decode cX0_greatestRemainder 43 = .ok (.irem, 1) := by decide +kernel
theorem dX0_greatestRemainder_44 : decode cX0_greatestRemainder 44 = .ok (.goto 4, 3) := by decide +kernel
theorem dX0_greatestRemainder_47 : decode cX0_greatestRemainder 47 = .ok (.iconst 0, 1) := by decide +kernel
theorem dX0_greatestRemainder_48 : decode cX0_greatestRemainder 48 = .ok (.istore 6, 2) := by decide +kernel
theorem dX0_greatestRemainder_50 : decode cX0_greatestRemainder 50 = .ok (.iload_n 3, 1) := by decide +kernel
theorem dX0_greatestRemainder_51 : decode cX0_greatestRemainder 51 = .ok (.iconst (-1), 1) := by decide +kernel
theorem dX0_greatestRemainder_52 : decode cX0_greatestRemainder 52 = .ok (.if_icmp .eq 33, 3) := by decide +kernel
theorem dX0_greatestRemainder_55 : decode cX0_greatestRemainder 55 = .ok (.iload 6, 2) := by decide +kernel
theorem dX0_greatestRemainder_57 : decode cX0_greatestRemainder 57 = .ok (.iload 4, 2) := by decide +kernel
theorem dX0_greatestRemainder_59 : decode cX0_greatestRemainder 59 = .ok (.if_icmp .gt 26, 3) := by decide +kernel
theorem dX0_greatestRemainder_62 : decode cX0_greatestRemainder 62 = .ok (.iload 6, 2) := by decide +kernel
theorem dX0_greatestRemainder_64 : decode cX0_greatestRemainder 64 = .ok (.iload 4, 2) := by decide +kernel
theorem dX0_greatestRemainder_66 : decode cX0_greatestRemainder 66 = .ok (.if_icmp .ne 26, 3) := by decide +kernel
theorem dX0_greatestRemainder_69 : decode cX0_greatestRemainder 69 = .ok (.aload_n 0, 1) := by decide +kernel
theorem dX0_greatestRemainder_70 : decode cX0_greatestRemainder 70 = .ok (.getfield 25, 3) := by decide +kernel
theorem dX0_greatestRemainder_73 : decode cX0_greatestRemainder 73 = .ok (.iload 5, 2) := by decide +kernel
theorem dX0_greatestRemainder_75 : decode cX0_greatestRemainder 75 = .ok (.iaload, 1) := by decide +kernel
theorem dX0_greatestRemainder_76 : decode cX0_greatestRemainder 76 = .ok (.aload_n 0, 1) := by decide +kernel
theorem dX0_greatestRemainder_77 : decode cX0_greatestRemainder 77 = .ok (.getfield 25, 3) := by decide +kernel
theorem dX0_greatestRemainder_80 : decode cX0_greatestRemainder 80 = .ok (.iload_n 3, 1) := by decide +kernel
theorem dX0_greatestRemainder_81 : decode cX0_greatestRemainder 81 = .ok (.iaload, 1) := by decide +kernel
theorem dX0_greatestRemainder_82 : decode cX0_greatestRemainder 82 = .ok (.if_icmp .le 10, 3) := by decide +kernel
theorem dX0_greatestRemainder_85 : decode cX0_greatestRemainder 85 = .ok (.iload 5, 2) := by decide +kernel
theorem dX0_greatestRemainder_87 : decode cX0_greatestRemainder 87 = .ok (.istore_n 3, 1) := by decide +kernel
theorem dX0_greatestRemainder_88 : decode cX0_greatestRemainder 88 = .ok (.iload 6, 2) := by decide +kernel
theorem dX0_greatestRemainder_90 : decode cX0_greatestRemainder 90 = .ok (.istore 4, 2) := by decide +kernel
theorem dX0_greatestRemainder_92 : decode cX0_greatestRemainder 92 = .ok (.iinc 5 1, 3) := by decide +kernel
theorem dX0_greatestRemainder_95 : decode cX0_greatestRemainder 95 = .ok (.goto (-87), 3) := by decide +kernel
theorem dX0_greatestRemainder_98 : decode cX0_greatestRemainder 98 = .ok (.iload_n 3, 1) := by decide +kernel
theorem dX0_greatestRemainder_99 : decode cX0_greatestRemainder 99 = .ok (.ireturn, 1) := by decide +kernel
theorem dX0_growOlder_0 : decode cX0_growOlder 0 = .ok (.iconst 0, 1) := by decide +kernel
theorem dX0_growOlder_1 : decode cX0_growOlder 1 = .ok (.istore_n 1, 1) := by decide +kernel
theorem dX0_growOlder_2 : decode cX0_growOlder 2 = .ok (.iload_n 1, 1) := by decide +kernel
theorem dX0_growOlder_3 : decode cX0_growOlder 3 = .ok (.aload_n 0, 1) := by decide +kernel
theorem dX0_growOlder_4 : decode cX0_growOlder 4 = .ok (.getfield 64, 3) := by decide +kernel
theorem dX0_growOlder_7 : decode cX0_growOlder 7 = .ok (.if_icmp .ge 28, 3) := by decide +kernel
theorem dX0_growOlder_10 : decode cX0_growOlder 10 = .ok (.aload_n 0, 1) := by decide +kernel
theorem dX0_growOlder_11 : decode cX0_growOlder 11 = .ok (.getfield 34, 3) := by decide +kernel
theorem dX0_growOlder_14 : decode cX0_growOlder 14 = .ok (.iload_n 1, 1) := by decide +kernel
theorem dX0_growOlder_15 : decode cX0_growOlder 15 = .ok (.bipush 99, 2) := by decide +kernel
theorem dX0_growOlder_17 : decode cX0_growOlder 17 = .ok (.aload_n 0, 1) := by decide +kernel
theorem dX0_growOlder_18 : decode cX0_growOlder 18 = .ok (.getfield 34, 3) := by decide +kernel
theorem dX0_growOlder_21 : decode cX0_growOlder 21 = .ok (.iload_n 1, 1) := by decide +kernel
theorem dX0_growOlder_22 : decode cX0_growOlder 22 = .ok (.iaload, 1) := by decide +kernel
theorem dX0_growOlder_23 : decode cX0_growOlder 23 = .ok (.iconst 1, 1) := by decide +kernel
theorem dX0_growOlder_24 : decode cX0_growOlder 24 = .ok (.iadd, 1) := by decide +kernel
theorem dX0_growOlder_25 : decode cX0_growOlder 25 = .ok (.invokestatic 95, 3) := by decide +kernel
theorem dX0_growOlder_28 : decode cX0_growOlder 28 = .ok (.iastore, 1) := by decide +kernel
theorem dX0_growOlder_29 : decode cX0_growOlder 29 = .ok (.iinc 1 1, 3) := by decide +kernel
theorem dX0_growOlder_32 : decode cX0_growOlder 32 = .ok (.goto (-30), 3) := by decide +kernel
theorem dX0_growOlder_35 : decode cX0_growOlder 35 = .ok (.return_, 1) := by decide +kernel
theorem dX1_init_0 : decode cX1_init 0 = .ok (.aload_n 0, 1) := by decide +kernel
theorem dX1_init_1 : decode cX1_init 1 = .ok (.invokespecial 3, 3) := by decide +kernel
theorem dX1_init_4 : decode cX1_init 4 = .ok (.aload_n 0, 1) := by decide +kernel
theorem dX1_init_5 : decode cX1_init 5 = .ok (.bipush 8, 2) := by decide +kernel
theorem dX1_init_7 : decode cX1_init 7 = .ok (.newarray .int, 2) := by decide +kernel
theorem dX1_init_9 : decode cX1_init 9 = .ok (.putfield 9, 3) := by decide +kernel
theorem dX1_init_12 : decode cX1_init 12 = .ok (.aload_n 0, 1) := by decide +kernel
theorem dX1_init_13 : decode cX1_init 13 = .ok (.bipush 8, 2) := by decide +kernel
theorem dX1_init_15 : decode cX1_init 15 = .ok (.newarray .int, 2) := by decide +kernel
theorem dX1_init_17 : decode cX1_init 17 = .ok (.putfield 15, 3) := by decide +kernel
theorem dX1_init_20 : decode cX1_init 20 = .ok (.return_, 1) := by decide +kernel
theorem dX1_copyFrom_0 : decode cX1_copyFrom 0 = .ok (.aload_n 0, 1) := by decide +kernel
theorem dX1_copyFrom_1 : decode cX1_copyFrom 1 = .ok (.aload_n 1, 1) := by decide +kernel
theorem dX1_copyFrom_2 : decode cX1_copyFrom 2 = .ok (.getfield 18, 3) := by decide +kernel
theorem dX1_copyFrom_5 : decode cX1_copyFrom 5 = .ok (.putfield 18, 3) := by decide +kernel
theorem dX1_copyFrom_8 : decode cX1_copyFrom 8 = .ok (.aload_n 1, 1) := by decide +kernel
theorem dX1_copyFrom_9 : decode cX1_copyFrom 9 = .ok (.getfield 9, 3) := by decide +kernel
theorem dX1_copyFrom_12 : decode cX1_copyFrom 12 = .ok (.iconst 0, 1) := by decide +kernel
theorem dX1_copyFrom_13 : decode cX1_copyFrom 13 = .ok (.aload_n 0, 1) := by decide +kernel
theorem dX1_copyFrom_14 : decode cX1_copyFrom 14 = .ok (.getfield 9, 3) := by decide +kernel
theorem dX1_copyFrom_17 : decode cX1_copyFrom 17 = .ok (.iconst 0, 1) := by decide +kernel
theorem dX1_copyFrom_18 : decode cX1_copyFrom 18 = .ok (.bipush 8, 2) := by decide +kernel
theorem dX1_copyFrom_20 : decode cX1_copyFrom 20 = .ok (.invokestatic 22, 3) := by decide +kernel
theorem dX1_copyFrom_23 : decode cX1_copyFrom 23 = .ok (.aload_n 1, 1) := by decide +kernel
theorem dX1_copyFrom_24 : decode cX1_copyFrom 24 = .ok (.getfield 15, 3) := by decide +kernel
theorem dX1_copyFrom_27 : decode cX1_copyFrom 27 = .ok (.iconst 0, 1) := by decide +kernel
theorem dX1_copyFrom_28 : decode cX1_copyFrom 28 = .ok (.aload_n 0, 1) := by decide +kernel
theorem dX1_copyFrom_29 : decode cX1_copyFrom 29 = .ok (.getfield 15, 3) := by decide +kernel
theorem dX1_copyFrom_32 : decode cX1_copyFrom 32 = .ok (.iconst 0, 1) := by decide +kernel
theorem dX1_copyFrom_33 : decode cX1_copyFrom 33 = .ok (.bipush 8, 2) := by decide +kernel
theorem dX1_copyFrom_35 : decode cX1_copyFrom 35 = .ok (.invokestatic 22, 3) := by decide +kernel
theorem dX1_copyFrom_38 : decode cX1_copyFrom 38 = .ok (.return_, 1) := by decide +kernel
theorem dX1_add_0 : decode cX1_add 0 = .ok (.aload_n 0, 1) := by decide +kernel
theorem dX1_add_1 : decode cX1_add 1 = .ok (.getfield 18, 3) := by decide +kernel
theorem dX1_add_4 : decode cX1_add 4 = .ok (.bipush 8, 2) := by decide +kernel
theorem dX1_add_6 : decode cX1_add 6 = .ok (.if_icmp .ge 33, 3) := by decide +kernel
theorem dX1_add_9 : decode cX1_add 9 = .ok (.aload_n 0, 1) := by decide +kernel
theorem dX1_add_10 : decode cX1_add 10 = .ok (.getfield 9, 3) := by decide +kernel
theorem dX1_add_13 : decode cX1_add 13 = .ok (.aload_n 0, 1) := by decide +kernel
theorem dX1_add_14 : decode cX1_add 14 = .ok (.getfield 18, 3) := by decide +kernel
theorem dX1_add_17 : decode cX1_add 17 = .ok (.iload_n 1, 1) := by decide +kernel
theorem dX1_add_18 : decode cX1_add 18 = .ok (.iastore, 1) := by decide +kernel
theorem dX1_add_19 : decode cX1_add 19 = .ok (.aload_n 0, 1) := by decide +kernel
theorem dX1_add_20 : decode cX1_add 20 = .ok (.getfield 15, 3) := by decide +kernel
theorem dX1_add_23 : decode cX1_add 23 = .ok (.aload_n 0, 1) := by decide +kernel
theorem dX1_add_24 : decode cX1_add 24 = .ok (.getfield 18, 3) := by decide +kernel
theorem dX1_add_27 : decode cX1_add 27 = .ok (.iload_n 2, 1) := by decide +kernel
theorem dX1_add_28 : decode cX1_add 28 = .ok (.iastore, 1) := by decide +kernel
theorem dX1_add_29 : decode cX1_add 29 = .ok (.aload_n 0, 1) := by decide +kernel
theorem dX1_add_30 : decode cX1_add 30 = .ok (.dup, 1) := by decide +kernel
theorem dX1_add_31 : decode cX1_add 31 = .ok (.getfield 18, 3) := by decide +kernel
theorem dX1_add_34 : decode cX1_add 34 = .ok (.iconst 1, 1) := by decide +kernel
theorem dX1_add_35 : decode cX1_add 35 = .ok (.iadd, 1) := by decide +kernel
theorem dX1_add_36 : decode cX1_add 36 = .ok (.putfield 18, 3) := by decide +kernel
theorem dX1_add_39 : decode cX1_add 39 = .ok (.aload_n 0, 1) := by decide +kernel
theorem dX1_add_40 : decode cX1_add 40 = .ok (.getfield 18, 3) := by decide +kernel
theorem dX1_add_43 : decode cX1_add 43 = .ok (.ireturn, 1) := by decide +kernel
theorem dX1_canBeOf_0 : decode cX1_canBeOf 0 = .ok (.iconst 0, 1) := by decide +kernel
theorem dX1_canBeOf_1 : decode cX1_canBeOf 1 = .ok (.istore 4, 2) := by decide +kernel
theorem dX1_canBeOf_3 : decode cX1_canBeOf 3 = .ok (.iload 4, 2) := by decide +kernel
theorem dX1_canBeOf_5 : decode cX1_canBeOf 5 = .ok (.aload_n 0, 1) := by decide +kernel
theorem dX1_canBeOf_6 : decode cX1_canBeOf 6 = .ok (.getfield 18, 3) := by decide +kernel
theorem dX1_canBeOf_9 : decode cX1_canBeOf 9 = .ok (.if_icmp .ge 40, 3) := by decide +kernel
theorem dX1_canBeOf_12 : decode cX1_canBeOf 12 = .ok (.iload_n 3, 1) := by decide +kernel
theorem dX1_canBeOf_13 : decode cX1_canBeOf 13 = .ok (.aload_n 0, 1) := by decide +kernel
theorem dX1_canBeOf_14 : decode cX1_canBeOf 14 = .ok (.getfield 15, 3) := by decide +kernel
theorem dX1_canBeOf_17 : decode cX1_canBeOf 17 = .ok (.iload 4, 2) := by decide +kernel
theorem dX1_canBeOf_19 : decode cX1_canBeOf 19 = .ok (.iaload, 1) := by decide +kernel
theorem dX1_canBeOf_20 : decode cX1_canBeOf 20 = .ok (.ishr, 1) := by decide +kernel
theorem dX1_canBeOf_21 : decode cX1_canBeOf 21 = .ok (.iconst 1, 1) := by decide +kernel
theorem dX1_canBeOf_22 : decode cX1_canBeOf 22 = .ok (.iand, 1) := by decide +kernel
theorem dX1_canBeOf_23 : decode cX1_canBeOf 23 = .ok (.ifCond .eq 18, 3) := by decide +kernel
theorem dX1_canBeOf_26 : decode cX1_canBeOf 26 = .ok (.aload_n 1, 1) := by decide +kernel
theorem dX1_canBeOf_27 : decode cX1_canBeOf 27 = .ok (.iload_n 2, 1) := by decide +kernel
theorem dX1_canBeOf_28 : decode cX1_canBeOf 28 = .ok (.aload_n 0, 1) := by decide +kernel
theorem dX1_canBeOf_29 : decode cX1_canBeOf 29 = .ok (.getfield 9, 3) := by decide +kernel
theorem dX1_canBeOf_32 : decode cX1_canBeOf 32 = .ok (.iload 4, 2) := by decide +kernel
theorem dX1_canBeOf_34 : decode cX1_canBeOf 34 = .ok (.iaload, 1) := by decide +kernel
theorem dX1_canBeOf_35 : decode cX1_canBeOf 35 = .ok (.invokevirtual 28, 3) := by decide +kernel
theorem dX1_canBeOf_38 : decode cX1_canBeOf 38 = .ok (.ifCond .ne 5, 3) := by decide +kernel
theorem dX1_canBeOf_41 : decode cX1_canBeOf 41 = .ok (.iconst 0, 1) := by decide +kernel
theorem dX1_canBeOf_42 : decode cX1_canBeOf 42 = .ok (.ireturn, 1) := by decide +kernel
theorem dX1_canBeOf_43 : decode cX1_canBeOf 43 = .ok (.iinc 4 1, 3) := by decide +kernel
theorem dX1_canBeOf_46 : decode cX1_canBeOf 46 = .ok (.goto (-43), 3) := by decide +kernel
theorem dX1_canBeOf_49 : decode cX1_canBeOf 49 = .ok (.iconst 1, 1) := by decide +kernel
theorem dX1_canBeOf_50 : decode cX1_canBeOf 50 = .ok (.ireturn, 1) := by decide +kernel
theorem dX2_init_0 : decode cX2_init 0 = .ok (.aload_n 0, 1) := by decide +kernel
theorem dX2_init_1 : decode cX2_init 1 = .ok (.invokespecial 3, 3) := by decide +kernel
theorem dX2_init_4 : decode cX2_init 4 = .ok (.aload_n 0, 1) := by decide +kernel
theorem dX2_init_5 : decode cX2_init 5 = .ok (.bipush 16, 2) := by decide +kernel
theorem dX2_init_7 : decode cX2_init 7 = .ok (.newarray .int, 2) := by decide +kernel
theorem dX2_init_9 : decode cX2_init 9 = .ok (.putfield 9, 3) := by decide +kernel
theorem dX2_init_12 : decode cX2_init 12 = .ok (.aload_n 0, 1) := by decide +kernel
theorem dX2_init_13 : decode cX2_init 13 = .ok (.bipush 17, 2) := by decide +kernel
theorem dX2_init_15 : decode cX2_init 15 = .ok (.newarray .int, 2) := by decide +kernel
theorem dX2_init_17 : decode cX2_init 17 = .ok (.putfield 15, 3) := by decide +kernel
theorem dX2_init_20 : decode cX2_init 20 = .ok (.aload_n 0, 1) := by decide +kernel
theorem dX2_init_21 : decode cX2_init 21 = .ok (.bipush 16, 2) := by decide +kernel
theorem dX2_init_23 : decode cX2_init 23 = .ok (.newarray .int, 2) := by decide +kernel
theorem dX2_init_25 : decode cX2_init 25 = .ok (.putfield 18, 3) := by decide +kernel
theorem dX2_init_28 : decode cX2_init 28 = .ok (.aload_n 0, 1) := by decide +kernel
theorem dX2_init_29 : decode cX2_init 29 = .ok (.sipush 400, 3) := by decide +kernel
theorem dX2_init_32 : decode cX2_init 32 = .ok (.newarray .int, 2) := by decide +kernel
theorem dX2_init_34 : decode cX2_init 34 = .ok (.putfield 21, 3) := by decide +kernel
theorem dX2_init_37 : decode cX2_init 37 = .ok (.aload_n 0, 1) := by decide +kernel
theorem dX2_init_38 : decode cX2_init 38 = .ok (.bipush 32, 2) := by decide +kernel
theorem dX2_init_40 : decode cX2_init 40 = .ok (.newarray .int, 2) := by decide +kernel
theorem dX2_init_42 : decode cX2_init 42 = .ok (.putfield 24, 3) := by decide +kernel
theorem dX2_init_45 : decode cX2_init 45 = .ok (.aload_n 0, 1) := by decide +kernel
theorem dX2_init_46 : decode cX2_init 46 = .ok (.bipush 9, 2) := by decide +kernel
theorem dX2_init_48 : decode cX2_init 48 = .ok (.newarray .int, 2) := by decide +kernel
theorem dX2_init_50 : decode cX2_init 50 = .ok (.putfield 27, 3) := by decide +kernel
theorem dX2_init_53 : decode cX2_init 53 = .ok (.return_, 1) := by decide +kernel
theorem dX2_copyFrom_0 : decode cX2_copyFrom 0 = .ok (.aload_n 0, 1) := by decide +kernel
theorem dX2_copyFrom_1 : decode cX2_copyFrom 1 = .ok (.aload_n 1, 1) := by decide +kernel
theorem dX2_copyFrom_2 : decode cX2_copyFrom 2 = .ok (.getfield 30, 3) := by decide +kernel
theorem dX2_copyFrom_5 : decode cX2_copyFrom 5 = .ok (.putfield 30, 3) := by decide +kernel
theorem dX2_copyFrom_8 : decode cX2_copyFrom 8 = .ok (.aload_n 0, 1) := by decide +kernel
theorem dX2_copyFrom_9 : decode cX2_copyFrom 9 = .ok (.aload_n 1, 1) := by decide +kernel
theorem dX2_copyFrom_10 : decode cX2_copyFrom 10 = .ok (.getfield 34, 3) := by decide +kernel
theorem dX2_copyFrom_13 : decode cX2_copyFrom 13 = .ok (.putfield 34, 3) := by decide +kernel
theorem dX2_copyFrom_16 : decode cX2_copyFrom 16 = .ok (.aload_n 0, 1) := by decide +kernel
theorem dX2_copyFrom_17 : decode cX2_copyFrom 17 = .ok (.aload_n 1, 1) := by decide +kernel
theorem dX2_copyFrom_18 : decode cX2_copyFrom 18 = .ok (.getfield 37, 3) := by decide +kernel
theorem dX2_copyFrom_21 : decode cX2_copyFrom 21 = .ok (.putfield 37, 3) := by decide +kernel
theorem dX2_copyFrom_24 : decode cX2_copyFrom 24 = .ok (.aload_n 1, 1) := by decide +kernel
theorem dX2_copyFrom_25 : decode cX2_copyFrom 25 = .ok (.getfield 9, 3) := by decide +kernel
theorem dX2_copyFrom_28 : decode cX2_copyFrom 28 = .ok (.iconst 0, 1) := by decide +kernel
theorem dX2_copyFrom_29 : decode cX2_copyFrom 29 = .ok (.aload_n 0, 1) := by decide +kernel
theorem dX2_copyFrom_30 : decode cX2_copyFrom 30 = .ok (.getfield 9, 3) := by decide +kernel
theorem dX2_copyFrom_33 : decode cX2_copyFrom 33 = .ok (.iconst 0, 1) := by decide +kernel
theorem dX2_copyFrom_34 : decode cX2_copyFrom 34 = .ok (.bipush 16, 2) := by decide +kernel
theorem dX2_copyFrom_36 : decode cX2_copyFrom 36 = .ok (.invokestatic 41, 3) := by decide +kernel
theorem dX2_copyFrom_39 : decode cX2_copyFrom 39 = .ok (.aload_n 1, 1) := by decide +kernel
theorem dX2_copyFrom_40 : decode cX2_copyFrom 40 = .ok (.getfield 15, 3) := by decide +kernel
theorem dX2_copyFrom_43 : decode cX2_copyFrom 43 = .ok (.iconst 0, 1) := by decide +kernel
theorem dX2_copyFrom_44 : decode cX2_copyFrom 44 = .ok (.aload_n 0, 1) := by decide +kernel
theorem dX2_copyFrom_45 : decode cX2_copyFrom 45 = .ok (.getfield 15, 3) := by decide +kernel
theorem dX2_copyFrom_48 : decode cX2_copyFrom 48 = .ok (.iconst 0, 1) := by decide +kernel
theorem dX2_copyFrom_49 : decode cX2_copyFrom 49 = .ok (.bipush 17, 2) := by decide +kernel
theorem dX2_copyFrom_51 : decode cX2_copyFrom 51 = .ok (.invokestatic 41, 3) := by decide +kernel
theorem dX2_copyFrom_54 : decode cX2_copyFrom 54 = .ok (.aload_n 1, 1) := by decide +kernel
theorem dX2_copyFrom_55 : decode cX2_copyFrom 55 = .ok (.getfield 18, 3) := by decide +kernel
theorem dX2_copyFrom_58 : decode cX2_copyFrom 58 = .ok (.iconst 0, 1) := by decide +kernel
theorem dX2_copyFrom_59 : decode cX2_copyFrom 59 = .ok (.aload_n 0, 1) := by decide +kernel
theorem dX2_copyFrom_60 : decode cX2_copyFrom 60 = .ok (.getfield 18, 3) := by decide +kernel
theorem dX2_copyFrom_63 : decode cX2_copyFrom 63 = .ok (.iconst 0, 1) := by decide +kernel
theorem dX2_copyFrom_64 : decode cX2_copyFrom 64 = .ok (.bipush 16, 2) := by decide +kernel
theorem dX2_copyFrom_66 : decode cX2_copyFrom 66 = .ok (.invokestatic 41, 3) := by decide +kernel
theorem dX2_copyFrom_69 : decode cX2_copyFrom 69 = .ok (.aload_n 1, 1) := by decide +kernel
theorem dX2_copyFrom_70 : decode cX2_copyFrom 70 = .ok (.getfield 21, 3) := by decide +kernel
theorem dX2_copyFrom_73 : decode cX2_copyFrom 73 = .ok (.iconst 0, 1) := by decide +kernel
theorem dX2_copyFrom_74 : decode cX2_copyFrom 74 = .ok (.aload_n 0, 1) := by decide +kernel
theorem dX2_copyFrom_75 : decode cX2_copyFrom 75 = .ok (.getfield 21, 3) := by decide +kernel
theorem dX2_copyFrom_78 : decode cX2_copyFrom 78 = .ok (.iconst 0, 1) := by decide +kernel
theorem dX2_copyFrom_79 : decode cX2_copyFrom 79 = .ok (.sipush 400, 3) := by decide +kernel
theorem dX2_copyFrom_82 : decode cX2_copyFrom 82 = .ok (.invokestatic 41, 3) := by decide +kernel
theorem dX2_copyFrom_85 : decode cX2_copyFrom 85 = .ok (.return_, 1) := by decide +kernel
theorem dX2_clear_0 : decode cX2_clear 0 = .ok (.aload_n 0, 1) := by decide +kernel
theorem dX2_clear_1 : decode cX2_clear 1 = .ok (.iconst 0, 1) := by decide +kernel
theorem dX2_clear_2 : decode cX2_clear 2 = .ok (.putfield 30, 3) := by decide +kernel
theorem dX2_clear_5 : decode cX2_clear 5 = .ok (.aload_n 0, 1) := by decide +kernel
theorem dX2_clear_6 : decode cX2_clear 6 = .ok (.iconst 0, 1) := by decide +kernel
theorem dX2_clear_7 : decode cX2_clear 7 = .ok (.putfield 34, 3) := by decide +kernel
theorem dX2_clear_10 : decode cX2_clear 10 = .ok (.aload_n 0, 1) := by decide +kernel
theorem dX2_clear_11 : decode cX2_clear 11 = .ok (.iconst 0, 1) := by decide +kernel
theorem dX2_clear_12 : decode cX2_clear 12 = .ok (.putfield 37, 3) := by decide +kernel
theorem dX2_clear_15 : decode cX2_clear 15 = .ok (.return_, 1) := by decide +kernel
theorem dX2_emit_0 : decode cX2_emit 0 = .ok (.aload_n 0, 1) := by decide +kernel
theorem dX2_emit_1 : decode cX2_emit 1 = .ok (.getfield 34, 3) := by decide +kernel
theorem dX2_emit_4 : decode cX2_emit 4 = .ok (.sipush 400, 3) := by decide +kernel
theorem dX2_emit_7 : decode cX2_emit 7 = .ok (.if_icmp .ge 27, 3) := by decide +kernel
theorem dX2_emit_10 : decode cX2_emit 10 = .ok (.aload_n 0, 1) := by decide +kernel
theorem dX2_emit_11 : decode cX2_emit 11 = .ok (.getfield 21, 3) := by decide +kernel
theorem dX2_emit_14 : decode cX2_emit 14 = .ok (.aload_n 0, 1) := by decide +kernel
theorem dX2_emit_15 : decode cX2_emit 15 = .ok (.getfield 34, 3) := by decide +kernel
theorem dX2_emit_18 : decode cX2_emit 18 = .ok (.iload_n 2, 1) := by decide +kernel
theorem dX2_emit_19 : decode cX2_emit 19 = .ok (.iconst 4, 1) := by decide +kernel
theorem dX2_emit_20 : decode cX2_emit 20 = .ok (.ishl, 1) := by decide +kernel
theorem dX2_emit_21 : decode cX2_emit 21 = .ok (.iload_n 1, 1) := by decide +kernel
theorem dX2_emit_22 : decode cX2_emit 22 = .ok (.ior, 1) := by decide +kernel
theorem dX2_emit_23 : decode cX2_emit 23 = .ok (.iastore, 1) := by decide +kernel
theorem dX2_emit_24 : decode cX2_emit 24 = .ok (.aload_n 0, 1) := by decide +kernel
theorem dX2_emit_25 : decode cX2_emit 25 = .ok (.dup, 1) := by decide +kernel
theorem dX2_emit_26 : decode cX2_emit 26 = .ok (.getfield 34, 3) := by decide +kernel
theorem dX2_emit_29 : decode cX2_emit 29 = .ok (.iconst 1, 1) := by decide +kernel
theorem dX2_emit_30 : decode cX2_emit 30 = .ok (.iadd, 1) := by decide +kernel
theorem dX2_emit_31 : decode cX2_emit 31 = .ok (.putfield 34, 3) := by decide +kernel
theorem dX2_emit_34 : decode cX2_emit 34 = .ok (.return_, 1) := by decide +kernel
theorem dX2_bears_0 : decode cX2_bears 0 = .ok (.aload_n 0, 1) := by decide +kernel
theorem dX2_bears_1 : decode cX2_bears 1 = .ok (.aload_n 1, 1) := by decide +kernel
theorem dX2_bears_2 : decode cX2_bears 2 = .ok (.aload_n 1, 1) := by decide +kernel
theorem dX2_bears_3 : decode cX2_bears 3 = .ok (.getfield 47, 3) := by decide +kernel
theorem dX2_bears_6 : decode cX2_bears 6 = .ok (.iload_n 2, 1) := by decide +kernel
theorem dX2_bears_7 : decode cX2_bears 7 = .ok (.iaload, 1) := by decide +kernel
theorem dX2_bears_8 : decode cX2_bears 8 = .ok (.invokevirtual 52, 3) := by decide +kernel
theorem dX2_bears_11 : decode cX2_bears 11 = .ok (.aload_n 0, 1) := by decide +kernel
theorem dX2_bears_12 : decode cX2_bears 12 = .ok (.aload_n 1, 1) := by decide +kernel
theorem dX2_bears_13 : decode cX2_bears 13 = .ok (.iload_n 2, 1) := by decide +kernel
theorem dX2_bears_14 : decode cX2_bears 14 = .ok (.invokevirtual 56, 3) := by decide +kernel
theorem dX2_bears_17 : decode cX2_bears 17 = .ok (.aload_n 0, 1) := by decide +kernel
theorem dX2_bears_18 : decode cX2_bears 18 = .ok (.iconst 0, 1) := by decide +kernel
theorem dX2_bears_19 : decode cX2_bears 19 = .ok (.aload_n 1, 1) := by decide +kernel
theorem dX2_bears_20 : decode cX2_bears 20 = .ok (.getfield 59, 3) := by decide +kernel
theorem dX2_bears_23 : decode cX2_bears 23 = .ok (.iload_n 2, 1) := by decide +kernel
theorem dX2_bears_24 : decode cX2_bears 24 = .ok (.iaload, 1) := by decide +kernel
theorem dX2_bears_25 : decode cX2_bears 25 = .ok (.iconst 5, 1) := by decide +kernel
theorem dX2_bears_26 : decode cX2_bears 26 = .ok (.idiv, 1) := by decide +kernel
theorem dX2_bears_27 : decode cX2_bears 27 = .ok (.invokevirtual 62, 3) := by decide +kernel
theorem dX2_bears_30 : decode cX2_bears 30 = .ok (.bipush 99, 2) := by decide +kernel
theorem dX2_bears_32 : decode cX2_bears 32 = .ok (.invokestatic 66, 3) := by decide +kernel
theorem dX2_bears_35 : decode cX2_bears 35 = .ok (.ireturn, 1) := by decide +kernel
theorem dX2_wants_0 : decode cX2_wants 0 = .ok (.aload_n 0, 1) := by decide +kernel
theorem dX2_wants_1 : decode cX2_wants 1 = .ok (.aload_n 1, 1) := by decide +kernel
theorem dX2_wants_2 : decode cX2_wants 2 = .ok (.iconst (-1), 1) := by decide +kernel
theorem dX2_wants_3 : decode cX2_wants 3 = .ok (.invokevirtual 52, 3) := by decide +kernel
theorem dX2_wants_6 : decode cX2_wants 6 = .ok (.aload_n 0, 1) := by decide +kernel
theorem dX2_wants_7 : decode cX2_wants 7 = .ok (.getfield 27, 3) := by decide +kernel
theorem dX2_wants_10 : decode cX2_wants 10 = .ok (.iconst 5, 1) := by decide +kernel
theorem dX2_wants_11 : decode cX2_wants 11 = .ok (.aload_n 1, 1) := by decide +kernel
theorem dX2_wants_12 : decode cX2_wants 12 = .ok (.getfield 69, 3) := by decide +kernel
theorem dX2_wants_15 : decode cX2_wants 15 = .ok (.iload_n 2, 1) := by decide +kernel
theorem dX2_wants_16 : decode cX2_wants 16 = .ok (.iaload, 1) := by decide +kernel
theorem dX2_wants_17 : decode cX2_wants 17 = .ok (.iastore, 1) := by decide +kernel
theorem dX2_wants_18 : decode cX2_wants 18 = .ok (.aload_n 0, 1) := by decide +kernel
theorem dX2_wants_19 : decode cX2_wants 19 = .ok (.iconst 1, 1) := by decide +kernel
theorem dX2_wants_20 : decode cX2_wants 20 = .ok (.aload_n 1, 1) := by decide +kernel
theorem dX2_wants_21 : decode cX2_wants 21 = .ok (.getfield 69, 3) := by decide +kernel
theorem dX2_wants_24 : decode cX2_wants 24 = .ok (.iload_n 2, 1) := by decide +kernel
theorem dX2_wants_25 : decode cX2_wants 25 = .ok (.iaload, 1) := by decide +kernel
theorem dX2_wants_26 : decode cX2_wants 26 = .ok (.invokevirtual 62, 3) := by decide +kernel
theorem dX2_wants_29 : decode cX2_wants 29 = .ok (.bipush 20, 2) := by decide +kernel
theorem dX2_wants_31 : decode cX2_wants 31 = .ok (.invokestatic 66, 3) := by decide +kernel
theorem dX2_wants_34 : decode cX2_wants 34 = .ok (.ireturn, 1) := by decide +kernel
theorem dX2_counts_0 : decode cX2_counts 0 = .ok (.aload_n 0, 1) := by decide +kernel
theorem dX2_counts_1 : decode cX2_counts 1 = .ok (.aload_n 1, 1) := by decide +kernel
theorem dX2_counts_2 : decode cX2_counts 2 = .ok (.iload_n 3, 1) := by decide +kernel
theorem dX2_counts_3 : decode cX2_counts 3 = .ok (.invokevirtual 52, 3) := by decide +kernel
theorem dX2_counts_6 : decode cX2_counts 6 = .ok (.aload_n 0, 1) := by decide +kernel
theorem dX2_counts_7 : decode cX2_counts 7 = .ok (.getfield 27, 3) := by decide +kernel
theorem dX2_counts_10 : decode cX2_counts 10 = .ok (.iconst 5, 1) := by decide +kernel
theorem dX2_counts_11 : decode cX2_counts 11 = .ok (.aload_n 1, 1) := by decide +kernel
theorem dX2_counts_12 : decode cX2_counts 12 = .ok (.getfield 69, 3) := by decide +kernel
theorem dX2_counts_15 : decode cX2_counts 15 = .ok (.iload_n 2, 1) := by decide +kernel
theorem dX2_counts_16 : decode cX2_counts 16 = .ok (.iaload, 1) := by decide +kernel
theorem dX2_counts_17 : decode cX2_counts 17 = .ok (.iastore, 1) := by decide +kernel
theorem dX2_counts_18 : decode cX2_counts 18 = .ok (.aload_n 0, 1) := by decide +kernel
theorem dX2_counts_19 : decode cX2_counts 19 = .ok (.getfield 27, 3) := by decide +kernel
theorem dX2_counts_22 : decode cX2_counts 22 = .ok (.bipush 6, 2) := by decide +kernel
theorem dX2_counts_24 : decode cX2_counts 24 = .ok (.aload_n 1, 1) := by decide +kernel
theorem dX2_counts_25 : decode cX2_counts 25 = .ok (.iload_n 2, 1) := by decide +kernel
theorem dX2_counts_26 : decode cX2_counts 26 = .ok (.iload_n 3, 1) := by decide +kernel
theorem dX2_counts_27 : decode cX2_counts 27 = .ok (.invokevirtual 72, 3) := by decide +kernel
theorem dX2_counts_30 : decode cX2_counts 30 = .ok (.iastore, 1) := by decide +kernel
theorem dX2_counts_31 : decode cX2_counts 31 = .ok (.iload 4, 2) := by decide +kernel
theorem dX2_counts_33 : decode cX2_counts 33 = .ok (.iconst (-1), 1) := by decide +kernel
theorem dX2_counts_34 : decode cX2_counts 34 = .ok (.if_icmp .ne 14, 3) := by decide +kernel
theorem dX2_counts_37 : decode cX2_counts 37 = .ok (.aload_n 0, 1) := by decide +kernel
theorem dX2_counts_38 : decode cX2_counts 38 = .ok (.getfield 27, 3) := by decide +kernel
theorem dX2_counts_41 : decode cX2_counts 41 = .ok (.bipush 7, 2) := by decide +kernel
theorem dX2_counts_43 : decode cX2_counts 43 = .ok (.iconst 1, 1) := by decide +kernel
theorem dX2_counts_44 : decode cX2_counts 44 = .ok (.iastore, 1) := by decide +kernel
theorem dX2_counts_45 : decode cX2_counts 45 = .ok (.goto 10, 3) := by decide +kernel
theorem dX2_counts_48 : decode cX2_counts 48 = .ok (.aload_n 0, 1) := by decide +kernel
theorem dX2_counts_49 : decode cX2_counts 49 = .ok (.aload_n 1, 1) := by decide +kernel
theorem dX2_counts_50 : decode cX2_counts 50 = .ok (.iload 4, 2) := by decide +kernel
theorem dX2_counts_52 : decode cX2_counts 52 = .ok (.invokevirtual 56, 3) := by decide +kernel
theorem dX2_counts_55 : decode cX2_counts 55 = .ok (.aload_n 0, 1) := by decide +kernel
theorem dX2_counts_56 : decode cX2_counts 56 = .ok (.iconst 2, 1) := by decide +kernel
theorem dX2_counts_57 : decode cX2_counts 57 = .ok (.iconst 1, 1) := by decide +kernel
theorem dX2_counts_58 : decode cX2_counts 58 = .ok (.invokevirtual 62, 3) := by decide +kernel
theorem dX2_counts_61 : decode cX2_counts 61 = .ok (.bipush 9, 2) := by decide +kernel
theorem dX2_counts_63 : decode cX2_counts 63 = .ok (.invokestatic 66, 3) := by decide +kernel
theorem dX2_counts_66 : decode cX2_counts 66 = .ok (.ireturn, 1) := by decide +kernel
theorem dX2_hold_0 : decode cX2_hold 0 = .ok (.iconst 0, 1) := by decide +kernel
theorem dX2_hold_1 : decode cX2_hold 1 = .ok (.iload_n 1, 1) := by decide +kernel
theorem dX2_hold_2 : decode cX2_hold 2 = .ok (.iload_n 0, 1) := by decide +kernel
theorem dX2_hold_3 : decode cX2_hold 3 = .ok (.invokestatic 75, 3) := by decide +kernel
theorem dX2_hold_6 : decode cX2_hold 6 = .ok (.invokestatic 80, 3) := by decide +kernel
theorem dX2_hold_9 : decode cX2_hold 9 = .ok (.ireturn, 1) := by decide +kernel
theorem dX2_ask_0 : decode cX2_ask 0 = .ok (.iconst 0, 1) := by decide +kernel
theorem dX2_ask_1 : decode cX2_ask 1 = .ok (.istore_n 3, 1) := by decide +kernel
theorem dX2_ask_2 : decode cX2_ask 2 = .ok (.iload_n 3, 1) := by decide +kernel
theorem dX2_ask_3 : decode cX2_ask 3 = .ok (.bipush 9, 2) := by decide +kernel
theorem dX2_ask_5 : decode cX2_ask 5 = .ok (.if_icmp .ge 16, 3) := by decide +kernel
theorem dX2_ask_8 : decode cX2_ask 8 = .ok (.aload_n 0, 1) := by decide +kernel
theorem dX2_ask_9 : decode cX2_ask 9 = .ok (.getfield 27, 3) := by decide +kernel
theorem dX2_ask_12 : decode cX2_ask 12 = .ok (.iload_n 3, 1) := by decide +kernel
theorem dX2_ask_13 : decode cX2_ask 13 = .ok (.iconst 0, 1) := by decide +kernel
theorem dX2_ask_14 : decode cX2_ask 14 = .ok (.iastore, 1) := by decide +kernel
theorem dX2_ask_15 : decode cX2_ask 15 = .ok (.iinc 3 1, 3) := by decide +kernel
theorem dX2_ask_18 : decode cX2_ask 18 = .ok (.goto (-16), 3) := by decide +kernel
theorem dX2_ask_21 : decode cX2_ask 21 = .ok (.aload_n 0, 1) := by decide +kernel
theorem dX2_ask_22 : decode cX2_ask 22 = .ok (.getfield 27, 3) := by decide +kernel
theorem dX2_ask_25 : decode cX2_ask 25 = .ok (.iconst 0, 1) := by decide +kernel
theorem dX2_ask_26 : decode cX2_ask 26 = .ok (.aload_n 1, 1) := by decide +kernel
theorem dX2_ask_27 : decode cX2_ask 27 = .ok (.getfield 83, 3) := by decide +kernel
theorem dX2_ask_30 : decode cX2_ask 30 = .ok (.bipush 52, 2) := by decide +kernel
theorem dX2_ask_32 : decode cX2_ask 32 = .ok (.irem, 1) := by decide +kernel
theorem dX2_ask_33 : decode cX2_ask 33 = .ok (.iastore, 1) := by decide +kernel
theorem dX2_ask_34 : decode cX2_ask 34 = .ok (.aload_n 1, 1) := by decide +kernel
theorem dX2_ask_35 : decode cX2_ask 35 = .ok (.iload_n 2, 1) := by decide +kernel
theorem dX2_ask_36 : decode cX2_ask 36 = .ok (.invokevirtual 86, 3) := by decide +kernel
theorem dX2_ask_39 : decode cX2_ask 39 = .ok (.ifCond .eq 23, 3) := by decide +kernel
theorem dX2_ask_42 : decode cX2_ask 42 = .ok (.aload_n 0, 1) := by decide +kernel
theorem dX2_ask_43 : decode cX2_ask 43 = .ok (.getfield 27, 3) := by decide +kernel
theorem dX2_ask_46 : decode cX2_ask 46 = .ok (.iconst 1, 1) := by decide +kernel
theorem dX2_ask_47 : decode cX2_ask 47 = .ok (.iload_n 2, 1) := by decide +kernel
theorem dX2_ask_48 : decode cX2_ask 48 = .ok (.iastore, 1) := by decide +kernel
theorem dX2_ask_49 : decode cX2_ask 49 = .ok (.aload_n 0, 1) := by decide +kernel
theorem dX2_ask_50 : decode cX2_ask 50 = .ok (.getfield 27, 3) := by decide +kernel
theorem dX2_ask_53 : decode cX2_ask 53 = .ok (.bipush 8, 2) := by decide +kernel
theorem dX2_ask_55 : decode cX2_ask 55 = .ok (.aload_n 1, 1) := by decide +kernel
theorem dX2_ask_56 : decode cX2_ask 56 = .ok (.getfield 90, 3) := by decide +kernel
theorem dX2_ask_59 : decode cX2_ask 59 = .ok (.iload_n 2, 1) := by decide +kernel
theorem dX2_ask_60 : decode cX2_ask 60 = .ok (.iaload, 1) := by decide +kernel
theorem dX2_ask_61 : decode cX2_ask 61 = .ok (.iastore, 1) := by decide +kernel
theorem dX2_ask_62 : decode cX2_ask 62 = .ok (.return_, 1) := by decide +kernel
theorem dX2_askTree_0 : decode cX2_askTree 0 = .ok (.aload_n 0, 1) := by decide +kernel
theorem dX2_askTree_1 : decode cX2_askTree 1 = .ok (.getfield 27, 3) := by decide +kernel
theorem dX2_askTree_4 : decode cX2_askTree 4 = .ok (.iconst 2, 1) := by decide +kernel
theorem dX2_askTree_5 : decode cX2_askTree 5 = .ok (.aload_n 1, 1) := by decide +kernel
theorem dX2_askTree_6 : decode cX2_askTree 6 = .ok (.getfield 93, 3) := by decide +kernel
theorem dX2_askTree_9 : decode cX2_askTree 9 = .ok (.iload_n 2, 1) := by decide +kernel
theorem dX2_askTree_10 : decode cX2_askTree 10 = .ok (.iaload, 1) := by decide +kernel
theorem dX2_askTree_11 : decode cX2_askTree 11 = .ok (.iastore, 1) := by decide +kernel
theorem dX2_askTree_12 : decode cX2_askTree 12 = .ok (.aload_n 0, 1) := by decide +kernel
theorem dX2_askTree_13 : decode cX2_askTree 13 = .ok (.getfield 27, 3) := by decide +kernel
theorem dX2_askTree_16 : decode cX2_askTree 16 = .ok (.iconst 3, 1) := by decide +kernel
theorem dX2_askTree_17 : decode cX2_askTree 17 = .ok (.aload_n 1, 1) := by decide +kernel
theorem dX2_askTree_18 : decode cX2_askTree 18 = .ok (.getfield 59, 3) := by decide +kernel
theorem dX2_askTree_21 : decode cX2_askTree 21 = .ok (.iload_n 2, 1) := by decide +kernel
theorem dX2_askTree_22 : decode cX2_askTree 22 = .ok (.iaload, 1) := by decide +kernel
theorem dX2_askTree_23 : decode cX2_askTree 23 = .ok (.iastore, 1) := by decide +kernel
theorem dX2_askTree_24 : decode cX2_askTree 24 = .ok (.aload_n 0, 1) := by decide +kernel
theorem dX2_askTree_25 : decode cX2_askTree 25 = .ok (.getfield 27, 3) := by decide +kernel
theorem dX2_askTree_28 : decode cX2_askTree 28 = .ok (.iconst 4, 1) := by decide +kernel
theorem dX2_askTree_29 : decode cX2_askTree 29 = .ok (.aload_n 1, 1) := by decide +kernel
theorem dX2_askTree_30 : decode cX2_askTree 30 = .ok (.getfield 96, 3) := by decide +kernel
theorem dX2_askTree_33 : decode cX2_askTree 33 = .ok (.iload_n 2, 1) := by decide +kernel
theorem dX2_askTree_34 : decode cX2_askTree 34 = .ok (.iaload, 1) := by decide +kernel
theorem dX2_askTree_35 : decode cX2_askTree 35 = .ok (.iastore, 1) := by decide +kernel
theorem dX2_askTree_36 : decode cX2_askTree 36 = .ok (.return_, 1) := by decide +kernel
theorem dX2_tell_0 : decode cX2_tell 0 = .ok (.iconst 0, 1) := by decide +kernel
theorem dX2_tell_1 : decode cX2_tell 1 = .ok (.istore_n 3, 1) := by decide +kernel
theorem dX2_tell_2 : decode cX2_tell 2 = .ok (.iload_n 3, 1) := by decide +kernel
theorem dX2_tell_3 : decode cX2_tell 3 = .ok (.aload_n 0, 1) := by decide +kernel
theorem dX2_tell_4 : decode cX2_tell 4 = .ok (.getfield 30, 3) := by decide +kernel
theorem dX2_tell_7 : decode cX2_tell 7 = .ok (.if_icmp .ge 74, 3) := by decide +kernel
theorem dX2_tell_10 : decode cX2_tell 10 = .ok (.aload_n 0, 1) := by decide +kernel
theorem dX2_tell_11 : decode cX2_tell 11 = .ok (.getfield 9, 3) := by decide +kernel
theorem dX2_tell_14 : decode cX2_tell 14 = .ok (.iload_n 3, 1) := by decide +kernel
theorem dX2_tell_15 : decode cX2_tell 15 = .ok (.iaload, 1) := by decide +kernel
theorem dX2_tell_16 : decode cX2_tell 16 = .ok (.iload_n 1, 1) := by decide +kernel
theorem dX2_tell_17 : decode cX2_tell 17 = .ok (.if_icmp .ne 58, 3) := by decide +kernel
theorem dX2_tell_20 : decode cX2_tell 20 = .ok (.aload_n 0, 1) := by decide +kernel
theorem dX2_tell_21 : decode cX2_tell 21 = .ok (.getfield 18, 3) := by decide +kernel
theorem dX2_tell_24 : decode cX2_tell 24 = .ok (.iload_n 3, 1) := by decide +kernel
theorem dX2_tell_25 : decode cX2_tell 25 = .ok (.iaload, 1) := by decide +kernel
theorem dX2_tell_26 : decode cX2_tell 26 = .ok (.aload_n 0, 1) := by decide +kernel
theorem dX2_tell_27 : decode cX2_tell 27 = .ok (.getfield 15, 3) := by decide +kernel
theorem dX2_tell_30 : decode cX2_tell 30 = .ok (.iload_n 3, 1) := by decide +kernel
theorem dX2_tell_31 : decode cX2_tell 31 = .ok (.iconst 1, 1) := by decide +kernel
theorem dX2_tell_32 : decode cX2_tell 32 = .ok (.iadd, 1) := by decide +kernel
theorem dX2_tell_33 : decode cX2_tell 33 = .ok (.iaload, 1) := by decide +kernel
theorem dX2_tell_34 : decode cX2_tell 34 = .ok (.if_icmp .eq 24, 3) := by decide +kernel
theorem dX2_tell_37 : decode cX2_tell 37 = .ok (.aload_n 0, 1) := by decide +kernel
theorem dX2_tell_38 : decode cX2_tell 38 = .ok (.aload_n 0, 1) := by decide +kernel
theorem dX2_tell_39 : decode cX2_tell 39 = .ok (.getfield 18, 3) := by decide +kernel
theorem dX2_tell_42 : decode cX2_tell 42 = .ok (.iload_n 3, 1) := by decide +kernel
theorem dX2_tell_43 : decode cX2_tell 43 = .ok (.iaload, 1) := by decide +kernel
theorem dX2_tell_44 : decode cX2_tell 44 = .ok (.aload_n 0, 1) := by decide +kernel
theorem dX2_tell_45 : decode cX2_tell 45 = .ok (.getfield 15, 3) := by decide +kernel
theorem dX2_tell_48 : decode cX2_tell 48 = .ok (.iload_n 3, 1) := by decide +kernel
theorem dX2_tell_49 : decode cX2_tell 49 = .ok (.iconst 1, 1) := by decide +kernel
theorem dX2_tell_50 : decode cX2_tell 50 = .ok (.iadd, 1) := by decide +kernel
theorem dX2_tell_51 : decode cX2_tell 51 = .ok (.iaload, 1) := by decide +kernel
theorem dX2_tell_52 : decode cX2_tell 52 = .ok (.invokevirtual 99, 3) := by decide +kernel
theorem dX2_tell_55 : decode cX2_tell 55 = .ok (.ifCond .eq 20, 3) := by decide +kernel
theorem dX2_tell_58 : decode cX2_tell 58 = .ok (.aload_n 0, 1) := by decide +kernel
theorem dX2_tell_59 : decode cX2_tell 59 = .ok (.aload_n 0, 1) := by decide +kernel
theorem dX2_tell_60 : decode cX2_tell 60 = .ok (.getfield 15, 3) := by decide +kernel
theorem dX2_tell_63 : decode cX2_tell 63 = .ok (.iload_n 3, 1) := by decide +kernel
theorem dX2_tell_64 : decode cX2_tell 64 = .ok (.iaload, 1) := by decide +kernel
theorem dX2_tell_65 : decode cX2_tell 65 = .ok (.aload_n 0, 1) := by decide +kernel
theorem dX2_tell_66 : decode cX2_tell 66 = .ok (.getfield 18, 3) := by decide +kernel
theorem dX2_tell_69 : decode cX2_tell 69 = .ok (.iload_n 3, 1) := by decide +kernel
theorem dX2_tell_70 : decode cX2_tell 70 = .ok (.iaload, 1) := by decide +kernel
theorem dX2_tell_71 : decode cX2_tell 71 = .ok (.invokevirtual 99, 3) := by decide +kernel
theorem dX2_tell_74 : decode cX2_tell 74 = .ok (.ireturn, 1) := by decide +kernel
theorem dX2_tell_75 : decode cX2_tell 75 = .ok (.iinc 3 1, 3) := by decide +kernel
theorem dX2_tell_78 : decode cX2_tell 78 = .ok (.goto (-76), 3) := by decide +kernel
theorem dX2_tell_81 : decode cX2_tell 81 = .ok (.iload_n 2, 1) := by decide +kernel
theorem dX2_tell_82 : decode cX2_tell 82 = .ok (.ireturn, 1) := by decide +kernel
theorem dX2_value_0 : decode cX2_value 0 = .ok (.iconst (-1), 1) := by decide +kernel
theorem dX2_value_1 : decode cX2_value 1 = .ok (.istore_n 3, 1) := by decide +kernel
theorem dX2_value_2 : decode cX2_value 2 = .ok (.iload_n 1, 1) := by decide +kernel
theorem dX2_value_3 : decode cX2_value 3 = .ok (.istore 4, 2) := by decide +kernel
theorem dX2_value_5 : decode cX2_value 5 = .ok (.iload 4, 2) := by decide +kernel
theorem dX2_value_7 : decode cX2_value 7 = .ok (.iload_n 2, 1) := by decide +kernel
theorem dX2_value_8 : decode cX2_value 8 = .ok (.if_icmp .ge 340, 3) := by decide +kernel
theorem dX2_value_11 : decode cX2_value 11 = .ok (.aload_n 0, 1) := by decide +kernel
theorem dX2_value_12 : decode cX2_value 12 = .ok (.getfield 21, 3) := by decide +kernel
theorem dX2_value_15 : decode cX2_value 15 = .ok (.iload 4, 2) := by decide +kernel
theorem dX2_value_17 : decode cX2_value 17 = .ok (.iaload, 1) := by decide +kernel
theorem dX2_value_18 : decode cX2_value 18 = .ok (.bipush 15, 2) := by decide +kernel
theorem dX2_value_20 : decode cX2_value 20 = .ok (.iand, 1) := by decide +kernel
theorem dX2_value_21 : decode cX2_value 21 = .ok (.istore 5, 2) := by decide +kernel
theorem dX2_value_23 : decode cX2_value 23 = .ok (.aload_n 0, 1) := by decide +kernel
theorem dX2_value_24 : decode cX2_value 24 = .ok (.getfield 21, 3) := by decide +kernel
theorem dX2_value_27 : decode cX2_value 27 = .ok (.iload 4, 2) := by decide +kernel
theorem dX2_value_29 : decode cX2_value 29 = .ok (.iaload, 1) := by decide +kernel
theorem dX2_value_30 : decode cX2_value 30 = .ok (.iconst 4, 1) := by decide +kernel
theorem dX2_value_31 : decode cX2_value 31 = .ok (.ishr, 1) := by decide +kernel
theorem dX2_value_32 : decode cX2_value 32 = .ok (.istore 6, 2) := by decide +kernel
theorem dX2_value_34 : decode cX2_value 34 = .ok (.iload 5, 2) := by decide +kernel
theorem dX2_value_36 : decode cX2_value 36 = .ok (.ifCond .eq 9, 3) := by decide +kernel
theorem dX2_value_39 : decode cX2_value 39 = .ok (.iload 5, 2) := by decide +kernel
theorem dX2_value_41 : decode cX2_value 41 = .ok (.iconst 1, 1) := by decide +kernel
theorem dX2_value_42 : decode cX2_value 42 = .ok (.if_icmp .ne 38, 3) := by decide +kernel
theorem dX2_value_45 : decode cX2_value 45 = .ok (.iload_n 3, 1) := by decide +kernel
theorem dX2_value_46 : decode cX2_value 46 = .ok (.bipush 31, 2) := by decide +kernel
theorem dX2_value_48 : decode cX2_value 48 = .ok (.if_icmp .ge 294, 3) := by decide +kernel
theorem dX2_value_51 : decode cX2_value 51 = .ok (.iinc 3 1, 3) := by decide +kernel
theorem dX2_value_54 : decode cX2_value 54 = .ok (.aload_n 0, 1) := by decide +kernel
theorem dX2_value_55 : decode cX2_value 55 = .ok (.getfield 24, 3) := by decide +kernel
theorem dX2_value_58 : decode cX2_value 58 = .ok (.iload_n 3, 1) := by decide +kernel
theorem dX2_value_59 : decode cX2_value 59 = .ok (.iload 5, 2) := by decide +kernel
theorem dX2_value_61 : decode cX2_value 61 = .ok (.ifCond .ne 8, 3) := by decide +kernel
theorem dX2_value_64 : decode cX2_value 64 = .ok (.iload 6, 2) := by decide +kernel
theorem dX2_value_66 : decode cX2_value 66 = .ok (.goto 10, 3) := by decide +kernel
theorem dX2_value_69 : decode cX2_value 69 = .ok (.aload_n 0, 1) := by decide +kernel
theorem dX2_value_70 : decode cX2_value 70 = .ok (.getfield 27, 3) := by decide +kernel
theorem dX2_value_73 : decode cX2_value 73 = .ok (.iload 6, 2) := by decide +kernel
theorem dX2_value_75 : decode cX2_value 75 = .ok (.iaload, 1) := by decide +kernel
theorem dX2_value_76 : decode cX2_value 76 = .ok (.iastore, 1) := by decide +kernel
theorem dX2_value_77 : decode cX2_value 77 = .ok (.goto 265, 3) := by decide +kernel
theorem dX2_value_80 : decode cX2_value 80 = .ok (.iload 5, 2) := by decide +kernel
theorem dX2_value_82 : decode cX2_value 82 = .ok (.iconst 2, 1) := by decide +kernel
theorem dX2_value_83 : decode cX2_value 83 = .ok (.if_icmp .ne 26, 3) := by decide +kernel
theorem dX2_value_86 : decode cX2_value 86 = .ok (.iload_n 3, 1) := by decide +kernel
theorem dX2_value_87 : decode cX2_value 87 = .ok (.ifCond .lt 255, 3) := by decide +kernel
theorem dX2_value_90 : decode cX2_value 90 = .ok (.iload 6, 2) := by decide +kernel
theorem dX2_value_92 : decode cX2_value 92 = .ok (.ifCond .eq 250, 3) := by decide +kernel
theorem dX2_value_95 : decode cX2_value 95 = .ok (.aload_n 0, 1) := by decide +kernel
theorem dX2_value_96 : decode cX2_value 96 = .ok (.getfield 24, 3) := by decide +kernel
theorem dX2_value_99 : decode cX2_value 99 = .ok (.iload_n 3, 1) := by decide +kernel
theorem dX2_value_100 : decode cX2_value 100 = .ok (.dup2, 1) := by decide +kernel
theorem dX2_value_101 : decode cX2_value 101 = .ok (.iaload, 1) := by decide +kernel
theorem dX2_value_102 : decode cX2_value 102 = .ok (.iload 6, 2) := by decide +kernel
theorem dX2_value_104 : decode cX2_value 104 = .ok (.idiv, 1) := by decide +kernel
theorem dX2_value_105 : decode cX2_value 105 = .ok (.iastore, 1) := by decide +kernel
theorem dX2_value_106 : decode cX2_value 106 = .ok (.goto 236, 3) := by decide +kernel
theorem dX2_value_109 : decode cX2_value 109 = .ok (.iload 5, 2) := by decide +kernel
theorem dX2_value_111 : decode cX2_value 111 = .ok (.iconst 3, 1) := by decide +kernel
theorem dX2_value_112 : decode cX2_value 112 = .ok (.if_icmp .ne 30, 3) := by decide +kernel
theorem dX2_value_115 : decode cX2_value 115 = .ok (.iload_n 3, 1) := by decide +kernel
theorem dX2_value_116 : decode cX2_value 116 = .ok (.ifCond .lt 226, 3) := by decide +kernel
theorem dX2_value_119 : decode cX2_value 119 = .ok (.aload_n 0, 1) := by decide +kernel
theorem dX2_value_120 : decode cX2_value 120 = .ok (.getfield 24, 3) := by decide +kernel
theorem dX2_value_123 : decode cX2_value 123 = .ok (.iload_n 3, 1) := by decide +kernel
theorem dX2_value_124 : decode cX2_value 124 = .ok (.aload_n 0, 1) := by decide +kernel
theorem dX2_value_125 : decode cX2_value 125 = .ok (.getfield 24, 3) := by decide +kernel
theorem dX2_value_128 : decode cX2_value 128 = .ok (.iload_n 3, 1) := by decide +kernel
theorem dX2_value_129 : decode cX2_value 129 = .ok (.iaload, 1) := by decide +kernel
theorem dX2_value_130 : decode cX2_value 130 = .ok (.ifCond .ne 7, 3) := by decide +kernel
theorem dX2_value_133 : decode cX2_value 133 = .ok (.iconst 1, 1) := by decide +kernel
theorem dX2_value_134 : decode cX2_value 134 = .ok (.goto 4, 3) := by decide +kernel
theorem dX2_value_137 : decode cX2_value 137 = .ok (.iconst 0, 1) := by decide +kernel
theorem dX2_value_138 : decode cX2_value 138 = .ok (.iastore, 1) := by decide +kernel
theorem dX2_value_139 : decode cX2_value 139 = .ok (.goto 203, 3) := by decide +kernel
theorem dX2_value_142 : decode cX2_value 142 = .ok (.iload_n 3, 1) := by decide +kernel
theorem dX2_value_143 : decode cX2_value 143 = .ok (.iconst 1, 1) := by decide +kernel
theorem dX2_value_144 : decode cX2_value 144 = .ok (.if_icmp .lt 198, 3) := by decide +kernel
theorem dX2_value_147 : decode cX2_value 147 = .ok (.aload_n 0, 1) := by decide +kernel
theorem dX2_value_148 : decode cX2_value 148 = .ok (.getfield 24, 3) := by decide +kernel
theorem dX2_value_151 : decode cX2_value 151 = .ok (.iload_n 3, 1) := by decide +kernel
theorem dX2_value_152 : decode cX2_value 152 = .ok (.iaload, 1) := by decide +kernel
theorem dX2_value_153 : decode cX2_value 153 = .ok (.istore 7, 2) := by decide +kernel
theorem dX2_value_155 : decode cX2_value 155 = .ok (.iinc 3 (-1), 3) := by decide +kernel
theorem dX2_value_158 : decode cX2_value 158 = .ok (.aload_n 0, 1) := by decide +kernel
theorem dX2_value_159 : decode cX2_value 159 = .ok (.getfield 24, 3) := by decide +kernel
theorem dX2_value_162 : decode cX2_value 162 = .ok (.iload_n 3, 1) := by decide +kernel
theorem dX2_value_163 : decode cX2_value 163 = .ok (.iaload, 1) := by decide +kernel
theorem dX2_value_164 : decode cX2_value 164 = .ok (.istore 8, 2) := by decide +kernel
theorem dX2_value_166 : decode cX2_value 166 = .ok (.iload 5, 2) := by decide +kernel
theorem dX2_value_168 : decode cX2_value 168 = .ok (.tableswitch 163 4 10 #[44, 58, 72, 86, 107, 128, 149], 44) := by decide +kernel
theorem dX2_value_212 : decode cX2_value 212 = .ok (.aload_n 0, 1) := by decide +kernel
theorem dX2_value_213 : decode cX2_value 213 = .ok (.getfield 24, 3) := by decide +kernel
theorem dX2_value_216 : decode cX2_value 216 = .ok (.iload_n 3, 1) := by decide +kernel
theorem dX2_value_217 : decode cX2_value 217 = .ok (.iload 8, 2) := by decide +kernel
theorem dX2_value_219 : decode cX2_value 219 = .ok (.iload 7, 2) := by decide +kernel
theorem dX2_value_221 : decode cX2_value 221 = .ok (.imul, 1) := by decide +kernel
theorem dX2_value_222 : decode cX2_value 222 = .ok (.iastore, 1) := by decide +kernel
theorem dX2_value_223 : decode cX2_value 223 = .ok (.goto 119, 3) := by decide +kernel
theorem dX2_value_226 : decode cX2_value 226 = .ok (.aload_n 0, 1) := by decide +kernel
theorem dX2_value_227 : decode cX2_value 227 = .ok (.getfield 24, 3) := by decide +kernel
theorem dX2_value_230 : decode cX2_value 230 = .ok (.iload_n 3, 1) := by decide +kernel
theorem dX2_value_231 : decode cX2_value 231 = .ok (.iload 8, 2) := by decide +kernel
theorem dX2_value_233 : decode cX2_value 233 = .ok (.iload 7, 2) := by decide +kernel
theorem dX2_value_235 : decode cX2_value 235 = .ok (.iadd, 1) := by decide +kernel
theorem dX2_value_236 : decode cX2_value 236 = .ok (.iastore, 1) := by decide +kernel
theorem dX2_value_237 : decode cX2_value 237 = .ok (.goto 105, 3) := by decide +kernel
theorem dX2_value_240 : decode cX2_value 240 = .ok (.aload_n 0, 1) := by decide +kernel
theorem dX2_value_241 : decode cX2_value 241 = .ok (.getfield 24, 3) := by decide +kernel
theorem dX2_value_244 : decode cX2_value 244 = .ok (.iload_n 3, 1) := by decide +kernel
theorem dX2_value_245 : decode cX2_value 245 = .ok (.iload 8, 2) := by decide +kernel
theorem dX2_value_247 : decode cX2_value 247 = .ok (.iload 7, 2) := by decide +kernel
theorem dX2_value_249 : decode cX2_value 249 = .ok (.isub, 1) := by decide +kernel
theorem dX2_value_250 : decode cX2_value 250 = .ok (.iastore, 1) := by decide +kernel
theorem dX2_value_251 : decode cX2_value 251 = .ok (.goto 91, 3) := by decide +kernel
theorem dX2_value_254 : decode cX2_value 254 = .ok (.aload_n 0, 1) := by decide +kernel
theorem dX2_value_255 : decode cX2_value 255 = .ok (.getfield 24, 3) := by decide +kernel
theorem dX2_value_258 : decode cX2_value 258 = .ok (.iload_n 3, 1) := by decide +kernel
theorem dX2_value_259 : decode cX2_value 259 = .ok (.iload 8, 2) := by decide +kernel
theorem dX2_value_261 : decode cX2_value 261 = .ok (.iload 7, 2) := by decide +kernel
theorem dX2_value_263 : decode cX2_value 263 = .ok (.if_icmp .ge 7, 3) := by decide +kernel
theorem dX2_value_266 : decode cX2_value 266 = .ok (.iconst 1, 1) := by decide +kernel
theorem dX2_value_267 : decode cX2_value 267 = .ok (.goto 4, 3) := by decide +kernel
theorem dX2_value_270 : decode cX2_value 270 = .ok (.iconst 0, 1) := by decide +kernel
theorem dX2_value_271 : decode cX2_value 271 = .ok (.iastore, 1) := by decide +kernel
theorem dX2_value_272 : decode cX2_value 272 = .ok (.goto 70, 3) := by decide +kernel
theorem dX2_value_275 : decode cX2_value 275 = .ok (.aload_n 0, 1) := by decide +kernel
theorem dX2_value_276 : decode cX2_value 276 = .ok (.getfield 24, 3) := by decide +kernel
theorem dX2_value_279 : decode cX2_value 279 = .ok (.iload_n 3, 1) := by decide +kernel
theorem dX2_value_280 : decode cX2_value 280 = .ok (.iload 8, 2) := by decide +kernel
theorem dX2_value_282 : decode cX2_value 282 = .ok (.iload 7, 2) := by decide +kernel
theorem dX2_value_284 : decode cX2_value 284 = .ok (.if_icmp .ne 7, 3) := by decide +kernel
theorem dX2_value_287 : decode cX2_value 287 = .ok (.iconst 1, 1) := by decide +kernel
theorem dX2_value_288 : decode cX2_value 288 = .ok (.goto 4, 3) := by decide +kernel
theorem dX2_value_291 : decode cX2_value 291 = .ok (.iconst 0, 1) := by decide +kernel
theorem dX2_value_292 : decode cX2_value 292 = .ok (.iastore, 1) := by decide +kernel
theorem dX2_value_293 : decode cX2_value 293 = .ok (.goto 49, 3) := by decide +kernel
theorem dX2_value_296 : decode cX2_value 296 = .ok (.aload_n 0, 1) := by decide +kernel
theorem dX2_value_297 : decode cX2_value 297 = .ok (.getfield 24, 3) := by decide +kernel
theorem dX2_value_300 : decode cX2_value 300 = .ok (.iload_n 3, 1) := by decide +kernel
theorem dX2_value_301 : decode cX2_value 301 = .ok (.iload 8, 2) := by decide +kernel
theorem dX2_value_303 : decode cX2_value 303 = .ok (.iload 7, 2) := by decide +kernel
theorem dX2_value_305 : decode cX2_value 305 = .ok (.if_icmp .le 7, 3) := by decide +kernel
theorem dX2_value_308 : decode cX2_value 308 = .ok (.iconst 1, 1) := by decide +kernel
theorem dX2_value_309 : decode cX2_value 309 = .ok (.goto 4, 3) := by decide +kernel
theorem dX2_value_312 : decode cX2_value 312 = .ok (.iconst 0, 1) := by decide +kernel
theorem dX2_value_313 : decode cX2_value 313 = .ok (.iastore, 1) := by decide +kernel
theorem dX2_value_314 : decode cX2_value 314 = .ok (.goto 28, 3) := by decide +kernel
theorem dX2_value_317 : decode cX2_value 317 = .ok (.aload_n 0, 1) := by decide +kernel
theorem dX2_value_318 : decode cX2_value 318 = .ok (.getfield 24, 3) := by decide +kernel
theorem dX2_value_321 : decode cX2_value 321 = .ok (.iload_n 3, 1) := by decide +kernel
theorem dX2_value_322 : decode cX2_value 322 = .ok (.iload 8, 2) := by decide +kernel
theorem dX2_value_324 : decode cX2_value 324 = .ok (.iload 7, 2) := by decide +kernel
theorem dX2_value_326 : decode cX2_value 326 = .ok (.iand, 1) := by decide +kernel
theorem dX2_value_327 : decode cX2_value 327 = .ok (.iastore, 1) := by decide +kernel
theorem dX2_value_328 : decode cX2_value 328 = .ok (.goto 14, 3) := by decide +kernel
theorem dX2_value_331 : decode cX2_value 331 = .ok (.aload_n 0, 1) := by decide +kernel
theorem dX2_value_332 : decode cX2_value 332 = .ok (.getfield 24, 3) := by decide +kernel
theorem dX2_value_335 : decode cX2_value 335 = .ok (.iload_n 3, 1) := by decide +kernel
theorem dX2_value_336 : decode cX2_value 336 = .ok (.iload 8, 2) := by decide +kernel
theorem dX2_value_338 : decode cX2_value 338 = .ok (.iload 7, 2) := by decide +kernel
theorem dX2_value_340 : decode cX2_value 340 = .ok (.ior, 1) := by decide +kernel
theorem dX2_value_341 : decode cX2_value 341 = .ok (.iastore, 1) := by decide +kernel
theorem dX2_value_342 : decode cX2_value 342 = .ok (.iinc 4 1, 3) := by decide +kernel
theorem dX2_value_345 : decode cX2_value 345 = .ok (.goto (-340), 3) := by decide +kernel
theorem dX2_value_348 : decode cX2_value 348 = .ok (.iload_n 3, 1) := by decide +kernel
theorem dX2_value_349 : decode cX2_value 349 = .ok (.ifCond .lt 12, 3) := by decide +kernel
theorem dX2_value_352 : decode cX2_value 352 = .ok (.aload_n 0, 1) := by decide +kernel
theorem dX2_value_353 : decode cX2_value 353 = .ok (.getfield 24, 3) := by decide +kernel
theorem dX2_value_356 : decode cX2_value 356 = .ok (.iload_n 3, 1) := by decide +kernel
theorem dX2_value_357 : decode cX2_value 357 = .ok (.iaload, 1) := by decide +kernel
theorem dX2_value_358 : decode cX2_value 358 = .ok (.goto 4, 3) := by decide +kernel
theorem dX2_value_361 : decode cX2_value 361 = .ok (.iconst 0, 1) := by decide +kernel
theorem dX2_value_362 : decode cX2_value 362 = .ok (.ireturn, 1) := by decide +kernel
theorem dX3_init_0 : decode cX3_init 0 = .ok (.aload_n 0, 1) := by decide +kernel
theorem dX3_init_1 : decode cX3_init 1 = .ok (.invokespecial 3, 3) := by decide +kernel
theorem dX3_init_4 : decode cX3_init 4 = .ok (.aload_n 0, 1) := by decide +kernel
theorem dX3_init_5 : decode cX3_init 5 = .ok (.sipush 600, 3) := by decide +kernel
theorem dX3_init_8 : decode cX3_init 8 = .ok (.newarray .int, 2) := by decide +kernel
theorem dX3_init_10 : decode cX3_init 10 = .ok (.putfield 9, 3) := by decide +kernel
theorem dX3_init_13 : decode cX3_init 13 = .ok (.return_, 1) := by decide +kernel
theorem dX3_copyFrom_0 : decode cX3_copyFrom 0 = .ok (.aload_n 1, 1) := by decide +kernel
theorem dX3_copyFrom_1 : decode cX3_copyFrom 1 = .ok (.getfield 9, 3) := by decide +kernel
theorem dX3_copyFrom_4 : decode cX3_copyFrom 4 = .ok (.iconst 0, 1) := by decide +kernel
theorem dX3_copyFrom_5 : decode cX3_copyFrom 5 = .ok (.aload_n 0, 1) := by decide +kernel
theorem dX3_copyFrom_6 : decode cX3_copyFrom 6 = .ok (.getfield 9, 3) := by decide +kernel
theorem dX3_copyFrom_9 : decode cX3_copyFrom 9 = .ok (.iconst 0, 1) := by decide +kernel
theorem dX3_copyFrom_10 : decode cX3_copyFrom 10 = .ok (.sipush 600, 3) := by decide +kernel
theorem dX3_copyFrom_13 : decode cX3_copyFrom 13 = .ok (.invokestatic 15, 3) := by decide +kernel
theorem dX3_copyFrom_16 : decode cX3_copyFrom 16 = .ok (.return_, 1) := by decide +kernel
theorem dX3_write_0 : decode cX3_write 0 = .ok (.aload_n 1, 1) := by decide +kernel
theorem dX3_write_1 : decode cX3_write 1 = .ok (.getfield 21, 3) := by decide +kernel
theorem dX3_write_4 : decode cX3_write 4 = .ok (.sipush 150, 3) := by decide +kernel
theorem dX3_write_7 : decode cX3_write 7 = .ok (.if_icmp .lt 4, 3) := by decide +kernel
theorem dX3_write_10 : decode cX3_write 10 = .ok (.return_, 1) := by decide +kernel
theorem dX3_write_11 : decode cX3_write 11 = .ok (.aload_n 1, 1) := by decide +kernel
theorem dX3_write_12 : decode cX3_write 12 = .ok (.getfield 21, 3) := by decide +kernel
theorem dX3_write_15 : decode cX3_write 15 = .ok (.iconst 4, 1) := by decide +kernel
theorem dX3_write_16 : decode cX3_write 16 = .ok (.imul, 1) := by decide +kernel
theorem dX3_write_17 : decode cX3_write 17 = .ok (.istore 5, 2) := by decide +kernel
theorem dX3_write_19 : decode cX3_write 19 = .ok (.aload_n 0, 1) := by decide +kernel
theorem dX3_write_20 : decode cX3_write 20 = .ok (.getfield 9, 3) := by decide +kernel
theorem dX3_write_23 : decode cX3_write 23 = .ok (.iload 5, 2) := by decide +kernel
theorem dX3_write_25 : decode cX3_write 25 = .ok (.aload_n 1, 1) := by decide +kernel
theorem dX3_write_26 : decode cX3_write 26 = .ok (.getfield 27, 3) := by decide +kernel
theorem dX3_write_29 : decode cX3_write 29 = .ok (.iastore, 1) := by decide +kernel
theorem dX3_write_30 : decode cX3_write 30 = .ok (.aload_n 0, 1) := by decide +kernel
theorem dX3_write_31 : decode cX3_write 31 = .ok (.getfield 9, 3) := by decide +kernel
theorem dX3_write_34 : decode cX3_write 34 = .ok (.iload 5, 2) := by decide +kernel
theorem dX3_write_36 : decode cX3_write 36 = .ok (.iconst 1, 1) := by decide +kernel
theorem dX3_write_37 : decode cX3_write 37 = .ok (.iadd, 1) := by decide +kernel
theorem dX3_write_38 : decode cX3_write 38 = .ok (.iload_n 2, 1) := by decide +kernel
theorem dX3_write_39 : decode cX3_write 39 = .ok (.iastore, 1) := by decide +kernel
theorem dX3_write_40 : decode cX3_write 40 = .ok (.aload_n 0, 1) := by decide +kernel
theorem dX3_write_41 : decode cX3_write 41 = .ok (.getfield 9, 3) := by decide +kernel
theorem dX3_write_44 : decode cX3_write 44 = .ok (.iload 5, 2) := by decide +kernel
theorem dX3_write_46 : decode cX3_write 46 = .ok (.iconst 2, 1) := by decide +kernel
theorem dX3_write_47 : decode cX3_write 47 = .ok (.iadd, 1) := by decide +kernel
theorem dX3_write_48 : decode cX3_write 48 = .ok (.iload_n 3, 1) := by decide +kernel
theorem dX3_write_49 : decode cX3_write 49 = .ok (.iastore, 1) := by decide +kernel
theorem dX3_write_50 : decode cX3_write 50 = .ok (.aload_n 0, 1) := by decide +kernel
theorem dX3_write_51 : decode cX3_write 51 = .ok (.getfield 9, 3) := by decide +kernel
theorem dX3_write_54 : decode cX3_write 54 = .ok (.iload 5, 2) := by decide +kernel
theorem dX3_write_56 : decode cX3_write 56 = .ok (.iconst 3, 1) := by decide +kernel
theorem dX3_write_57 : decode cX3_write 57 = .ok (.iadd, 1) := by decide +kernel
theorem dX3_write_58 : decode cX3_write 58 = .ok (.iload 4, 2) := by decide +kernel
theorem dX3_write_60 : decode cX3_write 60 = .ok (.iastore, 1) := by decide +kernel
theorem dX3_write_61 : decode cX3_write 61 = .ok (.aload_n 1, 1) := by decide +kernel
theorem dX3_write_62 : decode cX3_write 62 = .ok (.dup, 1) := by decide +kernel
theorem dX3_write_63 : decode cX3_write 63 = .ok (.getfield 21, 3) := by decide +kernel
theorem dX3_write_66 : decode cX3_write 66 = .ok (.iconst 1, 1) := by decide +kernel
theorem dX3_write_67 : decode cX3_write 67 = .ok (.iadd, 1) := by decide +kernel
theorem dX3_write_68 : decode cX3_write 68 = .ok (.putfield 21, 3) := by decide +kernel
theorem dX3_write_71 : decode cX3_write 71 = .ok (.return_, 1) := by decide +kernel
theorem dX4_init_0 : decode cX4_init 0 = .ok (.aload_n 0, 1) := by decide +kernel
theorem dX4_init_1 : decode cX4_init 1 = .ok (.invokespecial 3, 3) := by decide +kernel
theorem dX4_init_4 : decode cX4_init 4 = .ok (.aload_n 0, 1) := by decide +kernel
theorem dX4_init_5 : decode cX4_init 5 = .ok (.bipush 10, 2) := by decide +kernel
theorem dX4_init_7 : decode cX4_init 7 = .ok (.newarray .int, 2) := by decide +kernel
theorem dX4_init_9 : decode cX4_init 9 = .ok (.putfield 9, 3) := by decide +kernel
theorem dX4_init_12 : decode cX4_init 12 = .ok (.aload_n 0, 1) := by decide +kernel
theorem dX4_init_13 : decode cX4_init 13 = .ok (.bipush 80, 2) := by decide +kernel
theorem dX4_init_15 : decode cX4_init 15 = .ok (.newarray .int, 2) := by decide +kernel
theorem dX4_init_17 : decode cX4_init 17 = .ok (.putfield 15, 3) := by decide +kernel
theorem dX4_init_20 : decode cX4_init 20 = .ok (.aload_n 0, 1) := by decide +kernel
theorem dX4_init_21 : decode cX4_init 21 = .ok (.bipush 10, 2) := by decide +kernel
theorem dX4_init_23 : decode cX4_init 23 = .ok (.newarray .int, 2) := by decide +kernel
theorem dX4_init_25 : decode cX4_init 25 = .ok (.putfield 18, 3) := by decide +kernel
theorem dX4_init_28 : decode cX4_init 28 = .ok (.return_, 1) := by decide +kernel
theorem dX4_copyFrom_0 : decode cX4_copyFrom 0 = .ok (.aload_n 0, 1) := by decide +kernel
theorem dX4_copyFrom_1 : decode cX4_copyFrom 1 = .ok (.aload_n 1, 1) := by decide +kernel
theorem dX4_copyFrom_2 : decode cX4_copyFrom 2 = .ok (.getfield 21, 3) := by decide +kernel
theorem dX4_copyFrom_5 : decode cX4_copyFrom 5 = .ok (.putfield 21, 3) := by decide +kernel
theorem dX4_copyFrom_8 : decode cX4_copyFrom 8 = .ok (.aload_n 1, 1) := by decide +kernel
theorem dX4_copyFrom_9 : decode cX4_copyFrom 9 = .ok (.getfield 18, 3) := by decide +kernel
theorem dX4_copyFrom_12 : decode cX4_copyFrom 12 = .ok (.iconst 0, 1) := by decide +kernel
theorem dX4_copyFrom_13 : decode cX4_copyFrom 13 = .ok (.aload_n 0, 1) := by decide +kernel
theorem dX4_copyFrom_14 : decode cX4_copyFrom 14 = .ok (.getfield 18, 3) := by decide +kernel
theorem dX4_copyFrom_17 : decode cX4_copyFrom 17 = .ok (.iconst 0, 1) := by decide +kernel
theorem dX4_copyFrom_18 : decode cX4_copyFrom 18 = .ok (.bipush 10, 2) := by decide +kernel
theorem dX4_copyFrom_20 : decode cX4_copyFrom 20 = .ok (.invokestatic 25, 3) := by decide +kernel
theorem dX4_copyFrom_23 : decode cX4_copyFrom 23 = .ok (.aload_n 1, 1) := by decide +kernel
theorem dX4_copyFrom_24 : decode cX4_copyFrom 24 = .ok (.getfield 9, 3) := by decide +kernel
theorem dX4_copyFrom_27 : decode cX4_copyFrom 27 = .ok (.iconst 0, 1) := by decide +kernel
theorem dX4_copyFrom_28 : decode cX4_copyFrom 28 = .ok (.aload_n 0, 1) := by decide +kernel
theorem dX4_copyFrom_29 : decode cX4_copyFrom 29 = .ok (.getfield 9, 3) := by decide +kernel
theorem dX4_copyFrom_32 : decode cX4_copyFrom 32 = .ok (.iconst 0, 1) := by decide +kernel
theorem dX4_copyFrom_33 : decode cX4_copyFrom 33 = .ok (.bipush 10, 2) := by decide +kernel
theorem dX4_copyFrom_35 : decode cX4_copyFrom 35 = .ok (.invokestatic 25, 3) := by decide +kernel
theorem dX4_copyFrom_38 : decode cX4_copyFrom 38 = .ok (.aload_n 1, 1) := by decide +kernel
theorem dX4_copyFrom_39 : decode cX4_copyFrom 39 = .ok (.getfield 15, 3) := by decide +kernel
theorem dX4_copyFrom_42 : decode cX4_copyFrom 42 = .ok (.iconst 0, 1) := by decide +kernel
theorem dX4_copyFrom_43 : decode cX4_copyFrom 43 = .ok (.aload_n 0, 1) := by decide +kernel
theorem dX4_copyFrom_44 : decode cX4_copyFrom 44 = .ok (.getfield 15, 3) := by decide +kernel
theorem dX4_copyFrom_47 : decode cX4_copyFrom 47 = .ok (.iconst 0, 1) := by decide +kernel
theorem dX4_copyFrom_48 : decode cX4_copyFrom 48 = .ok (.bipush 80, 2) := by decide +kernel
theorem dX4_copyFrom_50 : decode cX4_copyFrom 50 = .ok (.invokestatic 25, 3) := by decide +kernel
theorem dX4_copyFrom_53 : decode cX4_copyFrom 53 = .ok (.return_, 1) := by decide +kernel
theorem dX4_clear_0 : decode cX4_clear 0 = .ok (.aload_n 0, 1) := by decide +kernel
theorem dX4_clear_1 : decode cX4_clear 1 = .ok (.iconst 0, 1) := by decide +kernel
theorem dX4_clear_2 : decode cX4_clear 2 = .ok (.putfield 21, 3) := by decide +kernel
theorem dX4_clear_5 : decode cX4_clear 5 = .ok (.iconst 0, 1) := by decide +kernel
theorem dX4_clear_6 : decode cX4_clear 6 = .ok (.istore_n 1, 1) := by decide +kernel
theorem dX4_clear_7 : decode cX4_clear 7 = .ok (.iload_n 1, 1) := by decide +kernel
theorem dX4_clear_8 : decode cX4_clear 8 = .ok (.bipush 10, 2) := by decide +kernel
theorem dX4_clear_10 : decode cX4_clear 10 = .ok (.if_icmp .ge 14, 3) := by decide +kernel
theorem dX4_clear_13 : decode cX4_clear 13 = .ok (.aload_n 0, 1) := by decide +kernel
theorem dX4_clear_14 : decode cX4_clear 14 = .ok (.iload_n 1, 1) := by decide +kernel
theorem dX4_clear_15 : decode cX4_clear 15 = .ok (.invokevirtual 31, 3) := by decide +kernel
theorem dX4_clear_18 : decode cX4_clear 18 = .ok (.iinc 1 1, 3) := by decide +kernel
theorem dX4_clear_21 : decode cX4_clear 21 = .ok (.goto (-14), 3) := by decide +kernel
theorem dX4_clear_24 : decode cX4_clear 24 = .ok (.return_, 1) := by decide +kernel
theorem dX4_clearPath_0 : decode cX4_clearPath 0 = .ok (.aload_n 0, 1) := by decide +kernel
theorem dX4_clearPath_1 : decode cX4_clearPath 1 = .ok (.getfield 9, 3) := by decide +kernel
theorem dX4_clearPath_4 : decode cX4_clearPath 4 = .ok (.iload_n 1, 1) := by decide +kernel
theorem dX4_clearPath_5 : decode cX4_clearPath 5 = .ok (.iconst 0, 1) := by decide +kernel
theorem dX4_clearPath_6 : decode cX4_clearPath 6 = .ok (.iastore, 1) := by decide +kernel
theorem dX4_clearPath_7 : decode cX4_clearPath 7 = .ok (.aload_n 0, 1) := by decide +kernel
theorem dX4_clearPath_8 : decode cX4_clearPath 8 = .ok (.getfield 18, 3) := by decide +kernel
theorem dX4_clearPath_11 : decode cX4_clearPath 11 = .ok (.iload_n 1, 1) := by decide +kernel
theorem dX4_clearPath_12 : decode cX4_clearPath 12 = .ok (.iconst 0, 1) := by decide +kernel
theorem dX4_clearPath_13 : decode cX4_clearPath 13 = .ok (.iastore, 1) := by decide +kernel
theorem dX4_clearPath_14 : decode cX4_clearPath 14 = .ok (.return_, 1) := by decide +kernel
theorem dX4_addStep_0 : decode cX4_addStep 0 = .ok (.aload_n 0, 1) := by decide +kernel
theorem dX4_addStep_1 : decode cX4_addStep 1 = .ok (.getfield 9, 3) := by decide +kernel
theorem dX4_addStep_4 : decode cX4_addStep 4 = .ok (.iload_n 1, 1) := by decide +kernel
theorem dX4_addStep_5 : decode cX4_addStep 5 = .ok (.iaload, 1) := by decide +kernel
theorem dX4_addStep_6 : decode cX4_addStep 6 = .ok (.bipush 8, 2) := by decide +kernel
theorem dX4_addStep_8 : decode cX4_addStep 8 = .ok (.if_icmp .ge 42, 3) := by decide +kernel
theorem dX4_addStep_11 : decode cX4_addStep 11 = .ok (.aload_n 0, 1) := by decide +kernel
theorem dX4_addStep_12 : decode cX4_addStep 12 = .ok (.getfield 15, 3) := by decide +kernel
theorem dX4_addStep_15 : decode cX4_addStep 15 = .ok (.iload_n 1, 1) := by decide +kernel
theorem dX4_addStep_16 : decode cX4_addStep 16 = .ok (.bipush 8, 2) := by decide +kernel
theorem dX4_addStep_18 : decode cX4_addStep 18 = .ok (.imul, 1) := by decide +kernel
theorem dX4_addStep_19 : decode cX4_addStep 19 = .ok (.aload_n 0, 1) := by decide +kernel
theorem dX4_addStep_20 : decode cX4_addStep 20 = .ok (.getfield 9, 3) := by decide +kernel
theorem dX4_addStep_23 : decode cX4_addStep 23 = .ok (.iload_n 1, 1) := by decide +kernel
theorem dX4_addStep_24 : decode cX4_addStep 24 = .ok (.iaload, 1) := by decide +kernel
theorem dX4_addStep_25 : decode cX4_addStep 25 = .ok (.iadd, 1) := by decide +kernel
theorem dX4_addStep_26 : decode cX4_addStep 26 = .ok (.iload_n 2, 1) := by decide +kernel
theorem dX4_addStep_27 : decode cX4_addStep 27 = .ok (.iastore, 1) := by decide +kernel
theorem dX4_addStep_28 : decode cX4_addStep 28 = .ok (.aload_n 0, 1) := by decide +kernel
theorem dX4_addStep_29 : decode cX4_addStep 29 = .ok (.getfield 9, 3) := by decide +kernel
theorem dX4_addStep_32 : decode cX4_addStep 32 = .ok (.iload_n 1, 1) := by decide +kernel
theorem dX4_addStep_33 : decode cX4_addStep 33 = .ok (.dup2, 1) := by decide +kernel
theorem dX4_addStep_34 : decode cX4_addStep 34 = .ok (.iaload, 1) := by decide +kernel
theorem dX4_addStep_35 : decode cX4_addStep 35 = .ok (.iconst 1, 1) := by decide +kernel
theorem dX4_addStep_36 : decode cX4_addStep 36 = .ok (.iadd, 1) := by decide +kernel
theorem dX4_addStep_37 : decode cX4_addStep 37 = .ok (.iastore, 1) := by decide +kernel
theorem dX4_addStep_38 : decode cX4_addStep 38 = .ok (.aload_n 0, 1) := by decide +kernel
theorem dX4_addStep_39 : decode cX4_addStep 39 = .ok (.getfield 18, 3) := by decide +kernel
theorem dX4_addStep_42 : decode cX4_addStep 42 = .ok (.iload_n 1, 1) := by decide +kernel
theorem dX4_addStep_43 : decode cX4_addStep 43 = .ok (.dup2, 1) := by decide +kernel
theorem dX4_addStep_44 : decode cX4_addStep 44 = .ok (.iaload, 1) := by decide +kernel
theorem dX4_addStep_45 : decode cX4_addStep 45 = .ok (.iconst 1, 1) := by decide +kernel
theorem dX4_addStep_46 : decode cX4_addStep 46 = .ok (.iload_n 2, 1) := by decide +kernel
theorem dX4_addStep_47 : decode cX4_addStep 47 = .ok (.ishl, 1) := by decide +kernel
theorem dX4_addStep_48 : decode cX4_addStep 48 = .ok (.ior, 1) := by decide +kernel
theorem dX4_addStep_49 : decode cX4_addStep 49 = .ok (.iastore, 1) := by decide +kernel
theorem dX4_addStep_50 : decode cX4_addStep 50 = .ok (.return_, 1) := by decide +kernel
theorem dX4_step_0 : decode cX4_step 0 = .ok (.iload_n 2, 1) := by decide +kernel
theorem dX4_step_1 : decode cX4_step 1 = .ok (.ifCond .lt 27, 3) := by decide +kernel
theorem dX4_step_4 : decode cX4_step 4 = .ok (.iload_n 2, 1) := by decide +kernel
theorem dX4_step_5 : decode cX4_step 5 = .ok (.aload_n 0, 1) := by decide +kernel
theorem dX4_step_6 : decode cX4_step 6 = .ok (.getfield 9, 3) := by decide +kernel
theorem dX4_step_9 : decode cX4_step 9 = .ok (.iload_n 1, 1) := by decide +kernel
theorem dX4_step_10 : decode cX4_step 10 = .ok (.iaload, 1) := by decide +kernel
theorem dX4_step_11 : decode cX4_step 11 = .ok (.if_icmp .ge 17, 3) := by decide +kernel
theorem dX4_step_14 : decode cX4_step 14 = .ok (.aload_n 0, 1) := by decide +kernel
theorem dX4_step_15 : decode cX4_step 15 = .ok (.getfield 15, 3) := by decide +kernel
theorem dX4_step_18 : decode cX4_step 18 = .ok (.iload_n 1, 1) := by decide +kernel
theorem dX4_step_19 : decode cX4_step 19 = .ok (.bipush 8, 2) := by decide +kernel
theorem dX4_step_21 : decode cX4_step 21 = .ok (.imul, 1) := by decide +kernel
theorem dX4_step_22 : decode cX4_step 22 = .ok (.iload_n 2, 1) := by decide +kernel
theorem dX4_step_23 : decode cX4_step 23 = .ok (.iadd, 1) := by decide +kernel
theorem dX4_step_24 : decode cX4_step 24 = .ok (.iaload, 1) := by decide +kernel
theorem dX4_step_25 : decode cX4_step 25 = .ok (.goto 4, 3) := by decide +kernel
theorem dX4_step_28 : decode cX4_step 28 = .ok (.iconst (-1), 1) := by decide +kernel
theorem dX4_step_29 : decode cX4_step 29 = .ok (.ireturn, 1) := by decide +kernel
theorem dX5_init_0 : decode cX5_init 0 = .ok (.aload_n 0, 1) := by decide +kernel
theorem dX5_init_1 : decode cX5_init 1 = .ok (.invokespecial 3, 3) := by decide +kernel
theorem dX5_init_4 : decode cX5_init 4 = .ok (.aload_n 0, 1) := by decide +kernel
theorem dX5_init_5 : decode cX5_init 5 = .ok (.bipush 16, 2) := by decide +kernel
theorem dX5_init_7 : decode cX5_init 7 = .ok (.newarray .int, 2) := by decide +kernel
theorem dX5_init_9 : decode cX5_init 9 = .ok (.putfield 9, 3) := by decide +kernel
theorem dX5_init_12 : decode cX5_init 12 = .ok (.aload_n 0, 1) := by decide +kernel
theorem dX5_init_13 : decode cX5_init 13 = .ok (.bipush 16, 2) := by decide +kernel
theorem dX5_init_15 : decode cX5_init 15 = .ok (.newarray .int, 2) := by decide +kernel
theorem dX5_init_17 : decode cX5_init 17 = .ok (.putfield 15, 3) := by decide +kernel
theorem dX5_init_20 : decode cX5_init 20 = .ok (.aload_n 0, 1) := by decide +kernel
theorem dX5_init_21 : decode cX5_init 21 = .ok (.bipush 16, 2) := by decide +kernel
theorem dX5_init_23 : decode cX5_init 23 = .ok (.newarray .int, 2) := by decide +kernel
theorem dX5_init_25 : decode cX5_init 25 = .ok (.putfield 18, 3) := by decide +kernel
theorem dX5_init_28 : decode cX5_init 28 = .ok (.aload_n 0, 1) := by decide +kernel
theorem dX5_init_29 : decode cX5_init 29 = .ok (.bipush 16, 2) := by decide +kernel
theorem dX5_init_31 : decode cX5_init 31 = .ok (.newarray .int, 2) := by decide +kernel
theorem dX5_init_33 : decode cX5_init 33 = .ok (.putfield 21, 3) := by decide +kernel
theorem dX5_init_36 : decode cX5_init 36 = .ok (.return_, 1) := by decide +kernel
theorem dX5_copyFrom_0 : decode cX5_copyFrom 0 = .ok (.aload_n 0, 1) := by decide +kernel
theorem dX5_copyFrom_1 : decode cX5_copyFrom 1 = .ok (.aload_n 1, 1) := by decide +kernel
theorem dX5_copyFrom_2 : decode cX5_copyFrom 2 = .ok (.getfield 24, 3) := by decide +kernel
theorem dX5_copyFrom_5 : decode cX5_copyFrom 5 = .ok (.putfield 24, 3) := by decide +kernel
theorem dX5_copyFrom_8 : decode cX5_copyFrom 8 = .ok (.aload_n 1, 1) := by decide +kernel
theorem dX5_copyFrom_9 : decode cX5_copyFrom 9 = .ok (.getfield 9, 3) := by decide +kernel
theorem dX5_copyFrom_12 : decode cX5_copyFrom 12 = .ok (.iconst 0, 1) := by decide +kernel
theorem dX5_copyFrom_13 : decode cX5_copyFrom 13 = .ok (.aload_n 0, 1) := by decide +kernel
theorem dX5_copyFrom_14 : decode cX5_copyFrom 14 = .ok (.getfield 9, 3) := by decide +kernel
theorem dX5_copyFrom_17 : decode cX5_copyFrom 17 = .ok (.iconst 0, 1) := by decide +kernel
theorem dX5_copyFrom_18 : decode cX5_copyFrom 18 = .ok (.bipush 16, 2) := by decide +kernel
theorem dX5_copyFrom_20 : decode cX5_copyFrom 20 = .ok (.invokestatic 28, 3) := by decide +kernel
theorem dX5_copyFrom_23 : decode cX5_copyFrom 23 = .ok (.aload_n 1, 1) := by decide +kernel
theorem dX5_copyFrom_24 : decode cX5_copyFrom 24 = .ok (.getfield 15, 3) := by decide +kernel
theorem dX5_copyFrom_27 : decode cX5_copyFrom 27 = .ok (.iconst 0, 1) := by decide +kernel
theorem dX5_copyFrom_28 : decode cX5_copyFrom 28 = .ok (.aload_n 0, 1) := by decide +kernel
theorem dX5_copyFrom_29 : decode cX5_copyFrom 29 = .ok (.getfield 15, 3) := by decide +kernel
theorem dX5_copyFrom_32 : decode cX5_copyFrom 32 = .ok (.iconst 0, 1) := by decide +kernel
theorem dX5_copyFrom_33 : decode cX5_copyFrom 33 = .ok (.bipush 16, 2) := by decide +kernel
theorem dX5_copyFrom_35 : decode cX5_copyFrom 35 = .ok (.invokestatic 28, 3) := by decide +kernel
theorem dX5_copyFrom_38 : decode cX5_copyFrom 38 = .ok (.aload_n 1, 1) := by decide +kernel
theorem dX5_copyFrom_39 : decode cX5_copyFrom 39 = .ok (.getfield 18, 3) := by decide +kernel
theorem dX5_copyFrom_42 : decode cX5_copyFrom 42 = .ok (.iconst 0, 1) := by decide +kernel
theorem dX5_copyFrom_43 : decode cX5_copyFrom 43 = .ok (.aload_n 0, 1) := by decide +kernel
theorem dX5_copyFrom_44 : decode cX5_copyFrom 44 = .ok (.getfield 18, 3) := by decide +kernel
theorem dX5_copyFrom_47 : decode cX5_copyFrom 47 = .ok (.iconst 0, 1) := by decide +kernel
theorem dX5_copyFrom_48 : decode cX5_copyFrom 48 = .ok (.bipush 16, 2) := by decide +kernel
theorem dX5_copyFrom_50 : decode cX5_copyFrom 50 = .ok (.invokestatic 28, 3) := by decide +kernel
theorem dX5_copyFrom_53 : decode cX5_copyFrom 53 = .ok (.aload_n 1, 1) := by decide +kernel
theorem dX5_copyFrom_54 : decode cX5_copyFrom 54 = .ok (.getfield 21, 3) := by decide +kernel
theorem dX5_copyFrom_57 : decode cX5_copyFrom 57 = .ok (.iconst 0, 1) := by decide +kernel
theorem dX5_copyFrom_58 : decode cX5_copyFrom 58 = .ok (.aload_n 0, 1) := by decide +kernel
theorem dX5_copyFrom_59 : decode cX5_copyFrom 59 = .ok (.getfield 21, 3) := by decide +kernel
theorem dX5_copyFrom_62 : decode cX5_copyFrom 62 = .ok (.iconst 0, 1) := by decide +kernel
theorem dX5_copyFrom_63 : decode cX5_copyFrom 63 = .ok (.bipush 16, 2) := by decide +kernel
theorem dX5_copyFrom_65 : decode cX5_copyFrom 65 = .ok (.invokestatic 28, 3) := by decide +kernel
theorem dX5_copyFrom_68 : decode cX5_copyFrom 68 = .ok (.return_, 1) := by decide +kernel
theorem dX6_init_0 : decode cX6_init 0 = .ok (.aload_n 0, 1) := by decide +kernel
theorem dX6_init_1 : decode cX6_init 1 = .ok (.invokespecial 3, 3) := by decide +kernel
theorem dX6_init_4 : decode cX6_init 4 = .ok (.aload_n 0, 1) := by decide +kernel
theorem dX6_init_5 : decode cX6_init 5 = .ok (.iconst (-1), 1) := by decide +kernel
theorem dX6_init_6 : decode cX6_init 6 = .ok (.putfield 9, 3) := by decide +kernel
theorem dX6_init_9 : decode cX6_init 9 = .ok (.aload_n 0, 1) := by decide +kernel
theorem dX6_init_10 : decode cX6_init 10 = .ok (.new 15, 3) := by decide +kernel
theorem dX6_init_13 : decode cX6_init 13 = .ok (.dup, 1) := by decide +kernel
theorem dX6_init_14 : decode cX6_init 14 = .ok (.invokespecial 17, 3) := by decide +kernel
theorem dX6_init_17 : decode cX6_init 17 = .ok (.putfield 18, 3) := by decide +kernel
theorem dX6_init_20 : decode cX6_init 20 = .ok (.aload_n 0, 1) := by decide +kernel
theorem dX6_init_21 : decode cX6_init 21 = .ok (.new 22, 3) := by decide +kernel
theorem dX6_init_24 : decode cX6_init 24 = .ok (.dup, 1) := by decide +kernel
theorem dX6_init_25 : decode cX6_init 25 = .ok (.invokespecial 24, 3) := by decide +kernel
theorem dX6_init_28 : decode cX6_init 28 = .ok (.putfield 25, 3) := by decide +kernel
theorem dX6_init_31 : decode cX6_init 31 = .ok (.aload_n 0, 1) := by decide +kernel
theorem dX6_init_32 : decode cX6_init 32 = .ok (.new 29, 3) := by decide +kernel
theorem dX6_init_35 : decode cX6_init 35 = .ok (.dup, 1) := by decide +kernel
theorem dX6_init_36 : decode cX6_init 36 = .ok (.invokespecial 31, 3) := by decide +kernel
theorem dX6_init_39 : decode cX6_init 39 = .ok (.putfield 32, 3) := by decide +kernel
theorem dX6_init_42 : decode cX6_init 42 = .ok (.aload_n 0, 1) := by decide +kernel
theorem dX6_init_43 : decode cX6_init 43 = .ok (.new 36, 3) := by decide +kernel
theorem dX6_init_46 : decode cX6_init 46 = .ok (.dup, 1) := by decide +kernel
theorem dX6_init_47 : decode cX6_init 47 = .ok (.invokespecial 38, 3) := by decide +kernel
theorem dX6_init_50 : decode cX6_init 50 = .ok (.putfield 39, 3) := by decide +kernel
theorem dX6_init_53 : decode cX6_init 53 = .ok (.return_, 1) := by decide +kernel
theorem dX6_begin_0 : decode cX6_begin 0 = .ok (.aload_n 0, 1) := by decide +kernel
theorem dX6_begin_1 : decode cX6_begin 1 = .ok (.iload_n 1, 1) := by decide +kernel
theorem dX6_begin_2 : decode cX6_begin 2 = .ok (.putfield 43, 3) := by decide +kernel
theorem dX6_begin_5 : decode cX6_begin 5 = .ok (.aload_n 0, 1) := by decide +kernel
theorem dX6_begin_6 : decode cX6_begin 6 = .ok (.iload_n 2, 1) := by decide +kernel
theorem dX6_begin_7 : decode cX6_begin 7 = .ok (.putfield 46, 3) := by decide +kernel
theorem dX6_begin_10 : decode cX6_begin 10 = .ok (.aload_n 0, 1) := by decide +kernel
theorem dX6_begin_11 : decode cX6_begin 11 = .ok (.iconst 0, 1) := by decide +kernel
theorem dX6_begin_12 : decode cX6_begin 12 = .ok (.putfield 49, 3) := by decide +kernel
theorem dX6_begin_15 : decode cX6_begin 15 = .ok (.aload_n 0, 1) := by decide +kernel
theorem dX6_begin_16 : decode cX6_begin 16 = .ok (.iconst (-1), 1) := by decide +kernel
theorem dX6_begin_17 : decode cX6_begin 17 = .ok (.putfield 9, 3) := by decide +kernel
theorem dX6_begin_20 : decode cX6_begin 20 = .ok (.aload_n 0, 1) := by decide +kernel
theorem dX6_begin_21 : decode cX6_begin 21 = .ok (.iconst 0, 1) := by decide +kernel
theorem dX6_begin_22 : decode cX6_begin 22 = .ok (.putfield 52, 3) := by decide +kernel
theorem dX6_begin_25 : decode cX6_begin 25 = .ok (.return_, 1) := by decide +kernel
theorem dX6_readLaw_0 : decode cX6_readLaw 0 = .ok (.aload_n 0, 1) := by decide +kernel
theorem dX6_readLaw_1 : decode cX6_readLaw 1 = .ok (.getfield 18, 3) := by decide +kernel
theorem dX6_readLaw_4 : decode cX6_readLaw 4 = .ok (.ldc 55, 2) := by decide +kernel
theorem dX6_readLaw_6 : decode cX6_readLaw 6 = .ok (.invokevirtual 57, 3) := by decide +kernel
theorem dX6_readLaw_9 : decode cX6_readLaw 9 = .ok (.aload_n 0, 1) := by decide +kernel
theorem dX6_readLaw_10 : decode cX6_readLaw 10 = .ok (.getfield 25, 3) := by decide +kernel
theorem dX6_readLaw_13 : decode cX6_readLaw 13 = .ok (.invokevirtual 61, 3) := by decide +kernel
theorem dX6_readLaw_16 : decode cX6_readLaw 16 = .ok (.iconst 0, 1) := by decide +kernel
theorem dX6_readLaw_17 : decode cX6_readLaw 17 = .ok (.istore_n 2, 1) := by decide +kernel
theorem dX6_readLaw_18 : decode cX6_readLaw 18 = .ok (.iload_n 2, 1) := by decide +kernel
theorem dX6_readLaw_19 : decode cX6_readLaw 19 = .ok (.bipush 16, 2) := by decide +kernel
theorem dX6_readLaw_21 : decode cX6_readLaw 21 = .ok (.if_icmp .gt 26, 3) := by decide +kernel
theorem dX6_readLaw_24 : decode cX6_readLaw 24 = .ok (.aload_n 0, 1) := by decide +kernel
theorem dX6_readLaw_25 : decode cX6_readLaw 25 = .ok (.invokevirtual 64, 3) := by decide +kernel
theorem dX6_readLaw_28 : decode cX6_readLaw 28 = .ok (.ifCond .eq 19, 3) := by decide +kernel
theorem dX6_readLaw_31 : decode cX6_readLaw 31 = .ok (.aload_n 0, 1) := by decide +kernel
theorem dX6_readLaw_32 : decode cX6_readLaw 32 = .ok (.iload_n 2, 1) := by decide +kernel
theorem dX6_readLaw_33 : decode cX6_readLaw 33 = .ok (.invokevirtual 68, 3) := by decide +kernel
theorem dX6_readLaw_36 : decode cX6_readLaw 36 = .ok (.ifCond .ne 5, 3) := by decide +kernel
theorem dX6_readLaw_39 : decode cX6_readLaw 39 = .ok (.iconst (-1), 1) := by decide +kernel
theorem dX6_readLaw_40 : decode cX6_readLaw 40 = .ok (.ireturn, 1) := by decide +kernel
theorem dX6_readLaw_41 : decode cX6_readLaw 41 = .ok (.iinc 2 1, 3) := by decide +kernel
theorem dX6_readLaw_44 : decode cX6_readLaw 44 = .ok (.goto (-26), 3) := by decide +kernel
theorem dX6_readLaw_47 : decode cX6_readLaw 47 = .ok (.aload_n 0, 1) := by decide +kernel
theorem dX6_readLaw_48 : decode cX6_readLaw 48 = .ok (.getfield 25, 3) := by decide +kernel
theorem dX6_readLaw_51 : decode cX6_readLaw 51 = .ok (.getfield 72, 3) := by decide +kernel
theorem dX6_readLaw_54 : decode cX6_readLaw 54 = .ok (.aload_n 0, 1) := by decide +kernel
theorem dX6_readLaw_55 : decode cX6_readLaw 55 = .ok (.getfield 25, 3) := by decide +kernel
theorem dX6_readLaw_58 : decode cX6_readLaw 58 = .ok (.getfield 76, 3) := by decide +kernel
theorem dX6_readLaw_61 : decode cX6_readLaw 61 = .ok (.aload_n 0, 1) := by decide +kernel
theorem dX6_readLaw_62 : decode cX6_readLaw 62 = .ok (.getfield 25, 3) := by decide +kernel
theorem dX6_readLaw_65 : decode cX6_readLaw 65 = .ok (.getfield 79, 3) := by decide +kernel
theorem dX6_readLaw_68 : decode cX6_readLaw 68 = .ok (.iastore, 1) := by decide +kernel
theorem dX6_readLaw_69 : decode cX6_readLaw 69 = .ok (.aload_n 1, 1) := by decide +kernel
theorem dX6_readLaw_70 : decode cX6_readLaw 70 = .ok (.aload_n 0, 1) := by decide +kernel
theorem dX6_readLaw_71 : decode cX6_readLaw 71 = .ok (.getfield 25, 3) := by decide +kernel
theorem dX6_readLaw_74 : decode cX6_readLaw 74 = .ok (.invokevirtual 82, 3) := by decide +kernel
theorem dX6_readLaw_77 : decode cX6_readLaw 77 = .ok (.aload_n 0, 1) := by decide +kernel
theorem dX6_readLaw_78 : decode cX6_readLaw 78 = .ok (.getfield 25, 3) := by decide +kernel
theorem dX6_readLaw_81 : decode cX6_readLaw 81 = .ok (.getfield 76, 3) := by decide +kernel
theorem dX6_readLaw_84 : decode cX6_readLaw 84 = .ok (.ireturn, 1) := by decide +kernel
theorem dX6_readPaths_0 : decode cX6_readPaths 0 = .ok (.aload_n 0, 1) := by decide +kernel
theorem dX6_readPaths_1 : decode cX6_readPaths 1 = .ok (.getfield 18, 3) := by decide +kernel
theorem dX6_readPaths_4 : decode cX6_readPaths 4 = .ok (.ldc 86, 2) := by decide +kernel
theorem dX6_readPaths_6 : decode cX6_readPaths 6 = .ok (.invokevirtual 57, 3) := by decide +kernel
theorem dX6_readPaths_9 : decode cX6_readPaths 9 = .ok (.aload_n 0, 1) := by decide +kernel
theorem dX6_readPaths_10 : decode cX6_readPaths 10 = .ok (.getfield 32, 3) := by decide +kernel
theorem dX6_readPaths_13 : decode cX6_readPaths 13 = .ok (.invokevirtual 88, 3) := by decide +kernel
theorem dX6_readPaths_16 : decode cX6_readPaths 16 = .ok (.iconst 0, 1) := by decide +kernel
theorem dX6_readPaths_17 : decode cX6_readPaths 17 = .ok (.istore_n 2, 1) := by decide +kernel
theorem dX6_readPaths_18 : decode cX6_readPaths 18 = .ok (.iload_n 2, 1) := by decide +kernel
theorem dX6_readPaths_19 : decode cX6_readPaths 19 = .ok (.bipush 16, 2) := by decide +kernel
theorem dX6_readPaths_21 : decode cX6_readPaths 21 = .ok (.if_icmp .gt 26, 3) := by decide +kernel
theorem dX6_readPaths_24 : decode cX6_readPaths 24 = .ok (.aload_n 0, 1) := by decide +kernel
theorem dX6_readPaths_25 : decode cX6_readPaths 25 = .ok (.invokevirtual 64, 3) := by decide +kernel
theorem dX6_readPaths_28 : decode cX6_readPaths 28 = .ok (.ifCond .eq 19, 3) := by decide +kernel
theorem dX6_readPaths_31 : decode cX6_readPaths 31 = .ok (.aload_n 0, 1) := by decide +kernel
theorem dX6_readPaths_32 : decode cX6_readPaths 32 = .ok (.iload_n 2, 1) := by decide +kernel
theorem dX6_readPaths_33 : decode cX6_readPaths 33 = .ok (.invokevirtual 89, 3) := by decide +kernel
theorem dX6_readPaths_36 : decode cX6_readPaths 36 = .ok (.ifCond .ne 5, 3) := by decide +kernel
theorem dX6_readPaths_39 : decode cX6_readPaths 39 = .ok (.iconst (-1), 1) := by decide +kernel
theorem dX6_readPaths_40 : decode cX6_readPaths 40 = .ok (.ireturn, 1) := by decide +kernel
theorem dX6_readPaths_41 : decode cX6_readPaths 41 = .ok (.iinc 2 1, 3) := by decide +kernel
theorem dX6_readPaths_44 : decode cX6_readPaths 44 = .ok (.goto (-26), 3) := by decide +kernel
theorem dX6_readPaths_47 : decode cX6_readPaths 47 = .ok (.aload_n 1, 1) := by decide +kernel
theorem dX6_readPaths_48 : decode cX6_readPaths 48 = .ok (.aload_n 0, 1) := by decide +kernel
theorem dX6_readPaths_49 : decode cX6_readPaths 49 = .ok (.getfield 32, 3) := by decide +kernel
theorem dX6_readPaths_52 : decode cX6_readPaths 52 = .ok (.invokevirtual 92, 3) := by decide +kernel
theorem dX6_readPaths_55 : decode cX6_readPaths 55 = .ok (.aload_n 0, 1) := by decide +kernel
theorem dX6_readPaths_56 : decode cX6_readPaths 56 = .ok (.getfield 32, 3) := by decide +kernel
theorem dX6_readPaths_59 : decode cX6_readPaths 59 = .ok (.getfield 95, 3) := by decide +kernel
theorem dX6_readPaths_62 : decode cX6_readPaths 62 = .ok (.ireturn, 1) := by decide +kernel
theorem dX6_readPlan_0 : decode cX6_readPlan 0 = .ok (.aload_n 0, 1) := by decide +kernel
theorem dX6_readPlan_1 : decode cX6_readPlan 1 = .ok (.getfield 18, 3) := by decide +kernel
theorem dX6_readPlan_4 : decode cX6_readPlan 4 = .ok (.ldc 96, 2) := by decide +kernel
theorem dX6_readPlan_6 : decode cX6_readPlan 6 = .ok (.invokevirtual 57, 3) := by decide +kernel
theorem dX6_readPlan_9 : decode cX6_readPlan 9 = .ok (.aload_n 0, 1) := by decide +kernel
theorem dX6_readPlan_10 : decode cX6_readPlan 10 = .ok (.getfield 39, 3) := by decide +kernel
theorem dX6_readPlan_13 : decode cX6_readPlan 13 = .ok (.iconst 0, 1) := by decide +kernel
theorem dX6_readPlan_14 : decode cX6_readPlan 14 = .ok (.putfield 98, 3) := by decide +kernel
theorem dX6_readPlan_17 : decode cX6_readPlan 17 = .ok (.iconst 0, 1) := by decide +kernel
theorem dX6_readPlan_18 : decode cX6_readPlan 18 = .ok (.istore_n 2, 1) := by decide +kernel
theorem dX6_readPlan_19 : decode cX6_readPlan 19 = .ok (.iload_n 2, 1) := by decide +kernel
theorem dX6_readPlan_20 : decode cX6_readPlan 20 = .ok (.bipush 16, 2) := by decide +kernel
theorem dX6_readPlan_22 : decode cX6_readPlan 22 = .ok (.if_icmp .gt 26, 3) := by decide +kernel
theorem dX6_readPlan_25 : decode cX6_readPlan 25 = .ok (.aload_n 0, 1) := by decide +kernel
theorem dX6_readPlan_26 : decode cX6_readPlan 26 = .ok (.invokevirtual 64, 3) := by decide +kernel
theorem dX6_readPlan_29 : decode cX6_readPlan 29 = .ok (.ifCond .eq 19, 3) := by decide +kernel
theorem dX6_readPlan_32 : decode cX6_readPlan 32 = .ok (.aload_n 0, 1) := by decide +kernel
theorem dX6_readPlan_33 : decode cX6_readPlan 33 = .ok (.iload_n 2, 1) := by decide +kernel
theorem dX6_readPlan_34 : decode cX6_readPlan 34 = .ok (.invokevirtual 99, 3) := by decide +kernel
theorem dX6_readPlan_37 : decode cX6_readPlan 37 = .ok (.ifCond .ne 5, 3) := by decide +kernel
theorem dX6_readPlan_40 : decode cX6_readPlan 40 = .ok (.iconst (-1), 1) := by decide +kernel
theorem dX6_readPlan_41 : decode cX6_readPlan 41 = .ok (.ireturn, 1) := by decide +kernel
theorem dX6_readPlan_42 : decode cX6_readPlan 42 = .ok (.iinc 2 1, 3) := by decide +kernel
theorem dX6_readPlan_45 : decode cX6_readPlan 45 = .ok (.goto (-26), 3) := by decide +kernel
theorem dX6_readPlan_48 : decode cX6_readPlan 48 = .ok (.aload_n 1, 1) := by decide +kernel
theorem dX6_readPlan_49 : decode cX6_readPlan 49 = .ok (.aload_n 0, 1) := by decide +kernel
theorem dX6_readPlan_50 : decode cX6_readPlan 50 = .ok (.getfield 39, 3) := by decide +kernel
theorem dX6_readPlan_53 : decode cX6_readPlan 53 = .ok (.invokevirtual 102, 3) := by decide +kernel
theorem dX6_readPlan_56 : decode cX6_readPlan 56 = .ok (.aload_n 0, 1) := by decide +kernel
theorem dX6_readPlan_57 : decode cX6_readPlan 57 = .ok (.getfield 39, 3) := by decide +kernel
theorem dX6_readPlan_60 : decode cX6_readPlan 60 = .ok (.getfield 98, 3) := by decide +kernel
theorem dX6_readPlan_63 : decode cX6_readPlan 63 = .ok (.ireturn, 1) := by decide +kernel
theorem dX6_lawLine_0 : decode cX6_lawLine 0 = .ok (.aload_n 0, 1) := by decide +kernel
theorem dX6_lawLine_1 : decode cX6_lawLine 1 = .ok (.invokevirtual 64, 3) := by decide +kernel
theorem dX6_lawLine_4 : decode cX6_lawLine 4 = .ok (.istore_n 2, 1) := by decide +kernel
theorem dX6_lawLine_5 : decode cX6_lawLine 5 = .ok (.iload_n 2, 1) := by decide +kernel
theorem dX6_lawLine_6 : decode cX6_lawLine 6 = .ok (.sipush 256, 3) := by decide +kernel
theorem dX6_lawLine_9 : decode cX6_lawLine 9 = .ok (.sipush 258, 3) := by decide +kernel
theorem dX6_lawLine_12 : decode cX6_lawLine 12 = .ok (.invokestatic 105, 3) := by decide +kernel
theorem dX6_lawLine_15 : decode cX6_lawLine 15 = .ok (.ifCond .ne 9, 3) := by decide +kernel
theorem dX6_lawLine_18 : decode cX6_lawLine 18 = .ok (.aload_n 0, 1) := by decide +kernel
theorem dX6_lawLine_19 : decode cX6_lawLine 19 = .ok (.iconst 1, 1) := by decide +kernel
theorem dX6_lawLine_20 : decode cX6_lawLine 20 = .ok (.invokevirtual 109, 3) := by decide +kernel
theorem dX6_lawLine_23 : decode cX6_lawLine 23 = .ok (.ireturn, 1) := by decide +kernel
theorem dX6_lawLine_24 : decode cX6_lawLine 24 = .ok (.iload_n 1, 1) := by decide +kernel
theorem dX6_lawLine_25 : decode cX6_lawLine 25 = .ok (.bipush 16, 2) := by decide +kernel
theorem dX6_lawLine_27 : decode cX6_lawLine 27 = .ok (.if_icmp .lt 9, 3) := by decide +kernel
theorem dX6_lawLine_30 : decode cX6_lawLine 30 = .ok (.aload_n 0, 1) := by decide +kernel
theorem dX6_lawLine_31 : decode cX6_lawLine 31 = .ok (.iconst 3, 1) := by decide +kernel
theorem dX6_lawLine_32 : decode cX6_lawLine 32 = .ok (.invokevirtual 109, 3) := by decide +kernel
theorem dX6_lawLine_35 : decode cX6_lawLine 35 = .ok (.ireturn, 1) := by decide +kernel
theorem dX6_lawLine_36 : decode cX6_lawLine 36 = .ok (.aload_n 0, 1) := by decide +kernel
theorem dX6_lawLine_37 : decode cX6_lawLine 37 = .ok (.dup, 1) := by decide +kernel
theorem dX6_lawLine_38 : decode cX6_lawLine 38 = .ok (.getfield 52, 3) := by decide +kernel
theorem dX6_lawLine_41 : decode cX6_lawLine 41 = .ok (.iconst 1, 1) := by decide +kernel
theorem dX6_lawLine_42 : decode cX6_lawLine 42 = .ok (.iadd, 1) := by decide +kernel
theorem dX6_lawLine_43 : decode cX6_lawLine 43 = .ok (.putfield 52, 3) := by decide +kernel
theorem dX6_lawLine_46 : decode cX6_lawLine 46 = .ok (.aload_n 0, 1) := by decide +kernel
theorem dX6_lawLine_47 : decode cX6_lawLine 47 = .ok (.getfield 25, 3) := by decide +kernel
theorem dX6_lawLine_50 : decode cX6_lawLine 50 = .ok (.getfield 112, 3) := by decide +kernel
theorem dX6_lawLine_53 : decode cX6_lawLine 53 = .ok (.iload_n 1, 1) := by decide +kernel
theorem dX6_lawLine_54 : decode cX6_lawLine 54 = .ok (.iload_n 2, 1) := by decide +kernel
theorem dX6_lawLine_55 : decode cX6_lawLine 55 = .ok (.sipush 256, 3) := by decide +kernel
theorem dX6_lawLine_58 : decode cX6_lawLine 58 = .ok (.isub, 1) := by decide +kernel
theorem dX6_lawLine_59 : decode cX6_lawLine 59 = .ok (.iastore, 1) := by decide +kernel
theorem dX6_lawLine_60 : decode cX6_lawLine 60 = .ok (.aload_n 0, 1) := by decide +kernel
theorem dX6_lawLine_61 : decode cX6_lawLine 61 = .ok (.getfield 25, 3) := by decide +kernel
theorem dX6_lawLine_64 : decode cX6_lawLine 64 = .ok (.getfield 72, 3) := by decide +kernel
theorem dX6_lawLine_67 : decode cX6_lawLine 67 = .ok (.iload_n 1, 1) := by decide +kernel
theorem dX6_lawLine_68 : decode cX6_lawLine 68 = .ok (.aload_n 0, 1) := by decide +kernel
theorem dX6_lawLine_69 : decode cX6_lawLine 69 = .ok (.getfield 25, 3) := by decide +kernel
theorem dX6_lawLine_72 : decode cX6_lawLine 72 = .ok (.getfield 79, 3) := by decide +kernel
theorem dX6_lawLine_75 : decode cX6_lawLine 75 = .ok (.iastore, 1) := by decide +kernel
theorem dX6_lawLine_76 : decode cX6_lawLine 76 = .ok (.aload_n 0, 1) := by decide +kernel
theorem dX6_lawLine_77 : decode cX6_lawLine 77 = .ok (.invokevirtual 115, 3) := by decide +kernel
theorem dX6_lawLine_80 : decode cX6_lawLine 80 = .ok (.ifCond .ne 5, 3) := by decide +kernel
theorem dX6_lawLine_83 : decode cX6_lawLine 83 = .ok (.iconst 0, 1) := by decide +kernel
theorem dX6_lawLine_84 : decode cX6_lawLine 84 = .ok (.ireturn, 1) := by decide +kernel
theorem dX6_lawLine_85 : decode cX6_lawLine 85 = .ok (.aload_n 0, 1) := by decide +kernel
theorem dX6_lawLine_86 : decode cX6_lawLine 86 = .ok (.getfield 25, 3) := by decide +kernel
theorem dX6_lawLine_89 : decode cX6_lawLine 89 = .ok (.getfield 119, 3) := by decide +kernel
theorem dX6_lawLine_92 : decode cX6_lawLine 92 = .ok (.iload_n 1, 1) := by decide +kernel
theorem dX6_lawLine_93 : decode cX6_lawLine 93 = .ok (.aload_n 0, 1) := by decide +kernel
theorem dX6_lawLine_94 : decode cX6_lawLine 94 = .ok (.getfield 25, 3) := by decide +kernel
theorem dX6_lawLine_97 : decode cX6_lawLine 97 = .ok (.getfield 79, 3) := by decide +kernel
theorem dX6_lawLine_100 : decode cX6_lawLine 100 = .ok (.iastore, 1) := by decide +kernel
theorem dX6_lawLine_101 : decode cX6_lawLine 101 = .ok (.aload_n 0, 1) := by decide +kernel
theorem dX6_lawLine_102 : decode cX6_lawLine 102 = .ok (.invokevirtual 64, 3) := by decide +kernel
theorem dX6_lawLine_105 : decode cX6_lawLine 105 = .ok (.sipush 259, 3) := by decide +kernel
theorem dX6_lawLine_108 : decode cX6_lawLine 108 = .ok (.if_icmp .ne 23, 3) := by decide +kernel
theorem dX6_lawLine_111 : decode cX6_lawLine 111 = .ok (.aload_n 0, 1) := by decide +kernel
theorem dX6_lawLine_112 : decode cX6_lawLine 112 = .ok (.dup, 1) := by decide +kernel
theorem dX6_lawLine_113 : decode cX6_lawLine 113 = .ok (.getfield 52, 3) := by decide +kernel
theorem dX6_lawLine_116 : decode cX6_lawLine 116 = .ok (.iconst 1, 1) := by decide +kernel
theorem dX6_lawLine_117 : decode cX6_lawLine 117 = .ok (.iadd, 1) := by decide +kernel
theorem dX6_lawLine_118 : decode cX6_lawLine 118 = .ok (.putfield 52, 3) := by decide +kernel
theorem dX6_lawLine_121 : decode cX6_lawLine 121 = .ok (.aload_n 0, 1) := by decide +kernel
theorem dX6_lawLine_122 : decode cX6_lawLine 122 = .ok (.iconst 0, 1) := by decide +kernel
theorem dX6_lawLine_123 : decode cX6_lawLine 123 = .ok (.invokevirtual 122, 3) := by decide +kernel
theorem dX6_lawLine_126 : decode cX6_lawLine 126 = .ok (.ifCond .ne 5, 3) := by decide +kernel
theorem dX6_lawLine_129 : decode cX6_lawLine 129 = .ok (.iconst 0, 1) := by decide +kernel
theorem dX6_lawLine_130 : decode cX6_lawLine 130 = .ok (.ireturn, 1) := by decide +kernel
theorem dX6_lawLine_131 : decode cX6_lawLine 131 = .ok (.aload_n 0, 1) := by decide +kernel
theorem dX6_lawLine_132 : decode cX6_lawLine 132 = .ok (.getfield 25, 3) := by decide +kernel
theorem dX6_lawLine_135 : decode cX6_lawLine 135 = .ok (.dup, 1) := by decide +kernel
theorem dX6_lawLine_136 : decode cX6_lawLine 136 = .ok (.getfield 76, 3) := by decide +kernel
theorem dX6_lawLine_139 : decode cX6_lawLine 139 = .ok (.iconst 1, 1) := by decide +kernel
theorem dX6_lawLine_140 : decode cX6_lawLine 140 = .ok (.iadd, 1) := by decide +kernel
theorem dX6_lawLine_141 : decode cX6_lawLine 141 = .ok (.putfield 76, 3) := by decide +kernel
theorem dX6_lawLine_144 : decode cX6_lawLine 144 = .ok (.aload_n 0, 1) := by decide +kernel
theorem dX6_lawLine_145 : decode cX6_lawLine 145 = .ok (.bipush 59, 2) := by decide +kernel
theorem dX6_lawLine_147 : decode cX6_lawLine 147 = .ok (.invokevirtual 125, 3) := by decide +kernel
theorem dX6_lawLine_150 : decode cX6_lawLine 150 = .ok (.ireturn, 1) := by decide +kernel
theorem dX6_condition_0 : decode cX6_condition 0 = .ok (.iconst 0, 1) := by decide +kernel
theorem dX6_condition_1 : decode cX6_condition 1 = .ok (.istore_n 2, 1) := by decide +kernel
theorem dX6_condition_2 : decode cX6_condition 2 = .ok (.aload_n 0, 1) := by decide +kernel
theorem dX6_condition_3 : decode cX6_condition 3 = .ok (.iload_n 1, 1) := by decide +kernel
theorem dX6_condition_4 : decode cX6_condition 4 = .ok (.invokevirtual 128, 3) := by decide +kernel
theorem dX6_condition_7 : decode cX6_condition 7 = .ok (.ifCond .ne 5, 3) := by decide +kernel
theorem dX6_condition_10 : decode cX6_condition 10 = .ok (.iconst 0, 1) := by decide +kernel
theorem dX6_condition_11 : decode cX6_condition 11 = .ok (.ireturn, 1) := by decide +kernel
theorem dX6_condition_12 : decode cX6_condition 12 = .ok (.aload_n 0, 1) := by decide +kernel
theorem dX6_condition_13 : decode cX6_condition 13 = .ok (.getfield 52, 3) := by decide +kernel
theorem dX6_condition_16 : decode cX6_condition 16 = .ok (.aload_n 0, 1) := by decide +kernel
theorem dX6_condition_17 : decode cX6_condition 17 = .ok (.getfield 18, 3) := by decide +kernel
theorem dX6_condition_20 : decode cX6_condition 20 = .ok (.getfield 131, 3) := by decide +kernel
theorem dX6_condition_23 : decode cX6_condition 23 = .ok (.if_icmp .ge 108, 3) := by decide +kernel
theorem dX6_condition_26 : decode cX6_condition 26 = .ok (.aload_n 0, 1) := by decide +kernel
theorem dX6_condition_27 : decode cX6_condition 27 = .ok (.invokevirtual 64, 3) := by decide +kernel
theorem dX6_condition_30 : decode cX6_condition 30 = .ok (.sipush 260, 3) := by decide +kernel
theorem dX6_condition_33 : decode cX6_condition 33 = .ok (.if_icmp .eq 13, 3) := by decide +kernel
theorem dX6_condition_36 : decode cX6_condition 36 = .ok (.aload_n 0, 1) := by decide +kernel
theorem dX6_condition_37 : decode cX6_condition 37 = .ok (.invokevirtual 64, 3) := by decide +kernel
theorem dX6_condition_40 : decode cX6_condition 40 = .ok (.sipush 261, 3) := by decide +kernel
theorem dX6_condition_43 : decode cX6_condition 43 = .ok (.if_icmp .ne 88, 3) := by decide +kernel
theorem dX6_condition_46 : decode cX6_condition 46 = .ok (.aload_n 0, 1) := by decide +kernel
theorem dX6_condition_47 : decode cX6_condition 47 = .ok (.invokevirtual 64, 3) := by decide +kernel
theorem dX6_condition_50 : decode cX6_condition 50 = .ok (.sipush 260, 3) := by decide +kernel
theorem dX6_condition_53 : decode cX6_condition 53 = .ok (.if_icmp .ne 7, 3) := by decide +kernel
theorem dX6_condition_56 : decode cX6_condition 56 = .ok (.iconst 1, 1) := by decide +kernel
theorem dX6_condition_57 : decode cX6_condition 57 = .ok (.goto 4, 3) := by decide +kernel
theorem dX6_condition_60 : decode cX6_condition 60 = .ok (.iconst 0, 1) := by decide +kernel
theorem dX6_condition_61 : decode cX6_condition 61 = .ok (.istore_n 3, 1) := by decide +kernel
theorem dX6_condition_62 : decode cX6_condition 62 = .ok (.aload_n 0, 1) := by decide +kernel
theorem dX6_condition_63 : decode cX6_condition 63 = .ok (.dup, 1) := by decide +kernel
theorem dX6_condition_64 : decode cX6_condition 64 = .ok (.getfield 52, 3) := by decide +kernel
theorem dX6_condition_67 : decode cX6_condition 67 = .ok (.iconst 1, 1) := by decide +kernel
theorem dX6_condition_68 : decode cX6_condition 68 = .ok (.iadd, 1) := by decide +kernel
theorem dX6_condition_69 : decode cX6_condition 69 = .ok (.putfield 52, 3) := by decide +kernel
theorem dX6_condition_72 : decode cX6_condition 72 = .ok (.iload_n 3, 1) := by decide +kernel
theorem dX6_condition_73 : decode cX6_condition 73 = .ok (.ifCond .eq 17, 3) := by decide +kernel
theorem dX6_condition_76 : decode cX6_condition 76 = .ok (.iload_n 2, 1) := by decide +kernel
theorem dX6_condition_77 : decode cX6_condition 77 = .ok (.ifCond .eq 13, 3) := by decide +kernel
theorem dX6_condition_80 : decode cX6_condition 80 = .ok (.aload_n 0, 1) := by decide +kernel
theorem dX6_condition_81 : decode cX6_condition 81 = .ok (.getfield 25, 3) := by decide +kernel
theorem dX6_condition_84 : decode cX6_condition 84 = .ok (.bipush 11, 2) := by decide +kernel
theorem dX6_condition_86 : decode cX6_condition 86 = .ok (.iconst 0, 1) := by decide +kernel
theorem dX6_condition_87 : decode cX6_condition 87 = .ok (.invokevirtual 134, 3) := by decide +kernel
theorem dX6_condition_90 : decode cX6_condition 90 = .ok (.iload_n 2, 1) := by decide +kernel
theorem dX6_condition_91 : decode cX6_condition 91 = .ok (.ifCond .ne 7, 3) := by decide +kernel
theorem dX6_condition_94 : decode cX6_condition 94 = .ok (.iload_n 3, 1) := by decide +kernel
theorem dX6_condition_95 : decode cX6_condition 95 = .ok (.ifCond .eq 7, 3) := by decide +kernel
theorem dX6_condition_98 : decode cX6_condition 98 = .ok (.iconst 1, 1) := by decide +kernel
theorem dX6_condition_99 : decode cX6_condition 99 = .ok (.goto 4, 3) := by decide +kernel
theorem dX6_condition_102 : decode cX6_condition 102 = .ok (.iconst 0, 1) := by decide +kernel
theorem dX6_condition_103 : decode cX6_condition 103 = .ok (.istore_n 2, 1) := by decide +kernel
theorem dX6_condition_104 : decode cX6_condition 104 = .ok (.aload_n 0, 1) := by decide +kernel
theorem dX6_condition_105 : decode cX6_condition 105 = .ok (.iload_n 1, 1) := by decide +kernel
theorem dX6_condition_106 : decode cX6_condition 106 = .ok (.invokevirtual 128, 3) := by decide +kernel
theorem dX6_condition_109 : decode cX6_condition 109 = .ok (.ifCond .ne 5, 3) := by decide +kernel
theorem dX6_condition_112 : decode cX6_condition 112 = .ok (.iconst 0, 1) := by decide +kernel
theorem dX6_condition_113 : decode cX6_condition 113 = .ok (.ireturn, 1) := by decide +kernel
theorem dX6_condition_114 : decode cX6_condition 114 = .ok (.iload_n 3, 1) := by decide +kernel
theorem dX6_condition_115 : decode cX6_condition 115 = .ok (.ifCond .ne 13, 3) := by decide +kernel
theorem dX6_condition_118 : decode cX6_condition 118 = .ok (.aload_n 0, 1) := by decide +kernel
theorem dX6_condition_119 : decode cX6_condition 119 = .ok (.getfield 25, 3) := by decide +kernel
theorem dX6_condition_122 : decode cX6_condition 122 = .ok (.bipush 10, 2) := by decide +kernel
theorem dX6_condition_124 : decode cX6_condition 124 = .ok (.iconst 0, 1) := by decide +kernel
theorem dX6_condition_125 : decode cX6_condition 125 = .ok (.invokevirtual 134, 3) := by decide +kernel
theorem dX6_condition_128 : decode cX6_condition 128 = .ok (.goto (-116), 3) := by decide +kernel
theorem dX6_condition_131 : decode cX6_condition 131 = .ok (.iload_n 2, 1) := by decide +kernel
theorem dX6_condition_132 : decode cX6_condition 132 = .ok (.ifCond .eq 13, 3) := by decide +kernel
theorem dX6_condition_135 : decode cX6_condition 135 = .ok (.aload_n 0, 1) := by decide +kernel
theorem dX6_condition_136 : decode cX6_condition 136 = .ok (.getfield 25, 3) := by decide +kernel
theorem dX6_condition_139 : decode cX6_condition 139 = .ok (.bipush 11, 2) := by decide +kernel
theorem dX6_condition_141 : decode cX6_condition 141 = .ok (.iconst 0, 1) := by decide +kernel
theorem dX6_condition_142 : decode cX6_condition 142 = .ok (.invokevirtual 134, 3) := by decide +kernel
theorem dX6_condition_145 : decode cX6_condition 145 = .ok (.iconst 1, 1) := by decide +kernel
theorem dX6_condition_146 : decode cX6_condition 146 = .ok (.ireturn, 1) := by decide +kernel
theorem dX6_single_0 : decode cX6_single 0 = .ok (.aload_n 0, 1) := by decide +kernel
theorem dX6_single_1 : decode cX6_single 1 = .ok (.invokevirtual 64, 3) := by decide +kernel
theorem dX6_single_4 : decode cX6_single 4 = .ok (.istore_n 2, 1) := by decide +kernel
theorem dX6_single_5 : decode cX6_single 5 = .ok (.iload_n 2, 1) := by decide +kernel
theorem dX6_single_6 : decode cX6_single 6 = .ok (.sipush 262, 3) := by decide +kernel
theorem dX6_single_9 : decode cX6_single 9 = .ok (.if_icmp .eq 9, 3) := by decide +kernel
theorem dX6_single_12 : decode cX6_single 12 = .ok (.iload_n 2, 1) := by decide +kernel
theorem dX6_single_13 : decode cX6_single 13 = .ok (.bipush 40, 2) := by decide +kernel
theorem dX6_single_15 : decode cX6_single 15 = .ok (.if_icmp .ne 79, 3) := by decide +kernel
theorem dX6_single_18 : decode cX6_single 18 = .ok (.iload_n 1, 1) := by decide +kernel
theorem dX6_single_19 : decode cX6_single 19 = .ok (.bipush 8, 2) := by decide +kernel
theorem dX6_single_21 : decode cX6_single 21 = .ok (.if_icmp .lt 9, 3) := by decide +kernel
theorem dX6_single_24 : decode cX6_single 24 = .ok (.aload_n 0, 1) := by decide +kernel
theorem dX6_single_25 : decode cX6_single 25 = .ok (.iconst 3, 1) := by decide +kernel
theorem dX6_single_26 : decode cX6_single 26 = .ok (.invokevirtual 109, 3) := by decide +kernel
theorem dX6_single_29 : decode cX6_single 29 = .ok (.ireturn, 1) := by decide +kernel
theorem dX6_single_30 : decode cX6_single 30 = .ok (.aload_n 0, 1) := by decide +kernel
theorem dX6_single_31 : decode cX6_single 31 = .ok (.dup, 1) := by decide +kernel
theorem dX6_single_32 : decode cX6_single 32 = .ok (.getfield 52, 3) := by decide +kernel
theorem dX6_single_35 : decode cX6_single 35 = .ok (.iconst 1, 1) := by decide +kernel
theorem dX6_single_36 : decode cX6_single 36 = .ok (.iadd, 1) := by decide +kernel
theorem dX6_single_37 : decode cX6_single 37 = .ok (.putfield 52, 3) := by decide +kernel
theorem dX6_single_40 : decode cX6_single 40 = .ok (.iload_n 2, 1) := by decide +kernel
theorem dX6_single_41 : decode cX6_single 41 = .ok (.bipush 40, 2) := by decide +kernel
theorem dX6_single_43 : decode cX6_single 43 = .ok (.if_icmp .ne 28, 3) := by decide +kernel
theorem dX6_single_46 : decode cX6_single 46 = .ok (.aload_n 0, 1) := by decide +kernel
theorem dX6_single_47 : decode cX6_single 47 = .ok (.iload_n 1, 1) := by decide +kernel
theorem dX6_single_48 : decode cX6_single 48 = .ok (.iconst 1, 1) := by decide +kernel
theorem dX6_single_49 : decode cX6_single 49 = .ok (.iadd, 1) := by decide +kernel
theorem dX6_single_50 : decode cX6_single 50 = .ok (.invokevirtual 122, 3) := by decide +kernel
theorem dX6_single_53 : decode cX6_single 53 = .ok (.ifCond .eq 16, 3) := by decide +kernel
theorem dX6_single_56 : decode cX6_single 56 = .ok (.aload_n 0, 1) := by decide +kernel
theorem dX6_single_57 : decode cX6_single 57 = .ok (.bipush 41, 2) := by decide +kernel
theorem dX6_single_59 : decode cX6_single 59 = .ok (.invokevirtual 125, 3) := by decide +kernel
theorem dX6_single_62 : decode cX6_single 62 = .ok (.ifCond .eq 7, 3) := by decide +kernel
theorem dX6_single_65 : decode cX6_single 65 = .ok (.iconst 1, 1) := by decide +kernel
theorem dX6_single_66 : decode cX6_single 66 = .ok (.goto 4, 3) := by decide +kernel
theorem dX6_single_69 : decode cX6_single 69 = .ok (.iconst 0, 1) := by decide +kernel
theorem dX6_single_70 : decode cX6_single 70 = .ok (.ireturn, 1) := by decide +kernel
theorem dX6_single_71 : decode cX6_single 71 = .ok (.aload_n 0, 1) := by decide +kernel
theorem dX6_single_72 : decode cX6_single 72 = .ok (.iload_n 1, 1) := by decide +kernel
theorem dX6_single_73 : decode cX6_single 73 = .ok (.iconst 1, 1) := by decide +kernel
theorem dX6_single_74 : decode cX6_single 74 = .ok (.iadd, 1) := by decide +kernel
theorem dX6_single_75 : decode cX6_single 75 = .ok (.invokevirtual 128, 3) := by decide +kernel
theorem dX6_single_78 : decode cX6_single 78 = .ok (.ifCond .ne 5, 3) := by decide +kernel
theorem dX6_single_81 : decode cX6_single 81 = .ok (.iconst 0, 1) := by decide +kernel
theorem dX6_single_82 : decode cX6_single 82 = .ok (.ireturn, 1) := by decide +kernel
theorem dX6_single_83 : decode cX6_single 83 = .ok (.aload_n 0, 1) := by decide +kernel
theorem dX6_single_84 : decode cX6_single 84 = .ok (.getfield 25, 3) := by decide +kernel
theorem dX6_single_87 : decode cX6_single 87 = .ok (.iconst 3, 1) := by decide +kernel
theorem dX6_single_88 : decode cX6_single 88 = .ok (.iconst 0, 1) := by decide +kernel
theorem dX6_single_89 : decode cX6_single 89 = .ok (.invokevirtual 134, 3) := by decide +kernel
theorem dX6_single_92 : decode cX6_single 92 = .ok (.iconst 1, 1) := by decide +kernel
theorem dX6_single_93 : decode cX6_single 93 = .ok (.ireturn, 1) := by decide +kernel
theorem dX6_single_94 : decode cX6_single 94 = .ok (.aload_n 0, 1) := by decide +kernel
theorem dX6_single_95 : decode cX6_single 95 = .ok (.invokevirtual 115, 3) := by decide +kernel
theorem dX6_single_98 : decode cX6_single 98 = .ok (.ifCond .ne 5, 3) := by decide +kernel
theorem dX6_single_101 : decode cX6_single 101 = .ok (.iconst 0, 1) := by decide +kernel
theorem dX6_single_102 : decode cX6_single 102 = .ok (.ireturn, 1) := by decide +kernel
theorem dX6_single_103 : decode cX6_single 103 = .ok (.aload_n 0, 1) := by decide +kernel
theorem dX6_single_104 : decode cX6_single 104 = .ok (.invokevirtual 64, 3) := by decide +kernel
theorem dX6_single_107 : decode cX6_single 107 = .ok (.istore_n 3, 1) := by decide +kernel
theorem dX6_single_108 : decode cX6_single 108 = .ok (.iload_n 3, 1) := by decide +kernel
theorem dX6_single_109 : decode cX6_single 109 = .ok (.bipush 60, 2) := by decide +kernel
theorem dX6_single_111 : decode cX6_single 111 = .ok (.if_icmp .eq 21, 3) := by decide +kernel
theorem dX6_single_114 : decode cX6_single 114 = .ok (.iload_n 3, 1) := by decide +kernel
theorem dX6_single_115 : decode cX6_single 115 = .ok (.bipush 61, 2) := by decide +kernel
theorem dX6_single_117 : decode cX6_single 117 = .ok (.if_icmp .eq 15, 3) := by decide +kernel
theorem dX6_single_120 : decode cX6_single 120 = .ok (.iload_n 3, 1) := by decide +kernel
theorem dX6_single_121 : decode cX6_single 121 = .ok (.bipush 62, 2) := by decide +kernel
theorem dX6_single_123 : decode cX6_single 123 = .ok (.if_icmp .eq 9, 3) := by decide +kernel
theorem dX6_single_126 : decode cX6_single 126 = .ok (.aload_n 0, 1) := by decide +kernel
theorem dX6_single_127 : decode cX6_single 127 = .ok (.iconst 1, 1) := by decide +kernel
theorem dX6_single_128 : decode cX6_single 128 = .ok (.invokevirtual 109, 3) := by decide +kernel
theorem dX6_single_131 : decode cX6_single 131 = .ok (.ireturn, 1) := by decide +kernel
theorem dX6_single_132 : decode cX6_single 132 = .ok (.aload_n 0, 1) := by decide +kernel
theorem dX6_single_133 : decode cX6_single 133 = .ok (.dup, 1) := by decide +kernel
theorem dX6_single_134 : decode cX6_single 134 = .ok (.getfield 52, 3) := by decide +kernel
theorem dX6_single_137 : decode cX6_single 137 = .ok (.iconst 1, 1) := by decide +kernel
theorem dX6_single_138 : decode cX6_single 138 = .ok (.iadd, 1) := by decide +kernel
theorem dX6_single_139 : decode cX6_single 139 = .ok (.putfield 52, 3) := by decide +kernel
theorem dX6_single_142 : decode cX6_single 142 = .ok (.aload_n 0, 1) := by decide +kernel
theorem dX6_single_143 : decode cX6_single 143 = .ok (.invokevirtual 115, 3) := by decide +kernel
theorem dX6_single_146 : decode cX6_single 146 = .ok (.ifCond .ne 5, 3) := by decide +kernel
theorem dX6_single_149 : decode cX6_single 149 = .ok (.iconst 0, 1) := by decide +kernel
theorem dX6_single_150 : decode cX6_single 150 = .ok (.ireturn, 1) := by decide +kernel
theorem dX6_single_151 : decode cX6_single 151 = .ok (.aload_n 0, 1) := by decide +kernel
theorem dX6_single_152 : decode cX6_single 152 = .ok (.getfield 25, 3) := by decide +kernel
theorem dX6_single_155 : decode cX6_single 155 = .ok (.iload_n 3, 1) := by decide +kernel
theorem dX6_single_156 : decode cX6_single 156 = .ok (.bipush 60, 2) := by decide +kernel
theorem dX6_single_158 : decode cX6_single 158 = .ok (.if_icmp .ne 8, 3) := by decide +kernel
theorem dX6_single_161 : decode cX6_single 161 = .ok (.bipush 7, 2) := by decide +kernel
theorem dX6_single_163 : decode cX6_single 163 = .ok (.goto 16, 3) := by decide +kernel
theorem dX6_single_166 : decode cX6_single 166 = .ok (.iload_n 3, 1) := by decide +kernel
theorem dX6_single_167 : decode cX6_single 167 = .ok (.bipush 61, 2) := by decide +kernel
theorem dX6_single_169 : decode cX6_single 169 = .ok (.if_icmp .ne 8, 3) := by decide +kernel
theorem dX6_single_172 : decode cX6_single 172 = .ok (.bipush 8, 2) := by decide +kernel
theorem dX6_single_174 : decode cX6_single 174 = .ok (.goto 5, 3) := by decide +kernel
theorem dX6_single_177 : decode cX6_single 177 = .ok (.bipush 9, 2) := by decide +kernel
theorem dX6_single_179 : decode cX6_single 179 = .ok (.iconst 0, 1) := by decide +kernel
theorem dX6_single_180 : decode cX6_single 180 = .ok (.invokevirtual 134, 3) := by decide +kernel
theorem dX6_single_183 : decode cX6_single 183 = .ok (.iconst 1, 1) := by decide +kernel
theorem dX6_single_184 : decode cX6_single 184 = .ok (.ireturn, 1) := by decide +kernel
theorem dX6_sum_0 : decode cX6_sum 0 = .ok (.iconst (-1), 1) := by decide +kernel
theorem dX6_sum_1 : decode cX6_sum 1 = .ok (.istore_n 1, 1) := by decide +kernel
theorem dX6_sum_2 : decode cX6_sum 2 = .ok (.aload_n 0, 1) := by decide +kernel
theorem dX6_sum_3 : decode cX6_sum 3 = .ok (.invokevirtual 138, 3) := by decide +kernel
theorem dX6_sum_6 : decode cX6_sum 6 = .ok (.ifCond .ne 5, 3) := by decide +kernel
theorem dX6_sum_9 : decode cX6_sum 9 = .ok (.iconst 0, 1) := by decide +kernel
theorem dX6_sum_10 : decode cX6_sum 10 = .ok (.ireturn, 1) := by decide +kernel
theorem dX6_sum_11 : decode cX6_sum 11 = .ok (.aload_n 0, 1) := by decide +kernel
theorem dX6_sum_12 : decode cX6_sum 12 = .ok (.invokevirtual 64, 3) := by decide +kernel
theorem dX6_sum_15 : decode cX6_sum 15 = .ok (.istore_n 2, 1) := by decide +kernel
theorem dX6_sum_16 : decode cX6_sum 16 = .ok (.aload_n 0, 1) := by decide +kernel
theorem dX6_sum_17 : decode cX6_sum 17 = .ok (.getfield 52, 3) := by decide +kernel
theorem dX6_sum_20 : decode cX6_sum 20 = .ok (.aload_n 0, 1) := by decide +kernel
theorem dX6_sum_21 : decode cX6_sum 21 = .ok (.getfield 18, 3) := by decide +kernel
theorem dX6_sum_24 : decode cX6_sum 24 = .ok (.getfield 131, 3) := by decide +kernel
theorem dX6_sum_27 : decode cX6_sum 27 = .ok (.if_icmp .ge 157, 3) := by decide +kernel
theorem dX6_sum_30 : decode cX6_sum 30 = .ok (.iload_n 2, 1) := by decide +kernel
theorem dX6_sum_31 : decode cX6_sum 31 = .ok (.bipush 42, 2) := by decide +kernel
theorem dX6_sum_33 : decode cX6_sum 33 = .ok (.if_icmp .eq 21, 3) := by decide +kernel
theorem dX6_sum_36 : decode cX6_sum 36 = .ok (.iload_n 2, 1) := by decide +kernel
theorem dX6_sum_37 : decode cX6_sum 37 = .ok (.bipush 47, 2) := by decide +kernel
theorem dX6_sum_39 : decode cX6_sum 39 = .ok (.if_icmp .eq 15, 3) := by decide +kernel
theorem dX6_sum_42 : decode cX6_sum 42 = .ok (.iload_n 2, 1) := by decide +kernel
theorem dX6_sum_43 : decode cX6_sum 43 = .ok (.bipush 43, 2) := by decide +kernel
theorem dX6_sum_45 : decode cX6_sum 45 = .ok (.if_icmp .eq 9, 3) := by decide +kernel
theorem dX6_sum_48 : decode cX6_sum 48 = .ok (.iload_n 2, 1) := by decide +kernel
theorem dX6_sum_49 : decode cX6_sum 49 = .ok (.bipush 45, 2) := by decide +kernel
theorem dX6_sum_51 : decode cX6_sum 51 = .ok (.if_icmp .ne 133, 3) := by decide +kernel
theorem dX6_sum_54 : decode cX6_sum 54 = .ok (.aload_n 0, 1) := by decide +kernel
theorem dX6_sum_55 : decode cX6_sum 55 = .ok (.dup, 1) := by decide +kernel
theorem dX6_sum_56 : decode cX6_sum 56 = .ok (.getfield 52, 3) := by decide +kernel
theorem dX6_sum_59 : decode cX6_sum 59 = .ok (.iconst 1, 1) := by decide +kernel
theorem dX6_sum_60 : decode cX6_sum 60 = .ok (.iadd, 1) := by decide +kernel
theorem dX6_sum_61 : decode cX6_sum 61 = .ok (.putfield 52, 3) := by decide +kernel
theorem dX6_sum_64 : decode cX6_sum 64 = .ok (.iload_n 1, 1) := by decide +kernel
theorem dX6_sum_65 : decode cX6_sum 65 = .ok (.iconst (-1), 1) := by decide +kernel
theorem dX6_sum_66 : decode cX6_sum 66 = .ok (.if_icmp .eq 24, 3) := by decide +kernel
theorem dX6_sum_69 : decode cX6_sum 69 = .ok (.iload_n 2, 1) := by decide +kernel
theorem dX6_sum_70 : decode cX6_sum 70 = .ok (.bipush 43, 2) := by decide +kernel
theorem dX6_sum_72 : decode cX6_sum 72 = .ok (.if_icmp .eq 9, 3) := by decide +kernel
theorem dX6_sum_75 : decode cX6_sum 75 = .ok (.iload_n 2, 1) := by decide +kernel
theorem dX6_sum_76 : decode cX6_sum 76 = .ok (.bipush 45, 2) := by decide +kernel
theorem dX6_sum_78 : decode cX6_sum 78 = .ok (.if_icmp .ne 12, 3) := by decide +kernel
theorem dX6_sum_81 : decode cX6_sum 81 = .ok (.aload_n 0, 1) := by decide +kernel
theorem dX6_sum_82 : decode cX6_sum 82 = .ok (.getfield 25, 3) := by decide +kernel
theorem dX6_sum_85 : decode cX6_sum 85 = .ok (.iload_n 1, 1) := by decide +kernel
theorem dX6_sum_86 : decode cX6_sum 86 = .ok (.iconst 0, 1) := by decide +kernel
theorem dX6_sum_87 : decode cX6_sum 87 = .ok (.invokevirtual 134, 3) := by decide +kernel
theorem dX6_sum_90 : decode cX6_sum 90 = .ok (.iload_n 2, 1) := by decide +kernel
theorem dX6_sum_91 : decode cX6_sum 91 = .ok (.bipush 47, 2) := by decide +kernel
theorem dX6_sum_93 : decode cX6_sum 93 = .ok (.if_icmp .ne 14, 3) := by decide +kernel
theorem dX6_sum_96 : decode cX6_sum 96 = .ok (.aload_n 0, 1) := by decide +kernel
theorem dX6_sum_97 : decode cX6_sum 97 = .ok (.iconst 1, 1) := by decide +kernel
theorem dX6_sum_98 : decode cX6_sum 98 = .ok (.sipush 9999, 3) := by decide +kernel
theorem dX6_sum_101 : decode cX6_sum 101 = .ok (.invokevirtual 141, 3) := by decide +kernel
theorem dX6_sum_104 : decode cX6_sum 104 = .ok (.goto 4, 3) := by decide +kernel
theorem dX6_sum_107 : decode cX6_sum 107 = .ok (.iconst 0, 1) := by decide +kernel
theorem dX6_sum_108 : decode cX6_sum 108 = .ok (.istore_n 3, 1) := by decide +kernel
theorem dX6_sum_109 : decode cX6_sum 109 = .ok (.iload_n 3, 1) := by decide +kernel
theorem dX6_sum_110 : decode cX6_sum 110 = .ok (.iconst (-1), 1) := by decide +kernel
theorem dX6_sum_111 : decode cX6_sum 111 = .ok (.if_icmp .eq 14, 3) := by decide +kernel
theorem dX6_sum_114 : decode cX6_sum 114 = .ok (.iload_n 3, 1) := by decide +kernel
theorem dX6_sum_115 : decode cX6_sum 115 = .ok (.ifCond .ne 12, 3) := by decide +kernel
theorem dX6_sum_118 : decode cX6_sum 118 = .ok (.aload_n 0, 1) := by decide +kernel
theorem dX6_sum_119 : decode cX6_sum 119 = .ok (.invokevirtual 138, 3) := by decide +kernel
theorem dX6_sum_122 : decode cX6_sum 122 = .ok (.ifCond .ne 5, 3) := by decide +kernel
theorem dX6_sum_125 : decode cX6_sum 125 = .ok (.iconst 0, 1) := by decide +kernel
theorem dX6_sum_126 : decode cX6_sum 126 = .ok (.ireturn, 1) := by decide +kernel
theorem dX6_sum_127 : decode cX6_sum 127 = .ok (.iload_n 2, 1) := by decide +kernel
theorem dX6_sum_128 : decode cX6_sum 128 = .ok (.bipush 47, 2) := by decide +kernel
theorem dX6_sum_130 : decode cX6_sum 130 = .ok (.if_icmp .ne 15, 3) := by decide +kernel
theorem dX6_sum_133 : decode cX6_sum 133 = .ok (.aload_n 0, 1) := by decide +kernel
theorem dX6_sum_134 : decode cX6_sum 134 = .ok (.getfield 25, 3) := by decide +kernel
theorem dX6_sum_137 : decode cX6_sum 137 = .ok (.iconst 2, 1) := by decide +kernel
theorem dX6_sum_138 : decode cX6_sum 138 = .ok (.iload_n 3, 1) := by decide +kernel
theorem dX6_sum_139 : decode cX6_sum 139 = .ok (.invokevirtual 134, 3) := by decide +kernel
theorem dX6_sum_142 : decode cX6_sum 142 = .ok (.goto 34, 3) := by decide +kernel
theorem dX6_sum_145 : decode cX6_sum 145 = .ok (.iload_n 2, 1) := by decide +kernel
theorem dX6_sum_146 : decode cX6_sum 146 = .ok (.bipush 42, 2) := by decide +kernel
theorem dX6_sum_148 : decode cX6_sum 148 = .ok (.if_icmp .ne 15, 3) := by decide +kernel
theorem dX6_sum_151 : decode cX6_sum 151 = .ok (.aload_n 0, 1) := by decide +kernel
theorem dX6_sum_152 : decode cX6_sum 152 = .ok (.getfield 25, 3) := by decide +kernel
theorem dX6_sum_155 : decode cX6_sum 155 = .ok (.iconst 4, 1) := by decide +kernel
theorem dX6_sum_156 : decode cX6_sum 156 = .ok (.iconst 0, 1) := by decide +kernel
theorem dX6_sum_157 : decode cX6_sum 157 = .ok (.invokevirtual 134, 3) := by decide +kernel
theorem dX6_sum_160 : decode cX6_sum 160 = .ok (.goto 16, 3) := by decide +kernel
theorem dX6_sum_163 : decode cX6_sum 163 = .ok (.iload_n 2, 1) := by decide +kernel
theorem dX6_sum_164 : decode cX6_sum 164 = .ok (.bipush 43, 2) := by decide +kernel
theorem dX6_sum_166 : decode cX6_sum 166 = .ok (.if_icmp .ne 7, 3) := by decide +kernel
theorem dX6_sum_169 : decode cX6_sum 169 = .ok (.iconst 5, 1) := by decide +kernel
theorem dX6_sum_170 : decode cX6_sum 170 = .ok (.goto 5, 3) := by decide +kernel
theorem dX6_sum_173 : decode cX6_sum 173 = .ok (.bipush 6, 2) := by decide +kernel
theorem dX6_sum_175 : decode cX6_sum 175 = .ok (.istore_n 1, 1) := by decide +kernel
theorem dX6_sum_176 : decode cX6_sum 176 = .ok (.aload_n 0, 1) := by decide +kernel
theorem dX6_sum_177 : decode cX6_sum 177 = .ok (.invokevirtual 64, 3) := by decide +kernel
theorem dX6_sum_180 : decode cX6_sum 180 = .ok (.istore_n 2, 1) := by decide +kernel
theorem dX6_sum_181 : decode cX6_sum 181 = .ok (.goto (-165), 3) := by decide +kernel
theorem dX6_sum_184 : decode cX6_sum 184 = .ok (.iload_n 1, 1) := by decide +kernel
theorem dX6_sum_185 : decode cX6_sum 185 = .ok (.iconst (-1), 1) := by decide +kernel
theorem dX6_sum_186 : decode cX6_sum 186 = .ok (.if_icmp .eq 12, 3) := by decide +kernel
theorem dX6_sum_189 : decode cX6_sum 189 = .ok (.aload_n 0, 1) := by decide +kernel
theorem dX6_sum_190 : decode cX6_sum 190 = .ok (.getfield 25, 3) := by decide +kernel
theorem dX6_sum_193 : decode cX6_sum 193 = .ok (.iload_n 1, 1) := by decide +kernel
theorem dX6_sum_194 : decode cX6_sum 194 = .ok (.iconst 0, 1) := by decide +kernel
theorem dX6_sum_195 : decode cX6_sum 195 = .ok (.invokevirtual 134, 3) := by decide +kernel
theorem dX6_sum_198 : decode cX6_sum 198 = .ok (.iconst 1, 1) := by decide +kernel
theorem dX6_sum_199 : decode cX6_sum 199 = .ok (.ireturn, 1) := by decide +kernel
theorem dX6_operand_0 : decode cX6_operand 0 = .ok (.aload_n 0, 1) := by decide +kernel
theorem dX6_operand_1 : decode cX6_operand 1 = .ok (.invokevirtual 64, 3) := by decide +kernel
theorem dX6_operand_4 : decode cX6_operand 4 = .ok (.istore_n 1, 1) := by decide +kernel
theorem dX6_operand_5 : decode cX6_operand 5 = .ok (.iload_n 1, 1) := by decide +kernel
theorem dX6_operand_6 : decode cX6_operand 6 = .ok (.iconst 1, 1) := by decide +kernel
theorem dX6_operand_7 : decode cX6_operand 7 = .ok (.if_icmp .ne 26, 3) := by decide +kernel
theorem dX6_operand_10 : decode cX6_operand 10 = .ok (.aload_n 0, 1) := by decide +kernel
theorem dX6_operand_11 : decode cX6_operand 11 = .ok (.getfield 25, 3) := by decide +kernel
theorem dX6_operand_14 : decode cX6_operand 14 = .ok (.iconst 0, 1) := by decide +kernel
theorem dX6_operand_15 : decode cX6_operand 15 = .ok (.aload_n 0, 1) := by decide +kernel
theorem dX6_operand_16 : decode cX6_operand 16 = .ok (.getfield 18, 3) := by decide +kernel
theorem dX6_operand_19 : decode cX6_operand 19 = .ok (.getfield 145, 3) := by decide +kernel
theorem dX6_operand_22 : decode cX6_operand 22 = .ok (.aload_n 0, 1) := by decide +kernel
theorem dX6_operand_23 : decode cX6_operand 23 = .ok (.getfield 52, 3) := by decide +kernel
theorem dX6_operand_26 : decode cX6_operand 26 = .ok (.iaload, 1) := by decide +kernel
theorem dX6_operand_27 : decode cX6_operand 27 = .ok (.invokevirtual 134, 3) := by decide +kernel
theorem dX6_operand_30 : decode cX6_operand 30 = .ok (.goto 112, 3) := by decide +kernel
theorem dX6_operand_33 : decode cX6_operand 33 = .ok (.iload_n 1, 1) := by decide +kernel
theorem dX6_operand_34 : decode cX6_operand 34 = .ok (.sipush 263, 3) := by decide +kernel
theorem dX6_operand_37 : decode cX6_operand 37 = .ok (.sipush 271, 3) := by decide +kernel
theorem dX6_operand_40 : decode cX6_operand 40 = .ok (.invokestatic 105, 3) := by decide +kernel
theorem dX6_operand_43 : decode cX6_operand 43 = .ok (.ifCond .eq 93, 3) := by decide +kernel
theorem dX6_operand_46 : decode cX6_operand 46 = .ok (.aload_n 0, 1) := by decide +kernel
theorem dX6_operand_47 : decode cX6_operand 47 = .ok (.getfield 25, 3) := by decide +kernel
theorem dX6_operand_50 : decode cX6_operand 50 = .ok (.iconst 1, 1) := by decide +kernel
theorem dX6_operand_51 : decode cX6_operand 51 = .ok (.iload_n 1, 1) := by decide +kernel
theorem dX6_operand_52 : decode cX6_operand 52 = .ok (.sipush 263, 3) := by decide +kernel
theorem dX6_operand_55 : decode cX6_operand 55 = .ok (.isub, 1) := by decide +kernel
theorem dX6_operand_56 : decode cX6_operand 56 = .ok (.invokevirtual 134, 3) := by decide +kernel
theorem dX6_operand_59 : decode cX6_operand 59 = .ok (.aload_n 0, 1) := by decide +kernel
theorem dX6_operand_60 : decode cX6_operand 60 = .ok (.getfield 25, 3) := by decide +kernel
theorem dX6_operand_63 : decode cX6_operand 63 = .ok (.getfield 76, 3) := by decide +kernel
theorem dX6_operand_66 : decode cX6_operand 66 = .ok (.iconst 0, 1) := by decide +kernel
theorem dX6_operand_67 : decode cX6_operand 67 = .ok (.bipush 15, 2) := by decide +kernel
theorem dX6_operand_69 : decode cX6_operand 69 = .ok (.invokestatic 105, 3) := by decide +kernel
theorem dX6_operand_72 : decode cX6_operand 72 = .ok (.ifCond .eq 26, 3) := by decide +kernel
theorem dX6_operand_75 : decode cX6_operand 75 = .ok (.aload_n 0, 1) := by decide +kernel
theorem dX6_operand_76 : decode cX6_operand 76 = .ok (.getfield 25, 3) := by decide +kernel
theorem dX6_operand_79 : decode cX6_operand 79 = .ok (.getfield 112, 3) := by decide +kernel
theorem dX6_operand_82 : decode cX6_operand 82 = .ok (.aload_n 0, 1) := by decide +kernel
theorem dX6_operand_83 : decode cX6_operand 83 = .ok (.getfield 25, 3) := by decide +kernel
theorem dX6_operand_86 : decode cX6_operand 86 = .ok (.getfield 76, 3) := by decide +kernel
theorem dX6_operand_89 : decode cX6_operand 89 = .ok (.iaload, 1) := by decide +kernel
theorem dX6_operand_90 : decode cX6_operand 90 = .ok (.iconst 2, 1) := by decide +kernel
theorem dX6_operand_91 : decode cX6_operand 91 = .ok (.if_icmp .ne 7, 3) := by decide +kernel
theorem dX6_operand_94 : decode cX6_operand 94 = .ok (.iconst 1, 1) := by decide +kernel
theorem dX6_operand_95 : decode cX6_operand 95 = .ok (.goto 4, 3) := by decide +kernel
theorem dX6_operand_98 : decode cX6_operand 98 = .ok (.iconst 0, 1) := by decide +kernel
theorem dX6_operand_99 : decode cX6_operand 99 = .ok (.istore_n 2, 1) := by decide +kernel
theorem dX6_operand_100 : decode cX6_operand 100 = .ok (.aload_n 0, 1) := by decide +kernel
theorem dX6_operand_101 : decode cX6_operand 101 = .ok (.getfield 25, 3) := by decide +kernel
theorem dX6_operand_104 : decode cX6_operand 104 = .ok (.aload_n 0, 1) := by decide +kernel
theorem dX6_operand_105 : decode cX6_operand 105 = .ok (.getfield 25, 3) := by decide +kernel
theorem dX6_operand_108 : decode cX6_operand 108 = .ok (.getfield 148, 3) := by decide +kernel
theorem dX6_operand_111 : decode cX6_operand 111 = .ok (.ifCond .ne 14, 3) := by decide +kernel
theorem dX6_operand_114 : decode cX6_operand 114 = .ok (.iload_n 2, 1) := by decide +kernel
theorem dX6_operand_115 : decode cX6_operand 115 = .ok (.ifCond .eq 14, 3) := by decide +kernel
theorem dX6_operand_118 : decode cX6_operand 118 = .ok (.iload_n 1, 1) := by decide +kernel
theorem dX6_operand_119 : decode cX6_operand 119 = .ok (.sipush 267, 3) := by decide +kernel
theorem dX6_operand_122 : decode cX6_operand 122 = .ok (.if_icmp .ne 7, 3) := by decide +kernel
theorem dX6_operand_125 : decode cX6_operand 125 = .ok (.iconst 1, 1) := by decide +kernel
theorem dX6_operand_126 : decode cX6_operand 126 = .ok (.goto 4, 3) := by decide +kernel
theorem dX6_operand_129 : decode cX6_operand 129 = .ok (.iconst 0, 1) := by decide +kernel
theorem dX6_operand_130 : decode cX6_operand 130 = .ok (.putfield 148, 3) := by decide +kernel
theorem dX6_operand_133 : decode cX6_operand 133 = .ok (.goto 9, 3) := by decide +kernel
theorem dX6_operand_136 : decode cX6_operand 136 = .ok (.aload_n 0, 1) := by decide +kernel
theorem dX6_operand_137 : decode cX6_operand 137 = .ok (.iconst 1, 1) := by decide +kernel
theorem dX6_operand_138 : decode cX6_operand 138 = .ok (.invokevirtual 109, 3) := by decide +kernel
theorem dX6_operand_141 : decode cX6_operand 141 = .ok (.ireturn, 1) := by decide +kernel
theorem dX6_operand_142 : decode cX6_operand 142 = .ok (.aload_n 0, 1) := by decide +kernel
theorem dX6_operand_143 : decode cX6_operand 143 = .ok (.dup, 1) := by decide +kernel
theorem dX6_operand_144 : decode cX6_operand 144 = .ok (.getfield 52, 3) := by decide +kernel
theorem dX6_operand_147 : decode cX6_operand 147 = .ok (.iconst 1, 1) := by decide +kernel
theorem dX6_operand_148 : decode cX6_operand 148 = .ok (.iadd, 1) := by decide +kernel
theorem dX6_operand_149 : decode cX6_operand 149 = .ok (.putfield 52, 3) := by decide +kernel
theorem dX6_operand_152 : decode cX6_operand 152 = .ok (.iconst 1, 1) := by decide +kernel
theorem dX6_operand_153 : decode cX6_operand 153 = .ok (.ireturn, 1) := by decide +kernel
theorem dX6_pathLine_0 : decode cX6_pathLine 0 = .ok (.aload_n 0, 1) := by decide +kernel
theorem dX6_pathLine_1 : decode cX6_pathLine 1 = .ok (.sipush 256, 3) := by decide +kernel
theorem dX6_pathLine_4 : decode cX6_pathLine 4 = .ok (.iload_n 1, 1) := by decide +kernel
theorem dX6_pathLine_5 : decode cX6_pathLine 5 = .ok (.invokevirtual 152, 3) := by decide +kernel
theorem dX6_pathLine_8 : decode cX6_pathLine 8 = .ok (.ifCond .ne 5, 3) := by decide +kernel
theorem dX6_pathLine_11 : decode cX6_pathLine 11 = .ok (.iconst 0, 1) := by decide +kernel
theorem dX6_pathLine_12 : decode cX6_pathLine 12 = .ok (.ireturn, 1) := by decide +kernel
theorem dX6_pathLine_13 : decode cX6_pathLine 13 = .ok (.aload_n 0, 1) := by decide +kernel
theorem dX6_pathLine_14 : decode cX6_pathLine 14 = .ok (.iconst 0, 1) := by decide +kernel
theorem dX6_pathLine_15 : decode cX6_pathLine 15 = .ok (.aload_n 0, 1) := by decide +kernel
theorem dX6_pathLine_16 : decode cX6_pathLine 16 = .ok (.getfield 46, 3) := by decide +kernel
theorem dX6_pathLine_19 : decode cX6_pathLine 19 = .ok (.iconst 1, 1) := by decide +kernel
theorem dX6_pathLine_20 : decode cX6_pathLine 20 = .ok (.isub, 1) := by decide +kernel
theorem dX6_pathLine_21 : decode cX6_pathLine 21 = .ok (.invokevirtual 141, 3) := by decide +kernel
theorem dX6_pathLine_24 : decode cX6_pathLine 24 = .ok (.istore_n 2, 1) := by decide +kernel
theorem dX6_pathLine_25 : decode cX6_pathLine 25 = .ok (.iload_n 2, 1) := by decide +kernel
theorem dX6_pathLine_26 : decode cX6_pathLine 26 = .ok (.iconst (-1), 1) := by decide +kernel
theorem dX6_pathLine_27 : decode cX6_pathLine 27 = .ok (.if_icmp .eq 13, 3) := by decide +kernel
theorem dX6_pathLine_30 : decode cX6_pathLine 30 = .ok (.aload_n 0, 1) := by decide +kernel
theorem dX6_pathLine_31 : decode cX6_pathLine 31 = .ok (.sipush 257, 3) := by decide +kernel
theorem dX6_pathLine_34 : decode cX6_pathLine 34 = .ok (.invokevirtual 125, 3) := by decide +kernel
theorem dX6_pathLine_37 : decode cX6_pathLine 37 = .ok (.ifCond .ne 5, 3) := by decide +kernel
theorem dX6_pathLine_40 : decode cX6_pathLine 40 = .ok (.iconst 0, 1) := by decide +kernel
theorem dX6_pathLine_41 : decode cX6_pathLine 41 = .ok (.ireturn, 1) := by decide +kernel
theorem dX6_pathLine_42 : decode cX6_pathLine 42 = .ok (.aload_n 0, 1) := by decide +kernel
theorem dX6_pathLine_43 : decode cX6_pathLine 43 = .ok (.getfield 32, 3) := by decide +kernel
theorem dX6_pathLine_46 : decode cX6_pathLine 46 = .ok (.iload_n 2, 1) := by decide +kernel
theorem dX6_pathLine_47 : decode cX6_pathLine 47 = .ok (.invokevirtual 156, 3) := by decide +kernel
theorem dX6_pathLine_50 : decode cX6_pathLine 50 = .ok (.iconst 0, 1) := by decide +kernel
theorem dX6_pathLine_51 : decode cX6_pathLine 51 = .ok (.istore_n 3, 1) := by decide +kernel
theorem dX6_pathLine_52 : decode cX6_pathLine 52 = .ok (.iload_n 3, 1) := by decide +kernel
theorem dX6_pathLine_53 : decode cX6_pathLine 53 = .ok (.bipush 8, 2) := by decide +kernel
theorem dX6_pathLine_55 : decode cX6_pathLine 55 = .ok (.if_icmp .gt 70, 3) := by decide +kernel
theorem dX6_pathLine_58 : decode cX6_pathLine 58 = .ok (.iload_n 3, 1) := by decide +kernel
theorem dX6_pathLine_59 : decode cX6_pathLine 59 = .ok (.ifCond .eq 11, 3) := by decide +kernel
theorem dX6_pathLine_62 : decode cX6_pathLine 62 = .ok (.aload_n 0, 1) := by decide +kernel
theorem dX6_pathLine_63 : decode cX6_pathLine 63 = .ok (.invokevirtual 64, 3) := by decide +kernel
theorem dX6_pathLine_66 : decode cX6_pathLine 66 = .ok (.iconst 1, 1) := by decide +kernel
theorem dX6_pathLine_67 : decode cX6_pathLine 67 = .ok (.if_icmp .ne 58, 3) := by decide +kernel
theorem dX6_pathLine_70 : decode cX6_pathLine 70 = .ok (.aload_n 0, 1) := by decide +kernel
theorem dX6_pathLine_71 : decode cX6_pathLine 71 = .ok (.iconst 0, 1) := by decide +kernel
theorem dX6_pathLine_72 : decode cX6_pathLine 72 = .ok (.bipush 9, 2) := by decide +kernel
theorem dX6_pathLine_74 : decode cX6_pathLine 74 = .ok (.invokevirtual 141, 3) := by decide +kernel
theorem dX6_pathLine_77 : decode cX6_pathLine 77 = .ok (.istore 4, 2) := by decide +kernel
theorem dX6_pathLine_79 : decode cX6_pathLine 79 = .ok (.iload 4, 2) := by decide +kernel
theorem dX6_pathLine_81 : decode cX6_pathLine 81 = .ok (.iconst (-1), 1) := by decide +kernel
theorem dX6_pathLine_82 : decode cX6_pathLine 82 = .ok (.if_icmp .ne 5, 3) := by decide +kernel
theorem dX6_pathLine_85 : decode cX6_pathLine 85 = .ok (.iconst 0, 1) := by decide +kernel
theorem dX6_pathLine_86 : decode cX6_pathLine 86 = .ok (.ireturn, 1) := by decide +kernel
theorem dX6_pathLine_87 : decode cX6_pathLine 87 = .ok (.iload_n 3, 1) := by decide +kernel
theorem dX6_pathLine_88 : decode cX6_pathLine 88 = .ok (.bipush 8, 2) := by decide +kernel
theorem dX6_pathLine_90 : decode cX6_pathLine 90 = .ok (.if_icmp .ne 19, 3) := by decide +kernel
theorem dX6_pathLine_93 : decode cX6_pathLine 93 = .ok (.aload_n 0, 1) := by decide +kernel
theorem dX6_pathLine_94 : decode cX6_pathLine 94 = .ok (.dup, 1) := by decide +kernel
theorem dX6_pathLine_95 : decode cX6_pathLine 95 = .ok (.getfield 52, 3) := by decide +kernel
theorem dX6_pathLine_98 : decode cX6_pathLine 98 = .ok (.iconst 1, 1) := by decide +kernel
theorem dX6_pathLine_99 : decode cX6_pathLine 99 = .ok (.isub, 1) := by decide +kernel
theorem dX6_pathLine_100 : decode cX6_pathLine 100 = .ok (.putfield 52, 3) := by decide +kernel
theorem dX6_pathLine_103 : decode cX6_pathLine 103 = .ok (.aload_n 0, 1) := by decide +kernel
theorem dX6_pathLine_104 : decode cX6_pathLine 104 = .ok (.iconst 3, 1) := by decide +kernel
theorem dX6_pathLine_105 : decode cX6_pathLine 105 = .ok (.invokevirtual 109, 3) := by decide +kernel
theorem dX6_pathLine_108 : decode cX6_pathLine 108 = .ok (.ireturn, 1) := by decide +kernel
theorem dX6_pathLine_109 : decode cX6_pathLine 109 = .ok (.aload_n 0, 1) := by decide +kernel
theorem dX6_pathLine_110 : decode cX6_pathLine 110 = .ok (.getfield 32, 3) := by decide +kernel
theorem dX6_pathLine_113 : decode cX6_pathLine 113 = .ok (.iload_n 2, 1) := by decide +kernel
theorem dX6_pathLine_114 : decode cX6_pathLine 114 = .ok (.iload 4, 2) := by decide +kernel
theorem dX6_pathLine_116 : decode cX6_pathLine 116 = .ok (.invokevirtual 160, 3) := by decide +kernel
theorem dX6_pathLine_119 : decode cX6_pathLine 119 = .ok (.iinc 3 1, 3) := by decide +kernel
theorem dX6_pathLine_122 : decode cX6_pathLine 122 = .ok (.goto (-70), 3) := by decide +kernel
theorem dX6_pathLine_125 : decode cX6_pathLine 125 = .ok (.aload_n 0, 1) := by decide +kernel
theorem dX6_pathLine_126 : decode cX6_pathLine 126 = .ok (.getfield 32, 3) := by decide +kernel
theorem dX6_pathLine_129 : decode cX6_pathLine 129 = .ok (.dup, 1) := by decide +kernel
theorem dX6_pathLine_130 : decode cX6_pathLine 130 = .ok (.getfield 95, 3) := by decide +kernel
theorem dX6_pathLine_133 : decode cX6_pathLine 133 = .ok (.iconst 1, 1) := by decide +kernel
theorem dX6_pathLine_134 : decode cX6_pathLine 134 = .ok (.iadd, 1) := by decide +kernel
theorem dX6_pathLine_135 : decode cX6_pathLine 135 = .ok (.putfield 95, 3) := by decide +kernel
theorem dX6_pathLine_138 : decode cX6_pathLine 138 = .ok (.aload_n 0, 1) := by decide +kernel
theorem dX6_pathLine_139 : decode cX6_pathLine 139 = .ok (.bipush 59, 2) := by decide +kernel
theorem dX6_pathLine_141 : decode cX6_pathLine 141 = .ok (.invokevirtual 125, 3) := by decide +kernel
theorem dX6_pathLine_144 : decode cX6_pathLine 144 = .ok (.ireturn, 1) := by decide +kernel
theorem dX6_planLine_0 : decode cX6_planLine 0 = .ok (.aload_n 0, 1) := by decide +kernel
theorem dX6_planLine_1 : decode cX6_planLine 1 = .ok (.sipush 256, 3) := by decide +kernel
theorem dX6_planLine_4 : decode cX6_planLine 4 = .ok (.iload_n 1, 1) := by decide +kernel
theorem dX6_planLine_5 : decode cX6_planLine 5 = .ok (.invokevirtual 152, 3) := by decide +kernel
theorem dX6_planLine_8 : decode cX6_planLine 8 = .ok (.ifCond .ne 5, 3) := by decide +kernel
theorem dX6_planLine_11 : decode cX6_planLine 11 = .ok (.iconst 0, 1) := by decide +kernel
theorem dX6_planLine_12 : decode cX6_planLine 12 = .ok (.ireturn, 1) := by decide +kernel
theorem dX6_planLine_13 : decode cX6_planLine 13 = .ok (.aload_n 0, 1) := by decide +kernel
theorem dX6_planLine_14 : decode cX6_planLine 14 = .ok (.getfield 39, 3) := by decide +kernel
theorem dX6_planLine_17 : decode cX6_planLine 17 = .ok (.getfield 163, 3) := by decide +kernel
theorem dX6_planLine_20 : decode cX6_planLine 20 = .ok (.iload_n 1, 1) := by decide +kernel
theorem dX6_planLine_21 : decode cX6_planLine 21 = .ok (.aload_n 0, 1) := by decide +kernel
theorem dX6_planLine_22 : decode cX6_planLine 22 = .ok (.iconst 0, 1) := by decide +kernel
theorem dX6_planLine_23 : decode cX6_planLine 23 = .ok (.sipush 999, 3) := by decide +kernel
theorem dX6_planLine_26 : decode cX6_planLine 26 = .ok (.invokevirtual 141, 3) := by decide +kernel
theorem dX6_planLine_29 : decode cX6_planLine 29 = .ok (.iastore, 1) := by decide +kernel
theorem dX6_planLine_30 : decode cX6_planLine 30 = .ok (.aload_n 0, 1) := by decide +kernel
theorem dX6_planLine_31 : decode cX6_planLine 31 = .ok (.getfield 39, 3) := by decide +kernel
theorem dX6_planLine_34 : decode cX6_planLine 34 = .ok (.getfield 163, 3) := by decide +kernel
theorem dX6_planLine_37 : decode cX6_planLine 37 = .ok (.iload_n 1, 1) := by decide +kernel
theorem dX6_planLine_38 : decode cX6_planLine 38 = .ok (.iaload, 1) := by decide +kernel
theorem dX6_planLine_39 : decode cX6_planLine 39 = .ok (.iconst (-1), 1) := by decide +kernel
theorem dX6_planLine_40 : decode cX6_planLine 40 = .ok (.if_icmp .ne 5, 3) := by decide +kernel
theorem dX6_planLine_43 : decode cX6_planLine 43 = .ok (.iconst 0, 1) := by decide +kernel
theorem dX6_planLine_44 : decode cX6_planLine 44 = .ok (.ireturn, 1) := by decide +kernel
theorem dX6_planLine_45 : decode cX6_planLine 45 = .ok (.aload_n 0, 1) := by decide +kernel
theorem dX6_planLine_46 : decode cX6_planLine 46 = .ok (.invokevirtual 64, 3) := by decide +kernel
theorem dX6_planLine_49 : decode cX6_planLine 49 = .ok (.istore_n 2, 1) := by decide +kernel
theorem dX6_planLine_50 : decode cX6_planLine 50 = .ok (.iload_n 2, 1) := by decide +kernel
theorem dX6_planLine_51 : decode cX6_planLine 51 = .ok (.sipush 257, 3) := by decide +kernel
theorem dX6_planLine_54 : decode cX6_planLine 54 = .ok (.sipush 262, 3) := by decide +kernel
theorem dX6_planLine_57 : decode cX6_planLine 57 = .ok (.invokestatic 105, 3) := by decide +kernel
theorem dX6_planLine_60 : decode cX6_planLine 60 = .ok (.ifCond .eq 10, 3) := by decide +kernel
theorem dX6_planLine_63 : decode cX6_planLine 63 = .ok (.iload_n 2, 1) := by decide +kernel
theorem dX6_planLine_64 : decode cX6_planLine 64 = .ok (.sipush 258, 3) := by decide +kernel
theorem dX6_planLine_67 : decode cX6_planLine 67 = .ok (.if_icmp .ne 9, 3) := by decide +kernel
theorem dX6_planLine_70 : decode cX6_planLine 70 = .ok (.aload_n 0, 1) := by decide +kernel
theorem dX6_planLine_71 : decode cX6_planLine 71 = .ok (.iconst 1, 1) := by decide +kernel
theorem dX6_planLine_72 : decode cX6_planLine 72 = .ok (.invokevirtual 109, 3) := by decide +kernel
theorem dX6_planLine_75 : decode cX6_planLine 75 = .ok (.ireturn, 1) := by decide +kernel
theorem dX6_planLine_76 : decode cX6_planLine 76 = .ok (.aload_n 0, 1) := by decide +kernel
theorem dX6_planLine_77 : decode cX6_planLine 77 = .ok (.dup, 1) := by decide +kernel
theorem dX6_planLine_78 : decode cX6_planLine 78 = .ok (.getfield 52, 3) := by decide +kernel
theorem dX6_planLine_81 : decode cX6_planLine 81 = .ok (.iconst 1, 1) := by decide +kernel
theorem dX6_planLine_82 : decode cX6_planLine 82 = .ok (.iadd, 1) := by decide +kernel
theorem dX6_planLine_83 : decode cX6_planLine 83 = .ok (.putfield 52, 3) := by decide +kernel
theorem dX6_planLine_86 : decode cX6_planLine 86 = .ok (.iload_n 2, 1) := by decide +kernel
theorem dX6_planLine_87 : decode cX6_planLine 87 = .ok (.sipush 257, 3) := by decide +kernel
theorem dX6_planLine_90 : decode cX6_planLine 90 = .ok (.if_icmp .eq 10, 3) := by decide +kernel
theorem dX6_planLine_93 : decode cX6_planLine 93 = .ok (.iload_n 2, 1) := by decide +kernel
theorem dX6_planLine_94 : decode cX6_planLine 94 = .ok (.sipush 261, 3) := by decide +kernel
theorem dX6_planLine_97 : decode cX6_planLine 97 = .ok (.if_icmp .ne 7, 3) := by decide +kernel
theorem dX6_planLine_100 : decode cX6_planLine 100 = .ok (.iconst 1, 1) := by decide +kernel
theorem dX6_planLine_101 : decode cX6_planLine 101 = .ok (.goto 4, 3) := by decide +kernel
theorem dX6_planLine_104 : decode cX6_planLine 104 = .ok (.iconst 0, 1) := by decide +kernel
theorem dX6_planLine_105 : decode cX6_planLine 105 = .ok (.istore_n 3, 1) := by decide +kernel
theorem dX6_planLine_106 : decode cX6_planLine 106 = .ok (.iload_n 3, 1) := by decide +kernel
theorem dX6_planLine_107 : decode cX6_planLine 107 = .ok (.ifCond .eq 12, 3) := by decide +kernel
theorem dX6_planLine_110 : decode cX6_planLine 110 = .ok (.aload_n 0, 1) := by decide +kernel
theorem dX6_planLine_111 : decode cX6_planLine 111 = .ok (.getfield 43, 3) := by decide +kernel
theorem dX6_planLine_114 : decode cX6_planLine 114 = .ok (.iconst 1, 1) := by decide +kernel
theorem dX6_planLine_115 : decode cX6_planLine 115 = .ok (.isub, 1) := by decide +kernel
theorem dX6_planLine_116 : decode cX6_planLine 116 = .ok (.goto 21, 3) := by decide +kernel
theorem dX6_planLine_119 : decode cX6_planLine 119 = .ok (.iload_n 2, 1) := by decide +kernel
theorem dX6_planLine_120 : decode cX6_planLine 120 = .ok (.sipush 262, 3) := by decide +kernel
theorem dX6_planLine_123 : decode cX6_planLine 123 = .ok (.if_icmp .ne 12, 3) := by decide +kernel
theorem dX6_planLine_126 : decode cX6_planLine 126 = .ok (.aload_n 0, 1) := by decide +kernel
theorem dX6_planLine_127 : decode cX6_planLine 127 = .ok (.getfield 46, 3) := by decide +kernel
theorem dX6_planLine_130 : decode cX6_planLine 130 = .ok (.iconst 1, 1) := by decide +kernel
theorem dX6_planLine_131 : decode cX6_planLine 131 = .ok (.isub, 1) := by decide +kernel
theorem dX6_planLine_132 : decode cX6_planLine 132 = .ok (.goto 5, 3) := by decide +kernel
theorem dX6_planLine_135 : decode cX6_planLine 135 = .ok (.bipush 9, 2) := by decide +kernel
theorem dX6_planLine_137 : decode cX6_planLine 137 = .ok (.istore 4, 2) := by decide +kernel
theorem dX6_planLine_139 : decode cX6_planLine 139 = .ok (.aload_n 0, 1) := by decide +kernel
theorem dX6_planLine_140 : decode cX6_planLine 140 = .ok (.getfield 39, 3) := by decide +kernel
theorem dX6_planLine_143 : decode cX6_planLine 143 = .ok (.getfield 166, 3) := by decide +kernel
theorem dX6_planLine_146 : decode cX6_planLine 146 = .ok (.iload_n 1, 1) := by decide +kernel
theorem dX6_planLine_147 : decode cX6_planLine 147 = .ok (.iload_n 2, 1) := by decide +kernel
theorem dX6_planLine_148 : decode cX6_planLine 148 = .ok (.iastore, 1) := by decide +kernel
theorem dX6_planLine_149 : decode cX6_planLine 149 = .ok (.aload_n 0, 1) := by decide +kernel
theorem dX6_planLine_150 : decode cX6_planLine 150 = .ok (.getfield 39, 3) := by decide +kernel
theorem dX6_planLine_153 : decode cX6_planLine 153 = .ok (.getfield 169, 3) := by decide +kernel
theorem dX6_planLine_156 : decode cX6_planLine 156 = .ok (.iload_n 1, 1) := by decide +kernel
theorem dX6_planLine_157 : decode cX6_planLine 157 = .ok (.aload_n 0, 1) := by decide +kernel
theorem dX6_planLine_158 : decode cX6_planLine 158 = .ok (.iconst 0, 1) := by decide +kernel
theorem dX6_planLine_159 : decode cX6_planLine 159 = .ok (.iload 4, 2) := by decide +kernel
theorem dX6_planLine_161 : decode cX6_planLine 161 = .ok (.invokevirtual 141, 3) := by decide +kernel
theorem dX6_planLine_164 : decode cX6_planLine 164 = .ok (.iastore, 1) := by decide +kernel
theorem dX6_planLine_165 : decode cX6_planLine 165 = .ok (.aload_n 0, 1) := by decide +kernel
theorem dX6_planLine_166 : decode cX6_planLine 166 = .ok (.getfield 39, 3) := by decide +kernel
theorem dX6_planLine_169 : decode cX6_planLine 169 = .ok (.getfield 169, 3) := by decide +kernel
theorem dX6_planLine_172 : decode cX6_planLine 172 = .ok (.iload_n 1, 1) := by decide +kernel
theorem dX6_planLine_173 : decode cX6_planLine 173 = .ok (.iaload, 1) := by decide +kernel
theorem dX6_planLine_174 : decode cX6_planLine 174 = .ok (.iconst (-1), 1) := by decide +kernel
theorem dX6_planLine_175 : decode cX6_planLine 175 = .ok (.if_icmp .eq 20, 3) := by decide +kernel
theorem dX6_planLine_178 : decode cX6_planLine 178 = .ok (.iload_n 2, 1) := by decide +kernel
theorem dX6_planLine_179 : decode cX6_planLine 179 = .ok (.sipush 257, 3) := by decide +kernel
theorem dX6_planLine_182 : decode cX6_planLine 182 = .ok (.if_icmp .ne 15, 3) := by decide +kernel
theorem dX6_planLine_185 : decode cX6_planLine 185 = .ok (.aload_n 0, 1) := by decide +kernel
theorem dX6_planLine_186 : decode cX6_planLine 186 = .ok (.sipush 258, 3) := by decide +kernel
theorem dX6_planLine_189 : decode cX6_planLine 189 = .ok (.invokevirtual 125, 3) := by decide +kernel
theorem dX6_planLine_192 : decode cX6_planLine 192 = .ok (.ifCond .ne 5, 3) := by decide +kernel
theorem dX6_planLine_195 : decode cX6_planLine 195 = .ok (.iconst 0, 1) := by decide +kernel
theorem dX6_planLine_196 : decode cX6_planLine 196 = .ok (.ireturn, 1) := by decide +kernel
theorem dX6_planLine_197 : decode cX6_planLine 197 = .ok (.aload_n 0, 1) := by decide +kernel
theorem dX6_planLine_198 : decode cX6_planLine 198 = .ok (.getfield 39, 3) := by decide +kernel
theorem dX6_planLine_201 : decode cX6_planLine 201 = .ok (.getfield 172, 3) := by decide +kernel
theorem dX6_planLine_204 : decode cX6_planLine 204 = .ok (.iload_n 1, 1) := by decide +kernel
theorem dX6_planLine_205 : decode cX6_planLine 205 = .ok (.iconst 0, 1) := by decide +kernel
theorem dX6_planLine_206 : decode cX6_planLine 206 = .ok (.iastore, 1) := by decide +kernel
theorem dX6_planLine_207 : decode cX6_planLine 207 = .ok (.iload_n 3, 1) := by decide +kernel
theorem dX6_planLine_208 : decode cX6_planLine 208 = .ok (.ifCond .eq 36, 3) := by decide +kernel
theorem dX6_planLine_211 : decode cX6_planLine 211 = .ok (.aload_n 0, 1) := by decide +kernel
theorem dX6_planLine_212 : decode cX6_planLine 212 = .ok (.getfield 39, 3) := by decide +kernel
theorem dX6_planLine_215 : decode cX6_planLine 215 = .ok (.getfield 172, 3) := by decide +kernel
theorem dX6_planLine_218 : decode cX6_planLine 218 = .ok (.iload_n 1, 1) := by decide +kernel
theorem dX6_planLine_219 : decode cX6_planLine 219 = .ok (.iload_n 2, 1) := by decide +kernel
theorem dX6_planLine_220 : decode cX6_planLine 220 = .ok (.sipush 257, 3) := by decide +kernel
theorem dX6_planLine_223 : decode cX6_planLine 223 = .ok (.if_icmp .ne 13, 3) := by decide +kernel
theorem dX6_planLine_226 : decode cX6_planLine 226 = .ok (.aload_n 0, 1) := by decide +kernel
theorem dX6_planLine_227 : decode cX6_planLine 227 = .ok (.iconst 0, 1) := by decide +kernel
theorem dX6_planLine_228 : decode cX6_planLine 228 = .ok (.bipush 9, 2) := by decide +kernel
theorem dX6_planLine_230 : decode cX6_planLine 230 = .ok (.invokevirtual 141, 3) := by decide +kernel
theorem dX6_planLine_233 : decode cX6_planLine 233 = .ok (.goto 10, 3) := by decide +kernel
theorem dX6_planLine_236 : decode cX6_planLine 236 = .ok (.aload_n 0, 1) := by decide +kernel
theorem dX6_planLine_237 : decode cX6_planLine 237 = .ok (.iconst 1, 1) := by decide +kernel
theorem dX6_planLine_238 : decode cX6_planLine 238 = .ok (.bipush 99, 2) := by decide +kernel
theorem dX6_planLine_240 : decode cX6_planLine 240 = .ok (.invokevirtual 141, 3) := by decide +kernel
theorem dX6_planLine_243 : decode cX6_planLine 243 = .ok (.iastore, 1) := by decide +kernel
theorem dX6_planLine_244 : decode cX6_planLine 244 = .ok (.aload_n 0, 1) := by decide +kernel
theorem dX6_planLine_245 : decode cX6_planLine 245 = .ok (.getfield 39, 3) := by decide +kernel
theorem dX6_planLine_248 : decode cX6_planLine 248 = .ok (.dup, 1) := by decide +kernel
theorem dX6_planLine_249 : decode cX6_planLine 249 = .ok (.getfield 98, 3) := by decide +kernel
theorem dX6_planLine_252 : decode cX6_planLine 252 = .ok (.iconst 1, 1) := by decide +kernel
theorem dX6_planLine_253 : decode cX6_planLine 253 = .ok (.iadd, 1) := by decide +kernel
theorem dX6_planLine_254 : decode cX6_planLine 254 = .ok (.putfield 98, 3) := by decide +kernel
theorem dX6_planLine_257 : decode cX6_planLine 257 = .ok (.aload_n 0, 1) := by decide +kernel
theorem dX6_planLine_258 : decode cX6_planLine 258 = .ok (.getfield 39, 3) := by decide +kernel
theorem dX6_planLine_261 : decode cX6_planLine 261 = .ok (.getfield 172, 3) := by decide +kernel
theorem dX6_planLine_264 : decode cX6_planLine 264 = .ok (.iload_n 1, 1) := by decide +kernel
theorem dX6_planLine_265 : decode cX6_planLine 265 = .ok (.iaload, 1) := by decide +kernel
theorem dX6_planLine_266 : decode cX6_planLine 266 = .ok (.iconst (-1), 1) := by decide +kernel
theorem dX6_planLine_267 : decode cX6_planLine 267 = .ok (.if_icmp .eq 16, 3) := by decide +kernel
theorem dX6_planLine_270 : decode cX6_planLine 270 = .ok (.aload_n 0, 1) := by decide +kernel
theorem dX6_planLine_271 : decode cX6_planLine 271 = .ok (.bipush 59, 2) := by decide +kernel
theorem dX6_planLine_273 : decode cX6_planLine 273 = .ok (.invokevirtual 125, 3) := by decide +kernel
theorem dX6_planLine_276 : decode cX6_planLine 276 = .ok (.ifCond .eq 7, 3) := by decide +kernel
theorem dX6_planLine_279 : decode cX6_planLine 279 = .ok (.iconst 1, 1) := by decide +kernel
theorem dX6_planLine_280 : decode cX6_planLine 280 = .ok (.goto 4, 3) := by decide +kernel
theorem dX6_planLine_283 : decode cX6_planLine 283 = .ok (.iconst 0, 1) := by decide +kernel
theorem dX6_planLine_284 : decode cX6_planLine 284 = .ok (.ireturn, 1) := by decide +kernel
theorem dX6_kind_0 : decode cX6_kind 0 = .ok (.aload_n 0, 1) := by decide +kernel
theorem dX6_kind_1 : decode cX6_kind 1 = .ok (.getfield 52, 3) := by decide +kernel
theorem dX6_kind_4 : decode cX6_kind 4 = .ok (.ifCond .lt 32, 3) := by decide +kernel
theorem dX6_kind_7 : decode cX6_kind 7 = .ok (.aload_n 0, 1) := by decide +kernel
theorem dX6_kind_8 : decode cX6_kind 8 = .ok (.getfield 52, 3) := by decide +kernel
theorem dX6_kind_11 : decode cX6_kind 11 = .ok (.aload_n 0, 1) := by decide +kernel
theorem dX6_kind_12 : decode cX6_kind 12 = .ok (.getfield 18, 3) := by decide +kernel
theorem dX6_kind_15 : decode cX6_kind 15 = .ok (.getfield 131, 3) := by decide +kernel
theorem dX6_kind_18 : decode cX6_kind 18 = .ok (.if_icmp .ge 18, 3) := by decide +kernel
theorem dX6_kind_21 : decode cX6_kind 21 = .ok (.aload_n 0, 1) := by decide +kernel
theorem dX6_kind_22 : decode cX6_kind 22 = .ok (.getfield 18, 3) := by decide +kernel
theorem dX6_kind_25 : decode cX6_kind 25 = .ok (.getfield 175, 3) := by decide +kernel
theorem dX6_kind_28 : decode cX6_kind 28 = .ok (.aload_n 0, 1) := by decide +kernel
theorem dX6_kind_29 : decode cX6_kind 29 = .ok (.getfield 52, 3) := by decide +kernel
theorem dX6_kind_32 : decode cX6_kind 32 = .ok (.iaload, 1) := by decide +kernel
theorem dX6_kind_33 : decode cX6_kind 33 = .ok (.goto 4, 3) := by decide +kernel
theorem dX6_kind_36 : decode cX6_kind 36 = .ok (.iconst 0, 1) := by decide +kernel
theorem dX6_kind_37 : decode cX6_kind 37 = .ok (.ireturn, 1) := by decide +kernel
theorem dX6_fail_0 : decode cX6_fail 0 = .ok (.aload_n 0, 1) := by decide +kernel
theorem dX6_fail_1 : decode cX6_fail 1 = .ok (.iload_n 1, 1) := by decide +kernel
theorem dX6_fail_2 : decode cX6_fail 2 = .ok (.putfield 49, 3) := by decide +kernel
theorem dX6_fail_5 : decode cX6_fail 5 = .ok (.aload_n 0, 1) := by decide +kernel
theorem dX6_fail_6 : decode cX6_fail 6 = .ok (.aload_n 0, 1) := by decide +kernel
theorem dX6_fail_7 : decode cX6_fail 7 = .ok (.getfield 52, 3) := by decide +kernel
theorem dX6_fail_10 : decode cX6_fail 10 = .ok (.ifCond .lt 32, 3) := by decide +kernel
theorem dX6_fail_13 : decode cX6_fail 13 = .ok (.aload_n 0, 1) := by decide +kernel
theorem dX6_fail_14 : decode cX6_fail 14 = .ok (.getfield 52, 3) := by decide +kernel
theorem dX6_fail_17 : decode cX6_fail 17 = .ok (.aload_n 0, 1) := by decide +kernel
theorem dX6_fail_18 : decode cX6_fail 18 = .ok (.getfield 18, 3) := by decide +kernel
theorem dX6_fail_21 : decode cX6_fail 21 = .ok (.getfield 131, 3) := by decide +kernel
theorem dX6_fail_24 : decode cX6_fail 24 = .ok (.if_icmp .ge 18, 3) := by decide +kernel
theorem dX6_fail_27 : decode cX6_fail 27 = .ok (.aload_n 0, 1) := by decide +kernel
theorem dX6_fail_28 : decode cX6_fail 28 = .ok (.getfield 18, 3) := by decide +kernel
theorem dX6_fail_31 : decode cX6_fail 31 = .ok (.getfield 178, 3) := by decide +kernel
theorem dX6_fail_34 : decode cX6_fail 34 = .ok (.aload_n 0, 1) := by decide +kernel
theorem dX6_fail_35 : decode cX6_fail 35 = .ok (.getfield 52, 3) := by decide +kernel
theorem dX6_fail_38 : decode cX6_fail 38 = .ok (.iaload, 1) := by decide +kernel
theorem dX6_fail_39 : decode cX6_fail 39 = .ok (.goto 10, 3) := by decide +kernel
theorem dX6_fail_42 : decode cX6_fail 42 = .ok (.aload_n 0, 1) := by decide +kernel
theorem dX6_fail_43 : decode cX6_fail 43 = .ok (.getfield 18, 3) := by decide +kernel
theorem dX6_fail_46 : decode cX6_fail 46 = .ok (.getfield 181, 3) := by decide +kernel
theorem dX6_fail_49 : decode cX6_fail 49 = .ok (.putfield 9, 3) := by decide +kernel
theorem dX6_fail_52 : decode cX6_fail 52 = .ok (.iconst 0, 1) := by decide +kernel
theorem dX6_fail_53 : decode cX6_fail 53 = .ok (.ireturn, 1) := by decide +kernel
theorem dX6_takes_0 : decode cX6_takes 0 = .ok (.aload_n 0, 1) := by decide +kernel
theorem dX6_takes_1 : decode cX6_takes 1 = .ok (.invokevirtual 64, 3) := by decide +kernel
theorem dX6_takes_4 : decode cX6_takes 4 = .ok (.iload_n 1, 1) := by decide +kernel
theorem dX6_takes_5 : decode cX6_takes 5 = .ok (.if_icmp .eq 9, 3) := by decide +kernel
theorem dX6_takes_8 : decode cX6_takes 8 = .ok (.aload_n 0, 1) := by decide +kernel
theorem dX6_takes_9 : decode cX6_takes 9 = .ok (.iconst 1, 1) := by decide +kernel
theorem dX6_takes_10 : decode cX6_takes 10 = .ok (.invokevirtual 109, 3) := by decide +kernel
theorem dX6_takes_13 : decode cX6_takes 13 = .ok (.ireturn, 1) := by decide +kernel
theorem dX6_takes_14 : decode cX6_takes 14 = .ok (.aload_n 0, 1) := by decide +kernel
theorem dX6_takes_15 : decode cX6_takes 15 = .ok (.dup, 1) := by decide +kernel
theorem dX6_takes_16 : decode cX6_takes 16 = .ok (.getfield 52, 3) := by decide +kernel
theorem dX6_takes_19 : decode cX6_takes 19 = .ok (.iconst 1, 1) := by decide +kernel
theorem dX6_takes_20 : decode cX6_takes 20 = .ok (.iadd, 1) := by decide +kernel
theorem dX6_takes_21 : decode cX6_takes 21 = .ok (.putfield 52, 3) := by decide +kernel
theorem dX6_takes_24 : decode cX6_takes 24 = .ok (.iconst 1, 1) := by decide +kernel
theorem dX6_takes_25 : decode cX6_takes 25 = .ok (.ireturn, 1) := by decide +kernel
theorem dX6_begins_0 : decode cX6_begins 0 = .ok (.aload_n 0, 1) := by decide +kernel
theorem dX6_begins_1 : decode cX6_begins 1 = .ok (.invokevirtual 64, 3) := by decide +kernel
theorem dX6_begins_4 : decode cX6_begins 4 = .ok (.iload_n 1, 1) := by decide +kernel
theorem dX6_begins_5 : decode cX6_begins 5 = .ok (.if_icmp .ne 15, 3) := by decide +kernel
theorem dX6_begins_8 : decode cX6_begins 8 = .ok (.iload_n 2, 1) := by decide +kernel
theorem dX6_begins_9 : decode cX6_begins 9 = .ok (.bipush 16, 2) := by decide +kernel
theorem dX6_begins_11 : decode cX6_begins 11 = .ok (.if_icmp .lt 9, 3) := by decide +kernel
theorem dX6_begins_14 : decode cX6_begins 14 = .ok (.aload_n 0, 1) := by decide +kernel
theorem dX6_begins_15 : decode cX6_begins 15 = .ok (.iconst 3, 1) := by decide +kernel
theorem dX6_begins_16 : decode cX6_begins 16 = .ok (.invokevirtual 109, 3) := by decide +kernel
theorem dX6_begins_19 : decode cX6_begins 19 = .ok (.ireturn, 1) := by decide +kernel
theorem dX6_begins_20 : decode cX6_begins 20 = .ok (.aload_n 0, 1) := by decide +kernel
theorem dX6_begins_21 : decode cX6_begins 21 = .ok (.iload_n 1, 1) := by decide +kernel
theorem dX6_begins_22 : decode cX6_begins 22 = .ok (.invokevirtual 125, 3) := by decide +kernel
theorem dX6_begins_25 : decode cX6_begins 25 = .ok (.ireturn, 1) := by decide +kernel
theorem dX6_number_0 : decode cX6_number 0 = .ok (.aload_n 0, 1) := by decide +kernel
theorem dX6_number_1 : decode cX6_number 1 = .ok (.invokevirtual 64, 3) := by decide +kernel
theorem dX6_number_4 : decode cX6_number 4 = .ok (.iconst 1, 1) := by decide +kernel
theorem dX6_number_5 : decode cX6_number 5 = .ok (.if_icmp .eq 11, 3) := by decide +kernel
theorem dX6_number_8 : decode cX6_number 8 = .ok (.aload_n 0, 1) := by decide +kernel
theorem dX6_number_9 : decode cX6_number 9 = .ok (.iconst 1, 1) := by decide +kernel
theorem dX6_number_10 : decode cX6_number 10 = .ok (.invokevirtual 109, 3) := by decide +kernel
theorem dX6_number_13 : decode cX6_number 13 = .ok (.pop, 1) := by decide +kernel
theorem dX6_number_14 : decode cX6_number 14 = .ok (.iconst (-1), 1) := by decide +kernel
theorem dX6_number_15 : decode cX6_number 15 = .ok (.ireturn, 1) := by decide +kernel
theorem dX6_number_16 : decode cX6_number 16 = .ok (.aload_n 0, 1) := by decide +kernel
theorem dX6_number_17 : decode cX6_number 17 = .ok (.getfield 18, 3) := by decide +kernel
theorem dX6_number_20 : decode cX6_number 20 = .ok (.getfield 145, 3) := by decide +kernel
theorem dX6_number_23 : decode cX6_number 23 = .ok (.aload_n 0, 1) := by decide +kernel
theorem dX6_number_24 : decode cX6_number 24 = .ok (.getfield 52, 3) := by decide +kernel
theorem dX6_number_27 : decode cX6_number 27 = .ok (.iaload, 1) := by decide +kernel
theorem dX6_number_28 : decode cX6_number 28 = .ok (.istore_n 3, 1) := by decide +kernel
theorem dX6_number_29 : decode cX6_number 29 = .ok (.iload_n 3, 1) := by decide +kernel
theorem dX6_number_30 : decode cX6_number 30 = .ok (.iload_n 1, 1) := by decide +kernel
theorem dX6_number_31 : decode cX6_number 31 = .ok (.iload_n 2, 1) := by decide +kernel
theorem dX6_number_32 : decode cX6_number 32 = .ok (.invokestatic 105, 3) := by decide +kernel
theorem dX6_number_35 : decode cX6_number 35 = .ok (.ifCond .ne 11, 3) := by decide +kernel
theorem dX6_number_38 : decode cX6_number 38 = .ok (.aload_n 0, 1) := by decide +kernel
theorem dX6_number_39 : decode cX6_number 39 = .ok (.iconst 2, 1) := by decide +kernel
theorem dX6_number_40 : decode cX6_number 40 = .ok (.invokevirtual 109, 3) := by decide +kernel
theorem dX6_number_43 : decode cX6_number 43 = .ok (.pop, 1) := by decide +kernel
theorem dX6_number_44 : decode cX6_number 44 = .ok (.iconst (-1), 1) := by decide +kernel
theorem dX6_number_45 : decode cX6_number 45 = .ok (.ireturn, 1) := by decide +kernel
theorem dX6_number_46 : decode cX6_number 46 = .ok (.aload_n 0, 1) := by decide +kernel
theorem dX6_number_47 : decode cX6_number 47 = .ok (.dup, 1) := by decide +kernel
theorem dX6_number_48 : decode cX6_number 48 = .ok (.getfield 52, 3) := by decide +kernel
theorem dX6_number_51 : decode cX6_number 51 = .ok (.iconst 1, 1) := by decide +kernel
theorem dX6_number_52 : decode cX6_number 52 = .ok (.iadd, 1) := by decide +kernel
theorem dX6_number_53 : decode cX6_number 53 = .ok (.putfield 52, 3) := by decide +kernel
theorem dX6_number_56 : decode cX6_number 56 = .ok (.iload_n 3, 1) := by decide +kernel
theorem dX6_number_57 : decode cX6_number 57 = .ok (.ireturn, 1) := by decide +kernel
theorem dX7_init_0 : decode cX7_init 0 = .ok (.aload_n 0, 1) := by decide +kernel
theorem dX7_init_1 : decode cX7_init 1 = .ok (.invokespecial 3, 3) := by decide +kernel
theorem dX7_init_4 : decode cX7_init 4 = .ok (.aload_n 0, 1) := by decide +kernel
theorem dX7_init_5 : decode cX7_init 5 = .ok (.iconst 5, 1) := by decide +kernel
theorem dX7_init_6 : decode cX7_init 6 = .ok (.newarray .int, 2) := by decide +kernel
theorem dX7_init_8 : decode cX7_init 8 = .ok (.putfield 9, 3) := by decide +kernel
theorem dX7_init_11 : decode cX7_init 11 = .ok (.aload_n 0, 1) := by decide +kernel
theorem dX7_init_12 : decode cX7_init 12 = .ok (.iload_n 1, 1) := by decide +kernel
theorem dX7_init_13 : decode cX7_init 13 = .ok (.putfield 15, 3) := by decide +kernel
theorem dX7_init_16 : decode cX7_init 16 = .ok (.return_, 1) := by decide +kernel
theorem dX7_pass_0 : decode cX7_pass 0 = .ok (.aload_n 0, 1) := by decide +kernel
theorem dX7_pass_1 : decode cX7_pass 1 = .ok (.invokevirtual 19, 3) := by decide +kernel
theorem dX7_pass_4 : decode cX7_pass 4 = .ok (.iconst 0, 1) := by decide +kernel
theorem dX7_pass_5 : decode cX7_pass 5 = .ok (.istore 4, 2) := by decide +kernel
theorem dX7_pass_7 : decode cX7_pass 7 = .ok (.iload 4, 2) := by decide +kernel
theorem dX7_pass_9 : decode cX7_pass 9 = .ok (.iload_n 3, 1) := by decide +kernel
theorem dX7_pass_10 : decode cX7_pass 10 = .ok (.if_icmp .ge 160, 3) := by decide +kernel
theorem dX7_pass_13 : decode cX7_pass 13 = .ok (.aload_n 0, 1) := by decide +kernel
theorem dX7_pass_14 : decode cX7_pass 14 = .ok (.aload_n 1, 1) := by decide +kernel
theorem dX7_pass_15 : decode cX7_pass 15 = .ok (.aload_n 2, 1) := by decide +kernel
theorem dX7_pass_16 : decode cX7_pass 16 = .ok (.invokevirtual 22, 3) := by decide +kernel
theorem dX7_pass_19 : decode cX7_pass 19 = .ok (.iconst 0, 1) := by decide +kernel
theorem dX7_pass_20 : decode cX7_pass 20 = .ok (.istore 5, 2) := by decide +kernel
theorem dX7_pass_22 : decode cX7_pass 22 = .ok (.iload 5, 2) := by decide +kernel
theorem dX7_pass_24 : decode cX7_pass 24 = .ok (.aload_n 2, 1) := by decide +kernel
theorem dX7_pass_25 : decode cX7_pass 25 = .ok (.getfield 26, 3) := by decide +kernel
theorem dX7_pass_28 : decode cX7_pass 28 = .ok (.if_icmp .ge 39, 3) := by decide +kernel
theorem dX7_pass_31 : decode cX7_pass 31 = .ok (.aload_n 2, 1) := by decide +kernel
theorem dX7_pass_32 : decode cX7_pass 32 = .ok (.getfield 32, 3) := by decide +kernel
theorem dX7_pass_35 : decode cX7_pass 35 = .ok (.iload 5, 2) := by decide +kernel
theorem dX7_pass_37 : decode cX7_pass 37 = .ok (.bipush 99, 2) := by decide +kernel
theorem dX7_pass_39 : decode cX7_pass 39 = .ok (.aload_n 2, 1) := by decide +kernel
theorem dX7_pass_40 : decode cX7_pass 40 = .ok (.getfield 32, 3) := by decide +kernel
theorem dX7_pass_43 : decode cX7_pass 43 = .ok (.iload 5, 2) := by decide +kernel
theorem dX7_pass_45 : decode cX7_pass 45 = .ok (.iaload, 1) := by decide +kernel
theorem dX7_pass_46 : decode cX7_pass 46 = .ok (.aload_n 1, 1) := by decide +kernel
theorem dX7_pass_47 : decode cX7_pass 47 = .ok (.getfield 35, 3) := by decide +kernel
theorem dX7_pass_50 : decode cX7_pass 50 = .ok (.aload_n 2, 1) := by decide +kernel
theorem dX7_pass_51 : decode cX7_pass 51 = .ok (.iload 5, 2) := by decide +kernel
theorem dX7_pass_53 : decode cX7_pass 53 = .ok (.invokevirtual 41, 3) := by decide +kernel
theorem dX7_pass_56 : decode cX7_pass 56 = .ok (.iadd, 1) := by decide +kernel
theorem dX7_pass_57 : decode cX7_pass 57 = .ok (.invokestatic 47, 3) := by decide +kernel
theorem dX7_pass_60 : decode cX7_pass 60 = .ok (.iastore, 1) := by decide +kernel
theorem dX7_pass_61 : decode cX7_pass 61 = .ok (.iinc 5 1, 3) := by decide +kernel
theorem dX7_pass_64 : decode cX7_pass 64 = .ok (.goto (-42), 3) := by decide +kernel
theorem dX7_pass_67 : decode cX7_pass 67 = .ok (.iconst 0, 1) := by decide +kernel
theorem dX7_pass_68 : decode cX7_pass 68 = .ok (.istore 5, 2) := by decide +kernel
theorem dX7_pass_70 : decode cX7_pass 70 = .ok (.iload 5, 2) := by decide +kernel
theorem dX7_pass_72 : decode cX7_pass 72 = .ok (.aload_n 2, 1) := by decide +kernel
theorem dX7_pass_73 : decode cX7_pass 73 = .ok (.getfield 53, 3) := by decide +kernel
theorem dX7_pass_76 : decode cX7_pass 76 = .ok (.if_icmp .ge 17, 3) := by decide +kernel
theorem dX7_pass_79 : decode cX7_pass 79 = .ok (.aload_n 0, 1) := by decide +kernel
theorem dX7_pass_80 : decode cX7_pass 80 = .ok (.aload_n 1, 1) := by decide +kernel
theorem dX7_pass_81 : decode cX7_pass 81 = .ok (.aload_n 2, 1) := by decide +kernel
theorem dX7_pass_82 : decode cX7_pass 82 = .ok (.iload 5, 2) := by decide +kernel
theorem dX7_pass_84 : decode cX7_pass 84 = .ok (.invokevirtual 56, 3) := by decide +kernel
theorem dX7_pass_87 : decode cX7_pass 87 = .ok (.iinc 5 1, 3) := by decide +kernel
theorem dX7_pass_90 : decode cX7_pass 90 = .ok (.goto (-20), 3) := by decide +kernel
theorem dX7_pass_93 : decode cX7_pass 93 = .ok (.aload_n 0, 1) := by decide +kernel
theorem dX7_pass_94 : decode cX7_pass 94 = .ok (.getfield 15, 3) := by decide +kernel
theorem dX7_pass_97 : decode cX7_pass 97 = .ok (.ifCond .eq 16, 3) := by decide +kernel
theorem dX7_pass_100 : decode cX7_pass 100 = .ok (.aload_n 2, 1) := by decide +kernel
theorem dX7_pass_101 : decode cX7_pass 101 = .ok (.getfield 60, 3) := by decide +kernel
theorem dX7_pass_104 : decode cX7_pass 104 = .ok (.ifCond .le 9, 3) := by decide +kernel
theorem dX7_pass_107 : decode cX7_pass 107 = .ok (.aload_n 0, 1) := by decide +kernel
theorem dX7_pass_108 : decode cX7_pass 108 = .ok (.aload_n 1, 1) := by decide +kernel
theorem dX7_pass_109 : decode cX7_pass 109 = .ok (.aload_n 2, 1) := by decide +kernel
theorem dX7_pass_110 : decode cX7_pass 110 = .ok (.invokevirtual 63, 3) := by decide +kernel
theorem dX7_pass_113 : decode cX7_pass 113 = .ok (.aload_n 2, 1) := by decide +kernel
theorem dX7_pass_114 : decode cX7_pass 114 = .ok (.getfield 66, 3) := by decide +kernel
theorem dX7_pass_117 : decode cX7_pass 117 = .ok (.ifCond .le 23, 3) := by decide +kernel
theorem dX7_pass_120 : decode cX7_pass 120 = .ok (.aload_n 2, 1) := by decide +kernel
theorem dX7_pass_121 : decode cX7_pass 121 = .ok (.getfield 69, 3) := by decide +kernel
theorem dX7_pass_124 : decode cX7_pass 124 = .ok (.iconst 1, 1) := by decide +kernel
theorem dX7_pass_125 : decode cX7_pass 125 = .ok (.iadd, 1) := by decide +kernel
theorem dX7_pass_126 : decode cX7_pass 126 = .ok (.aload_n 2, 1) := by decide +kernel
theorem dX7_pass_127 : decode cX7_pass 127 = .ok (.getfield 66, 3) := by decide +kernel
theorem dX7_pass_130 : decode cX7_pass 130 = .ok (.irem, 1) := by decide +kernel
theorem dX7_pass_131 : decode cX7_pass 131 = .ok (.ifCond .ne 9, 3) := by decide +kernel
theorem dX7_pass_134 : decode cX7_pass 134 = .ok (.aload_n 0, 1) := by decide +kernel
theorem dX7_pass_135 : decode cX7_pass 135 = .ok (.aload_n 1, 1) := by decide +kernel
theorem dX7_pass_136 : decode cX7_pass 136 = .ok (.aload_n 2, 1) := by decide +kernel
theorem dX7_pass_137 : decode cX7_pass 137 = .ok (.invokevirtual 72, 3) := by decide +kernel
theorem dX7_pass_140 : decode cX7_pass 140 = .ok (.aload_n 2, 1) := by decide +kernel
theorem dX7_pass_141 : decode cX7_pass 141 = .ok (.dup, 1) := by decide +kernel
theorem dX7_pass_142 : decode cX7_pass 142 = .ok (.getfield 69, 3) := by decide +kernel
theorem dX7_pass_145 : decode cX7_pass 145 = .ok (.iconst 1, 1) := by decide +kernel
theorem dX7_pass_146 : decode cX7_pass 146 = .ok (.iadd, 1) := by decide +kernel
theorem dX7_pass_147 : decode cX7_pass 147 = .ok (.putfield 69, 3) := by decide +kernel
theorem dX7_pass_150 : decode cX7_pass 150 = .ok (.aload_n 2, 1) := by decide +kernel
theorem dX7_pass_151 : decode cX7_pass 151 = .ok (.getfield 69, 3) := by decide +kernel
theorem dX7_pass_154 : decode cX7_pass 154 = .ok (.bipush 52, 2) := by decide +kernel
theorem dX7_pass_156 : decode cX7_pass 156 = .ok (.irem, 1) := by decide +kernel
theorem dX7_pass_157 : decode cX7_pass 157 = .ok (.ifCond .ne 7, 3) := by decide +kernel
theorem dX7_pass_160 : decode cX7_pass 160 = .ok (.aload_n 2, 1) := by decide +kernel
theorem dX7_pass_161 : decode cX7_pass 161 = .ok (.invokevirtual 75, 3) := by decide +kernel
theorem dX7_pass_164 : decode cX7_pass 164 = .ok (.iinc 4 1, 3) := by decide +kernel
theorem dX7_pass_167 : decode cX7_pass 167 = .ok (.goto (-160), 3) := by decide +kernel
theorem dX7_pass_170 : decode cX7_pass 170 = .ok (.return_, 1) := by decide +kernel
theorem dX7_begin_0 : decode cX7_begin 0 = .ok (.aload_n 0, 1) := by decide +kernel
theorem dX7_begin_1 : decode cX7_begin 1 = .ok (.iconst 0, 1) := by decide +kernel
theorem dX7_begin_2 : decode cX7_begin 2 = .ok (.putfield 78, 3) := by decide +kernel
theorem dX7_begin_5 : decode cX7_begin 5 = .ok (.aload_n 0, 1) := by decide +kernel
theorem dX7_begin_6 : decode cX7_begin 6 = .ok (.iconst (-1), 1) := by decide +kernel
theorem dX7_begin_7 : decode cX7_begin 7 = .ok (.putfield 81, 3) := by decide +kernel
theorem dX7_begin_10 : decode cX7_begin 10 = .ok (.aload_n 0, 1) := by decide +kernel
theorem dX7_begin_11 : decode cX7_begin 11 = .ok (.iconst (-1), 1) := by decide +kernel
theorem dX7_begin_12 : decode cX7_begin 12 = .ok (.putfield 84, 3) := by decide +kernel
theorem dX7_begin_15 : decode cX7_begin 15 = .ok (.iconst 0, 1) := by decide +kernel
theorem dX7_begin_16 : decode cX7_begin 16 = .ok (.istore_n 1, 1) := by decide +kernel
theorem dX7_begin_17 : decode cX7_begin 17 = .ok (.iload_n 1, 1) := by decide +kernel
theorem dX7_begin_18 : decode cX7_begin 18 = .ok (.iconst 5, 1) := by decide +kernel
theorem dX7_begin_19 : decode cX7_begin 19 = .ok (.if_icmp .ge 16, 3) := by decide +kernel
theorem dX7_begin_22 : decode cX7_begin 22 = .ok (.aload_n 0, 1) := by decide +kernel
theorem dX7_begin_23 : decode cX7_begin 23 = .ok (.getfield 9, 3) := by decide +kernel
theorem dX7_begin_26 : decode cX7_begin 26 = .ok (.iload_n 1, 1) := by decide +kernel
theorem dX7_begin_27 : decode cX7_begin 27 = .ok (.iconst 0, 1) := by decide +kernel
theorem dX7_begin_28 : decode cX7_begin 28 = .ok (.iastore, 1) := by decide +kernel
theorem dX7_begin_29 : decode cX7_begin 29 = .ok (.iinc 1 1, 3) := by decide +kernel
theorem dX7_begin_32 : decode cX7_begin 32 = .ok (.goto (-15), 3) := by decide +kernel
theorem dX7_begin_35 : decode cX7_begin 35 = .ok (.return_, 1) := by decide +kernel
theorem dX7_follow_0 : decode cX7_follow 0 = .ok (.iconst 0, 1) := by decide +kernel
theorem dX7_follow_1 : decode cX7_follow 1 = .ok (.istore_n 3, 1) := by decide +kernel
theorem dX7_follow_2 : decode cX7_follow 2 = .ok (.iload_n 3, 1) := by decide +kernel
theorem dX7_follow_3 : decode cX7_follow 3 = .ok (.aload_n 1, 1) := by decide +kernel
theorem dX7_follow_4 : decode cX7_follow 4 = .ok (.getfield 87, 3) := by decide +kernel
theorem dX7_follow_7 : decode cX7_follow 7 = .ok (.getfield 91, 3) := by decide +kernel
theorem dX7_follow_10 : decode cX7_follow 10 = .ok (.if_icmp .ge 32, 3) := by decide +kernel
theorem dX7_follow_13 : decode cX7_follow 13 = .ok (.aload_n 1, 1) := by decide +kernel
theorem dX7_follow_14 : decode cX7_follow 14 = .ok (.getfield 87, 3) := by decide +kernel
theorem dX7_follow_17 : decode cX7_follow 17 = .ok (.getfield 96, 3) := by decide +kernel
theorem dX7_follow_20 : decode cX7_follow 20 = .ok (.iload_n 3, 1) := by decide +kernel
theorem dX7_follow_21 : decode cX7_follow 21 = .ok (.iaload, 1) := by decide +kernel
theorem dX7_follow_22 : decode cX7_follow 22 = .ok (.aload_n 2, 1) := by decide +kernel
theorem dX7_follow_23 : decode cX7_follow 23 = .ok (.getfield 69, 3) := by decide +kernel
theorem dX7_follow_26 : decode cX7_follow 26 = .ok (.if_icmp .ne 10, 3) := by decide +kernel
theorem dX7_follow_29 : decode cX7_follow 29 = .ok (.aload_n 0, 1) := by decide +kernel
theorem dX7_follow_30 : decode cX7_follow 30 = .ok (.aload_n 1, 1) := by decide +kernel
theorem dX7_follow_31 : decode cX7_follow 31 = .ok (.aload_n 2, 1) := by decide +kernel
theorem dX7_follow_32 : decode cX7_follow 32 = .ok (.iload_n 3, 1) := by decide +kernel
theorem dX7_follow_33 : decode cX7_follow 33 = .ok (.invokevirtual 99, 3) := by decide +kernel
theorem dX7_follow_36 : decode cX7_follow 36 = .ok (.iinc 3 1, 3) := by decide +kernel
theorem dX7_follow_39 : decode cX7_follow 39 = .ok (.goto (-37), 3) := by decide +kernel
theorem dX7_follow_42 : decode cX7_follow 42 = .ok (.return_, 1) := by decide +kernel
theorem dX7_note_0 : decode cX7_note 0 = .ok (.aload_n 0, 1) := by decide +kernel
theorem dX7_note_1 : decode cX7_note 1 = .ok (.getfield 15, 3) := by decide +kernel
theorem dX7_note_4 : decode cX7_note 4 = .ok (.ifCond .eq 16, 3) := by decide +kernel
theorem dX7_note_7 : decode cX7_note 7 = .ok (.aload_n 1, 1) := by decide +kernel
theorem dX7_note_8 : decode cX7_note 8 = .ok (.getfield 102, 3) := by decide +kernel
theorem dX7_note_11 : decode cX7_note 11 = .ok (.aload_n 2, 1) := by decide +kernel
theorem dX7_note_12 : decode cX7_note 12 = .ok (.iload_n 3, 1) := by decide +kernel
theorem dX7_note_13 : decode cX7_note 13 = .ok (.iload 4, 2) := by decide +kernel
theorem dX7_note_15 : decode cX7_note 15 = .ok (.iload 5, 2) := by decide +kernel
theorem dX7_note_17 : decode cX7_note 17 = .ok (.invokevirtual 106, 3) := by decide +kernel
theorem dX7_note_20 : decode cX7_note 20 = .ok (.return_, 1) := by decide +kernel
theorem dX7_act_0 : decode cX7_act 0 = .ok (.aload_n 1, 1) := by decide +kernel
theorem dX7_act_1 : decode cX7_act 1 = .ok (.getfield 87, 3) := by decide +kernel
theorem dX7_act_4 : decode cX7_act 4 = .ok (.getfield 112, 3) := by decide +kernel
theorem dX7_act_7 : decode cX7_act 7 = .ok (.iload_n 3, 1) := by decide +kernel
theorem dX7_act_8 : decode cX7_act 8 = .ok (.iaload, 1) := by decide +kernel
theorem dX7_act_9 : decode cX7_act 9 = .ok (.istore 4, 2) := by decide +kernel
theorem dX7_act_11 : decode cX7_act 11 = .ok (.aload_n 1, 1) := by decide +kernel
theorem dX7_act_12 : decode cX7_act 12 = .ok (.getfield 87, 3) := by decide +kernel
theorem dX7_act_15 : decode cX7_act 15 = .ok (.getfield 115, 3) := by decide +kernel
theorem dX7_act_18 : decode cX7_act 18 = .ok (.iload_n 3, 1) := by decide +kernel
theorem dX7_act_19 : decode cX7_act 19 = .ok (.iaload, 1) := by decide +kernel
theorem dX7_act_20 : decode cX7_act 20 = .ok (.istore 5, 2) := by decide +kernel
theorem dX7_act_22 : decode cX7_act 22 = .ok (.aload_n 1, 1) := by decide +kernel
theorem dX7_act_23 : decode cX7_act 23 = .ok (.getfield 87, 3) := by decide +kernel
theorem dX7_act_26 : decode cX7_act 26 = .ok (.getfield 118, 3) := by decide +kernel
theorem dX7_act_29 : decode cX7_act 29 = .ok (.iload_n 3, 1) := by decide +kernel
theorem dX7_act_30 : decode cX7_act 30 = .ok (.iaload, 1) := by decide +kernel
theorem dX7_act_31 : decode cX7_act 31 = .ok (.istore 6, 2) := by decide +kernel
theorem dX7_act_33 : decode cX7_act 33 = .ok (.iload 4, 2) := by decide +kernel
theorem dX7_act_35 : decode cX7_act 35 = .ok (.sipush 257, 3) := by decide +kernel
theorem dX7_act_38 : decode cX7_act 38 = .ok (.if_icmp .ne 32, 3) := by decide +kernel
theorem dX7_act_41 : decode cX7_act 41 = .ok (.aload_n 2, 1) := by decide +kernel
theorem dX7_act_42 : decode cX7_act 42 = .ok (.getfield 26, 3) := by decide +kernel
theorem dX7_act_45 : decode cX7_act 45 = .ok (.bipush 14, 2) := by decide +kernel
theorem dX7_act_47 : decode cX7_act 47 = .ok (.if_icmp .ge 133, 3) := by decide +kernel
theorem dX7_act_50 : decode cX7_act 50 = .ok (.aload_n 0, 1) := by decide +kernel
theorem dX7_act_51 : decode cX7_act 51 = .ok (.aload_n 1, 1) := by decide +kernel
theorem dX7_act_52 : decode cX7_act 52 = .ok (.aload_n 2, 1) := by decide +kernel
theorem dX7_act_53 : decode cX7_act 53 = .ok (.iconst 0, 1) := by decide +kernel
theorem dX7_act_54 : decode cX7_act 54 = .ok (.aload_n 2, 1) := by decide +kernel
theorem dX7_act_55 : decode cX7_act 55 = .ok (.iload 5, 2) := by decide +kernel
theorem dX7_act_57 : decode cX7_act 57 = .ok (.iload 6, 2) := by decide +kernel
theorem dX7_act_59 : decode cX7_act 59 = .ok (.iconst 0, 1) := by decide +kernel
theorem dX7_act_60 : decode cX7_act 60 = .ok (.invokevirtual 121, 3) := by decide +kernel
theorem dX7_act_63 : decode cX7_act 63 = .ok (.iconst 0, 1) := by decide +kernel
theorem dX7_act_64 : decode cX7_act 64 = .ok (.invokevirtual 125, 3) := by decide +kernel
theorem dX7_act_67 : decode cX7_act 67 = .ok (.goto 113, 3) := by decide +kernel
theorem dX7_act_70 : decode cX7_act 70 = .ok (.iload 4, 2) := by decide +kernel
theorem dX7_act_72 : decode cX7_act 72 = .ok (.sipush 261, 3) := by decide +kernel
theorem dX7_act_75 : decode cX7_act 75 = .ok (.if_icmp .ne 23, 3) := by decide +kernel
theorem dX7_act_78 : decode cX7_act 78 = .ok (.aload_n 0, 1) := by decide +kernel
theorem dX7_act_79 : decode cX7_act 79 = .ok (.aload_n 1, 1) := by decide +kernel
theorem dX7_act_80 : decode cX7_act 80 = .ok (.aload_n 2, 1) := by decide +kernel
theorem dX7_act_81 : decode cX7_act 81 = .ok (.iconst 3, 1) := by decide +kernel
theorem dX7_act_82 : decode cX7_act 82 = .ok (.iload 5, 2) := by decide +kernel
theorem dX7_act_84 : decode cX7_act 84 = .ok (.aload_n 2, 1) := by decide +kernel
theorem dX7_act_85 : decode cX7_act 85 = .ok (.iload 5, 2) := by decide +kernel
theorem dX7_act_87 : decode cX7_act 87 = .ok (.iload 6, 2) := by decide +kernel
theorem dX7_act_89 : decode cX7_act 89 = .ok (.invokevirtual 129, 3) := by decide +kernel
theorem dX7_act_92 : decode cX7_act 92 = .ok (.invokevirtual 125, 3) := by decide +kernel
theorem dX7_act_95 : decode cX7_act 95 = .ok (.goto 85, 3) := by decide +kernel
theorem dX7_act_98 : decode cX7_act 98 = .ok (.iload 4, 2) := by decide +kernel
theorem dX7_act_100 : decode cX7_act 100 = .ok (.sipush 262, 3) := by decide +kernel
theorem dX7_act_103 : decode cX7_act 103 = .ok (.if_icmp .ne 27, 3) := by decide +kernel
theorem dX7_act_106 : decode cX7_act 106 = .ok (.aload_n 2, 1) := by decide +kernel
theorem dX7_act_107 : decode cX7_act 107 = .ok (.getfield 132, 3) := by decide +kernel
theorem dX7_act_110 : decode cX7_act 110 = .ok (.iload 5, 2) := by decide +kernel
theorem dX7_act_112 : decode cX7_act 112 = .ok (.bipush 20, 2) := by decide +kernel
theorem dX7_act_114 : decode cX7_act 114 = .ok (.iconst 2, 1) := by decide +kernel
theorem dX7_act_115 : decode cX7_act 115 = .ok (.aload_n 2, 1) := by decide +kernel
theorem dX7_act_116 : decode cX7_act 116 = .ok (.getfield 132, 3) := by decide +kernel
theorem dX7_act_119 : decode cX7_act 119 = .ok (.iload 5, 2) := by decide +kernel
theorem dX7_act_121 : decode cX7_act 121 = .ok (.iaload, 1) := by decide +kernel
theorem dX7_act_122 : decode cX7_act 122 = .ok (.imul, 1) := by decide +kernel
theorem dX7_act_123 : decode cX7_act 123 = .ok (.invokestatic 47, 3) := by decide +kernel
theorem dX7_act_126 : decode cX7_act 126 = .ok (.iastore, 1) := by decide +kernel
theorem dX7_act_127 : decode cX7_act 127 = .ok (.goto 53, 3) := by decide +kernel
theorem dX7_act_130 : decode cX7_act 130 = .ok (.aload_n 2, 1) := by decide +kernel
theorem dX7_act_131 : decode cX7_act 131 = .ok (.iload 5, 2) := by decide +kernel
theorem dX7_act_133 : decode cX7_act 133 = .ok (.invokevirtual 135, 3) := by decide +kernel
theorem dX7_act_136 : decode cX7_act 136 = .ok (.iload 4, 2) := by decide +kernel
theorem dX7_act_138 : decode cX7_act 138 = .ok (.sipush 259, 3) := by decide +kernel
theorem dX7_act_141 : decode cX7_act 141 = .ok (.if_icmp .ne 7, 3) := by decide +kernel
theorem dX7_act_144 : decode cX7_act 144 = .ok (.iconst 1, 1) := by decide +kernel
theorem dX7_act_145 : decode cX7_act 145 = .ok (.goto 4, 3) := by decide +kernel
theorem dX7_act_148 : decode cX7_act 148 = .ok (.iconst 0, 1) := by decide +kernel
theorem dX7_act_149 : decode cX7_act 149 = .ok (.if_icmp .eq 31, 3) := by decide +kernel
theorem dX7_act_152 : decode cX7_act 152 = .ok (.aload_n 2, 1) := by decide +kernel
theorem dX7_act_153 : decode cX7_act 153 = .ok (.iload 5, 2) := by decide +kernel
theorem dX7_act_155 : decode cX7_act 155 = .ok (.invokevirtual 139, 3) := by decide +kernel
theorem dX7_act_158 : decode cX7_act 158 = .ok (.aload_n 0, 1) := by decide +kernel
theorem dX7_act_159 : decode cX7_act 159 = .ok (.aload_n 1, 1) := by decide +kernel
theorem dX7_act_160 : decode cX7_act 160 = .ok (.aload_n 2, 1) := by decide +kernel
theorem dX7_act_161 : decode cX7_act 161 = .ok (.iload 4, 2) := by decide +kernel
theorem dX7_act_163 : decode cX7_act 163 = .ok (.sipush 259, 3) := by decide +kernel
theorem dX7_act_166 : decode cX7_act 166 = .ok (.if_icmp .ne 7, 3) := by decide +kernel
theorem dX7_act_169 : decode cX7_act 169 = .ok (.iconst 1, 1) := by decide +kernel
theorem dX7_act_170 : decode cX7_act 170 = .ok (.goto 4, 3) := by decide +kernel
theorem dX7_act_173 : decode cX7_act 173 = .ok (.iconst 2, 1) := by decide +kernel
theorem dX7_act_174 : decode cX7_act 174 = .ok (.iload 5, 2) := by decide +kernel
theorem dX7_act_176 : decode cX7_act 176 = .ok (.iconst 0, 1) := by decide +kernel
theorem dX7_act_177 : decode cX7_act 177 = .ok (.invokevirtual 125, 3) := by decide +kernel
theorem dX7_act_180 : decode cX7_act 180 = .ok (.return_, 1) := by decide +kernel
theorem dX7_eat_0 : decode cX7_eat 0 = .ok (.aload_n 1, 1) := by decide +kernel
theorem dX7_eat_1 : decode cX7_eat 1 = .ok (.getfield 35, 3) := by decide +kernel
theorem dX7_eat_4 : decode cX7_eat 4 = .ok (.aload_n 2, 1) := by decide +kernel
theorem dX7_eat_5 : decode cX7_eat 5 = .ok (.iload_n 3, 1) := by decide +kernel
theorem dX7_eat_6 : decode cX7_eat 6 = .ok (.invokevirtual 143, 3) := by decide +kernel
theorem dX7_eat_9 : decode cX7_eat 9 = .ok (.istore 4, 2) := by decide +kernel
theorem dX7_eat_11 : decode cX7_eat 11 = .ok (.iconst 0, 1) := by decide +kernel
theorem dX7_eat_12 : decode cX7_eat 12 = .ok (.istore 5, 2) := by decide +kernel
theorem dX7_eat_14 : decode cX7_eat 14 = .ok (.iload 5, 2) := by decide +kernel
theorem dX7_eat_16 : decode cX7_eat 16 = .ok (.aload_n 1, 1) := by decide +kernel
theorem dX7_eat_17 : decode cX7_eat 17 = .ok (.getfield 146, 3) := by decide +kernel
theorem dX7_eat_20 : decode cX7_eat 20 = .ok (.getfield 150, 3) := by decide +kernel
theorem dX7_eat_23 : decode cX7_eat 23 = .ok (.iload_n 3, 1) := by decide +kernel
theorem dX7_eat_24 : decode cX7_eat 24 = .ok (.iaload, 1) := by decide +kernel
theorem dX7_eat_25 : decode cX7_eat 25 = .ok (.if_icmp .ge 48, 3) := by decide +kernel
theorem dX7_eat_28 : decode cX7_eat 28 = .ok (.iload 4, 2) := by decide +kernel
theorem dX7_eat_30 : decode cX7_eat 30 = .ok (.ifCond .le 43, 3) := by decide +kernel
theorem dX7_eat_33 : decode cX7_eat 33 = .ok (.aload_n 1, 1) := by decide +kernel
theorem dX7_eat_34 : decode cX7_eat 34 = .ok (.getfield 146, 3) := by decide +kernel
theorem dX7_eat_37 : decode cX7_eat 37 = .ok (.iload_n 3, 1) := by decide +kernel
theorem dX7_eat_38 : decode cX7_eat 38 = .ok (.iload 5, 2) := by decide +kernel
theorem dX7_eat_40 : decode cX7_eat 40 = .ok (.invokevirtual 155, 3) := by decide +kernel
theorem dX7_eat_43 : decode cX7_eat 43 = .ok (.istore 6, 2) := by decide +kernel
theorem dX7_eat_45 : decode cX7_eat 45 = .ok (.aload_n 2, 1) := by decide +kernel
theorem dX7_eat_46 : decode cX7_eat 46 = .ok (.iload 6, 2) := by decide +kernel
theorem dX7_eat_48 : decode cX7_eat 48 = .ok (.invokevirtual 135, 3) := by decide +kernel
theorem dX7_eat_51 : decode cX7_eat 51 = .ok (.ifCond .ne 16, 3) := by decide +kernel
theorem dX7_eat_54 : decode cX7_eat 54 = .ok (.aload_n 0, 1) := by decide +kernel
theorem dX7_eat_55 : decode cX7_eat 55 = .ok (.aload_n 1, 1) := by decide +kernel
theorem dX7_eat_56 : decode cX7_eat 56 = .ok (.aload_n 2, 1) := by decide +kernel
theorem dX7_eat_57 : decode cX7_eat 57 = .ok (.iload_n 3, 1) := by decide +kernel
theorem dX7_eat_58 : decode cX7_eat 58 = .ok (.iload 6, 2) := by decide +kernel
theorem dX7_eat_60 : decode cX7_eat 60 = .ok (.iload 4, 2) := by decide +kernel
theorem dX7_eat_62 : decode cX7_eat 62 = .ok (.invokevirtual 158, 3) := by decide +kernel
theorem dX7_eat_65 : decode cX7_eat 65 = .ok (.istore 4, 2) := by decide +kernel
theorem dX7_eat_67 : decode cX7_eat 67 = .ok (.iinc 5 1, 3) := by decide +kernel
theorem dX7_eat_70 : decode cX7_eat 70 = .ok (.goto (-56), 3) := by decide +kernel
theorem dX7_eat_73 : decode cX7_eat 73 = .ok (.aload_n 0, 1) := by decide +kernel
theorem dX7_eat_74 : decode cX7_eat 74 = .ok (.aload_n 1, 1) := by decide +kernel
theorem dX7_eat_75 : decode cX7_eat 75 = .ok (.aload_n 2, 1) := by decide +kernel
theorem dX7_eat_76 : decode cX7_eat 76 = .ok (.iload_n 3, 1) := by decide +kernel
theorem dX7_eat_77 : decode cX7_eat 77 = .ok (.iload 4, 2) := by decide +kernel
theorem dX7_eat_79 : decode cX7_eat 79 = .ok (.invokevirtual 162, 3) := by decide +kernel
theorem dX7_eat_82 : decode cX7_eat 82 = .ok (.istore 4, 2) := by decide +kernel
theorem dX7_eat_84 : decode cX7_eat 84 = .ok (.iload 4, 2) := by decide +kernel
theorem dX7_eat_86 : decode cX7_eat 86 = .ok (.ifCond .le 44, 3) := by decide +kernel
theorem dX7_eat_89 : decode cX7_eat 89 = .ok (.aload_n 0, 1) := by decide +kernel
theorem dX7_eat_90 : decode cX7_eat 90 = .ok (.aload_n 1, 1) := by decide +kernel
theorem dX7_eat_91 : decode cX7_eat 91 = .ok (.aload_n 2, 1) := by decide +kernel
theorem dX7_eat_92 : decode cX7_eat 92 = .ok (.iconst 5, 1) := by decide +kernel
theorem dX7_eat_93 : decode cX7_eat 93 = .ok (.iload_n 3, 1) := by decide +kernel
theorem dX7_eat_94 : decode cX7_eat 94 = .ok (.iload 4, 2) := by decide +kernel
theorem dX7_eat_96 : decode cX7_eat 96 = .ok (.invokevirtual 125, 3) := by decide +kernel
theorem dX7_eat_99 : decode cX7_eat 99 = .ok (.aload_n 0, 1) := by decide +kernel
theorem dX7_eat_100 : decode cX7_eat 100 = .ok (.dup, 1) := by decide +kernel
theorem dX7_eat_101 : decode cX7_eat 101 = .ok (.getfield 78, 3) := by decide +kernel
theorem dX7_eat_104 : decode cX7_eat 104 = .ok (.iconst 1, 1) := by decide +kernel
theorem dX7_eat_105 : decode cX7_eat 105 = .ok (.iadd, 1) := by decide +kernel
theorem dX7_eat_106 : decode cX7_eat 106 = .ok (.putfield 78, 3) := by decide +kernel
theorem dX7_eat_109 : decode cX7_eat 109 = .ok (.aload_n 0, 1) := by decide +kernel
theorem dX7_eat_110 : decode cX7_eat 110 = .ok (.getfield 81, 3) := by decide +kernel
theorem dX7_eat_113 : decode cX7_eat 113 = .ok (.iconst (-1), 1) := by decide +kernel
theorem dX7_eat_114 : decode cX7_eat 114 = .ok (.if_icmp .ne 16, 3) := by decide +kernel
theorem dX7_eat_117 : decode cX7_eat 117 = .ok (.aload_n 0, 1) := by decide +kernel
theorem dX7_eat_118 : decode cX7_eat 118 = .ok (.iload_n 3, 1) := by decide +kernel
theorem dX7_eat_119 : decode cX7_eat 119 = .ok (.putfield 81, 3) := by decide +kernel
theorem dX7_eat_122 : decode cX7_eat 122 = .ok (.aload_n 0, 1) := by decide +kernel
theorem dX7_eat_123 : decode cX7_eat 123 = .ok (.aload_n 2, 1) := by decide +kernel
theorem dX7_eat_124 : decode cX7_eat 124 = .ok (.getfield 69, 3) := by decide +kernel
theorem dX7_eat_127 : decode cX7_eat 127 = .ok (.putfield 84, 3) := by decide +kernel
theorem dX7_eat_130 : decode cX7_eat 130 = .ok (.return_, 1) := by decide +kernel
theorem dX7_pick_0 : decode cX7_pick 0 = .ok (.iload 5, 2) := by decide +kernel
theorem dX7_pick_2 : decode cX7_pick 2 = .ok (.istore 6, 2) := by decide +kernel
theorem dX7_pick_4 : decode cX7_pick 4 = .ok (.iconst 0, 1) := by decide +kernel
theorem dX7_pick_5 : decode cX7_pick 5 = .ok (.istore 7, 2) := by decide +kernel
theorem dX7_pick_7 : decode cX7_pick 7 = .ok (.iload 7, 2) := by decide +kernel
theorem dX7_pick_9 : decode cX7_pick 9 = .ok (.bipush 14, 2) := by decide +kernel
theorem dX7_pick_11 : decode cX7_pick 11 = .ok (.if_icmp .ge 184, 3) := by decide +kernel
theorem dX7_pick_14 : decode cX7_pick 14 = .ok (.iload 6, 2) := by decide +kernel
theorem dX7_pick_16 : decode cX7_pick 16 = .ok (.ifCond .le 179, 3) := by decide +kernel
theorem dX7_pick_19 : decode cX7_pick 19 = .ok (.aload_n 2, 1) := by decide +kernel
theorem dX7_pick_20 : decode cX7_pick 20 = .ok (.iload_n 3, 1) := by decide +kernel
theorem dX7_pick_21 : decode cX7_pick 21 = .ok (.iload 4, 2) := by decide +kernel
theorem dX7_pick_23 : decode cX7_pick 23 = .ok (.invokevirtual 166, 3) := by decide +kernel
theorem dX7_pick_26 : decode cX7_pick 26 = .ok (.istore 8, 2) := by decide +kernel
theorem dX7_pick_28 : decode cX7_pick 28 = .ok (.iload 8, 2) := by decide +kernel
theorem dX7_pick_30 : decode cX7_pick 30 = .ok (.iconst (-1), 1) := by decide +kernel
theorem dX7_pick_31 : decode cX7_pick 31 = .ok (.if_icmp .ne 6, 3) := by decide +kernel
theorem dX7_pick_34 : decode cX7_pick 34 = .ok (.iload 6, 2) := by decide +kernel
theorem dX7_pick_36 : decode cX7_pick 36 = .ok (.ireturn, 1) := by decide +kernel
theorem dX7_pick_37 : decode cX7_pick 37 = .ok (.aload_n 2, 1) := by decide +kernel
theorem dX7_pick_38 : decode cX7_pick 38 = .ok (.getfield 169, 3) := by decide +kernel
theorem dX7_pick_41 : decode cX7_pick 41 = .ok (.iload 8, 2) := by decide +kernel
theorem dX7_pick_43 : decode cX7_pick 43 = .ok (.iaload, 1) := by decide +kernel
theorem dX7_pick_44 : decode cX7_pick 44 = .ok (.istore 9, 2) := by decide +kernel
theorem dX7_pick_46 : decode cX7_pick 46 = .ok (.iconst (-1), 1) := by decide +kernel
theorem dX7_pick_47 : decode cX7_pick 47 = .ok (.istore 10, 2) := by decide +kernel
theorem dX7_pick_49 : decode cX7_pick 49 = .ok (.aload_n 2, 1) := by decide +kernel
theorem dX7_pick_50 : decode cX7_pick 50 = .ok (.getfield 32, 3) := by decide +kernel
theorem dX7_pick_53 : decode cX7_pick 53 = .ok (.iload 8, 2) := by decide +kernel
theorem dX7_pick_55 : decode cX7_pick 55 = .ok (.iaload, 1) := by decide +kernel
theorem dX7_pick_56 : decode cX7_pick 56 = .ok (.istore 11, 2) := by decide +kernel
theorem dX7_pick_58 : decode cX7_pick 58 = .ok (.iload 11, 2) := by decide +kernel
theorem dX7_pick_60 : decode cX7_pick 60 = .ok (.ifCond .le 129, 3) := by decide +kernel
theorem dX7_pick_63 : decode cX7_pick 63 = .ok (.iload 6, 2) := by decide +kernel
theorem dX7_pick_65 : decode cX7_pick 65 = .ok (.ifCond .le 124, 3) := by decide +kernel
theorem dX7_pick_68 : decode cX7_pick 68 = .ok (.iload 10, 2) := by decide +kernel
theorem dX7_pick_70 : decode cX7_pick 70 = .ok (.iconst (-1), 1) := by decide +kernel
theorem dX7_pick_71 : decode cX7_pick 71 = .ok (.if_icmp .eq 13, 3) := by decide +kernel
theorem dX7_pick_74 : decode cX7_pick 74 = .ok (.aload_n 1, 1) := by decide +kernel
theorem dX7_pick_75 : decode cX7_pick 75 = .ok (.getfield 35, 3) := by decide +kernel
theorem dX7_pick_78 : decode cX7_pick 78 = .ok (.getfield 172, 3) := by decide +kernel
theorem dX7_pick_81 : decode cX7_pick 81 = .ok (.ifCond .eq 18, 3) := by decide +kernel
theorem dX7_pick_84 : decode cX7_pick 84 = .ok (.aload_n 1, 1) := by decide +kernel
theorem dX7_pick_85 : decode cX7_pick 85 = .ok (.getfield 35, 3) := by decide +kernel
theorem dX7_pick_88 : decode cX7_pick 88 = .ok (.aload_n 2, 1) := by decide +kernel
theorem dX7_pick_89 : decode cX7_pick 89 = .ok (.iload_n 3, 1) := by decide +kernel
theorem dX7_pick_90 : decode cX7_pick 90 = .ok (.iload 9, 2) := by decide +kernel
theorem dX7_pick_92 : decode cX7_pick 92 = .ok (.iload 8, 2) := by decide +kernel
theorem dX7_pick_94 : decode cX7_pick 94 = .ok (.invokevirtual 175, 3) := by decide +kernel
theorem dX7_pick_97 : decode cX7_pick 97 = .ok (.istore 10, 2) := by decide +kernel
theorem dX7_pick_99 : decode cX7_pick 99 = .ok (.aload_n 0, 1) := by decide +kernel
theorem dX7_pick_100 : decode cX7_pick 100 = .ok (.aload_n 2, 1) := by decide +kernel
theorem dX7_pick_101 : decode cX7_pick 101 = .ok (.iload 9, 2) := by decide +kernel
theorem dX7_pick_103 : decode cX7_pick 103 = .ok (.iload 10, 2) := by decide +kernel
theorem dX7_pick_105 : decode cX7_pick 105 = .ok (.invokevirtual 179, 3) := by decide +kernel
theorem dX7_pick_108 : decode cX7_pick 108 = .ok (.aload_n 2, 1) := by decide +kernel
theorem dX7_pick_109 : decode cX7_pick 109 = .ok (.getfield 32, 3) := by decide +kernel
theorem dX7_pick_112 : decode cX7_pick 112 = .ok (.iload 8, 2) := by decide +kernel
theorem dX7_pick_114 : decode cX7_pick 114 = .ok (.dup2, 1) := by decide +kernel
theorem dX7_pick_115 : decode cX7_pick 115 = .ok (.iaload, 1) := by decide +kernel
theorem dX7_pick_116 : decode cX7_pick 116 = .ok (.iconst 1, 1) := by decide +kernel
theorem dX7_pick_117 : decode cX7_pick 117 = .ok (.isub, 1) := by decide +kernel
theorem dX7_pick_118 : decode cX7_pick 118 = .ok (.iastore, 1) := by decide +kernel
theorem dX7_pick_119 : decode cX7_pick 119 = .ok (.iinc 6 (-1), 3) := by decide +kernel
theorem dX7_pick_122 : decode cX7_pick 122 = .ok (.aload_n 0, 1) := by decide +kernel
theorem dX7_pick_123 : decode cX7_pick 123 = .ok (.getfield 15, 3) := by decide +kernel
theorem dX7_pick_126 : decode cX7_pick 126 = .ok (.ifCond .eq 57, 3) := by decide +kernel
theorem dX7_pick_129 : decode cX7_pick 129 = .ok (.aload_n 2, 1) := by decide +kernel
theorem dX7_pick_130 : decode cX7_pick 130 = .ok (.getfield 183, 3) := by decide +kernel
theorem dX7_pick_133 : decode cX7_pick 133 = .ok (.ifCond .le 50, 3) := by decide +kernel
theorem dX7_pick_136 : decode cX7_pick 136 = .ok (.aload_n 2, 1) := by decide +kernel
theorem dX7_pick_137 : decode cX7_pick 137 = .ok (.invokevirtual 186, 3) := by decide +kernel
theorem dX7_pick_140 : decode cX7_pick 140 = .ok (.aload_n 2, 1) := by decide +kernel
theorem dX7_pick_141 : decode cX7_pick 141 = .ok (.getfield 183, 3) := by decide +kernel
theorem dX7_pick_144 : decode cX7_pick 144 = .ok (.if_icmp .ge 39, 3) := by decide +kernel
theorem dX7_pick_147 : decode cX7_pick 147 = .ok (.aload_n 2, 1) := by decide +kernel
theorem dX7_pick_148 : decode cX7_pick 148 = .ok (.getfield 190, 3) := by decide +kernel
theorem dX7_pick_151 : decode cX7_pick 151 = .ok (.iload_n 3, 1) := by decide +kernel
theorem dX7_pick_152 : decode cX7_pick 152 = .ok (.iconst 5, 1) := by decide +kernel
theorem dX7_pick_153 : decode cX7_pick 153 = .ok (.imul, 1) := by decide +kernel
theorem dX7_pick_154 : decode cX7_pick 154 = .ok (.iload 9, 2) := by decide +kernel
theorem dX7_pick_156 : decode cX7_pick 156 = .ok (.iadd, 1) := by decide +kernel
theorem dX7_pick_157 : decode cX7_pick 157 = .ok (.iconst 0, 1) := by decide +kernel
theorem dX7_pick_158 : decode cX7_pick 158 = .ok (.aload_n 2, 1) := by decide +kernel
theorem dX7_pick_159 : decode cX7_pick 159 = .ok (.iload_n 3, 1) := by decide +kernel
theorem dX7_pick_160 : decode cX7_pick 160 = .ok (.iload 9, 2) := by decide +kernel
theorem dX7_pick_162 : decode cX7_pick 162 = .ok (.invokevirtual 193, 3) := by decide +kernel
theorem dX7_pick_165 : decode cX7_pick 165 = .ok (.iconst 2, 1) := by decide +kernel
theorem dX7_pick_166 : decode cX7_pick 166 = .ok (.isub, 1) := by decide +kernel
theorem dX7_pick_167 : decode cX7_pick 167 = .ok (.invokestatic 196, 3) := by decide +kernel
theorem dX7_pick_170 : decode cX7_pick 170 = .ok (.iastore, 1) := by decide +kernel
theorem dX7_pick_171 : decode cX7_pick 171 = .ok (.aload_n 0, 1) := by decide +kernel
theorem dX7_pick_172 : decode cX7_pick 172 = .ok (.aload_n 1, 1) := by decide +kernel
theorem dX7_pick_173 : decode cX7_pick 173 = .ok (.aload_n 2, 1) := by decide +kernel
theorem dX7_pick_174 : decode cX7_pick 174 = .ok (.iconst 4, 1) := by decide +kernel
theorem dX7_pick_175 : decode cX7_pick 175 = .ok (.iload_n 3, 1) := by decide +kernel
theorem dX7_pick_176 : decode cX7_pick 176 = .ok (.iload 9, 2) := by decide +kernel
theorem dX7_pick_178 : decode cX7_pick 178 = .ok (.invokevirtual 125, 3) := by decide +kernel
theorem dX7_pick_181 : decode cX7_pick 181 = .ok (.iconst 0, 1) := by decide +kernel
theorem dX7_pick_182 : decode cX7_pick 182 = .ok (.ireturn, 1) := by decide +kernel
theorem dX7_pick_183 : decode cX7_pick 183 = .ok (.iinc 11 (-1), 3) := by decide +kernel
theorem dX7_pick_186 : decode cX7_pick 186 = .ok (.goto (-128), 3) := by decide +kernel
theorem dX7_pick_189 : decode cX7_pick 189 = .ok (.iinc 7 1, 3) := by decide +kernel
theorem dX7_pick_192 : decode cX7_pick 192 = .ok (.goto (-185), 3) := by decide +kernel
theorem dX7_pick_195 : decode cX7_pick 195 = .ok (.iload 6, 2) := by decide +kernel
theorem dX7_pick_197 : decode cX7_pick 197 = .ok (.ireturn, 1) := by decide +kernel
theorem dX7_spoon_0 : decode cX7_spoon 0 = .ok (.iload 4, 2) := by decide +kernel
theorem dX7_spoon_2 : decode cX7_spoon 2 = .ok (.istore 5, 2) := by decide +kernel
theorem dX7_spoon_4 : decode cX7_spoon 4 = .ok (.iconst 0, 1) := by decide +kernel
theorem dX7_spoon_5 : decode cX7_spoon 5 = .ok (.istore 6, 2) := by decide +kernel
theorem dX7_spoon_7 : decode cX7_spoon 7 = .ok (.iload 6, 2) := by decide +kernel
theorem dX7_spoon_9 : decode cX7_spoon 9 = .ok (.iconst 5, 1) := by decide +kernel
theorem dX7_spoon_10 : decode cX7_spoon 10 = .ok (.if_icmp .ge 89, 3) := by decide +kernel
theorem dX7_spoon_13 : decode cX7_spoon 13 = .ok (.iload 5, 2) := by decide +kernel
theorem dX7_spoon_15 : decode cX7_spoon 15 = .ok (.ifCond .le 84, 3) := by decide +kernel
theorem dX7_spoon_18 : decode cX7_spoon 18 = .ok (.aload_n 2, 1) := by decide +kernel
theorem dX7_spoon_19 : decode cX7_spoon 19 = .ok (.iload_n 3, 1) := by decide +kernel
theorem dX7_spoon_20 : decode cX7_spoon 20 = .ok (.invokevirtual 199, 3) := by decide +kernel
theorem dX7_spoon_23 : decode cX7_spoon 23 = .ok (.istore 7, 2) := by decide +kernel
theorem dX7_spoon_25 : decode cX7_spoon 25 = .ok (.iload 7, 2) := by decide +kernel
theorem dX7_spoon_27 : decode cX7_spoon 27 = .ok (.iconst (-1), 1) := by decide +kernel
theorem dX7_spoon_28 : decode cX7_spoon 28 = .ok (.if_icmp .ne 6, 3) := by decide +kernel
theorem dX7_spoon_31 : decode cX7_spoon 31 = .ok (.iload 5, 2) := by decide +kernel
theorem dX7_spoon_33 : decode cX7_spoon 33 = .ok (.ireturn, 1) := by decide +kernel
theorem dX7_spoon_34 : decode cX7_spoon 34 = .ok (.aload_n 1, 1) := by decide +kernel
theorem dX7_spoon_35 : decode cX7_spoon 35 = .ok (.getfield 35, 3) := by decide +kernel
theorem dX7_spoon_38 : decode cX7_spoon 38 = .ok (.aload_n 2, 1) := by decide +kernel
theorem dX7_spoon_39 : decode cX7_spoon 39 = .ok (.iload_n 3, 1) := by decide +kernel
theorem dX7_spoon_40 : decode cX7_spoon 40 = .ok (.iload 7, 2) := by decide +kernel
theorem dX7_spoon_42 : decode cX7_spoon 42 = .ok (.iconst (-1), 1) := by decide +kernel
theorem dX7_spoon_43 : decode cX7_spoon 43 = .ok (.invokevirtual 175, 3) := by decide +kernel
theorem dX7_spoon_46 : decode cX7_spoon 46 = .ok (.istore 8, 2) := by decide +kernel
theorem dX7_spoon_48 : decode cX7_spoon 48 = .ok (.iload 5, 2) := by decide +kernel
theorem dX7_spoon_50 : decode cX7_spoon 50 = .ok (.aload_n 2, 1) := by decide +kernel
theorem dX7_spoon_51 : decode cX7_spoon 51 = .ok (.getfield 203, 3) := by decide +kernel
theorem dX7_spoon_54 : decode cX7_spoon 54 = .ok (.iload 7, 2) := by decide +kernel
theorem dX7_spoon_56 : decode cX7_spoon 56 = .ok (.iaload, 1) := by decide +kernel
theorem dX7_spoon_57 : decode cX7_spoon 57 = .ok (.invokestatic 47, 3) := by decide +kernel
theorem dX7_spoon_60 : decode cX7_spoon 60 = .ok (.istore 9, 2) := by decide +kernel
theorem dX7_spoon_62 : decode cX7_spoon 62 = .ok (.aload_n 0, 1) := by decide +kernel
theorem dX7_spoon_63 : decode cX7_spoon 63 = .ok (.aload_n 2, 1) := by decide +kernel
theorem dX7_spoon_64 : decode cX7_spoon 64 = .ok (.iload 7, 2) := by decide +kernel
theorem dX7_spoon_66 : decode cX7_spoon 66 = .ok (.iload 8, 2) := by decide +kernel
theorem dX7_spoon_68 : decode cX7_spoon 68 = .ok (.iload 9, 2) := by decide +kernel
theorem dX7_spoon_70 : decode cX7_spoon 70 = .ok (.imul, 1) := by decide +kernel
theorem dX7_spoon_71 : decode cX7_spoon 71 = .ok (.invokevirtual 179, 3) := by decide +kernel
theorem dX7_spoon_74 : decode cX7_spoon 74 = .ok (.aload_n 2, 1) := by decide +kernel
theorem dX7_spoon_75 : decode cX7_spoon 75 = .ok (.getfield 203, 3) := by decide +kernel
theorem dX7_spoon_78 : decode cX7_spoon 78 = .ok (.iload 7, 2) := by decide +kernel
theorem dX7_spoon_80 : decode cX7_spoon 80 = .ok (.dup2, 1) := by decide +kernel
theorem dX7_spoon_81 : decode cX7_spoon 81 = .ok (.iaload, 1) := by decide +kernel
theorem dX7_spoon_82 : decode cX7_spoon 82 = .ok (.iload 9, 2) := by decide +kernel
theorem dX7_spoon_84 : decode cX7_spoon 84 = .ok (.isub, 1) := by decide +kernel
theorem dX7_spoon_85 : decode cX7_spoon 85 = .ok (.iastore, 1) := by decide +kernel
theorem dX7_spoon_86 : decode cX7_spoon 86 = .ok (.iload 5, 2) := by decide +kernel
theorem dX7_spoon_88 : decode cX7_spoon 88 = .ok (.iload 9, 2) := by decide +kernel
theorem dX7_spoon_90 : decode cX7_spoon 90 = .ok (.isub, 1) := by decide +kernel
theorem dX7_spoon_91 : decode cX7_spoon 91 = .ok (.istore 5, 2) := by decide +kernel
theorem dX7_spoon_93 : decode cX7_spoon 93 = .ok (.iinc 6 1, 3) := by decide +kernel
theorem dX7_spoon_96 : decode cX7_spoon 96 = .ok (.goto (-89), 3) := by decide +kernel
theorem dX7_spoon_99 : decode cX7_spoon 99 = .ok (.iload 5, 2) := by decide +kernel
theorem dX7_spoon_101 : decode cX7_spoon 101 = .ok (.ireturn, 1) := by decide +kernel
theorem dX7_count_0 : decode cX7_count 0 = .ok (.iload_n 3, 1) := by decide +kernel
theorem dX7_count_1 : decode cX7_count 1 = .ok (.sipush 9999, 3) := by decide +kernel
theorem dX7_count_4 : decode cX7_count 4 = .ok (.aload_n 1, 1) := by decide +kernel
theorem dX7_count_5 : decode cX7_count 5 = .ok (.getfield 206, 3) := by decide +kernel
theorem dX7_count_8 : decode cX7_count 8 = .ok (.iload_n 2, 1) := by decide +kernel
theorem dX7_count_9 : decode cX7_count 9 = .ok (.iaload, 1) := by decide +kernel
theorem dX7_count_10 : decode cX7_count 10 = .ok (.isub, 1) := by decide +kernel
theorem dX7_count_11 : decode cX7_count 11 = .ok (.invokestatic 47, 3) := by decide +kernel
theorem dX7_count_14 : decode cX7_count 14 = .ok (.istore 4, 2) := by decide +kernel
theorem dX7_count_16 : decode cX7_count 16 = .ok (.aload_n 1, 1) := by decide +kernel
theorem dX7_count_17 : decode cX7_count 17 = .ok (.getfield 206, 3) := by decide +kernel
theorem dX7_count_20 : decode cX7_count 20 = .ok (.iload_n 2, 1) := by decide +kernel
theorem dX7_count_21 : decode cX7_count 21 = .ok (.dup2, 1) := by decide +kernel
theorem dX7_count_22 : decode cX7_count 22 = .ok (.iaload, 1) := by decide +kernel
theorem dX7_count_23 : decode cX7_count 23 = .ok (.iload 4, 2) := by decide +kernel
theorem dX7_count_25 : decode cX7_count 25 = .ok (.iadd, 1) := by decide +kernel
theorem dX7_count_26 : decode cX7_count 26 = .ok (.iastore, 1) := by decide +kernel
theorem dX7_count_27 : decode cX7_count 27 = .ok (.aload_n 0, 1) := by decide +kernel
theorem dX7_count_28 : decode cX7_count 28 = .ok (.getfield 9, 3) := by decide +kernel
theorem dX7_count_31 : decode cX7_count 31 = .ok (.iload_n 2, 1) := by decide +kernel
theorem dX7_count_32 : decode cX7_count 32 = .ok (.dup2, 1) := by decide +kernel
theorem dX7_count_33 : decode cX7_count 33 = .ok (.iaload, 1) := by decide +kernel
theorem dX7_count_34 : decode cX7_count 34 = .ok (.iload 4, 2) := by decide +kernel
theorem dX7_count_36 : decode cX7_count 36 = .ok (.iadd, 1) := by decide +kernel
theorem dX7_count_37 : decode cX7_count 37 = .ok (.iastore, 1) := by decide +kernel
theorem dX7_count_38 : decode cX7_count 38 = .ok (.return_, 1) := by decide +kernel
theorem dX7_sting_0 : decode cX7_sting 0 = .ok (.iconst 0, 1) := by decide +kernel
theorem dX7_sting_1 : decode cX7_sting 1 = .ok (.istore_n 3, 1) := by decide +kernel
theorem dX7_sting_2 : decode cX7_sting 2 = .ok (.iload_n 3, 1) := by decide +kernel
theorem dX7_sting_3 : decode cX7_sting 3 = .ok (.aload_n 2, 1) := by decide +kernel
theorem dX7_sting_4 : decode cX7_sting 4 = .ok (.getfield 26, 3) := by decide +kernel
theorem dX7_sting_7 : decode cX7_sting 7 = .ok (.if_icmp .ge 64, 3) := by decide +kernel
theorem dX7_sting_10 : decode cX7_sting 10 = .ok (.aload_n 2, 1) := by decide +kernel
theorem dX7_sting_11 : decode cX7_sting 11 = .ok (.getfield 32, 3) := by decide +kernel
theorem dX7_sting_14 : decode cX7_sting 14 = .ok (.iload_n 3, 1) := by decide +kernel
theorem dX7_sting_15 : decode cX7_sting 15 = .ok (.iaload, 1) := by decide +kernel
theorem dX7_sting_16 : decode cX7_sting 16 = .ok (.bipush 10, 2) := by decide +kernel
theorem dX7_sting_18 : decode cX7_sting 18 = .ok (.if_icmp .lt 47, 3) := by decide +kernel
theorem dX7_sting_21 : decode cX7_sting 21 = .ok (.aload_n 2, 1) := by decide +kernel
theorem dX7_sting_22 : decode cX7_sting 22 = .ok (.invokevirtual 186, 3) := by decide +kernel
theorem dX7_sting_25 : decode cX7_sting 25 = .ok (.aload_n 2, 1) := by decide +kernel
theorem dX7_sting_26 : decode cX7_sting 26 = .ok (.getfield 60, 3) := by decide +kernel
theorem dX7_sting_29 : decode cX7_sting 29 = .ok (.if_icmp .ge 36, 3) := by decide +kernel
theorem dX7_sting_32 : decode cX7_sting 32 = .ok (.aload_n 2, 1) := by decide +kernel
theorem dX7_sting_33 : decode cX7_sting 33 = .ok (.getfield 32, 3) := by decide +kernel
theorem dX7_sting_36 : decode cX7_sting 36 = .ok (.iload_n 3, 1) := by decide +kernel
theorem dX7_sting_37 : decode cX7_sting 37 = .ok (.iaload, 1) := by decide +kernel
theorem dX7_sting_38 : decode cX7_sting 38 = .ok (.bipush 10, 2) := by decide +kernel
theorem dX7_sting_40 : decode cX7_sting 40 = .ok (.idiv, 1) := by decide +kernel
theorem dX7_sting_41 : decode cX7_sting 41 = .ok (.istore 4, 2) := by decide +kernel
theorem dX7_sting_43 : decode cX7_sting 43 = .ok (.aload_n 2, 1) := by decide +kernel
theorem dX7_sting_44 : decode cX7_sting 44 = .ok (.getfield 32, 3) := by decide +kernel
theorem dX7_sting_47 : decode cX7_sting 47 = .ok (.iload_n 3, 1) := by decide +kernel
theorem dX7_sting_48 : decode cX7_sting 48 = .ok (.dup2, 1) := by decide +kernel
theorem dX7_sting_49 : decode cX7_sting 49 = .ok (.iaload, 1) := by decide +kernel
theorem dX7_sting_50 : decode cX7_sting 50 = .ok (.iload 4, 2) := by decide +kernel
theorem dX7_sting_52 : decode cX7_sting 52 = .ok (.isub, 1) := by decide +kernel
theorem dX7_sting_53 : decode cX7_sting 53 = .ok (.iastore, 1) := by decide +kernel
theorem dX7_sting_54 : decode cX7_sting 54 = .ok (.aload_n 0, 1) := by decide +kernel
theorem dX7_sting_55 : decode cX7_sting 55 = .ok (.aload_n 1, 1) := by decide +kernel
theorem dX7_sting_56 : decode cX7_sting 56 = .ok (.aload_n 2, 1) := by decide +kernel
theorem dX7_sting_57 : decode cX7_sting 57 = .ok (.bipush 6, 2) := by decide +kernel
theorem dX7_sting_59 : decode cX7_sting 59 = .ok (.iload_n 3, 1) := by decide +kernel
theorem dX7_sting_60 : decode cX7_sting 60 = .ok (.iload 4, 2) := by decide +kernel
theorem dX7_sting_62 : decode cX7_sting 62 = .ok (.invokevirtual 125, 3) := by decide +kernel
theorem dX7_sting_65 : decode cX7_sting 65 = .ok (.iinc 3 1, 3) := by decide +kernel
theorem dX7_sting_68 : decode cX7_sting 68 = .ok (.goto (-66), 3) := by decide +kernel
theorem dX7_sting_71 : decode cX7_sting 71 = .ok (.return_, 1) := by decide +kernel
theorem dX7_vote_0 : decode cX7_vote 0 = .ok (.aload_n 2, 1) := by decide +kernel
theorem dX7_vote_1 : decode cX7_vote 1 = .ok (.invokevirtual 209, 3) := by decide +kernel
theorem dX7_vote_4 : decode cX7_vote 4 = .ok (.iconst 0, 1) := by decide +kernel
theorem dX7_vote_5 : decode cX7_vote 5 = .ok (.istore_n 3, 1) := by decide +kernel
theorem dX7_vote_6 : decode cX7_vote 6 = .ok (.iload_n 3, 1) := by decide +kernel
theorem dX7_vote_7 : decode cX7_vote 7 = .ok (.aload_n 2, 1) := by decide +kernel
theorem dX7_vote_8 : decode cX7_vote 8 = .ok (.getfield 212, 3) := by decide +kernel
theorem dX7_vote_11 : decode cX7_vote 11 = .ok (.if_icmp .ge 16, 3) := by decide +kernel
theorem dX7_vote_14 : decode cX7_vote 14 = .ok (.aload_n 2, 1) := by decide +kernel
theorem dX7_vote_15 : decode cX7_vote 15 = .ok (.getfield 206, 3) := by decide +kernel
theorem dX7_vote_18 : decode cX7_vote 18 = .ok (.iload_n 3, 1) := by decide +kernel
theorem dX7_vote_19 : decode cX7_vote 19 = .ok (.iconst 0, 1) := by decide +kernel
theorem dX7_vote_20 : decode cX7_vote 20 = .ok (.iastore, 1) := by decide +kernel
theorem dX7_vote_21 : decode cX7_vote 21 = .ok (.iinc 3 1, 3) := by decide +kernel
theorem dX7_vote_24 : decode cX7_vote 24 = .ok (.goto (-18), 3) := by decide +kernel
theorem dX7_vote_27 : decode cX7_vote 27 = .ok (.aload_n 2, 1) := by decide +kernel
theorem dX7_vote_28 : decode cX7_vote 28 = .ok (.invokevirtual 215, 3) := by decide +kernel
theorem dX7_vote_31 : decode cX7_vote 31 = .ok (.istore_n 3, 1) := by decide +kernel
theorem dX7_vote_32 : decode cX7_vote 32 = .ok (.aload_n 0, 1) := by decide +kernel
theorem dX7_vote_33 : decode cX7_vote 33 = .ok (.aload_n 1, 1) := by decide +kernel
theorem dX7_vote_34 : decode cX7_vote 34 = .ok (.aload_n 2, 1) := by decide +kernel
theorem dX7_vote_35 : decode cX7_vote 35 = .ok (.bipush 7, 2) := by decide +kernel
theorem dX7_vote_37 : decode cX7_vote 37 = .ok (.iload_n 3, 1) := by decide +kernel
theorem dX7_vote_38 : decode cX7_vote 38 = .ok (.iload_n 3, 1) := by decide +kernel
theorem dX7_vote_39 : decode cX7_vote 39 = .ok (.iconst (-1), 1) := by decide +kernel
theorem dX7_vote_40 : decode cX7_vote 40 = .ok (.if_icmp .ne 7, 3) := by decide +kernel
theorem dX7_vote_43 : decode cX7_vote 43 = .ok (.iconst 0, 1) := by decide +kernel
theorem dX7_vote_44 : decode cX7_vote 44 = .ok (.goto 9, 3) := by decide +kernel
theorem dX7_vote_47 : decode cX7_vote 47 = .ok (.aload_n 2, 1) := by decide +kernel
theorem dX7_vote_48 : decode cX7_vote 48 = .ok (.getfield 218, 3) := by decide +kernel
theorem dX7_vote_51 : decode cX7_vote 51 = .ok (.iload_n 3, 1) := by decide +kernel
theorem dX7_vote_52 : decode cX7_vote 52 = .ok (.iaload, 1) := by decide +kernel
theorem dX7_vote_53 : decode cX7_vote 53 = .ok (.invokevirtual 125, 3) := by decide +kernel
theorem dX7_vote_56 : decode cX7_vote 56 = .ok (.return_, 1) := by decide +kernel
theorem dX8_init_0 : decode cX8_init 0 = .ok (.aload_n 0, 1) := by decide +kernel
theorem dX8_init_1 : decode cX8_init 1 = .ok (.invokespecial 3, 3) := by decide +kernel
theorem dX8_init_4 : decode cX8_init 4 = .ok (.aload_n 0, 1) := by decide +kernel
theorem dX8_init_5 : decode cX8_init 5 = .ok (.sipush 400, 3) := by decide +kernel
theorem dX8_init_8 : decode cX8_init 8 = .ok (.newarray .int, 2) := by decide +kernel
theorem dX8_init_10 : decode cX8_init 10 = .ok (.putfield 9, 3) := by decide +kernel
theorem dX8_init_13 : decode cX8_init 13 = .ok (.aload_n 0, 1) := by decide +kernel
theorem dX8_init_14 : decode cX8_init 14 = .ok (.sipush 401, 3) := by decide +kernel
theorem dX8_init_17 : decode cX8_init 17 = .ok (.newarray .int, 2) := by decide +kernel
theorem dX8_init_19 : decode cX8_init 19 = .ok (.putfield 15, 3) := by decide +kernel
theorem dX8_init_22 : decode cX8_init 22 = .ok (.aload_n 0, 1) := by decide +kernel
theorem dX8_init_23 : decode cX8_init 23 = .ok (.sipush 401, 3) := by decide +kernel
theorem dX8_init_26 : decode cX8_init 26 = .ok (.newarray .int, 2) := by decide +kernel
theorem dX8_init_28 : decode cX8_init 28 = .ok (.putfield 18, 3) := by decide +kernel
theorem dX8_init_31 : decode cX8_init 31 = .ok (.aload_n 0, 1) := by decide +kernel
theorem dX8_init_32 : decode cX8_init 32 = .ok (.sipush 401, 3) := by decide +kernel
theorem dX8_init_35 : decode cX8_init 35 = .ok (.newarray .int, 2) := by decide +kernel
theorem dX8_init_37 : decode cX8_init 37 = .ok (.putfield 21, 3) := by decide +kernel
theorem dX8_init_40 : decode cX8_init 40 = .ok (.return_, 1) := by decide +kernel
theorem dX8_addFour_0 : decode cX8_addFour 0 = .ok (.bipush 24, 2) := by decide +kernel
theorem dX8_addFour_2 : decode cX8_addFour 2 = .ok (.istore_n 2, 1) := by decide +kernel
theorem dX8_addFour_3 : decode cX8_addFour 3 = .ok (.iload_n 2, 1) := by decide +kernel
theorem dX8_addFour_4 : decode cX8_addFour 4 = .ok (.ifCond .lt 45, 3) := by decide +kernel
theorem dX8_addFour_7 : decode cX8_addFour 7 = .ok (.aload_n 0, 1) := by decide +kernel
theorem dX8_addFour_8 : decode cX8_addFour 8 = .ok (.getfield 24, 3) := by decide +kernel
theorem dX8_addFour_11 : decode cX8_addFour 11 = .ok (.sipush 400, 3) := by decide +kernel
theorem dX8_addFour_14 : decode cX8_addFour 14 = .ok (.if_icmp .ge 35, 3) := by decide +kernel
theorem dX8_addFour_17 : decode cX8_addFour 17 = .ok (.aload_n 0, 1) := by decide +kernel
theorem dX8_addFour_18 : decode cX8_addFour 18 = .ok (.getfield 9, 3) := by decide +kernel
theorem dX8_addFour_21 : decode cX8_addFour 21 = .ok (.aload_n 0, 1) := by decide +kernel
theorem dX8_addFour_22 : decode cX8_addFour 22 = .ok (.getfield 24, 3) := by decide +kernel
theorem dX8_addFour_25 : decode cX8_addFour 25 = .ok (.iload_n 1, 1) := by decide +kernel
theorem dX8_addFour_26 : decode cX8_addFour 26 = .ok (.iload_n 2, 1) := by decide +kernel
theorem dX8_addFour_27 : decode cX8_addFour 27 = .ok (.iushr, 1) := by decide +kernel
theorem dX8_addFour_28 : decode cX8_addFour 28 = .ok (.sipush 255, 3) := by decide +kernel
theorem dX8_addFour_31 : decode cX8_addFour 31 = .ok (.iand, 1) := by decide +kernel
theorem dX8_addFour_32 : decode cX8_addFour 32 = .ok (.iastore, 1) := by decide +kernel
theorem dX8_addFour_33 : decode cX8_addFour 33 = .ok (.aload_n 0, 1) := by decide +kernel
theorem dX8_addFour_34 : decode cX8_addFour 34 = .ok (.dup, 1) := by decide +kernel
theorem dX8_addFour_35 : decode cX8_addFour 35 = .ok (.getfield 24, 3) := by decide +kernel
theorem dX8_addFour_38 : decode cX8_addFour 38 = .ok (.iconst 1, 1) := by decide +kernel
theorem dX8_addFour_39 : decode cX8_addFour 39 = .ok (.iadd, 1) := by decide +kernel
theorem dX8_addFour_40 : decode cX8_addFour 40 = .ok (.putfield 24, 3) := by decide +kernel
theorem dX8_addFour_43 : decode cX8_addFour 43 = .ok (.iinc 2 (-8), 3) := by decide +kernel
theorem dX8_addFour_46 : decode cX8_addFour 46 = .ok (.goto (-43), 3) := by decide +kernel
theorem dX8_addFour_49 : decode cX8_addFour 49 = .ok (.return_, 1) := by decide +kernel
theorem dX8_cut_0 : decode cX8_cut 0 = .ok (.aload_n 0, 1) := by decide +kernel
theorem dX8_cut_1 : decode cX8_cut 1 = .ok (.iconst 0, 1) := by decide +kernel
theorem dX8_cut_2 : decode cX8_cut 2 = .ok (.putfield 28, 3) := by decide +kernel
theorem dX8_cut_5 : decode cX8_cut 5 = .ok (.iconst 0, 1) := by decide +kernel
theorem dX8_cut_6 : decode cX8_cut 6 = .ok (.istore_n 2, 1) := by decide +kernel
theorem dX8_cut_7 : decode cX8_cut 7 = .ok (.iconst 0, 1) := by decide +kernel
theorem dX8_cut_8 : decode cX8_cut 8 = .ok (.istore_n 3, 1) := by decide +kernel
theorem dX8_cut_9 : decode cX8_cut 9 = .ok (.iload_n 3, 1) := by decide +kernel
theorem dX8_cut_10 : decode cX8_cut 10 = .ok (.aload_n 0, 1) := by decide +kernel
theorem dX8_cut_11 : decode cX8_cut 11 = .ok (.getfield 24, 3) := by decide +kernel
theorem dX8_cut_14 : decode cX8_cut 14 = .ok (.if_icmp .ge 164, 3) := by decide +kernel
theorem dX8_cut_17 : decode cX8_cut 17 = .ok (.aload_n 0, 1) := by decide +kernel
theorem dX8_cut_18 : decode cX8_cut 18 = .ok (.getfield 9, 3) := by decide +kernel
theorem dX8_cut_21 : decode cX8_cut 21 = .ok (.iload_n 3, 1) := by decide +kernel
theorem dX8_cut_22 : decode cX8_cut 22 = .ok (.iaload, 1) := by decide +kernel
theorem dX8_cut_23 : decode cX8_cut 23 = .ok (.istore 4, 2) := by decide +kernel
theorem dX8_cut_25 : decode cX8_cut 25 = .ok (.iload_n 3, 1) := by decide +kernel
theorem dX8_cut_26 : decode cX8_cut 26 = .ok (.iconst 1, 1) := by decide +kernel
theorem dX8_cut_27 : decode cX8_cut 27 = .ok (.iadd, 1) := by decide +kernel
theorem dX8_cut_28 : decode cX8_cut 28 = .ok (.istore_n 2, 1) := by decide +kernel
theorem dX8_cut_29 : decode cX8_cut 29 = .ok (.iload 4, 2) := by decide +kernel
theorem dX8_cut_31 : decode cX8_cut 31 = .ok (.invokestatic 31, 3) := by decide +kernel
theorem dX8_cut_34 : decode cX8_cut 34 = .ok (.ifCond .eq 45, 3) := by decide +kernel
theorem dX8_cut_37 : decode cX8_cut 37 = .ok (.iload_n 2, 1) := by decide +kernel
theorem dX8_cut_38 : decode cX8_cut 38 = .ok (.aload_n 0, 1) := by decide +kernel
theorem dX8_cut_39 : decode cX8_cut 39 = .ok (.getfield 24, 3) := by decide +kernel
theorem dX8_cut_42 : decode cX8_cut 42 = .ok (.if_icmp .ge 21, 3) := by decide +kernel
theorem dX8_cut_45 : decode cX8_cut 45 = .ok (.aload_n 0, 1) := by decide +kernel
theorem dX8_cut_46 : decode cX8_cut 46 = .ok (.getfield 9, 3) := by decide +kernel
theorem dX8_cut_49 : decode cX8_cut 49 = .ok (.iload_n 2, 1) := by decide +kernel
theorem dX8_cut_50 : decode cX8_cut 50 = .ok (.iaload, 1) := by decide +kernel
theorem dX8_cut_51 : decode cX8_cut 51 = .ok (.invokestatic 31, 3) := by decide +kernel
theorem dX8_cut_54 : decode cX8_cut 54 = .ok (.ifCond .eq 9, 3) := by decide +kernel
theorem dX8_cut_57 : decode cX8_cut 57 = .ok (.iinc 2 1, 3) := by decide +kernel
theorem dX8_cut_60 : decode cX8_cut 60 = .ok (.goto (-23), 3) := by decide +kernel
theorem dX8_cut_63 : decode cX8_cut 63 = .ok (.aload_n 0, 1) := by decide +kernel
theorem dX8_cut_64 : decode cX8_cut 64 = .ok (.aload_n 0, 1) := by decide +kernel
theorem dX8_cut_65 : decode cX8_cut 65 = .ok (.aload_n 1, 1) := by decide +kernel
theorem dX8_cut_66 : decode cX8_cut 66 = .ok (.iload_n 3, 1) := by decide +kernel
theorem dX8_cut_67 : decode cX8_cut 67 = .ok (.iload_n 2, 1) := by decide +kernel
theorem dX8_cut_68 : decode cX8_cut 68 = .ok (.invokevirtual 35, 3) := by decide +kernel
theorem dX8_cut_71 : decode cX8_cut 71 = .ok (.iload_n 3, 1) := by decide +kernel
theorem dX8_cut_72 : decode cX8_cut 72 = .ok (.iconst 0, 1) := by decide +kernel
theorem dX8_cut_73 : decode cX8_cut 73 = .ok (.invokevirtual 39, 3) := by decide +kernel
theorem dX8_cut_76 : decode cX8_cut 76 = .ok (.goto 97, 3) := by decide +kernel
theorem dX8_cut_79 : decode cX8_cut 79 = .ok (.iload 4, 2) := by decide +kernel
theorem dX8_cut_81 : decode cX8_cut 81 = .ok (.invokestatic 43, 3) := by decide +kernel
theorem dX8_cut_84 : decode cX8_cut 84 = .ok (.ifCond .eq 55, 3) := by decide +kernel
theorem dX8_cut_87 : decode cX8_cut 87 = .ok (.iload_n 2, 1) := by decide +kernel
theorem dX8_cut_88 : decode cX8_cut 88 = .ok (.aload_n 0, 1) := by decide +kernel
theorem dX8_cut_89 : decode cX8_cut 89 = .ok (.getfield 24, 3) := by decide +kernel
theorem dX8_cut_92 : decode cX8_cut 92 = .ok (.if_icmp .ge 21, 3) := by decide +kernel
theorem dX8_cut_95 : decode cX8_cut 95 = .ok (.aload_n 0, 1) := by decide +kernel
theorem dX8_cut_96 : decode cX8_cut 96 = .ok (.getfield 9, 3) := by decide +kernel
theorem dX8_cut_99 : decode cX8_cut 99 = .ok (.iload_n 2, 1) := by decide +kernel
theorem dX8_cut_100 : decode cX8_cut 100 = .ok (.iaload, 1) := by decide +kernel
theorem dX8_cut_101 : decode cX8_cut 101 = .ok (.invokestatic 43, 3) := by decide +kernel
theorem dX8_cut_104 : decode cX8_cut 104 = .ok (.ifCond .eq 9, 3) := by decide +kernel
theorem dX8_cut_107 : decode cX8_cut 107 = .ok (.iinc 2 1, 3) := by decide +kernel
theorem dX8_cut_110 : decode cX8_cut 110 = .ok (.goto (-23), 3) := by decide +kernel
theorem dX8_cut_113 : decode cX8_cut 113 = .ok (.aload_n 0, 1) := by decide +kernel
theorem dX8_cut_114 : decode cX8_cut 114 = .ok (.iload_n 2, 1) := by decide +kernel
theorem dX8_cut_115 : decode cX8_cut 115 = .ok (.iload_n 3, 1) := by decide +kernel
theorem dX8_cut_116 : decode cX8_cut 116 = .ok (.isub, 1) := by decide +kernel
theorem dX8_cut_117 : decode cX8_cut 117 = .ok (.iconst 4, 1) := by decide +kernel
theorem dX8_cut_118 : decode cX8_cut 118 = .ok (.if_icmp .gt 7, 3) := by decide +kernel
theorem dX8_cut_121 : decode cX8_cut 121 = .ok (.iconst 1, 1) := by decide +kernel
theorem dX8_cut_122 : decode cX8_cut 122 = .ok (.goto 4, 3) := by decide +kernel
theorem dX8_cut_125 : decode cX8_cut 125 = .ok (.iconst 2, 1) := by decide +kernel
theorem dX8_cut_126 : decode cX8_cut 126 = .ok (.iload_n 3, 1) := by decide +kernel
theorem dX8_cut_127 : decode cX8_cut 127 = .ok (.aload_n 0, 1) := by decide +kernel
theorem dX8_cut_128 : decode cX8_cut 128 = .ok (.iload_n 3, 1) := by decide +kernel
theorem dX8_cut_129 : decode cX8_cut 129 = .ok (.iload_n 2, 1) := by decide +kernel
theorem dX8_cut_130 : decode cX8_cut 130 = .ok (.invokevirtual 46, 3) := by decide +kernel
theorem dX8_cut_133 : decode cX8_cut 133 = .ok (.invokevirtual 39, 3) := by decide +kernel
theorem dX8_cut_136 : decode cX8_cut 136 = .ok (.goto 37, 3) := by decide +kernel
theorem dX8_cut_139 : decode cX8_cut 139 = .ok (.iload 4, 2) := by decide +kernel
theorem dX8_cut_141 : decode cX8_cut 141 = .ok (.bipush 32, 2) := by decide +kernel
theorem dX8_cut_143 : decode cX8_cut 143 = .ok (.if_icmp .eq 30, 3) := by decide +kernel
theorem dX8_cut_146 : decode cX8_cut 146 = .ok (.iload 4, 2) := by decide +kernel
theorem dX8_cut_148 : decode cX8_cut 148 = .ok (.bipush 10, 2) := by decide +kernel
theorem dX8_cut_150 : decode cX8_cut 150 = .ok (.if_icmp .eq 23, 3) := by decide +kernel
theorem dX8_cut_153 : decode cX8_cut 153 = .ok (.aload_n 0, 1) := by decide +kernel
theorem dX8_cut_154 : decode cX8_cut 154 = .ok (.iload 4, 2) := by decide +kernel
theorem dX8_cut_156 : decode cX8_cut 156 = .ok (.invokestatic 50, 3) := by decide +kernel
theorem dX8_cut_159 : decode cX8_cut 159 = .ok (.ifCond .eq 8, 3) := by decide +kernel
theorem dX8_cut_162 : decode cX8_cut 162 = .ok (.iload 4, 2) := by decide +kernel
theorem dX8_cut_164 : decode cX8_cut 164 = .ok (.goto 4, 3) := by decide +kernel
theorem dX8_cut_167 : decode cX8_cut 167 = .ok (.iconst 2, 1) := by decide +kernel
theorem dX8_cut_168 : decode cX8_cut 168 = .ok (.iload_n 3, 1) := by decide +kernel
theorem dX8_cut_169 : decode cX8_cut 169 = .ok (.iconst 0, 1) := by decide +kernel
theorem dX8_cut_170 : decode cX8_cut 170 = .ok (.invokevirtual 39, 3) := by decide +kernel
theorem dX8_cut_173 : decode cX8_cut 173 = .ok (.iload_n 2, 1) := by decide +kernel
theorem dX8_cut_174 : decode cX8_cut 174 = .ok (.istore_n 3, 1) := by decide +kernel
theorem dX8_cut_175 : decode cX8_cut 175 = .ok (.goto (-166), 3) := by decide +kernel
theorem dX8_cut_178 : decode cX8_cut 178 = .ok (.aload_n 0, 1) := by decide +kernel
theorem dX8_cut_179 : decode cX8_cut 179 = .ok (.iconst 0, 1) := by decide +kernel
theorem dX8_cut_180 : decode cX8_cut 180 = .ok (.aload_n 0, 1) := by decide +kernel
theorem dX8_cut_181 : decode cX8_cut 181 = .ok (.getfield 24, 3) := by decide +kernel
theorem dX8_cut_184 : decode cX8_cut 184 = .ok (.iconst 0, 1) := by decide +kernel
theorem dX8_cut_185 : decode cX8_cut 185 = .ok (.invokevirtual 39, 3) := by decide +kernel
theorem dX8_cut_188 : decode cX8_cut 188 = .ok (.return_, 1) := by decide +kernel
theorem dX8_addToken_0 : decode cX8_addToken 0 = .ok (.aload_n 0, 1) := by decide +kernel
theorem dX8_addToken_1 : decode cX8_addToken 1 = .ok (.getfield 28, 3) := by decide +kernel
theorem dX8_addToken_4 : decode cX8_addToken 4 = .ok (.sipush 400, 3) := by decide +kernel
theorem dX8_addToken_7 : decode cX8_addToken 7 = .ok (.if_icmp .gt 43, 3) := by decide +kernel
theorem dX8_addToken_10 : decode cX8_addToken 10 = .ok (.aload_n 0, 1) := by decide +kernel
theorem dX8_addToken_11 : decode cX8_addToken 11 = .ok (.getfield 15, 3) := by decide +kernel
theorem dX8_addToken_14 : decode cX8_addToken 14 = .ok (.aload_n 0, 1) := by decide +kernel
theorem dX8_addToken_15 : decode cX8_addToken 15 = .ok (.getfield 28, 3) := by decide +kernel
theorem dX8_addToken_18 : decode cX8_addToken 18 = .ok (.iload_n 1, 1) := by decide +kernel
theorem dX8_addToken_19 : decode cX8_addToken 19 = .ok (.iastore, 1) := by decide +kernel
theorem dX8_addToken_20 : decode cX8_addToken 20 = .ok (.aload_n 0, 1) := by decide +kernel
theorem dX8_addToken_21 : decode cX8_addToken 21 = .ok (.getfield 18, 3) := by decide +kernel
theorem dX8_addToken_24 : decode cX8_addToken 24 = .ok (.aload_n 0, 1) := by decide +kernel
theorem dX8_addToken_25 : decode cX8_addToken 25 = .ok (.getfield 28, 3) := by decide +kernel
theorem dX8_addToken_28 : decode cX8_addToken 28 = .ok (.iload_n 2, 1) := by decide +kernel
theorem dX8_addToken_29 : decode cX8_addToken 29 = .ok (.iastore, 1) := by decide +kernel
theorem dX8_addToken_30 : decode cX8_addToken 30 = .ok (.aload_n 0, 1) := by decide +kernel
theorem dX8_addToken_31 : decode cX8_addToken 31 = .ok (.getfield 21, 3) := by decide +kernel
theorem dX8_addToken_34 : decode cX8_addToken 34 = .ok (.aload_n 0, 1) := by decide +kernel
theorem dX8_addToken_35 : decode cX8_addToken 35 = .ok (.getfield 28, 3) := by decide +kernel
theorem dX8_addToken_38 : decode cX8_addToken 38 = .ok (.iload_n 3, 1) := by decide +kernel
theorem dX8_addToken_39 : decode cX8_addToken 39 = .ok (.iastore, 1) := by decide +kernel
theorem dX8_addToken_40 : decode cX8_addToken 40 = .ok (.aload_n 0, 1) := by decide +kernel
theorem dX8_addToken_41 : decode cX8_addToken 41 = .ok (.dup, 1) := by decide +kernel
theorem dX8_addToken_42 : decode cX8_addToken 42 = .ok (.getfield 28, 3) := by decide +kernel
theorem dX8_addToken_45 : decode cX8_addToken 45 = .ok (.iconst 1, 1) := by decide +kernel
theorem dX8_addToken_46 : decode cX8_addToken 46 = .ok (.iadd, 1) := by decide +kernel
theorem dX8_addToken_47 : decode cX8_addToken 47 = .ok (.putfield 28, 3) := by decide +kernel
theorem dX8_addToken_50 : decode cX8_addToken 50 = .ok (.return_, 1) := by decide +kernel
theorem dX8_isLetter_0 : decode cX8_isLetter 0 = .ok (.iload_n 0, 1) := by decide +kernel
theorem dX8_isLetter_1 : decode cX8_isLetter 1 = .ok (.bipush 97, 2) := by decide +kernel
theorem dX8_isLetter_3 : decode cX8_isLetter 3 = .ok (.if_icmp .lt 9, 3) := by decide +kernel
theorem dX8_isLetter_6 : decode cX8_isLetter 6 = .ok (.iload_n 0, 1) := by decide +kernel
theorem dX8_isLetter_7 : decode cX8_isLetter 7 = .ok (.bipush 122, 2) := by decide +kernel
theorem dX8_isLetter_9 : decode cX8_isLetter 9 = .ok (.if_icmp .le 15, 3) := by decide +kernel
theorem dX8_isLetter_12 : decode cX8_isLetter 12 = .ok (.iload_n 0, 1) := by decide +kernel
theorem dX8_isLetter_13 : decode cX8_isLetter 13 = .ok (.bipush 65, 2) := by decide +kernel
theorem dX8_isLetter_15 : decode cX8_isLetter 15 = .ok (.if_icmp .lt 13, 3) := by decide +kernel
theorem dX8_isLetter_18 : decode cX8_isLetter 18 = .ok (.iload_n 0, 1) := by decide +kernel
theorem dX8_isLetter_19 : decode cX8_isLetter 19 = .ok (.bipush 90, 2) := by decide +kernel
theorem dX8_isLetter_21 : decode cX8_isLetter 21 = .ok (.if_icmp .gt 7, 3) := by decide +kernel
theorem dX8_isLetter_24 : decode cX8_isLetter 24 = .ok (.iconst 1, 1) := by decide +kernel
theorem dX8_isLetter_25 : decode cX8_isLetter 25 = .ok (.goto 4, 3) := by decide +kernel
theorem dX8_isLetter_28 : decode cX8_isLetter 28 = .ok (.iconst 0, 1) := by decide +kernel
theorem dX8_isLetter_29 : decode cX8_isLetter 29 = .ok (.ireturn, 1) := by decide +kernel
theorem dX8_isDigit_0 : decode cX8_isDigit 0 = .ok (.iload_n 0, 1) := by decide +kernel
theorem dX8_isDigit_1 : decode cX8_isDigit 1 = .ok (.bipush 48, 2) := by decide +kernel
theorem dX8_isDigit_3 : decode cX8_isDigit 3 = .ok (.if_icmp .lt 13, 3) := by decide +kernel
theorem dX8_isDigit_6 : decode cX8_isDigit 6 = .ok (.iload_n 0, 1) := by decide +kernel
theorem dX8_isDigit_7 : decode cX8_isDigit 7 = .ok (.bipush 57, 2) := by decide +kernel
theorem dX8_isDigit_9 : decode cX8_isDigit 9 = .ok (.if_icmp .gt 7, 3) := by decide +kernel
theorem dX8_isDigit_12 : decode cX8_isDigit 12 = .ok (.iconst 1, 1) := by decide +kernel
theorem dX8_isDigit_13 : decode cX8_isDigit 13 = .ok (.goto 4, 3) := by decide +kernel
theorem dX8_isDigit_16 : decode cX8_isDigit 16 = .ok (.iconst 0, 1) := by decide +kernel
theorem dX8_isDigit_17 : decode cX8_isDigit 17 = .ok (.ireturn, 1) := by decide +kernel
theorem dX8_isSign_0 : decode cX8_isSign 0 = .ok (.iload_n 0, 1) := by decide +kernel
theorem dX8_isSign_1 : decode cX8_isSign 1 = .ok (.bipush 40, 2) := by decide +kernel
theorem dX8_isSign_3 : decode cX8_isSign 3 = .ok (.if_icmp .lt 9, 3) := by decide +kernel
theorem dX8_isSign_6 : decode cX8_isSign 6 = .ok (.iload_n 0, 1) := by decide +kernel
theorem dX8_isSign_7 : decode cX8_isSign 7 = .ok (.bipush 43, 2) := by decide +kernel
theorem dX8_isSign_9 : decode cX8_isSign 9 = .ok (.if_icmp .le 27, 3) := by decide +kernel
theorem dX8_isSign_12 : decode cX8_isSign 12 = .ok (.iload_n 0, 1) := by decide +kernel
theorem dX8_isSign_13 : decode cX8_isSign 13 = .ok (.bipush 45, 2) := by decide +kernel
theorem dX8_isSign_15 : decode cX8_isSign 15 = .ok (.if_icmp .eq 21, 3) := by decide +kernel
theorem dX8_isSign_18 : decode cX8_isSign 18 = .ok (.iload_n 0, 1) := by decide +kernel
theorem dX8_isSign_19 : decode cX8_isSign 19 = .ok (.bipush 47, 2) := by decide +kernel
theorem dX8_isSign_21 : decode cX8_isSign 21 = .ok (.if_icmp .eq 15, 3) := by decide +kernel
theorem dX8_isSign_24 : decode cX8_isSign 24 = .ok (.iload_n 0, 1) := by decide +kernel
theorem dX8_isSign_25 : decode cX8_isSign 25 = .ok (.bipush 59, 2) := by decide +kernel
theorem dX8_isSign_27 : decode cX8_isSign 27 = .ok (.if_icmp .lt 13, 3) := by decide +kernel
theorem dX8_isSign_30 : decode cX8_isSign 30 = .ok (.iload_n 0, 1) := by decide +kernel
theorem dX8_isSign_31 : decode cX8_isSign 31 = .ok (.bipush 62, 2) := by decide +kernel
theorem dX8_isSign_33 : decode cX8_isSign 33 = .ok (.if_icmp .gt 7, 3) := by decide +kernel
theorem dX8_isSign_36 : decode cX8_isSign 36 = .ok (.iconst 1, 1) := by decide +kernel
theorem dX8_isSign_37 : decode cX8_isSign 37 = .ok (.goto 4, 3) := by decide +kernel
theorem dX8_isSign_40 : decode cX8_isSign 40 = .ok (.iconst 0, 1) := by decide +kernel
theorem dX8_isSign_41 : decode cX8_isSign 41 = .ok (.ireturn, 1) := by decide +kernel
theorem dX8_number_0 : decode cX8_number 0 = .ok (.iconst 0, 1) := by decide +kernel
theorem dX8_number_1 : decode cX8_number 1 = .ok (.istore_n 3, 1) := by decide +kernel
theorem dX8_number_2 : decode cX8_number 2 = .ok (.iload_n 1, 1) := by decide +kernel
theorem dX8_number_3 : decode cX8_number 3 = .ok (.istore 4, 2) := by decide +kernel
theorem dX8_number_5 : decode cX8_number 5 = .ok (.iload 4, 2) := by decide +kernel
theorem dX8_number_7 : decode cX8_number 7 = .ok (.iload_n 2, 1) := by decide +kernel
theorem dX8_number_8 : decode cX8_number 8 = .ok (.if_icmp .ge 25, 3) := by decide +kernel
theorem dX8_number_11 : decode cX8_number 11 = .ok (.bipush 10, 2) := by decide +kernel
theorem dX8_number_13 : decode cX8_number 13 = .ok (.iload_n 3, 1) := by decide +kernel
theorem dX8_number_14 : decode cX8_number 14 = .ok (.imul, 1) := by decide +kernel
theorem dX8_number_15 : decode cX8_number 15 = .ok (.aload_n 0, 1) := by decide +kernel
theorem dX8_number_16 : decode cX8_number 16 = .ok (.getfield 9, 3) := by decide +kernel
theorem dX8_number_19 : decode cX8_number 19 = .ok (.iload 4, 2) := by decide +kernel
theorem dX8_number_21 : decode cX8_number 21 = .ok (.iaload, 1) := by decide +kernel
theorem dX8_number_22 : decode cX8_number 22 = .ok (.iadd, 1) := by decide +kernel
theorem dX8_number_23 : decode cX8_number 23 = .ok (.bipush 48, 2) := by decide +kernel
theorem dX8_number_25 : decode cX8_number 25 = .ok (.isub, 1) := by decide +kernel
theorem dX8_number_26 : decode cX8_number 26 = .ok (.istore_n 3, 1) := by decide +kernel
theorem dX8_number_27 : decode cX8_number 27 = .ok (.iinc 4 1, 3) := by decide +kernel
theorem dX8_number_30 : decode cX8_number 30 = .ok (.goto (-25), 3) := by decide +kernel
theorem dX8_number_33 : decode cX8_number 33 = .ok (.iload_n 3, 1) := by decide +kernel
theorem dX8_number_34 : decode cX8_number 34 = .ok (.ireturn, 1) := by decide +kernel
theorem dX8_word_0 : decode cX8_word 0 = .ok (.iconst 0, 1) := by decide +kernel
theorem dX8_word_1 : decode cX8_word 1 = .ok (.istore 4, 2) := by decide +kernel
theorem dX8_word_3 : decode cX8_word 3 = .ok (.iload_n 2, 1) := by decide +kernel
theorem dX8_word_4 : decode cX8_word 4 = .ok (.istore 5, 2) := by decide +kernel
theorem dX8_word_6 : decode cX8_word 6 = .ok (.iconst 1, 1) := by decide +kernel
theorem dX8_word_7 : decode cX8_word 7 = .ok (.istore 6, 2) := by decide +kernel
theorem dX8_word_9 : decode cX8_word 9 = .ok (.iconst 0, 1) := by decide +kernel
theorem dX8_word_10 : decode cX8_word 10 = .ok (.istore 7, 2) := by decide +kernel
theorem dX8_word_12 : decode cX8_word 12 = .ok (.iload 7, 2) := by decide +kernel
theorem dX8_word_14 : decode cX8_word 14 = .ok (.aload_n 1, 1) := by decide +kernel
theorem dX8_word_15 : decode cX8_word 15 = .ok (.invokevirtual 53, 3) := by decide +kernel
theorem dX8_word_18 : decode cX8_word 18 = .ok (.if_icmp .ge 87, 3) := by decide +kernel
theorem dX8_word_21 : decode cX8_word 21 = .ok (.aload_n 1, 1) := by decide +kernel
theorem dX8_word_22 : decode cX8_word 22 = .ok (.iload 7, 2) := by decide +kernel
theorem dX8_word_24 : decode cX8_word 24 = .ok (.invokevirtual 58, 3) := by decide +kernel
theorem dX8_word_27 : decode cX8_word 27 = .ok (.istore 8, 2) := by decide +kernel
theorem dX8_word_29 : decode cX8_word 29 = .ok (.iload 8, 2) := by decide +kernel
theorem dX8_word_31 : decode cX8_word 31 = .ok (.bipush 32, 2) := by decide +kernel
theorem dX8_word_33 : decode cX8_word 33 = .ok (.if_icmp .eq 39, 3) := by decide +kernel
theorem dX8_word_36 : decode cX8_word 36 = .ok (.iload 6, 2) := by decide +kernel
theorem dX8_word_38 : decode cX8_word 38 = .ok (.ifCond .eq 25, 3) := by decide +kernel
theorem dX8_word_41 : decode cX8_word 41 = .ok (.iload 5, 2) := by decide +kernel
theorem dX8_word_43 : decode cX8_word 43 = .ok (.iload_n 3, 1) := by decide +kernel
theorem dX8_word_44 : decode cX8_word 44 = .ok (.if_icmp .ge 19, 3) := by decide +kernel
theorem dX8_word_47 : decode cX8_word 47 = .ok (.aload_n 0, 1) := by decide +kernel
theorem dX8_word_48 : decode cX8_word 48 = .ok (.getfield 9, 3) := by decide +kernel
theorem dX8_word_51 : decode cX8_word 51 = .ok (.iload 5, 2) := by decide +kernel
theorem dX8_word_53 : decode cX8_word 53 = .ok (.iaload, 1) := by decide +kernel
theorem dX8_word_54 : decode cX8_word 54 = .ok (.iload 8, 2) := by decide +kernel
theorem dX8_word_56 : decode cX8_word 56 = .ok (.if_icmp .ne 7, 3) := by decide +kernel
theorem dX8_word_59 : decode cX8_word 59 = .ok (.iconst 1, 1) := by decide +kernel
theorem dX8_word_60 : decode cX8_word 60 = .ok (.goto 4, 3) := by decide +kernel
theorem dX8_word_63 : decode cX8_word 63 = .ok (.iconst 0, 1) := by decide +kernel
theorem dX8_word_64 : decode cX8_word 64 = .ok (.istore 6, 2) := by decide +kernel
theorem dX8_word_66 : decode cX8_word 66 = .ok (.iinc 5 1, 3) := by decide +kernel
theorem dX8_word_69 : decode cX8_word 69 = .ok (.goto 30, 3) := by decide +kernel
theorem dX8_word_72 : decode cX8_word 72 = .ok (.iload 6, 2) := by decide +kernel
theorem dX8_word_74 : decode cX8_word 74 = .ok (.ifCond .eq 16, 3) := by decide +kernel
theorem dX8_word_77 : decode cX8_word 77 = .ok (.iload 5, 2) := by decide +kernel
theorem dX8_word_79 : decode cX8_word 79 = .ok (.iload_n 3, 1) := by decide +kernel
theorem dX8_word_80 : decode cX8_word 80 = .ok (.if_icmp .ne 10, 3) := by decide +kernel
theorem dX8_word_83 : decode cX8_word 83 = .ok (.sipush 256, 3) := by decide +kernel
theorem dX8_word_86 : decode cX8_word 86 = .ok (.iload 4, 2) := by decide +kernel
theorem dX8_word_88 : decode cX8_word 88 = .ok (.iadd, 1) := by decide +kernel
theorem dX8_word_89 : decode cX8_word 89 = .ok (.ireturn, 1) := by decide +kernel
theorem dX8_word_90 : decode cX8_word 90 = .ok (.iinc 4 1, 3) := by decide +kernel
theorem dX8_word_93 : decode cX8_word 93 = .ok (.iload_n 2, 1) := by decide +kernel
theorem dX8_word_94 : decode cX8_word 94 = .ok (.istore 5, 2) := by decide +kernel
theorem dX8_word_96 : decode cX8_word 96 = .ok (.iconst 1, 1) := by decide +kernel
theorem dX8_word_97 : decode cX8_word 97 = .ok (.istore 6, 2) := by decide +kernel
theorem dX8_word_99 : decode cX8_word 99 = .ok (.iinc 7 1, 3) := by decide +kernel
theorem dX8_word_102 : decode cX8_word 102 = .ok (.goto (-90), 3) := by decide +kernel
theorem dX8_word_105 : decode cX8_word 105 = .ok (.iconst 2, 1) := by decide +kernel
theorem dX8_word_106 : decode cX8_word 106 = .ok (.ireturn, 1) := by decide +kernel
theorem dX9_init_0 : decode cX9_init 0 = .ok (.aload_n 0, 1) := by decide +kernel
theorem dX9_init_1 : decode cX9_init 1 = .ok (.invokespecial 1, 3) := by decide +kernel
theorem dX9_init_4 : decode cX9_init 4 = .ok (.aload_n 0, 1) := by decide +kernel
theorem dX9_init_5 : decode cX9_init 5 = .ok (.new 7, 3) := by decide +kernel
theorem dX9_init_8 : decode cX9_init 8 = .ok (.dup, 1) := by decide +kernel
theorem dX9_init_9 : decode cX9_init 9 = .ok (.invokespecial 9, 3) := by decide +kernel
theorem dX9_init_12 : decode cX9_init 12 = .ok (.putfield 10, 3) := by decide +kernel
theorem dX9_init_15 : decode cX9_init 15 = .ok (.aload_n 0, 1) := by decide +kernel
theorem dX9_init_16 : decode cX9_init 16 = .ok (.new 16, 3) := by decide +kernel
theorem dX9_init_19 : decode cX9_init 19 = .ok (.dup, 1) := by decide +kernel
theorem dX9_init_20 : decode cX9_init 20 = .ok (.invokespecial 18, 3) := by decide +kernel
theorem dX9_init_23 : decode cX9_init 23 = .ok (.putfield 19, 3) := by decide +kernel
theorem dX9_init_26 : decode cX9_init 26 = .ok (.aload_n 0, 1) := by decide +kernel
theorem dX9_init_27 : decode cX9_init 27 = .ok (.new 23, 3) := by decide +kernel
theorem dX9_init_30 : decode cX9_init 30 = .ok (.dup, 1) := by decide +kernel
theorem dX9_init_31 : decode cX9_init 31 = .ok (.invokespecial 25, 3) := by decide +kernel
theorem dX9_init_34 : decode cX9_init 34 = .ok (.putfield 26, 3) := by decide +kernel
theorem dX9_init_37 : decode cX9_init 37 = .ok (.aload_n 0, 1) := by decide +kernel
theorem dX9_init_38 : decode cX9_init 38 = .ok (.new 30, 3) := by decide +kernel
theorem dX9_init_41 : decode cX9_init 41 = .ok (.dup, 1) := by decide +kernel
theorem dX9_init_42 : decode cX9_init 42 = .ok (.invokespecial 32, 3) := by decide +kernel
theorem dX9_init_45 : decode cX9_init 45 = .ok (.putfield 33, 3) := by decide +kernel
theorem dX9_init_48 : decode cX9_init 48 = .ok (.aload_n 0, 1) := by decide +kernel
theorem dX9_init_49 : decode cX9_init 49 = .ok (.new 37, 3) := by decide +kernel
theorem dX9_init_52 : decode cX9_init 52 = .ok (.dup, 1) := by decide +kernel
theorem dX9_init_53 : decode cX9_init 53 = .ok (.invokespecial 39, 3) := by decide +kernel
theorem dX9_init_56 : decode cX9_init 56 = .ok (.putfield 40, 3) := by decide +kernel
theorem dX9_init_59 : decode cX9_init 59 = .ok (.aload_n 0, 1) := by decide +kernel
theorem dX9_init_60 : decode cX9_init 60 = .ok (.new 44, 3) := by decide +kernel
theorem dX9_init_63 : decode cX9_init 63 = .ok (.dup, 1) := by decide +kernel
theorem dX9_init_64 : decode cX9_init 64 = .ok (.invokespecial 46, 3) := by decide +kernel
theorem dX9_init_67 : decode cX9_init 67 = .ok (.putfield 47, 3) := by decide +kernel
theorem dX9_init_70 : decode cX9_init 70 = .ok (.return_, 1) := by decide +kernel
theorem dX9_copyFrom_0 : decode cX9_copyFrom 0 = .ok (.aload_n 0, 1) := by decide +kernel
theorem dX9_copyFrom_1 : decode cX9_copyFrom 1 = .ok (.getfield 10, 3) := by decide +kernel
theorem dX9_copyFrom_4 : decode cX9_copyFrom 4 = .ok (.aload_n 1, 1) := by decide +kernel
theorem dX9_copyFrom_5 : decode cX9_copyFrom 5 = .ok (.getfield 10, 3) := by decide +kernel
theorem dX9_copyFrom_8 : decode cX9_copyFrom 8 = .ok (.invokevirtual 51, 3) := by decide +kernel
theorem dX9_copyFrom_11 : decode cX9_copyFrom 11 = .ok (.aload_n 0, 1) := by decide +kernel
theorem dX9_copyFrom_12 : decode cX9_copyFrom 12 = .ok (.getfield 19, 3) := by decide +kernel
theorem dX9_copyFrom_15 : decode cX9_copyFrom 15 = .ok (.aload_n 1, 1) := by decide +kernel
theorem dX9_copyFrom_16 : decode cX9_copyFrom 16 = .ok (.getfield 19, 3) := by decide +kernel
theorem dX9_copyFrom_19 : decode cX9_copyFrom 19 = .ok (.invokevirtual 55, 3) := by decide +kernel
theorem dX9_copyFrom_22 : decode cX9_copyFrom 22 = .ok (.aload_n 0, 1) := by decide +kernel
theorem dX9_copyFrom_23 : decode cX9_copyFrom 23 = .ok (.getfield 26, 3) := by decide +kernel
theorem dX9_copyFrom_26 : decode cX9_copyFrom 26 = .ok (.aload_n 1, 1) := by decide +kernel
theorem dX9_copyFrom_27 : decode cX9_copyFrom 27 = .ok (.getfield 26, 3) := by decide +kernel
theorem dX9_copyFrom_30 : decode cX9_copyFrom 30 = .ok (.invokevirtual 58, 3) := by decide +kernel
theorem dX9_copyFrom_33 : decode cX9_copyFrom 33 = .ok (.aload_n 0, 1) := by decide +kernel
theorem dX9_copyFrom_34 : decode cX9_copyFrom 34 = .ok (.getfield 33, 3) := by decide +kernel
theorem dX9_copyFrom_37 : decode cX9_copyFrom 37 = .ok (.aload_n 1, 1) := by decide +kernel
theorem dX9_copyFrom_38 : decode cX9_copyFrom 38 = .ok (.getfield 33, 3) := by decide +kernel
theorem dX9_copyFrom_41 : decode cX9_copyFrom 41 = .ok (.invokevirtual 61, 3) := by decide +kernel
theorem dX9_copyFrom_44 : decode cX9_copyFrom 44 = .ok (.aload_n 0, 1) := by decide +kernel
theorem dX9_copyFrom_45 : decode cX9_copyFrom 45 = .ok (.getfield 40, 3) := by decide +kernel
theorem dX9_copyFrom_48 : decode cX9_copyFrom 48 = .ok (.aload_n 1, 1) := by decide +kernel
theorem dX9_copyFrom_49 : decode cX9_copyFrom 49 = .ok (.getfield 40, 3) := by decide +kernel
theorem dX9_copyFrom_52 : decode cX9_copyFrom 52 = .ok (.invokevirtual 64, 3) := by decide +kernel
theorem dX9_copyFrom_55 : decode cX9_copyFrom 55 = .ok (.aload_n 0, 1) := by decide +kernel
theorem dX9_copyFrom_56 : decode cX9_copyFrom 56 = .ok (.getfield 47, 3) := by decide +kernel
theorem dX9_copyFrom_59 : decode cX9_copyFrom 59 = .ok (.aload_n 1, 1) := by decide +kernel
theorem dX9_copyFrom_60 : decode cX9_copyFrom 60 = .ok (.getfield 47, 3) := by decide +kernel
theorem dX9_copyFrom_63 : decode cX9_copyFrom 63 = .ok (.invokevirtual 67, 3) := by decide +kernel
theorem dX9_copyFrom_66 : decode cX9_copyFrom 66 = .ok (.return_, 1) := by decide +kernel
theorem dX10_init_0 : decode cX10_init 0 = .ok (.aload_n 0, 1) := by decide +kernel
theorem dX10_init_1 : decode cX10_init 1 = .ok (.invokespecial 3, 3) := by decide +kernel
theorem dX10_init_4 : decode cX10_init 4 = .ok (.aload_n 0, 1) := by decide +kernel
theorem dX10_init_5 : decode cX10_init 5 = .ok (.new 9, 3) := by decide +kernel
theorem dX10_init_8 : decode cX10_init 8 = .ok (.dup, 1) := by decide +kernel
theorem dX10_init_9 : decode cX10_init 9 = .ok (.invokespecial 11, 3) := by decide +kernel
theorem dX10_init_12 : decode cX10_init 12 = .ok (.putfield 12, 3) := by decide +kernel
theorem dX10_init_15 : decode cX10_init 15 = .ok (.aload_n 0, 1) := by decide +kernel
theorem dX10_init_16 : decode cX10_init 16 = .ok (.aload_n 0, 1) := by decide +kernel
theorem dX10_init_17 : decode cX10_init 17 = .ok (.getfield 12, 3) := by decide +kernel
theorem dX10_init_20 : decode cX10_init 20 = .ok (.getfield 16, 3) := by decide +kernel
theorem dX10_init_23 : decode cX10_init 23 = .ok (.putfield 20, 3) := by decide +kernel
theorem dX10_init_26 : decode cX10_init 26 = .ok (.aload_n 0, 1) := by decide +kernel
theorem dX10_init_27 : decode cX10_init 27 = .ok (.new 9, 3) := by decide +kernel
theorem dX10_init_30 : decode cX10_init 30 = .ok (.dup, 1) := by decide +kernel
theorem dX10_init_31 : decode cX10_init 31 = .ok (.invokespecial 11, 3) := by decide +kernel
theorem dX10_init_34 : decode cX10_init 34 = .ok (.putfield 23, 3) := by decide +kernel
theorem dX10_init_37 : decode cX10_init 37 = .ok (.aload_n 0, 1) := by decide +kernel
theorem dX10_init_38 : decode cX10_init 38 = .ok (.bipush 6, 2) := by decide +kernel
theorem dX10_init_40 : decode cX10_init 40 = .ok (.anewarray 26, 3) := by decide +kernel
theorem dX10_init_43 : decode cX10_init 43 = .ok (.putfield 28, 3) := by decide +kernel
theorem dX10_init_46 : decode cX10_init 46 = .ok (.aload_n 0, 1) := by decide +kernel
theorem dX10_init_47 : decode cX10_init 47 = .ok (.new 32, 3) := by decide +kernel
theorem dX10_init_50 : decode cX10_init 50 = .ok (.dup, 1) := by decide +kernel
theorem dX10_init_51 : decode cX10_init 51 = .ok (.invokespecial 34, 3) := by decide +kernel
theorem dX10_init_54 : decode cX10_init 54 = .ok (.putfield 35, 3) := by decide +kernel
theorem dX10_init_57 : decode cX10_init 57 = .ok (.aload_n 0, 1) := by decide +kernel
theorem dX10_init_58 : decode cX10_init 58 = .ok (.aload_n 0, 1) := by decide +kernel
theorem dX10_init_59 : decode cX10_init 59 = .ok (.getfield 35, 3) := by decide +kernel
theorem dX10_init_62 : decode cX10_init 62 = .ok (.getfield 39, 3) := by decide +kernel
theorem dX10_init_65 : decode cX10_init 65 = .ok (.putfield 43, 3) := by decide +kernel
theorem dX10_init_68 : decode cX10_init 68 = .ok (.aload_n 0, 1) := by decide +kernel
theorem dX10_init_69 : decode cX10_init 69 = .ok (.new 44, 3) := by decide +kernel
theorem dX10_init_72 : decode cX10_init 72 = .ok (.dup, 1) := by decide +kernel
theorem dX10_init_73 : decode cX10_init 73 = .ok (.iconst 1, 1) := by decide +kernel
theorem dX10_init_74 : decode cX10_init 74 = .ok (.invokespecial 46, 3) := by decide +kernel
theorem dX10_init_77 : decode cX10_init 77 = .ok (.putfield 49, 3) := by decide +kernel
theorem dX10_init_80 : decode cX10_init 80 = .ok (.aload_n 0, 1) := by decide +kernel
theorem dX10_init_81 : decode cX10_init 81 = .ok (.new 44, 3) := by decide +kernel
theorem dX10_init_84 : decode cX10_init 84 = .ok (.dup, 1) := by decide +kernel
theorem dX10_init_85 : decode cX10_init 85 = .ok (.iconst 0, 1) := by decide +kernel
theorem dX10_init_86 : decode cX10_init 86 = .ok (.invokespecial 46, 3) := by decide +kernel
theorem dX10_init_89 : decode cX10_init 89 = .ok (.putfield 53, 3) := by decide +kernel
theorem dX10_init_92 : decode cX10_init 92 = .ok (.aload_n 0, 1) := by decide +kernel
theorem dX10_init_93 : decode cX10_init 93 = .ok (.new 26, 3) := by decide +kernel
theorem dX10_init_96 : decode cX10_init 96 = .ok (.dup, 1) := by decide +kernel
theorem dX10_init_97 : decode cX10_init 97 = .ok (.invokespecial 56, 3) := by decide +kernel
theorem dX10_init_100 : decode cX10_init 100 = .ok (.putfield 57, 3) := by decide +kernel
theorem dX10_init_103 : decode cX10_init 103 = .ok (.aload_n 0, 1) := by decide +kernel
theorem dX10_init_104 : decode cX10_init 104 = .ok (.bipush 100, 2) := by decide +kernel
theorem dX10_init_106 : decode cX10_init 106 = .ok (.newarray .long, 2) := by decide +kernel
theorem dX10_init_108 : decode cX10_init 108 = .ok (.putfield 60, 3) := by decide +kernel
theorem dX10_init_111 : decode cX10_init 111 = .ok (.iconst 0, 1) := by decide +kernel
theorem dX10_init_112 : decode cX10_init 112 = .ok (.istore_n 1, 1) := by decide +kernel
theorem dX10_init_113 : decode cX10_init 113 = .ok (.iload_n 1, 1) := by decide +kernel
theorem dX10_init_114 : decode cX10_init 114 = .ok (.bipush 6, 2) := by decide +kernel
theorem dX10_init_116 : decode cX10_init 116 = .ok (.if_icmp .ge 22, 3) := by decide +kernel
theorem dX10_init_119 : decode cX10_init 119 = .ok (.aload_n 0, 1) := by decide +kernel
theorem dX10_init_120 : decode cX10_init 120 = .ok (.getfield 28, 3) := by decide +kernel
theorem dX10_init_123 : decode cX10_init 123 = .ok (.iload_n 1, 1) := by decide +kernel
theorem dX10_init_124 : decode cX10_init 124 = .ok (.new 26, 3) := by decide +kernel
theorem dX10_init_127 : decode cX10_init 127 = .ok (.dup, 1) := by decide +kernel
theorem dX10_init_128 : decode cX10_init 128 = .ok (.invokespecial 56, 3) := by decide +kernel
theorem dX10_init_131 : decode cX10_init 131 = .ok (.aastore, 1) := by decide +kernel
theorem dX10_init_132 : decode cX10_init 132 = .ok (.iinc 1 1, 3) := by decide +kernel
theorem dX10_init_135 : decode cX10_init 135 = .ok (.goto (-22), 3) := by decide +kernel
theorem dX10_init_138 : decode cX10_init 138 = .ok (.return_, 1) := by decide +kernel
theorem dX10_state_0 : decode cX10_state 0 = .ok (.aload_n 0, 1) := by decide +kernel
theorem dX10_state_1 : decode cX10_state 1 = .ok (.getfield 20, 3) := by decide +kernel
theorem dX10_state_4 : decode cX10_state 4 = .ok (.getfield 64, 3) := by decide +kernel
theorem dX10_state_7 : decode cX10_state 7 = .ok (.istore_n 2, 1) := by decide +kernel
theorem dX10_state_8 : decode cX10_state 8 = .ok (.aload_n 0, 1) := by decide +kernel
theorem dX10_state_9 : decode cX10_state 9 = .ok (.getfield 20, 3) := by decide +kernel
theorem dX10_state_12 : decode cX10_state 12 = .ok (.iload_n 1, 1) := by decide +kernel
theorem dX10_state_13 : decode cX10_state 13 = .ok (.putfield 64, 3) := by decide +kernel
theorem dX10_state_16 : decode cX10_state 16 = .ok (.aload_n 0, 1) := by decide +kernel
theorem dX10_state_17 : decode cX10_state 17 = .ok (.invokevirtual 68, 3) := by decide +kernel
theorem dX10_state_20 : decode cX10_state 20 = .ok (.iload_n 2, 1) := by decide +kernel
theorem dX10_state_21 : decode cX10_state 21 = .ok (.ireturn, 1) := by decide +kernel
theorem dX10_party_0 : decode cX10_party 0 = .ok (.iload_n 1, 1) := by decide +kernel
theorem dX10_party_1 : decode cX10_party 1 = .ok (.iconst 0, 1) := by decide +kernel
theorem dX10_party_2 : decode cX10_party 2 = .ok (.sipush 999, 3) := by decide +kernel
theorem dX10_party_5 : decode cX10_party 5 = .ok (.invokestatic 71, 3) := by decide +kernel
theorem dX10_party_8 : decode cX10_party 8 = .ok (.ifCond .eq 14, 3) := by decide +kernel
theorem dX10_party_11 : decode cX10_party 11 = .ok (.aload_n 0, 1) := by decide +kernel
theorem dX10_party_12 : decode cX10_party 12 = .ok (.getfield 20, 3) := by decide +kernel
theorem dX10_party_15 : decode cX10_party 15 = .ok (.getfield 75, 3) := by decide +kernel
theorem dX10_party_18 : decode cX10_party 18 = .ok (.iconst 5, 1) := by decide +kernel
theorem dX10_party_19 : decode cX10_party 19 = .ok (.if_icmp .lt 5, 3) := by decide +kernel
theorem dX10_party_22 : decode cX10_party 22 = .ok (.iconst (-1), 1) := by decide +kernel
theorem dX10_party_23 : decode cX10_party 23 = .ok (.ireturn, 1) := by decide +kernel
theorem dX10_party_24 : decode cX10_party 24 = .ok (.aload_n 0, 1) := by decide +kernel
theorem dX10_party_25 : decode cX10_party 25 = .ok (.invokevirtual 68, 3) := by decide +kernel
theorem dX10_party_28 : decode cX10_party 28 = .ok (.aload_n 0, 1) := by decide +kernel
theorem dX10_party_29 : decode cX10_party 29 = .ok (.getfield 20, 3) := by decide +kernel
theorem dX10_party_32 : decode cX10_party 32 = .ok (.iload_n 1, 1) := by decide +kernel
theorem dX10_party_33 : decode cX10_party 33 = .ok (.invokevirtual 78, 3) := by decide +kernel
theorem dX10_party_36 : decode cX10_party 36 = .ok (.ireturn, 1) := by decide +kernel
theorem dX10_eater_0 : decode cX10_eater 0 = .ok (.iload_n 1, 1) := by decide +kernel
theorem dX10_eater_1 : decode cX10_eater 1 = .ok (.iconst 0, 1) := by decide +kernel
theorem dX10_eater_2 : decode cX10_eater 2 = .ok (.bipush 20, 2) := by decide +kernel
theorem dX10_eater_4 : decode cX10_eater 4 = .ok (.invokestatic 71, 3) := by decide +kernel
theorem dX10_eater_7 : decode cX10_eater 7 = .ok (.ifCond .eq 15, 3) := by decide +kernel
theorem dX10_eater_10 : decode cX10_eater 10 = .ok (.aload_n 0, 1) := by decide +kernel
theorem dX10_eater_11 : decode cX10_eater 11 = .ok (.getfield 20, 3) := by decide +kernel
theorem dX10_eater_14 : decode cX10_eater 14 = .ok (.getfield 82, 3) := by decide +kernel
theorem dX10_eater_17 : decode cX10_eater 17 = .ok (.bipush 10, 2) := by decide +kernel
theorem dX10_eater_19 : decode cX10_eater 19 = .ok (.if_icmp .lt 5, 3) := by decide +kernel
theorem dX10_eater_22 : decode cX10_eater 22 = .ok (.iconst (-1), 1) := by decide +kernel
theorem dX10_eater_23 : decode cX10_eater 23 = .ok (.ireturn, 1) := by decide +kernel
theorem dX10_eater_24 : decode cX10_eater 24 = .ok (.aload_n 0, 1) := by decide +kernel
theorem dX10_eater_25 : decode cX10_eater 25 = .ok (.invokevirtual 68, 3) := by decide +kernel
theorem dX10_eater_28 : decode cX10_eater 28 = .ok (.aload_n 0, 1) := by decide +kernel
theorem dX10_eater_29 : decode cX10_eater 29 = .ok (.getfield 20, 3) := by decide +kernel
theorem dX10_eater_32 : decode cX10_eater 32 = .ok (.iload_n 1, 1) := by decide +kernel
theorem dX10_eater_33 : decode cX10_eater 33 = .ok (.invokevirtual 85, 3) := by decide +kernel
theorem dX10_eater_36 : decode cX10_eater 36 = .ok (.ireturn, 1) := by decide +kernel
theorem dX10_taste_0 : decode cX10_taste 0 = .ok (.aload_n 0, 1) := by decide +kernel
theorem dX10_taste_1 : decode cX10_taste 1 = .ok (.getfield 20, 3) := by decide +kernel
theorem dX10_taste_4 : decode cX10_taste 4 = .ok (.iload_n 1, 1) := by decide +kernel
theorem dX10_taste_5 : decode cX10_taste 5 = .ok (.invokevirtual 88, 3) := by decide +kernel
theorem dX10_taste_8 : decode cX10_taste 8 = .ok (.ifCond .eq 24, 3) := by decide +kernel
theorem dX10_taste_11 : decode cX10_taste 11 = .ok (.aload_n 0, 1) := by decide +kernel
theorem dX10_taste_12 : decode cX10_taste 12 = .ok (.getfield 20, 3) := by decide +kernel
theorem dX10_taste_15 : decode cX10_taste 15 = .ok (.iload_n 2, 1) := by decide +kernel
theorem dX10_taste_16 : decode cX10_taste 16 = .ok (.invokevirtual 92, 3) := by decide +kernel
theorem dX10_taste_19 : decode cX10_taste 19 = .ok (.ifCond .eq 13, 3) := by decide +kernel
theorem dX10_taste_22 : decode cX10_taste 22 = .ok (.iload_n 3, 1) := by decide +kernel
theorem dX10_taste_23 : decode cX10_taste 23 = .ok (.iconst 0, 1) := by decide +kernel
theorem dX10_taste_24 : decode cX10_taste 24 = .ok (.bipush 9, 2) := by decide +kernel
theorem dX10_taste_26 : decode cX10_taste 26 = .ok (.invokestatic 71, 3) := by decide +kernel
theorem dX10_taste_29 : decode cX10_taste 29 = .ok (.ifCond .ne 5, 3) := by decide +kernel
theorem dX10_taste_32 : decode cX10_taste 32 = .ok (.iconst 0, 1) := by decide +kernel
theorem dX10_taste_33 : decode cX10_taste 33 = .ok (.ireturn, 1) := by decide +kernel
theorem dX10_taste_34 : decode cX10_taste 34 = .ok (.aload_n 0, 1) := by decide +kernel
theorem dX10_taste_35 : decode cX10_taste 35 = .ok (.getfield 20, 3) := by decide +kernel
theorem dX10_taste_38 : decode cX10_taste 38 = .ok (.getfield 95, 3) := by decide +kernel
theorem dX10_taste_41 : decode cX10_taste 41 = .ok (.iload_n 1, 1) := by decide +kernel
theorem dX10_taste_42 : decode cX10_taste 42 = .ok (.iconst 5, 1) := by decide +kernel
theorem dX10_taste_43 : decode cX10_taste 43 = .ok (.imul, 1) := by decide +kernel
theorem dX10_taste_44 : decode cX10_taste 44 = .ok (.iload_n 2, 1) := by decide +kernel
theorem dX10_taste_45 : decode cX10_taste 45 = .ok (.iadd, 1) := by decide +kernel
theorem dX10_taste_46 : decode cX10_taste 46 = .ok (.iload_n 3, 1) := by decide +kernel
theorem dX10_taste_47 : decode cX10_taste 47 = .ok (.iastore, 1) := by decide +kernel
theorem dX10_taste_48 : decode cX10_taste 48 = .ok (.aload_n 0, 1) := by decide +kernel
theorem dX10_taste_49 : decode cX10_taste 49 = .ok (.invokevirtual 68, 3) := by decide +kernel
theorem dX10_taste_52 : decode cX10_taste 52 = .ok (.iconst 1, 1) := by decide +kernel
theorem dX10_taste_53 : decode cX10_taste 53 = .ok (.ireturn, 1) := by decide +kernel
theorem dX10_set_0 : decode cX10_set 0 = .ok (.iload_n 1, 1) := by decide +kernel
theorem dX10_set_1 : decode cX10_set 1 = .ok (.iconst 4, 1) := by decide +kernel
theorem dX10_set_2 : decode cX10_set 2 = .ok (.if_icmp .ge 15, 3) := by decide +kernel
theorem dX10_set_5 : decode cX10_set 5 = .ok (.aload_n 0, 1) := by decide +kernel
theorem dX10_set_6 : decode cX10_set 6 = .ok (.getfield 20, 3) := by decide +kernel
theorem dX10_set_9 : decode cX10_set 9 = .ok (.iload_n 1, 1) := by decide +kernel
theorem dX10_set_10 : decode cX10_set 10 = .ok (.iload_n 3, 1) := by decide +kernel
theorem dX10_set_11 : decode cX10_set 11 = .ok (.invokevirtual 99, 3) := by decide +kernel
theorem dX10_set_14 : decode cX10_set 14 = .ok (.goto 13, 3) := by decide +kernel
theorem dX10_set_17 : decode cX10_set 17 = .ok (.aload_n 0, 1) := by decide +kernel
theorem dX10_set_18 : decode cX10_set 18 = .ok (.getfield 20, 3) := by decide +kernel
theorem dX10_set_21 : decode cX10_set 21 = .ok (.iload_n 1, 1) := by decide +kernel
theorem dX10_set_22 : decode cX10_set 22 = .ok (.iload_n 2, 1) := by decide +kernel
theorem dX10_set_23 : decode cX10_set 23 = .ok (.iload_n 3, 1) := by decide +kernel
theorem dX10_set_24 : decode cX10_set 24 = .ok (.invokevirtual 103, 3) := by decide +kernel
theorem dX10_set_27 : decode cX10_set 27 = .ok (.istore 4, 2) := by decide +kernel
theorem dX10_set_29 : decode cX10_set 29 = .ok (.iload 4, 2) := by decide +kernel
theorem dX10_set_31 : decode cX10_set 31 = .ok (.ifCond .eq 7, 3) := by decide +kernel
theorem dX10_set_34 : decode cX10_set 34 = .ok (.aload_n 0, 1) := by decide +kernel
theorem dX10_set_35 : decode cX10_set 35 = .ok (.invokevirtual 68, 3) := by decide +kernel
theorem dX10_set_38 : decode cX10_set 38 = .ok (.iload 4, 2) := by decide +kernel
theorem dX10_set_40 : decode cX10_set 40 = .ok (.ireturn, 1) := by decide +kernel
theorem dX10_plant_0 : decode cX10_plant 0 = .ok (.aload_n 0, 1) := by decide +kernel
theorem dX10_plant_1 : decode cX10_plant 1 = .ok (.getfield 20, 3) := by decide +kernel
theorem dX10_plant_4 : decode cX10_plant 4 = .ok (.iload_n 1, 1) := by decide +kernel
theorem dX10_plant_5 : decode cX10_plant 5 = .ok (.invokevirtual 92, 3) := by decide +kernel
theorem dX10_plant_8 : decode cX10_plant 8 = .ok (.ifCond .eq 24, 3) := by decide +kernel
theorem dX10_plant_11 : decode cX10_plant 11 = .ok (.iload_n 2, 1) := by decide +kernel
theorem dX10_plant_12 : decode cX10_plant 12 = .ok (.invokestatic 106, 3) := by decide +kernel
theorem dX10_plant_15 : decode cX10_plant 15 = .ok (.ifCond .eq 17, 3) := by decide +kernel
theorem dX10_plant_18 : decode cX10_plant 18 = .ok (.iload_n 3, 1) := by decide +kernel
theorem dX10_plant_19 : decode cX10_plant 19 = .ok (.iconst 0, 1) := by decide +kernel
theorem dX10_plant_20 : decode cX10_plant 20 = .ok (.bipush 99, 2) := by decide +kernel
theorem dX10_plant_22 : decode cX10_plant 22 = .ok (.invokestatic 71, 3) := by decide +kernel
theorem dX10_plant_25 : decode cX10_plant 25 = .ok (.ifCond .eq 7, 3) := by decide +kernel
theorem dX10_plant_28 : decode cX10_plant 28 = .ok (.iconst 1, 1) := by decide +kernel
theorem dX10_plant_29 : decode cX10_plant 29 = .ok (.goto 4, 3) := by decide +kernel
theorem dX10_plant_32 : decode cX10_plant 32 = .ok (.iconst 0, 1) := by decide +kernel
theorem dX10_plant_33 : decode cX10_plant 33 = .ok (.istore 4, 2) := by decide +kernel
theorem dX10_plant_35 : decode cX10_plant 35 = .ok (.iload 4, 2) := by decide +kernel
theorem dX10_plant_37 : decode cX10_plant 37 = .ok (.ifCond .eq 15, 3) := by decide +kernel
theorem dX10_plant_40 : decode cX10_plant 40 = .ok (.aload_n 0, 1) := by decide +kernel
theorem dX10_plant_41 : decode cX10_plant 41 = .ok (.getfield 20, 3) := by decide +kernel
theorem dX10_plant_44 : decode cX10_plant 44 = .ok (.getfield 109, 3) := by decide +kernel
theorem dX10_plant_47 : decode cX10_plant 47 = .ok (.bipush 14, 2) := by decide +kernel
theorem dX10_plant_49 : decode cX10_plant 49 = .ok (.if_icmp .lt 5, 3) := by decide +kernel
theorem dX10_plant_52 : decode cX10_plant 52 = .ok (.iconst (-1), 1) := by decide +kernel
theorem dX10_plant_53 : decode cX10_plant 53 = .ok (.ireturn, 1) := by decide +kernel
theorem dX10_plant_54 : decode cX10_plant 54 = .ok (.aload_n 0, 1) := by decide +kernel
theorem dX10_plant_55 : decode cX10_plant 55 = .ok (.invokevirtual 112, 3) := by decide +kernel
theorem dX10_plant_58 : decode cX10_plant 58 = .ok (.aload_n 0, 1) := by decide +kernel
theorem dX10_plant_59 : decode cX10_plant 59 = .ok (.getfield 20, 3) := by decide +kernel
theorem dX10_plant_62 : decode cX10_plant 62 = .ok (.iload_n 1, 1) := by decide +kernel
theorem dX10_plant_63 : decode cX10_plant 63 = .ok (.iload_n 2, 1) := by decide +kernel
theorem dX10_plant_64 : decode cX10_plant 64 = .ok (.iload_n 3, 1) := by decide +kernel
theorem dX10_plant_65 : decode cX10_plant 65 = .ok (.invokevirtual 115, 3) := by decide +kernel
theorem dX10_plant_68 : decode cX10_plant 68 = .ok (.istore 5, 2) := by decide +kernel
theorem dX10_plant_70 : decode cX10_plant 70 = .ok (.aload_n 0, 1) := by decide +kernel
theorem dX10_plant_71 : decode cX10_plant 71 = .ok (.getfield 12, 3) := by decide +kernel
theorem dX10_plant_74 : decode cX10_plant 74 = .ok (.getfield 119, 3) := by decide +kernel
theorem dX10_plant_77 : decode cX10_plant 77 = .ok (.aload_n 0, 1) := by decide +kernel
theorem dX10_plant_78 : decode cX10_plant 78 = .ok (.getfield 20, 3) := by decide +kernel
theorem dX10_plant_81 : decode cX10_plant 81 = .ok (.iconst 0, 1) := by decide +kernel
theorem dX10_plant_82 : decode cX10_plant 82 = .ok (.iload 5, 2) := by decide +kernel
theorem dX10_plant_84 : decode cX10_plant 84 = .ok (.iconst 0, 1) := by decide +kernel
theorem dX10_plant_85 : decode cX10_plant 85 = .ok (.invokevirtual 123, 3) := by decide +kernel
theorem dX10_plant_88 : decode cX10_plant 88 = .ok (.iload 5, 2) := by decide +kernel
theorem dX10_plant_90 : decode cX10_plant 90 = .ok (.ireturn, 1) := by decide +kernel
theorem dX10_fence_0 : decode cX10_fence 0 = .ok (.iload_n 1, 1) := by decide +kernel
theorem dX10_fence_1 : decode cX10_fence 1 = .ok (.invokestatic 106, 3) := by decide +kernel
theorem dX10_fence_4 : decode cX10_fence 4 = .ok (.ifCond .eq 15, 3) := by decide +kernel
theorem dX10_fence_7 : decode cX10_fence 7 = .ok (.aload_n 0, 1) := by decide +kernel
theorem dX10_fence_8 : decode cX10_fence 8 = .ok (.getfield 20, 3) := by decide +kernel
theorem dX10_fence_11 : decode cX10_fence 11 = .ok (.iload_n 1, 1) := by decide +kernel
theorem dX10_fence_12 : decode cX10_fence 12 = .ok (.invokevirtual 129, 3) := by decide +kernel
theorem dX10_fence_15 : decode cX10_fence 15 = .ok (.iload_n 2, 1) := by decide +kernel
theorem dX10_fence_16 : decode cX10_fence 16 = .ok (.if_icmp .ne 5, 3) := by decide +kernel
theorem dX10_fence_19 : decode cX10_fence 19 = .ok (.iconst 0, 1) := by decide +kernel
theorem dX10_fence_20 : decode cX10_fence 20 = .ok (.ireturn, 1) := by decide +kernel
theorem dX10_fence_21 : decode cX10_fence 21 = .ok (.aload_n 0, 1) := by decide +kernel
theorem dX10_fence_22 : decode cX10_fence 22 = .ok (.invokevirtual 112, 3) := by decide +kernel
theorem dX10_fence_25 : decode cX10_fence 25 = .ok (.aload_n 0, 1) := by decide +kernel
theorem dX10_fence_26 : decode cX10_fence 26 = .ok (.getfield 20, 3) := by decide +kernel
theorem dX10_fence_29 : decode cX10_fence 29 = .ok (.iload_n 1, 1) := by decide +kernel
theorem dX10_fence_30 : decode cX10_fence 30 = .ok (.invokevirtual 132, 3) := by decide +kernel
theorem dX10_fence_33 : decode cX10_fence 33 = .ok (.aload_n 0, 1) := by decide +kernel
theorem dX10_fence_34 : decode cX10_fence 34 = .ok (.getfield 12, 3) := by decide +kernel
theorem dX10_fence_37 : decode cX10_fence 37 = .ok (.getfield 119, 3) := by decide +kernel
theorem dX10_fence_40 : decode cX10_fence 40 = .ok (.aload_n 0, 1) := by decide +kernel
theorem dX10_fence_41 : decode cX10_fence 41 = .ok (.getfield 20, 3) := by decide +kernel
theorem dX10_fence_44 : decode cX10_fence 44 = .ok (.iload_n 2, 1) := by decide +kernel
theorem dX10_fence_45 : decode cX10_fence 45 = .ok (.ifCond .eq 7, 3) := by decide +kernel
theorem dX10_fence_48 : decode cX10_fence 48 = .ok (.iconst 1, 1) := by decide +kernel
theorem dX10_fence_49 : decode cX10_fence 49 = .ok (.goto 4, 3) := by decide +kernel
theorem dX10_fence_52 : decode cX10_fence 52 = .ok (.iconst 2, 1) := by decide +kernel
theorem dX10_fence_53 : decode cX10_fence 53 = .ok (.iload_n 1, 1) := by decide +kernel
theorem dX10_fence_54 : decode cX10_fence 54 = .ok (.iconst 0, 1) := by decide +kernel
theorem dX10_fence_55 : decode cX10_fence 55 = .ok (.invokevirtual 123, 3) := by decide +kernel
theorem dX10_fence_58 : decode cX10_fence 58 = .ok (.iconst 1, 1) := by decide +kernel
theorem dX10_fence_59 : decode cX10_fence 59 = .ok (.ireturn, 1) := by decide +kernel
theorem dX10_boil_0 : decode cX10_boil 0 = .ok (.aload_n 0, 1) := by decide +kernel
theorem dX10_boil_1 : decode cX10_boil 1 = .ok (.getfield 20, 3) := by decide +kernel
theorem dX10_boil_4 : decode cX10_boil 4 = .ok (.iload_n 1, 1) := by decide +kernel
theorem dX10_boil_5 : decode cX10_boil 5 = .ok (.invokevirtual 92, 3) := by decide +kernel
theorem dX10_boil_8 : decode cX10_boil 8 = .ok (.ifCond .eq 13, 3) := by decide +kernel
theorem dX10_boil_11 : decode cX10_boil 11 = .ok (.iload_n 2, 1) := by decide +kernel
theorem dX10_boil_12 : decode cX10_boil 12 = .ok (.iconst 1, 1) := by decide +kernel
theorem dX10_boil_13 : decode cX10_boil 13 = .ok (.bipush 99, 2) := by decide +kernel
theorem dX10_boil_15 : decode cX10_boil 15 = .ok (.invokestatic 71, 3) := by decide +kernel
theorem dX10_boil_18 : decode cX10_boil 18 = .ok (.ifCond .ne 5, 3) := by decide +kernel
theorem dX10_boil_21 : decode cX10_boil 21 = .ok (.iconst (-1), 1) := by decide +kernel
theorem dX10_boil_22 : decode cX10_boil 22 = .ok (.ireturn, 1) := by decide +kernel
theorem dX10_boil_23 : decode cX10_boil 23 = .ok (.aload_n 0, 1) := by decide +kernel
theorem dX10_boil_24 : decode cX10_boil 24 = .ok (.invokevirtual 112, 3) := by decide +kernel
theorem dX10_boil_27 : decode cX10_boil 27 = .ok (.aload_n 0, 1) := by decide +kernel
theorem dX10_boil_28 : decode cX10_boil 28 = .ok (.getfield 20, 3) := by decide +kernel
theorem dX10_boil_31 : decode cX10_boil 31 = .ok (.iload_n 1, 1) := by decide +kernel
theorem dX10_boil_32 : decode cX10_boil 32 = .ok (.iload_n 2, 1) := by decide +kernel
theorem dX10_boil_33 : decode cX10_boil 33 = .ok (.invokevirtual 136, 3) := by decide +kernel
theorem dX10_boil_36 : decode cX10_boil 36 = .ok (.istore_n 3, 1) := by decide +kernel
theorem dX10_boil_37 : decode cX10_boil 37 = .ok (.aload_n 0, 1) := by decide +kernel
theorem dX10_boil_38 : decode cX10_boil 38 = .ok (.getfield 12, 3) := by decide +kernel
theorem dX10_boil_41 : decode cX10_boil 41 = .ok (.getfield 119, 3) := by decide +kernel
theorem dX10_boil_44 : decode cX10_boil 44 = .ok (.aload_n 0, 1) := by decide +kernel
theorem dX10_boil_45 : decode cX10_boil 45 = .ok (.getfield 20, 3) := by decide +kernel
theorem dX10_boil_48 : decode cX10_boil 48 = .ok (.iconst 3, 1) := by decide +kernel
theorem dX10_boil_49 : decode cX10_boil 49 = .ok (.iload_n 1, 1) := by decide +kernel
theorem dX10_boil_50 : decode cX10_boil 50 = .ok (.iload_n 3, 1) := by decide +kernel
theorem dX10_boil_51 : decode cX10_boil 51 = .ok (.invokevirtual 123, 3) := by decide +kernel
theorem dX10_boil_54 : decode cX10_boil 54 = .ok (.iload_n 3, 1) := by decide +kernel
theorem dX10_boil_55 : decode cX10_boil 55 = .ok (.ireturn, 1) := by decide +kernel
theorem dX10_weeks_0 : decode cX10_weeks 0 = .ok (.iload_n 1, 1) := by decide +kernel
theorem dX10_weeks_1 : decode cX10_weeks 1 = .ok (.iconst 1, 1) := by decide +kernel
theorem dX10_weeks_2 : decode cX10_weeks 2 = .ok (.bipush 60, 2) := by decide +kernel
theorem dX10_weeks_4 : decode cX10_weeks 4 = .ok (.invokestatic 71, 3) := by decide +kernel
theorem dX10_weeks_7 : decode cX10_weeks 7 = .ok (.ifCond .eq 18, 3) := by decide +kernel
theorem dX10_weeks_10 : decode cX10_weeks 10 = .ok (.aload_n 0, 1) := by decide +kernel
theorem dX10_weeks_11 : decode cX10_weeks 11 = .ok (.getfield 20, 3) := by decide +kernel
theorem dX10_weeks_14 : decode cX10_weeks 14 = .ok (.getfield 140, 3) := by decide +kernel
theorem dX10_weeks_17 : decode cX10_weeks 17 = .ok (.iload_n 1, 1) := by decide +kernel
theorem dX10_weeks_18 : decode cX10_weeks 18 = .ok (.iadd, 1) := by decide +kernel
theorem dX10_weeks_19 : decode cX10_weeks 19 = .ok (.sipush 9999, 3) := by decide +kernel
theorem dX10_weeks_22 : decode cX10_weeks 22 = .ok (.if_icmp .le 5, 3) := by decide +kernel
theorem dX10_weeks_25 : decode cX10_weeks 25 = .ok (.iconst (-1), 1) := by decide +kernel
theorem dX10_weeks_26 : decode cX10_weeks 26 = .ok (.ireturn, 1) := by decide +kernel
theorem dX10_weeks_27 : decode cX10_weeks 27 = .ok (.iconst 0, 1) := by decide +kernel
theorem dX10_weeks_28 : decode cX10_weeks 28 = .ok (.istore_n 2, 1) := by decide +kernel
theorem dX10_weeks_29 : decode cX10_weeks 29 = .ok (.iconst 0, 1) := by decide +kernel
theorem dX10_weeks_30 : decode cX10_weeks 30 = .ok (.istore_n 3, 1) := by decide +kernel
theorem dX10_weeks_31 : decode cX10_weeks 31 = .ok (.iload_n 3, 1) := by decide +kernel
theorem dX10_weeks_32 : decode cX10_weeks 32 = .ok (.iload_n 1, 1) := by decide +kernel
theorem dX10_weeks_33 : decode cX10_weeks 33 = .ok (.if_icmp .ge 39, 3) := by decide +kernel
theorem dX10_weeks_36 : decode cX10_weeks 36 = .ok (.aload_n 0, 1) := by decide +kernel
theorem dX10_weeks_37 : decode cX10_weeks 37 = .ok (.invokevirtual 112, 3) := by decide +kernel
theorem dX10_weeks_40 : decode cX10_weeks 40 = .ok (.aload_n 0, 1) := by decide +kernel
theorem dX10_weeks_41 : decode cX10_weeks 41 = .ok (.getfield 49, 3) := by decide +kernel
theorem dX10_weeks_44 : decode cX10_weeks 44 = .ok (.aload_n 0, 1) := by decide +kernel
theorem dX10_weeks_45 : decode cX10_weeks 45 = .ok (.getfield 12, 3) := by decide +kernel
theorem dX10_weeks_48 : decode cX10_weeks 48 = .ok (.aload_n 0, 1) := by decide +kernel
theorem dX10_weeks_49 : decode cX10_weeks 49 = .ok (.getfield 20, 3) := by decide +kernel
theorem dX10_weeks_52 : decode cX10_weeks 52 = .ok (.iconst 1, 1) := by decide +kernel
theorem dX10_weeks_53 : decode cX10_weeks 53 = .ok (.invokevirtual 143, 3) := by decide +kernel
theorem dX10_weeks_56 : decode cX10_weeks 56 = .ok (.iload_n 2, 1) := by decide +kernel
theorem dX10_weeks_57 : decode cX10_weeks 57 = .ok (.aload_n 0, 1) := by decide +kernel
theorem dX10_weeks_58 : decode cX10_weeks 58 = .ok (.getfield 49, 3) := by decide +kernel
theorem dX10_weeks_61 : decode cX10_weeks 61 = .ok (.getfield 147, 3) := by decide +kernel
theorem dX10_weeks_64 : decode cX10_weeks 64 = .ok (.iadd, 1) := by decide +kernel
theorem dX10_weeks_65 : decode cX10_weeks 65 = .ok (.istore_n 2, 1) := by decide +kernel
theorem dX10_weeks_66 : decode cX10_weeks 66 = .ok (.iinc 3 1, 3) := by decide +kernel
theorem dX10_weeks_69 : decode cX10_weeks 69 = .ok (.goto (-38), 3) := by decide +kernel
theorem dX10_weeks_72 : decode cX10_weeks 72 = .ok (.iload_n 2, 1) := by decide +kernel
theorem dX10_weeks_73 : decode cX10_weeks 73 = .ok (.ireturn, 1) := by decide +kernel
theorem dX10_feed_0 : decode cX10_feed 0 = .ok (.aload_n 0, 1) := by decide +kernel
theorem dX10_feed_1 : decode cX10_feed 1 = .ok (.getfield 43, 3) := by decide +kernel
theorem dX10_feed_4 : decode cX10_feed 4 = .ok (.getfield 150, 3) := by decide +kernel
theorem dX10_feed_7 : decode cX10_feed 7 = .ok (.bipush 20, 2) := by decide +kernel
theorem dX10_feed_9 : decode cX10_feed 9 = .ok (.iadd, 1) := by decide +kernel
theorem dX10_feed_10 : decode cX10_feed 10 = .ok (.sipush 400, 3) := by decide +kernel
theorem dX10_feed_13 : decode cX10_feed 13 = .ok (.if_icmp .le 5, 3) := by decide +kernel
theorem dX10_feed_16 : decode cX10_feed 16 = .ok (.iconst (-1), 1) := by decide +kernel
theorem dX10_feed_17 : decode cX10_feed 17 = .ok (.ireturn, 1) := by decide +kernel
theorem dX10_feed_18 : decode cX10_feed 18 = .ok (.aload_n 0, 1) := by decide +kernel
theorem dX10_feed_19 : decode cX10_feed 19 = .ok (.getfield 43, 3) := by decide +kernel
theorem dX10_feed_22 : decode cX10_feed 22 = .ok (.iload_n 1, 1) := by decide +kernel
theorem dX10_feed_23 : decode cX10_feed 23 = .ok (.invokevirtual 155, 3) := by decide +kernel
theorem dX10_feed_26 : decode cX10_feed 26 = .ok (.aload_n 0, 1) := by decide +kernel
theorem dX10_feed_27 : decode cX10_feed 27 = .ok (.getfield 43, 3) := by decide +kernel
theorem dX10_feed_30 : decode cX10_feed 30 = .ok (.iload_n 2, 1) := by decide +kernel
theorem dX10_feed_31 : decode cX10_feed 31 = .ok (.invokevirtual 155, 3) := by decide +kernel
theorem dX10_feed_34 : decode cX10_feed 34 = .ok (.aload_n 0, 1) := by decide +kernel
theorem dX10_feed_35 : decode cX10_feed 35 = .ok (.getfield 43, 3) := by decide +kernel
theorem dX10_feed_38 : decode cX10_feed 38 = .ok (.iload_n 3, 1) := by decide +kernel
theorem dX10_feed_39 : decode cX10_feed 39 = .ok (.invokevirtual 155, 3) := by decide +kernel
theorem dX10_feed_42 : decode cX10_feed 42 = .ok (.aload_n 0, 1) := by decide +kernel
theorem dX10_feed_43 : decode cX10_feed 43 = .ok (.getfield 43, 3) := by decide +kernel
theorem dX10_feed_46 : decode cX10_feed 46 = .ok (.iload 4, 2) := by decide +kernel
theorem dX10_feed_48 : decode cX10_feed 48 = .ok (.invokevirtual 155, 3) := by decide +kernel
theorem dX10_feed_51 : decode cX10_feed 51 = .ok (.aload_n 0, 1) := by decide +kernel
theorem dX10_feed_52 : decode cX10_feed 52 = .ok (.getfield 43, 3) := by decide +kernel
theorem dX10_feed_55 : decode cX10_feed 55 = .ok (.iload 5, 2) := by decide +kernel
theorem dX10_feed_57 : decode cX10_feed 57 = .ok (.invokevirtual 155, 3) := by decide +kernel
theorem dX10_feed_60 : decode cX10_feed 60 = .ok (.aload_n 0, 1) := by decide +kernel
theorem dX10_feed_61 : decode cX10_feed 61 = .ok (.getfield 43, 3) := by decide +kernel
theorem dX10_feed_64 : decode cX10_feed 64 = .ok (.getfield 150, 3) := by decide +kernel
theorem dX10_feed_67 : decode cX10_feed 67 = .ok (.ireturn, 1) := by decide +kernel
theorem dX10_end_0 : decode cX10_end 0 = .ok (.iload_n 1, 1) := by decide +kernel
theorem dX10_end_1 : decode cX10_end 1 = .ok (.iconst 0, 1) := by decide +kernel
theorem dX10_end_2 : decode cX10_end 2 = .ok (.aload_n 0, 1) := by decide +kernel
theorem dX10_end_3 : decode cX10_end 3 = .ok (.getfield 43, 3) := by decide +kernel
theorem dX10_end_6 : decode cX10_end 6 = .ok (.getfield 150, 3) := by decide +kernel
theorem dX10_end_9 : decode cX10_end 9 = .ok (.invokestatic 71, 3) := by decide +kernel
theorem dX10_end_12 : decode cX10_end 12 = .ok (.ifCond .ne 5, 3) := by decide +kernel
theorem dX10_end_15 : decode cX10_end 15 = .ok (.iconst 0, 1) := by decide +kernel
theorem dX10_end_16 : decode cX10_end 16 = .ok (.ireturn, 1) := by decide +kernel
theorem dX10_end_17 : decode cX10_end 17 = .ok (.aload_n 0, 1) := by decide +kernel
theorem dX10_end_18 : decode cX10_end 18 = .ok (.getfield 43, 3) := by decide +kernel
theorem dX10_end_21 : decode cX10_end 21 = .ok (.iload_n 1, 1) := by decide +kernel
theorem dX10_end_22 : decode cX10_end 22 = .ok (.putfield 150, 3) := by decide +kernel
theorem dX10_end_25 : decode cX10_end 25 = .ok (.iconst 1, 1) := by decide +kernel
theorem dX10_end_26 : decode cX10_end 26 = .ok (.ireturn, 1) := by decide +kernel
theorem dX10_text_0 : decode cX10_text 0 = .ok (.aload_n 0, 1) := by decide +kernel
theorem dX10_text_1 : decode cX10_text 1 = .ok (.getfield 35, 3) := by decide +kernel
theorem dX10_text_4 : decode cX10_text 4 = .ok (.aload_n 0, 1) := by decide +kernel
theorem dX10_text_5 : decode cX10_text 5 = .ok (.getfield 20, 3) := by decide +kernel
theorem dX10_text_8 : decode cX10_text 8 = .ok (.getfield 75, 3) := by decide +kernel
theorem dX10_text_11 : decode cX10_text 11 = .ok (.aload_n 0, 1) := by decide +kernel
theorem dX10_text_12 : decode cX10_text 12 = .ok (.getfield 20, 3) := by decide +kernel
theorem dX10_text_15 : decode cX10_text 15 = .ok (.getfield 82, 3) := by decide +kernel
theorem dX10_text_18 : decode cX10_text 18 = .ok (.invokevirtual 158, 3) := by decide +kernel
theorem dX10_text_21 : decode cX10_text 21 = .ok (.iconst (-1), 1) := by decide +kernel
theorem dX10_text_22 : decode cX10_text 22 = .ok (.istore_n 2, 1) := by decide +kernel
theorem dX10_text_23 : decode cX10_text 23 = .ok (.iload_n 1, 1) := by decide +kernel
theorem dX10_text_24 : decode cX10_text 24 = .ok (.tableswitch 82 0 2 #[28, 46, 64], 28) := by decide +kernel
theorem dX10_text_52 : decode cX10_text 52 = .ok (.aload_n 0, 1) := by decide +kernel
theorem dX10_text_53 : decode cX10_text 53 = .ok (.getfield 35, 3) := by decide +kernel
theorem dX10_text_56 : decode cX10_text 56 = .ok (.aload_n 0, 1) := by decide +kernel
theorem dX10_text_57 : decode cX10_text 57 = .ok (.getfield 12, 3) := by decide +kernel
theorem dX10_text_60 : decode cX10_text 60 = .ok (.getfield 162, 3) := by decide +kernel
theorem dX10_text_63 : decode cX10_text 63 = .ok (.invokevirtual 166, 3) := by decide +kernel
theorem dX10_text_66 : decode cX10_text 66 = .ok (.istore_n 2, 1) := by decide +kernel
theorem dX10_text_67 : decode cX10_text 67 = .ok (.goto 39, 3) := by decide +kernel
theorem dX10_text_70 : decode cX10_text 70 = .ok (.aload_n 0, 1) := by decide +kernel
theorem dX10_text_71 : decode cX10_text 71 = .ok (.getfield 35, 3) := by decide +kernel
theorem dX10_text_74 : decode cX10_text 74 = .ok (.aload_n 0, 1) := by decide +kernel
theorem dX10_text_75 : decode cX10_text 75 = .ok (.getfield 12, 3) := by decide +kernel
theorem dX10_text_78 : decode cX10_text 78 = .ok (.getfield 170, 3) := by decide +kernel
theorem dX10_text_81 : decode cX10_text 81 = .ok (.invokevirtual 174, 3) := by decide +kernel
theorem dX10_text_84 : decode cX10_text 84 = .ok (.istore_n 2, 1) := by decide +kernel
theorem dX10_text_85 : decode cX10_text 85 = .ok (.goto 21, 3) := by decide +kernel
theorem dX10_text_88 : decode cX10_text 88 = .ok (.aload_n 0, 1) := by decide +kernel
theorem dX10_text_89 : decode cX10_text 89 = .ok (.getfield 35, 3) := by decide +kernel
theorem dX10_text_92 : decode cX10_text 92 = .ok (.aload_n 0, 1) := by decide +kernel
theorem dX10_text_93 : decode cX10_text 93 = .ok (.getfield 12, 3) := by decide +kernel
theorem dX10_text_96 : decode cX10_text 96 = .ok (.getfield 178, 3) := by decide +kernel
theorem dX10_text_99 : decode cX10_text 99 = .ok (.invokevirtual 182, 3) := by decide +kernel
theorem dX10_text_102 : decode cX10_text 102 = .ok (.istore_n 2, 1) := by decide +kernel
theorem dX10_text_103 : decode cX10_text 103 = .ok (.goto 3, 3) := by decide +kernel
theorem dX10_text_106 : decode cX10_text 106 = .ok (.aload_n 0, 1) := by decide +kernel
theorem dX10_text_107 : decode cX10_text 107 = .ok (.getfield 43, 3) := by decide +kernel
theorem dX10_text_110 : decode cX10_text 110 = .ok (.iconst 0, 1) := by decide +kernel
theorem dX10_text_111 : decode cX10_text 111 = .ok (.putfield 150, 3) := by decide +kernel
theorem dX10_text_114 : decode cX10_text 114 = .ok (.iload_n 2, 1) := by decide +kernel
theorem dX10_text_115 : decode cX10_text 115 = .ok (.iconst (-1), 1) := by decide +kernel
theorem dX10_text_116 : decode cX10_text 116 = .ok (.if_icmp .eq 11, 3) := by decide +kernel
theorem dX10_text_119 : decode cX10_text 119 = .ok (.iload_n 1, 1) := by decide +kernel
theorem dX10_text_120 : decode cX10_text 120 = .ok (.ifCond .eq 7, 3) := by decide +kernel
theorem dX10_text_123 : decode cX10_text 123 = .ok (.aload_n 0, 1) := by decide +kernel
theorem dX10_text_124 : decode cX10_text 124 = .ok (.invokevirtual 68, 3) := by decide +kernel
theorem dX10_text_127 : decode cX10_text 127 = .ok (.iload_n 2, 1) := by decide +kernel
theorem dX10_text_128 : decode cX10_text 128 = .ok (.ireturn, 1) := by decide +kernel
theorem dX10_fault_0 : decode cX10_fault 0 = .ok (.iload_n 1, 1) := by decide +kernel
theorem dX10_fault_1 : decode cX10_fault 1 = .ok (.ifCond .ne 11, 3) := by decide +kernel
theorem dX10_fault_4 : decode cX10_fault 4 = .ok (.aload_n 0, 1) := by decide +kernel
theorem dX10_fault_5 : decode cX10_fault 5 = .ok (.getfield 35, 3) := by decide +kernel
theorem dX10_fault_8 : decode cX10_fault 8 = .ok (.getfield 186, 3) := by decide +kernel
theorem dX10_fault_11 : decode cX10_fault 11 = .ok (.ireturn, 1) := by decide +kernel
theorem dX10_fault_12 : decode cX10_fault 12 = .ok (.iload_n 1, 1) := by decide +kernel
theorem dX10_fault_13 : decode cX10_fault 13 = .ok (.iconst 1, 1) := by decide +kernel
theorem dX10_fault_14 : decode cX10_fault 14 = .ok (.if_icmp .ne 13, 3) := by decide +kernel
theorem dX10_fault_17 : decode cX10_fault 17 = .ok (.aload_n 0, 1) := by decide +kernel
theorem dX10_fault_18 : decode cX10_fault 18 = .ok (.getfield 35, 3) := by decide +kernel
theorem dX10_fault_21 : decode cX10_fault 21 = .ok (.getfield 189, 3) := by decide +kernel
theorem dX10_fault_24 : decode cX10_fault 24 = .ok (.goto 4, 3) := by decide +kernel
theorem dX10_fault_27 : decode cX10_fault 27 = .ok (.iconst (-1), 1) := by decide +kernel
theorem dX10_fault_28 : decode cX10_fault 28 = .ok (.ireturn, 1) := by decide +kernel
theorem dX10_of_0 : decode cX10_of 0 = .ok (.aload_n 0, 1) := by decide +kernel
theorem dX10_of_1 : decode cX10_of 1 = .ok (.getfield 20, 3) := by decide +kernel
theorem dX10_of_4 : decode cX10_of 4 = .ok (.iload_n 1, 1) := by decide +kernel
theorem dX10_of_5 : decode cX10_of 5 = .ok (.invokevirtual 92, 3) := by decide +kernel
theorem dX10_of_8 : decode cX10_of 8 = .ok (.ifCond .ne 5, 3) := by decide +kernel
theorem dX10_of_11 : decode cX10_of 11 = .ok (.iconst (-1), 1) := by decide +kernel
theorem dX10_of_12 : decode cX10_of 12 = .ok (.ireturn, 1) := by decide +kernel
theorem dX10_of_13 : decode cX10_of 13 = .ok (.iload_n 2, 1) := by decide +kernel
theorem dX10_of_14 : decode cX10_of 14 = .ok (.tableswitch 69 0 3 #[30, 40, 50, 60], 30) := by decide +kernel
theorem dX10_of_44 : decode cX10_of 44 = .ok (.aload_n 0, 1) := by decide +kernel
theorem dX10_of_45 : decode cX10_of 45 = .ok (.getfield 20, 3) := by decide +kernel
theorem dX10_of_48 : decode cX10_of 48 = .ok (.getfield 192, 3) := by decide +kernel
theorem dX10_of_51 : decode cX10_of 51 = .ok (.iload_n 1, 1) := by decide +kernel
theorem dX10_of_52 : decode cX10_of 52 = .ok (.iaload, 1) := by decide +kernel
theorem dX10_of_53 : decode cX10_of 53 = .ok (.ireturn, 1) := by decide +kernel
theorem dX10_of_54 : decode cX10_of 54 = .ok (.aload_n 0, 1) := by decide +kernel
theorem dX10_of_55 : decode cX10_of 55 = .ok (.getfield 20, 3) := by decide +kernel
theorem dX10_of_58 : decode cX10_of 58 = .ok (.getfield 195, 3) := by decide +kernel
theorem dX10_of_61 : decode cX10_of 61 = .ok (.iload_n 1, 1) := by decide +kernel
theorem dX10_of_62 : decode cX10_of 62 = .ok (.iaload, 1) := by decide +kernel
theorem dX10_of_63 : decode cX10_of 63 = .ok (.ireturn, 1) := by decide +kernel
theorem dX10_of_64 : decode cX10_of 64 = .ok (.aload_n 0, 1) := by decide +kernel
theorem dX10_of_65 : decode cX10_of 65 = .ok (.getfield 20, 3) := by decide +kernel
theorem dX10_of_68 : decode cX10_of 68 = .ok (.getfield 198, 3) := by decide +kernel
theorem dX10_of_71 : decode cX10_of 71 = .ok (.iload_n 1, 1) := by decide +kernel
theorem dX10_of_72 : decode cX10_of 72 = .ok (.iaload, 1) := by decide +kernel
theorem dX10_of_73 : decode cX10_of 73 = .ok (.ireturn, 1) := by decide +kernel
theorem dX10_of_74 : decode cX10_of 74 = .ok (.aload_n 0, 1) := by decide +kernel
theorem dX10_of_75 : decode cX10_of 75 = .ok (.getfield 20, 3) := by decide +kernel
theorem dX10_of_78 : decode cX10_of 78 = .ok (.iload_n 1, 1) := by decide +kernel
theorem dX10_of_79 : decode cX10_of 79 = .ok (.invokevirtual 201, 3) := by decide +kernel
theorem dX10_of_82 : decode cX10_of 82 = .ok (.ireturn, 1) := by decide +kernel
theorem dX10_of_83 : decode cX10_of 83 = .ok (.iconst (-1), 1) := by decide +kernel
theorem dX10_of_84 : decode cX10_of 84 = .ok (.ireturn, 1) := by decide +kernel
theorem dX10_tree_0 : decode cX10_tree 0 = .ok (.aload_n 0, 1) := by decide +kernel
theorem dX10_tree_1 : decode cX10_tree 1 = .ok (.getfield 20, 3) := by decide +kernel
theorem dX10_tree_4 : decode cX10_tree 4 = .ok (.iload_n 1, 1) := by decide +kernel
theorem dX10_tree_5 : decode cX10_tree 5 = .ok (.invokevirtual 204, 3) := by decide +kernel
theorem dX10_tree_8 : decode cX10_tree 8 = .ok (.ifCond .ne 5, 3) := by decide +kernel
theorem dX10_tree_11 : decode cX10_tree 11 = .ok (.iconst (-1), 1) := by decide +kernel
theorem dX10_tree_12 : decode cX10_tree 12 = .ok (.ireturn, 1) := by decide +kernel
theorem dX10_tree_13 : decode cX10_tree 13 = .ok (.iload_n 2, 1) := by decide +kernel
theorem dX10_tree_14 : decode cX10_tree 14 = .ok (.tableswitch 90 0 4 #[34, 44, 54, 64, 74], 34) := by decide +kernel
theorem dX10_tree_48 : decode cX10_tree 48 = .ok (.aload_n 0, 1) := by decide +kernel
theorem dX10_tree_49 : decode cX10_tree 49 = .ok (.getfield 20, 3) := by decide +kernel
theorem dX10_tree_52 : decode cX10_tree 52 = .ok (.getfield 207, 3) := by decide +kernel
theorem dX10_tree_55 : decode cX10_tree 55 = .ok (.iload_n 1, 1) := by decide +kernel
theorem dX10_tree_56 : decode cX10_tree 56 = .ok (.iaload, 1) := by decide +kernel
theorem dX10_tree_57 : decode cX10_tree 57 = .ok (.ireturn, 1) := by decide +kernel
theorem dX10_tree_58 : decode cX10_tree 58 = .ok (.aload_n 0, 1) := by decide +kernel
theorem dX10_tree_59 : decode cX10_tree 59 = .ok (.getfield 20, 3) := by decide +kernel
theorem dX10_tree_62 : decode cX10_tree 62 = .ok (.getfield 210, 3) := by decide +kernel
theorem dX10_tree_65 : decode cX10_tree 65 = .ok (.iload_n 1, 1) := by decide +kernel
theorem dX10_tree_66 : decode cX10_tree 66 = .ok (.iaload, 1) := by decide +kernel
theorem dX10_tree_67 : decode cX10_tree 67 = .ok (.ireturn, 1) := by decide +kernel
theorem dX10_tree_68 : decode cX10_tree 68 = .ok (.aload_n 0, 1) := by decide +kernel
theorem dX10_tree_69 : decode cX10_tree 69 = .ok (.getfield 20, 3) := by decide +kernel
theorem dX10_tree_72 : decode cX10_tree 72 = .ok (.getfield 213, 3) := by decide +kernel
theorem dX10_tree_75 : decode cX10_tree 75 = .ok (.iload_n 1, 1) := by decide +kernel
theorem dX10_tree_76 : decode cX10_tree 76 = .ok (.iaload, 1) := by decide +kernel
theorem dX10_tree_77 : decode cX10_tree 77 = .ok (.ireturn, 1) := by decide +kernel
theorem dX10_tree_78 : decode cX10_tree 78 = .ok (.aload_n 0, 1) := by decide +kernel
theorem dX10_tree_79 : decode cX10_tree 79 = .ok (.getfield 20, 3) := by decide +kernel
theorem dX10_tree_82 : decode cX10_tree 82 = .ok (.getfield 216, 3) := by decide +kernel
theorem dX10_tree_85 : decode cX10_tree 85 = .ok (.iload_n 1, 1) := by decide +kernel
theorem dX10_tree_86 : decode cX10_tree 86 = .ok (.iaload, 1) := by decide +kernel
theorem dX10_tree_87 : decode cX10_tree 87 = .ok (.ireturn, 1) := by decide +kernel
theorem dX10_tree_88 : decode cX10_tree 88 = .ok (.aload_n 0, 1) := by decide +kernel
theorem dX10_tree_89 : decode cX10_tree 89 = .ok (.getfield 12, 3) := by decide +kernel
theorem dX10_tree_92 : decode cX10_tree 92 = .ok (.getfield 162, 3) := by decide +kernel
theorem dX10_tree_95 : decode cX10_tree 95 = .ok (.aload_n 0, 1) := by decide +kernel
theorem dX10_tree_96 : decode cX10_tree 96 = .ok (.getfield 20, 3) := by decide +kernel
theorem dX10_tree_99 : decode cX10_tree 99 = .ok (.iload_n 1, 1) := by decide +kernel
theorem dX10_tree_100 : decode cX10_tree 100 = .ok (.invokevirtual 219, 3) := by decide +kernel
theorem dX10_tree_103 : decode cX10_tree 103 = .ok (.ireturn, 1) := by decide +kernel
theorem dX10_tree_104 : decode cX10_tree 104 = .ok (.iconst (-1), 1) := by decide +kernel
theorem dX10_tree_105 : decode cX10_tree 105 = .ok (.ireturn, 1) := by decide +kernel
theorem dX10_who_0 : decode cX10_who 0 = .ok (.aload_n 0, 1) := by decide +kernel
theorem dX10_who_1 : decode cX10_who 1 = .ok (.getfield 20, 3) := by decide +kernel
theorem dX10_who_4 : decode cX10_who 4 = .ok (.iload_n 1, 1) := by decide +kernel
theorem dX10_who_5 : decode cX10_who 5 = .ok (.invokevirtual 88, 3) := by decide +kernel
theorem dX10_who_8 : decode cX10_who 8 = .ok (.ifCond .ne 5, 3) := by decide +kernel
theorem dX10_who_11 : decode cX10_who 11 = .ok (.iconst (-1), 1) := by decide +kernel
theorem dX10_who_12 : decode cX10_who 12 = .ok (.ireturn, 1) := by decide +kernel
theorem dX10_who_13 : decode cX10_who 13 = .ok (.iload_n 2, 1) := by decide +kernel
theorem dX10_who_14 : decode cX10_who 14 = .ok (.tableswitch 65 0 2 #[26, 36, 52], 26) := by decide +kernel
theorem dX10_who_40 : decode cX10_who 40 = .ok (.aload_n 0, 1) := by decide +kernel
theorem dX10_who_41 : decode cX10_who 41 = .ok (.getfield 20, 3) := by decide +kernel
theorem dX10_who_44 : decode cX10_who 44 = .ok (.getfield 225, 3) := by decide +kernel
theorem dX10_who_47 : decode cX10_who 47 = .ok (.iload_n 1, 1) := by decide +kernel
theorem dX10_who_48 : decode cX10_who 48 = .ok (.iaload, 1) := by decide +kernel
theorem dX10_who_49 : decode cX10_who 49 = .ok (.ireturn, 1) := by decide +kernel
theorem dX10_who_50 : decode cX10_who 50 = .ok (.aload_n 0, 1) := by decide +kernel
theorem dX10_who_51 : decode cX10_who 51 = .ok (.getfield 12, 3) := by decide +kernel
theorem dX10_who_54 : decode cX10_who 54 = .ok (.getfield 162, 3) := by decide +kernel
theorem dX10_who_57 : decode cX10_who 57 = .ok (.aload_n 0, 1) := by decide +kernel
theorem dX10_who_58 : decode cX10_who 58 = .ok (.getfield 20, 3) := by decide +kernel
theorem dX10_who_61 : decode cX10_who 61 = .ok (.iload_n 1, 1) := by decide +kernel
theorem dX10_who_62 : decode cX10_who 62 = .ok (.invokevirtual 228, 3) := by decide +kernel
theorem dX10_who_65 : decode cX10_who 65 = .ok (.ireturn, 1) := by decide +kernel
theorem dX10_who_66 : decode cX10_who 66 = .ok (.aload_n 0, 1) := by decide +kernel
theorem dX10_who_67 : decode cX10_who 67 = .ok (.getfield 12, 3) := by decide +kernel
theorem dX10_who_70 : decode cX10_who 70 = .ok (.getfield 170, 3) := by decide +kernel
theorem dX10_who_73 : decode cX10_who 73 = .ok (.getfield 231, 3) := by decide +kernel
theorem dX10_who_76 : decode cX10_who 76 = .ok (.iload_n 1, 1) := by decide +kernel
theorem dX10_who_77 : decode cX10_who 77 = .ok (.iaload, 1) := by decide +kernel
theorem dX10_who_78 : decode cX10_who 78 = .ok (.ireturn, 1) := by decide +kernel
theorem dX10_who_79 : decode cX10_who 79 = .ok (.iload_n 2, 1) := by decide +kernel
theorem dX10_who_80 : decode cX10_who 80 = .ok (.bipush 10, 2) := by decide +kernel
theorem dX10_who_82 : decode cX10_who 82 = .ok (.bipush 17, 2) := by decide +kernel
theorem dX10_who_84 : decode cX10_who 84 = .ok (.invokestatic 71, 3) := by decide +kernel
theorem dX10_who_87 : decode cX10_who 87 = .ok (.ifCond .eq 19, 3) := by decide +kernel
theorem dX10_who_90 : decode cX10_who 90 = .ok (.aload_n 0, 1) := by decide +kernel
theorem dX10_who_91 : decode cX10_who 91 = .ok (.getfield 12, 3) := by decide +kernel
theorem dX10_who_94 : decode cX10_who 94 = .ok (.getfield 170, 3) := by decide +kernel
theorem dX10_who_97 : decode cX10_who 97 = .ok (.iload_n 1, 1) := by decide +kernel
theorem dX10_who_98 : decode cX10_who 98 = .ok (.iload_n 2, 1) := by decide +kernel
theorem dX10_who_99 : decode cX10_who 99 = .ok (.bipush 10, 2) := by decide +kernel
theorem dX10_who_101 : decode cX10_who 101 = .ok (.isub, 1) := by decide +kernel
theorem dX10_who_102 : decode cX10_who 102 = .ok (.invokevirtual 236, 3) := by decide +kernel
theorem dX10_who_105 : decode cX10_who 105 = .ok (.ireturn, 1) := by decide +kernel
theorem dX10_who_106 : decode cX10_who 106 = .ok (.iload_n 2, 1) := by decide +kernel
theorem dX10_who_107 : decode cX10_who 107 = .ok (.bipush 20, 2) := by decide +kernel
theorem dX10_who_109 : decode cX10_who 109 = .ok (.bipush 24, 2) := by decide +kernel
theorem dX10_who_111 : decode cX10_who 111 = .ok (.invokestatic 71, 3) := by decide +kernel
theorem dX10_who_114 : decode cX10_who 114 = .ok (.ifCond .eq 30, 3) := by decide +kernel
theorem dX10_who_117 : decode cX10_who 117 = .ok (.aload_n 0, 1) := by decide +kernel
theorem dX10_who_118 : decode cX10_who 118 = .ok (.getfield 20, 3) := by decide +kernel
theorem dX10_who_121 : decode cX10_who 121 = .ok (.iload_n 2, 1) := by decide +kernel
theorem dX10_who_122 : decode cX10_who 122 = .ok (.bipush 20, 2) := by decide +kernel
theorem dX10_who_124 : decode cX10_who 124 = .ok (.isub, 1) := by decide +kernel
theorem dX10_who_125 : decode cX10_who 125 = .ok (.invokevirtual 92, 3) := by decide +kernel
theorem dX10_who_128 : decode cX10_who 128 = .ok (.ifCond .eq 16, 3) := by decide +kernel
theorem dX10_who_131 : decode cX10_who 131 = .ok (.aload_n 0, 1) := by decide +kernel
theorem dX10_who_132 : decode cX10_who 132 = .ok (.getfield 20, 3) := by decide +kernel
theorem dX10_who_135 : decode cX10_who 135 = .ok (.iload_n 1, 1) := by decide +kernel
theorem dX10_who_136 : decode cX10_who 136 = .ok (.iload_n 2, 1) := by decide +kernel
theorem dX10_who_137 : decode cX10_who 137 = .ok (.bipush 20, 2) := by decide +kernel
theorem dX10_who_139 : decode cX10_who 139 = .ok (.isub, 1) := by decide +kernel
theorem dX10_who_140 : decode cX10_who 140 = .ok (.invokevirtual 239, 3) := by decide +kernel
theorem dX10_who_143 : decode cX10_who 143 = .ok (.ireturn, 1) := by decide +kernel
theorem dX10_who_144 : decode cX10_who 144 = .ok (.iconst (-1), 1) := by decide +kernel
theorem dX10_who_145 : decode cX10_who 145 = .ok (.ireturn, 1) := by decide +kernel
theorem dX10_at_0 : decode cX10_at 0 = .ok (.iload_n 1, 1) := by decide +kernel
theorem dX10_at_1 : decode cX10_at 1 = .ok (.invokestatic 106, 3) := by decide +kernel
theorem dX10_at_4 : decode cX10_at 4 = .ok (.ifCond .ne 5, 3) := by decide +kernel
theorem dX10_at_7 : decode cX10_at 7 = .ok (.iconst (-1), 1) := by decide +kernel
theorem dX10_at_8 : decode cX10_at 8 = .ok (.ireturn, 1) := by decide +kernel
theorem dX10_at_9 : decode cX10_at 9 = .ok (.aload_n 0, 1) := by decide +kernel
theorem dX10_at_10 : decode cX10_at 10 = .ok (.getfield 20, 3) := by decide +kernel
theorem dX10_at_13 : decode cX10_at 13 = .ok (.iload_n 1, 1) := by decide +kernel
theorem dX10_at_14 : decode cX10_at 14 = .ok (.invokevirtual 129, 3) := by decide +kernel
theorem dX10_at_17 : decode cX10_at 17 = .ok (.ifCond .eq 7, 3) := by decide +kernel
theorem dX10_at_20 : decode cX10_at 20 = .ok (.iconst 1, 1) := by decide +kernel
theorem dX10_at_21 : decode cX10_at 21 = .ok (.goto 4, 3) := by decide +kernel
theorem dX10_at_24 : decode cX10_at 24 = .ok (.iconst 0, 1) := by decide +kernel
theorem dX10_at_25 : decode cX10_at 25 = .ok (.ireturn, 1) := by decide +kernel
theorem dX10_book_0 : decode cX10_book 0 = .ok (.iload_n 1, 1) := by decide +kernel
theorem dX10_book_1 : decode cX10_book 1 = .ok (.iconst 0, 1) := by decide +kernel
theorem dX10_book_2 : decode cX10_book 2 = .ok (.aload_n 0, 1) := by decide +kernel
theorem dX10_book_3 : decode cX10_book 3 = .ok (.getfield 20, 3) := by decide +kernel
theorem dX10_book_6 : decode cX10_book 6 = .ok (.getfield 242, 3) := by decide +kernel
theorem dX10_book_9 : decode cX10_book 9 = .ok (.iconst 1, 1) := by decide +kernel
theorem dX10_book_10 : decode cX10_book 10 = .ok (.isub, 1) := by decide +kernel
theorem dX10_book_11 : decode cX10_book 11 = .ok (.invokestatic 71, 3) := by decide +kernel
theorem dX10_book_14 : decode cX10_book 14 = .ok (.ifCond .eq 12, 3) := by decide +kernel
theorem dX10_book_17 : decode cX10_book 17 = .ok (.iload_n 2, 1) := by decide +kernel
theorem dX10_book_18 : decode cX10_book 18 = .ok (.iconst 0, 1) := by decide +kernel
theorem dX10_book_19 : decode cX10_book 19 = .ok (.iconst 3, 1) := by decide +kernel
theorem dX10_book_20 : decode cX10_book 20 = .ok (.invokestatic 71, 3) := by decide +kernel
theorem dX10_book_23 : decode cX10_book 23 = .ok (.ifCond .ne 5, 3) := by decide +kernel
theorem dX10_book_26 : decode cX10_book 26 = .ok (.iconst (-1), 1) := by decide +kernel
theorem dX10_book_27 : decode cX10_book 27 = .ok (.ireturn, 1) := by decide +kernel
theorem dX10_book_28 : decode cX10_book 28 = .ok (.aload_n 0, 1) := by decide +kernel
theorem dX10_book_29 : decode cX10_book 29 = .ok (.getfield 12, 3) := by decide +kernel
theorem dX10_book_32 : decode cX10_book 32 = .ok (.getfield 119, 3) := by decide +kernel
theorem dX10_book_35 : decode cX10_book 35 = .ok (.getfield 245, 3) := by decide +kernel
theorem dX10_book_38 : decode cX10_book 38 = .ok (.iload_n 1, 1) := by decide +kernel
theorem dX10_book_39 : decode cX10_book 39 = .ok (.iconst 4, 1) := by decide +kernel
theorem dX10_book_40 : decode cX10_book 40 = .ok (.imul, 1) := by decide +kernel
theorem dX10_book_41 : decode cX10_book 41 = .ok (.iload_n 2, 1) := by decide +kernel
theorem dX10_book_42 : decode cX10_book 42 = .ok (.iadd, 1) := by decide +kernel
theorem dX10_book_43 : decode cX10_book 43 = .ok (.iaload, 1) := by decide +kernel
theorem dX10_book_44 : decode cX10_book 44 = .ok (.ireturn, 1) := by decide +kernel
theorem dX10_goes_0 : decode cX10_goes 0 = .ok (.iload_n 1, 1) := by decide +kernel
theorem dX10_goes_1 : decode cX10_goes 1 = .ok (.iconst 1, 1) := by decide +kernel
theorem dX10_goes_2 : decode cX10_goes 2 = .ok (.bipush 60, 2) := by decide +kernel
theorem dX10_goes_4 : decode cX10_goes 4 = .ok (.invokestatic 71, 3) := by decide +kernel
theorem dX10_goes_7 : decode cX10_goes 7 = .ok (.ifCond .eq 16, 3) := by decide +kernel
theorem dX10_goes_10 : decode cX10_goes 10 = .ok (.iload_n 3, 1) := by decide +kernel
theorem dX10_goes_11 : decode cX10_goes 11 = .ok (.iconst 0, 1) := by decide +kernel
theorem dX10_goes_12 : decode cX10_goes 12 = .ok (.iconst 3, 1) := by decide +kernel
theorem dX10_goes_13 : decode cX10_goes 13 = .ok (.invokestatic 71, 3) := by decide +kernel
theorem dX10_goes_16 : decode cX10_goes 16 = .ok (.ifCond .eq 7, 3) := by decide +kernel
theorem dX10_goes_19 : decode cX10_goes 19 = .ok (.iconst 1, 1) := by decide +kernel
theorem dX10_goes_20 : decode cX10_goes 20 = .ok (.goto 4, 3) := by decide +kernel
theorem dX10_goes_23 : decode cX10_goes 23 = .ok (.iconst 0, 1) := by decide +kernel
theorem dX10_goes_24 : decode cX10_goes 24 = .ok (.istore 4, 2) := by decide +kernel
theorem dX10_goes_26 : decode cX10_goes 26 = .ok (.iload 4, 2) := by decide +kernel
theorem dX10_goes_28 : decode cX10_goes 28 = .ok (.ifCond .eq 19, 3) := by decide +kernel
theorem dX10_goes_31 : decode cX10_goes 31 = .ok (.iload_n 3, 1) := by decide +kernel
theorem dX10_goes_32 : decode cX10_goes 32 = .ok (.iconst 2, 1) := by decide +kernel
theorem dX10_goes_33 : decode cX10_goes 33 = .ok (.if_icmp .ge 17, 3) := by decide +kernel
theorem dX10_goes_36 : decode cX10_goes 36 = .ok (.aload_n 0, 1) := by decide +kernel
theorem dX10_goes_37 : decode cX10_goes 37 = .ok (.getfield 20, 3) := by decide +kernel
theorem dX10_goes_40 : decode cX10_goes 40 = .ok (.iload_n 2, 1) := by decide +kernel
theorem dX10_goes_41 : decode cX10_goes 41 = .ok (.invokevirtual 92, 3) := by decide +kernel
theorem dX10_goes_44 : decode cX10_goes 44 = .ok (.ifCond .ne 6, 3) := by decide +kernel
theorem dX10_goes_47 : decode cX10_goes 47 = .ok (.bipush (-2), 2) := by decide +kernel
theorem dX10_goes_49 : decode cX10_goes 49 = .ok (.ireturn, 1) := by decide +kernel
theorem dX10_goes_50 : decode cX10_goes 50 = .ok (.aload_n 0, 1) := by decide +kernel
theorem dX10_goes_51 : decode cX10_goes 51 = .ok (.getfield 57, 3) := by decide +kernel
theorem dX10_goes_54 : decode cX10_goes 54 = .ok (.aload_n 0, 1) := by decide +kernel
theorem dX10_goes_55 : decode cX10_goes 55 = .ok (.getfield 20, 3) := by decide +kernel
theorem dX10_goes_58 : decode cX10_goes 58 = .ok (.invokevirtual 248, 3) := by decide +kernel
theorem dX10_goes_61 : decode cX10_goes 61 = .ok (.aload_n 0, 1) := by decide +kernel
theorem dX10_goes_62 : decode cX10_goes 62 = .ok (.getfield 53, 3) := by decide +kernel
theorem dX10_goes_65 : decode cX10_goes 65 = .ok (.aload_n 0, 1) := by decide +kernel
theorem dX10_goes_66 : decode cX10_goes 66 = .ok (.getfield 12, 3) := by decide +kernel
theorem dX10_goes_69 : decode cX10_goes 69 = .ok (.aload_n 0, 1) := by decide +kernel
theorem dX10_goes_70 : decode cX10_goes 70 = .ok (.getfield 57, 3) := by decide +kernel
theorem dX10_goes_73 : decode cX10_goes 73 = .ok (.iload_n 1, 1) := by decide +kernel
theorem dX10_goes_74 : decode cX10_goes 74 = .ok (.invokevirtual 143, 3) := by decide +kernel
theorem dX10_goes_77 : decode cX10_goes 77 = .ok (.iload_n 3, 1) := by decide +kernel
theorem dX10_goes_78 : decode cX10_goes 78 = .ok (.tableswitch 54 0 2 #[26, 36, 46], 26) := by decide +kernel
theorem dX10_goes_104 : decode cX10_goes 104 = .ok (.aload_n 0, 1) := by decide +kernel
theorem dX10_goes_105 : decode cX10_goes 105 = .ok (.getfield 57, 3) := by decide +kernel
theorem dX10_goes_108 : decode cX10_goes 108 = .ok (.getfield 198, 3) := by decide +kernel
theorem dX10_goes_111 : decode cX10_goes 111 = .ok (.iload_n 2, 1) := by decide +kernel
theorem dX10_goes_112 : decode cX10_goes 112 = .ok (.iaload, 1) := by decide +kernel
theorem dX10_goes_113 : decode cX10_goes 113 = .ok (.ireturn, 1) := by decide +kernel
theorem dX10_goes_114 : decode cX10_goes 114 = .ok (.aload_n 0, 1) := by decide +kernel
theorem dX10_goes_115 : decode cX10_goes 115 = .ok (.getfield 57, 3) := by decide +kernel
theorem dX10_goes_118 : decode cX10_goes 118 = .ok (.getfield 195, 3) := by decide +kernel
theorem dX10_goes_121 : decode cX10_goes 121 = .ok (.iload_n 2, 1) := by decide +kernel
theorem dX10_goes_122 : decode cX10_goes 122 = .ok (.iaload, 1) := by decide +kernel
theorem dX10_goes_123 : decode cX10_goes 123 = .ok (.ireturn, 1) := by decide +kernel
theorem dX10_goes_124 : decode cX10_goes 124 = .ok (.aload_n 0, 1) := by decide +kernel
theorem dX10_goes_125 : decode cX10_goes 125 = .ok (.getfield 53, 3) := by decide +kernel
theorem dX10_goes_128 : decode cX10_goes 128 = .ok (.getfield 252, 3) := by decide +kernel
theorem dX10_goes_131 : decode cX10_goes 131 = .ok (.ireturn, 1) := by decide +kernel
theorem dX10_goes_132 : decode cX10_goes 132 = .ok (.aload_n 0, 1) := by decide +kernel
theorem dX10_goes_133 : decode cX10_goes 133 = .ok (.getfield 53, 3) := by decide +kernel
theorem dX10_goes_136 : decode cX10_goes 136 = .ok (.getfield 255, 3) := by decide +kernel
theorem dX10_goes_139 : decode cX10_goes 139 = .ok (.ireturn, 1) := by decide +kernel
theorem dX10_falls_0 : decode cX10_falls 0 = .ok (.aload_n 0, 1) := by decide +kernel
theorem dX10_falls_1 : decode cX10_falls 1 = .ok (.getfield 20, 3) := by decide +kernel
theorem dX10_falls_4 : decode cX10_falls 4 = .ok (.iload_n 1, 1) := by decide +kernel
theorem dX10_falls_5 : decode cX10_falls 5 = .ok (.invokevirtual 92, 3) := by decide +kernel
theorem dX10_falls_8 : decode cX10_falls 8 = .ok (.ifCond .ne 5, 3) := by decide +kernel
theorem dX10_falls_11 : decode cX10_falls 11 = .ok (.iconst (-1), 1) := by decide +kernel
theorem dX10_falls_12 : decode cX10_falls 12 = .ok (.ireturn, 1) := by decide +kernel
theorem dX10_falls_13 : decode cX10_falls 13 = .ok (.aload_n 0, 1) := by decide +kernel
theorem dX10_falls_14 : decode cX10_falls 14 = .ok (.getfield 57, 3) := by decide +kernel
theorem dX10_falls_17 : decode cX10_falls 17 = .ok (.aload_n 0, 1) := by decide +kernel
theorem dX10_falls_18 : decode cX10_falls 18 = .ok (.getfield 20, 3) := by decide +kernel
theorem dX10_falls_21 : decode cX10_falls 21 = .ok (.invokevirtual 248, 3) := by decide +kernel
theorem dX10_falls_24 : decode cX10_falls 24 = .ok (.aload_n 0, 1) := by decide +kernel
theorem dX10_falls_25 : decode cX10_falls 25 = .ok (.getfield 57, 3) := by decide +kernel
theorem dX10_falls_28 : decode cX10_falls 28 = .ok (.invokevirtual 258, 3) := by decide +kernel
theorem dX10_falls_31 : decode cX10_falls 31 = .ok (.aload_n 0, 1) := by decide +kernel
theorem dX10_falls_32 : decode cX10_falls 32 = .ok (.getfield 57, 3) := by decide +kernel
theorem dX10_falls_35 : decode cX10_falls 35 = .ok (.getfield 198, 3) := by decide +kernel
theorem dX10_falls_38 : decode cX10_falls 38 = .ok (.iload_n 1, 1) := by decide +kernel
theorem dX10_falls_39 : decode cX10_falls 39 = .ok (.iaload, 1) := by decide +kernel
theorem dX10_falls_40 : decode cX10_falls 40 = .ok (.ireturn, 1) := by decide +kernel
theorem dX10_brings_0 : decode cX10_brings 0 = .ok (.aload_n 0, 1) := by decide +kernel
theorem dX10_brings_1 : decode cX10_brings 1 = .ok (.getfield 20, 3) := by decide +kernel
theorem dX10_brings_4 : decode cX10_brings 4 = .ok (.iload_n 1, 1) := by decide +kernel
theorem dX10_brings_5 : decode cX10_brings 5 = .ok (.invokevirtual 92, 3) := by decide +kernel
theorem dX10_brings_8 : decode cX10_brings 8 = .ok (.ifCond .eq 26, 3) := by decide +kernel
theorem dX10_brings_11 : decode cX10_brings 11 = .ok (.iload_n 2, 1) := by decide +kernel
theorem dX10_brings_12 : decode cX10_brings 12 = .ok (.iconst 1, 1) := by decide +kernel
theorem dX10_brings_13 : decode cX10_brings 13 = .ok (.bipush 20, 2) := by decide +kernel
theorem dX10_brings_15 : decode cX10_brings 15 = .ok (.invokestatic 71, 3) := by decide +kernel
theorem dX10_brings_18 : decode cX10_brings 18 = .ok (.ifCond .eq 16, 3) := by decide +kernel
theorem dX10_brings_21 : decode cX10_brings 21 = .ok (.iload_n 3, 1) := by decide +kernel
theorem dX10_brings_22 : decode cX10_brings 22 = .ok (.iconst 0, 1) := by decide +kernel
theorem dX10_brings_23 : decode cX10_brings 23 = .ok (.iconst 1, 1) := by decide +kernel
theorem dX10_brings_24 : decode cX10_brings 24 = .ok (.invokestatic 71, 3) := by decide +kernel
theorem dX10_brings_27 : decode cX10_brings 27 = .ok (.ifCond .eq 7, 3) := by decide +kernel
theorem dX10_brings_30 : decode cX10_brings 30 = .ok (.iconst 1, 1) := by decide +kernel
theorem dX10_brings_31 : decode cX10_brings 31 = .ok (.goto 4, 3) := by decide +kernel
theorem dX10_brings_34 : decode cX10_brings 34 = .ok (.iconst 0, 1) := by decide +kernel
theorem dX10_brings_35 : decode cX10_brings 35 = .ok (.istore 4, 2) := by decide +kernel
theorem dX10_brings_37 : decode cX10_brings 37 = .ok (.iload 4, 2) := by decide +kernel
theorem dX10_brings_39 : decode cX10_brings 39 = .ok (.ifCond .eq 15, 3) := by decide +kernel
theorem dX10_brings_42 : decode cX10_brings 42 = .ok (.aload_n 0, 1) := by decide +kernel
theorem dX10_brings_43 : decode cX10_brings 43 = .ok (.getfield 20, 3) := by decide +kernel
theorem dX10_brings_46 : decode cX10_brings 46 = .ok (.getfield 109, 3) := by decide +kernel
theorem dX10_brings_49 : decode cX10_brings 49 = .ok (.bipush 14, 2) := by decide +kernel
theorem dX10_brings_51 : decode cX10_brings 51 = .ok (.if_icmp .lt 5, 3) := by decide +kernel
theorem dX10_brings_54 : decode cX10_brings 54 = .ok (.iconst (-1), 1) := by decide +kernel
theorem dX10_brings_55 : decode cX10_brings 55 = .ok (.ireturn, 1) := by decide +kernel
theorem dX10_brings_56 : decode cX10_brings 56 = .ok (.iconst (-1), 1) := by decide +kernel
theorem dX10_brings_57 : decode cX10_brings 57 = .ok (.istore 5, 2) := by decide +kernel
theorem dX10_brings_59 : decode cX10_brings 59 = .ok (.iconst (-1), 1) := by decide +kernel
theorem dX10_brings_60 : decode cX10_brings 60 = .ok (.istore 6, 2) := by decide +kernel
theorem dX10_brings_62 : decode cX10_brings 62 = .ok (.iconst 0, 1) := by decide +kernel
theorem dX10_brings_63 : decode cX10_brings 63 = .ok (.istore 7, 2) := by decide +kernel
theorem dX10_brings_65 : decode cX10_brings 65 = .ok (.iload 7, 2) := by decide +kernel
theorem dX10_brings_67 : decode cX10_brings 67 = .ok (.bipush 10, 2) := by decide +kernel
theorem dX10_brings_69 : decode cX10_brings 69 = .ok (.if_icmp .ge 78, 3) := by decide +kernel
theorem dX10_brings_72 : decode cX10_brings 72 = .ok (.aload_n 0, 1) := by decide +kernel
theorem dX10_brings_73 : decode cX10_brings 73 = .ok (.getfield 57, 3) := by decide +kernel
theorem dX10_brings_76 : decode cX10_brings 76 = .ok (.aload_n 0, 1) := by decide +kernel
theorem dX10_brings_77 : decode cX10_brings 77 = .ok (.getfield 20, 3) := by decide +kernel
theorem dX10_brings_80 : decode cX10_brings 80 = .ok (.invokevirtual 248, 3) := by decide +kernel
theorem dX10_brings_83 : decode cX10_brings 83 = .ok (.aload_n 0, 1) := by decide +kernel
theorem dX10_brings_84 : decode cX10_brings 84 = .ok (.getfield 57, 3) := by decide +kernel
theorem dX10_brings_87 : decode cX10_brings 87 = .ok (.iload_n 1, 1) := by decide +kernel
theorem dX10_brings_88 : decode cX10_brings 88 = .ok (.iload 7, 2) := by decide +kernel
theorem dX10_brings_90 : decode cX10_brings 90 = .ok (.bipush 10, 2) := by decide +kernel
theorem dX10_brings_92 : decode cX10_brings 92 = .ok (.invokevirtual 115, 3) := by decide +kernel
theorem dX10_brings_95 : decode cX10_brings 95 = .ok (.pop, 1) := by decide +kernel
theorem dX10_brings_96 : decode cX10_brings 96 = .ok (.aload_n 0, 1) := by decide +kernel
theorem dX10_brings_97 : decode cX10_brings 97 = .ok (.getfield 53, 3) := by decide +kernel
theorem dX10_brings_100 : decode cX10_brings 100 = .ok (.aload_n 0, 1) := by decide +kernel
theorem dX10_brings_101 : decode cX10_brings 101 = .ok (.getfield 12, 3) := by decide +kernel
theorem dX10_brings_104 : decode cX10_brings 104 = .ok (.aload_n 0, 1) := by decide +kernel
theorem dX10_brings_105 : decode cX10_brings 105 = .ok (.getfield 57, 3) := by decide +kernel
theorem dX10_brings_108 : decode cX10_brings 108 = .ok (.iload_n 2, 1) := by decide +kernel
theorem dX10_brings_109 : decode cX10_brings 109 = .ok (.invokevirtual 143, 3) := by decide +kernel
theorem dX10_brings_112 : decode cX10_brings 112 = .ok (.aload_n 0, 1) := by decide +kernel
theorem dX10_brings_113 : decode cX10_brings 113 = .ok (.getfield 53, 3) := by decide +kernel
theorem dX10_brings_116 : decode cX10_brings 116 = .ok (.getfield 261, 3) := by decide +kernel
theorem dX10_brings_119 : decode cX10_brings 119 = .ok (.iload_n 1, 1) := by decide +kernel
theorem dX10_brings_120 : decode cX10_brings 120 = .ok (.iaload, 1) := by decide +kernel
theorem dX10_brings_121 : decode cX10_brings 121 = .ok (.iload 6, 2) := by decide +kernel
theorem dX10_brings_123 : decode cX10_brings 123 = .ok (.if_icmp .le 18, 3) := by decide +kernel
theorem dX10_brings_126 : decode cX10_brings 126 = .ok (.iload 7, 2) := by decide +kernel
theorem dX10_brings_128 : decode cX10_brings 128 = .ok (.istore 5, 2) := by decide +kernel
theorem dX10_brings_130 : decode cX10_brings 130 = .ok (.aload_n 0, 1) := by decide +kernel
theorem dX10_brings_131 : decode cX10_brings 131 = .ok (.getfield 53, 3) := by decide +kernel
theorem dX10_brings_134 : decode cX10_brings 134 = .ok (.getfield 261, 3) := by decide +kernel
theorem dX10_brings_137 : decode cX10_brings 137 = .ok (.iload_n 1, 1) := by decide +kernel
theorem dX10_brings_138 : decode cX10_brings 138 = .ok (.iaload, 1) := by decide +kernel
theorem dX10_brings_139 : decode cX10_brings 139 = .ok (.istore 6, 2) := by decide +kernel
theorem dX10_brings_141 : decode cX10_brings 141 = .ok (.iinc 7 1, 3) := by decide +kernel
theorem dX10_brings_144 : decode cX10_brings 144 = .ok (.goto (-79), 3) := by decide +kernel
theorem dX10_brings_147 : decode cX10_brings 147 = .ok (.iload_n 3, 1) := by decide +kernel
theorem dX10_brings_148 : decode cX10_brings 148 = .ok (.ifCond .ne 8, 3) := by decide +kernel
theorem dX10_brings_151 : decode cX10_brings 151 = .ok (.iload 5, 2) := by decide +kernel
theorem dX10_brings_153 : decode cX10_brings 153 = .ok (.goto 5, 3) := by decide +kernel
theorem dX10_brings_156 : decode cX10_brings 156 = .ok (.iload 6, 2) := by decide +kernel
theorem dX10_brings_158 : decode cX10_brings 158 = .ok (.ireturn, 1) := by decide +kernel
theorem dX10_swings_0 : decode cX10_swings 0 = .ok (.aload_n 0, 1) := by decide +kernel
theorem dX10_swings_1 : decode cX10_swings 1 = .ok (.getfield 20, 3) := by decide +kernel
theorem dX10_swings_4 : decode cX10_swings 4 = .ok (.iload_n 1, 1) := by decide +kernel
theorem dX10_swings_5 : decode cX10_swings 5 = .ok (.invokevirtual 204, 3) := by decide +kernel
theorem dX10_swings_8 : decode cX10_swings 8 = .ok (.ifCond .eq 13, 3) := by decide +kernel
theorem dX10_swings_11 : decode cX10_swings 11 = .ok (.iload_n 2, 1) := by decide +kernel
theorem dX10_swings_12 : decode cX10_swings 12 = .ok (.iconst 1, 1) := by decide +kernel
theorem dX10_swings_13 : decode cX10_swings 13 = .ok (.bipush 20, 2) := by decide +kernel
theorem dX10_swings_15 : decode cX10_swings 15 = .ok (.invokestatic 71, 3) := by decide +kernel
theorem dX10_swings_18 : decode cX10_swings 18 = .ok (.ifCond .ne 5, 3) := by decide +kernel
theorem dX10_swings_21 : decode cX10_swings 21 = .ok (.iconst (-1), 1) := by decide +kernel
theorem dX10_swings_22 : decode cX10_swings 22 = .ok (.ireturn, 1) := by decide +kernel
theorem dX10_swings_23 : decode cX10_swings 23 = .ok (.aload_n 0, 1) := by decide +kernel
theorem dX10_swings_24 : decode cX10_swings 24 = .ok (.iload_n 2, 1) := by decide +kernel
theorem dX10_swings_25 : decode cX10_swings 25 = .ok (.invokevirtual 264, 3) := by decide +kernel
theorem dX10_swings_28 : decode cX10_swings 28 = .ok (.istore_n 3, 1) := by decide +kernel
theorem dX10_swings_29 : decode cX10_swings 29 = .ok (.iload_n 3, 1) := by decide +kernel
theorem dX10_swings_30 : decode cX10_swings 30 = .ok (.ifCond .ne 5, 3) := by decide +kernel
theorem dX10_swings_33 : decode cX10_swings 33 = .ok (.iconst (-1), 1) := by decide +kernel
theorem dX10_swings_34 : decode cX10_swings 34 = .ok (.ireturn, 1) := by decide +kernel
theorem dX10_swings_35 : decode cX10_swings 35 = .ok (.aload_n 0, 1) := by decide +kernel
theorem dX10_swings_36 : decode cX10_swings 36 = .ok (.iload_n 1, 1) := by decide +kernel
theorem dX10_swings_37 : decode cX10_swings 37 = .ok (.iconst 0, 1) := by decide +kernel
theorem dX10_swings_38 : decode cX10_swings 38 = .ok (.iload_n 3, 1) := by decide +kernel
theorem dX10_swings_39 : decode cX10_swings 39 = .ok (.invokevirtual 267, 3) := by decide +kernel
theorem dX10_swings_42 : decode cX10_swings 42 = .ok (.istore 4, 2) := by decide +kernel
theorem dX10_swings_44 : decode cX10_swings 44 = .ok (.iconst 1, 1) := by decide +kernel
theorem dX10_swings_45 : decode cX10_swings 45 = .ok (.istore 5, 2) := by decide +kernel
theorem dX10_swings_47 : decode cX10_swings 47 = .ok (.iload 5, 2) := by decide +kernel
theorem dX10_swings_49 : decode cX10_swings 49 = .ok (.aload_n 0, 1) := by decide +kernel
theorem dX10_swings_50 : decode cX10_swings 50 = .ok (.getfield 20, 3) := by decide +kernel
theorem dX10_swings_53 : decode cX10_swings 53 = .ok (.getfield 216, 3) := by decide +kernel
theorem dX10_swings_56 : decode cX10_swings 56 = .ok (.iload_n 1, 1) := by decide +kernel
theorem dX10_swings_57 : decode cX10_swings 57 = .ok (.iaload, 1) := by decide +kernel
theorem dX10_swings_58 : decode cX10_swings 58 = .ok (.if_icmp .gt 25, 3) := by decide +kernel
theorem dX10_swings_61 : decode cX10_swings 61 = .ok (.aload_n 0, 1) := by decide +kernel
theorem dX10_swings_62 : decode cX10_swings 62 = .ok (.iload_n 1, 1) := by decide +kernel
theorem dX10_swings_63 : decode cX10_swings 63 = .ok (.iload 5, 2) := by decide +kernel
theorem dX10_swings_65 : decode cX10_swings 65 = .ok (.iload_n 3, 1) := by decide +kernel
theorem dX10_swings_66 : decode cX10_swings 66 = .ok (.invokevirtual 267, 3) := by decide +kernel
theorem dX10_swings_69 : decode cX10_swings 69 = .ok (.iload 4, 2) := by decide +kernel
theorem dX10_swings_71 : decode cX10_swings 71 = .ok (.if_icmp .eq 6, 3) := by decide +kernel
theorem dX10_swings_74 : decode cX10_swings 74 = .ok (.iload 5, 2) := by decide +kernel
theorem dX10_swings_76 : decode cX10_swings 76 = .ok (.ireturn, 1) := by decide +kernel
theorem dX10_swings_77 : decode cX10_swings 77 = .ok (.iinc 5 1, 3) := by decide +kernel
theorem dX10_swings_80 : decode cX10_swings 80 = .ok (.goto (-33), 3) := by decide +kernel
theorem dX10_swings_83 : decode cX10_swings 83 = .ok (.iconst (-1), 1) := by decide +kernel
theorem dX10_swings_84 : decode cX10_swings 84 = .ok (.ireturn, 1) := by decide +kernel
theorem dX10_feeds_0 : decode cX10_feeds 0 = .ok (.iload_n 1, 1) := by decide +kernel
theorem dX10_feeds_1 : decode cX10_feeds 1 = .ok (.iconst 0, 1) := by decide +kernel
theorem dX10_feeds_2 : decode cX10_feeds 2 = .ok (.iconst 1, 1) := by decide +kernel
theorem dX10_feeds_3 : decode cX10_feeds 3 = .ok (.invokestatic 71, 3) := by decide +kernel
theorem dX10_feeds_6 : decode cX10_feeds 6 = .ok (.ifCond .ne 5, 3) := by decide +kernel
theorem dX10_feeds_9 : decode cX10_feeds 9 = .ok (.iconst (-1), 1) := by decide +kernel
theorem dX10_feeds_10 : decode cX10_feeds 10 = .ok (.ireturn, 1) := by decide +kernel
theorem dX10_feeds_11 : decode cX10_feeds 11 = .ok (.sipush 1023, 3) := by decide +kernel
theorem dX10_feeds_14 : decode cX10_feeds 14 = .ok (.istore_n 2, 1) := by decide +kernel
theorem dX10_feeds_15 : decode cX10_feeds 15 = .ok (.sipush 1023, 3) := by decide +kernel
theorem dX10_feeds_18 : decode cX10_feeds 18 = .ok (.istore_n 3, 1) := by decide +kernel
theorem dX10_feeds_19 : decode cX10_feeds 19 = .ok (.iload_n 3, 1) := by decide +kernel
theorem dX10_feeds_20 : decode cX10_feeds 20 = .ok (.ifCond .lt 30, 3) := by decide +kernel
theorem dX10_feeds_23 : decode cX10_feeds 23 = .ok (.iload_n 3, 1) := by decide +kernel
theorem dX10_feeds_24 : decode cX10_feeds 24 = .ok (.invokestatic 270, 3) := by decide +kernel
theorem dX10_feeds_27 : decode cX10_feeds 27 = .ok (.iload_n 2, 1) := by decide +kernel
theorem dX10_feeds_28 : decode cX10_feeds 28 = .ok (.invokestatic 270, 3) := by decide +kernel
theorem dX10_feeds_31 : decode cX10_feeds 31 = .ok (.if_icmp .gt 13, 3) := by decide +kernel
theorem dX10_feeds_34 : decode cX10_feeds 34 = .ok (.aload_n 0, 1) := by decide +kernel
theorem dX10_feeds_35 : decode cX10_feeds 35 = .ok (.iload_n 3, 1) := by decide +kernel
theorem dX10_feeds_36 : decode cX10_feeds 36 = .ok (.invokevirtual 275, 3) := by decide +kernel
theorem dX10_feeds_39 : decode cX10_feeds 39 = .ok (.ifCond .eq 5, 3) := by decide +kernel
theorem dX10_feeds_42 : decode cX10_feeds 42 = .ok (.iload_n 3, 1) := by decide +kernel
theorem dX10_feeds_43 : decode cX10_feeds 43 = .ok (.istore_n 2, 1) := by decide +kernel
theorem dX10_feeds_44 : decode cX10_feeds 44 = .ok (.iinc 3 (-1), 3) := by decide +kernel
theorem dX10_feeds_47 : decode cX10_feeds 47 = .ok (.goto (-28), 3) := by decide +kernel
theorem dX10_feeds_50 : decode cX10_feeds 50 = .ok (.iload_n 1, 1) := by decide +kernel
theorem dX10_feeds_51 : decode cX10_feeds 51 = .ok (.ifCond .ne 10, 3) := by decide +kernel
theorem dX10_feeds_54 : decode cX10_feeds 54 = .ok (.iload_n 2, 1) := by decide +kernel
theorem dX10_feeds_55 : decode cX10_feeds 55 = .ok (.invokestatic 270, 3) := by decide +kernel
theorem dX10_feeds_58 : decode cX10_feeds 58 = .ok (.goto 4, 3) := by decide +kernel
theorem dX10_feeds_61 : decode cX10_feeds 61 = .ok (.iload_n 2, 1) := by decide +kernel
theorem dX10_feeds_62 : decode cX10_feeds 62 = .ok (.ireturn, 1) := by decide +kernel
theorem dX10_core_0 : decode cX10_core 0 = .ok (.iload_n 1, 1) := by decide +kernel
theorem dX10_core_1 : decode cX10_core 1 = .ok (.iconst (-1), 1) := by decide +kernel
theorem dX10_core_2 : decode cX10_core 2 = .ok (.if_icmp .ne 16, 3) := by decide +kernel
theorem dX10_core_5 : decode cX10_core 5 = .ok (.aload_n 0, 1) := by decide +kernel
theorem dX10_core_6 : decode cX10_core 6 = .ok (.getfield 12, 3) := by decide +kernel
theorem dX10_core_9 : decode cX10_core 9 = .ok (.getfield 278, 3) := by decide +kernel
theorem dX10_core_12 : decode cX10_core 12 = .ok (.iconst 0, 1) := by decide +kernel
theorem dX10_core_13 : decode cX10_core 13 = .ok (.putfield 282, 3) := by decide +kernel
theorem dX10_core_16 : decode cX10_core 16 = .ok (.iconst 0, 1) := by decide +kernel
theorem dX10_core_17 : decode cX10_core 17 = .ok (.ireturn, 1) := by decide +kernel
theorem dX10_core_18 : decode cX10_core 18 = .ok (.aload_n 0, 1) := by decide +kernel
theorem dX10_core_19 : decode cX10_core 19 = .ok (.getfield 20, 3) := by decide +kernel
theorem dX10_core_22 : decode cX10_core 22 = .ok (.iload_n 1, 1) := by decide +kernel
theorem dX10_core_23 : decode cX10_core 23 = .ok (.invokevirtual 92, 3) := by decide +kernel
theorem dX10_core_26 : decode cX10_core 26 = .ok (.ifCond .eq 25, 3) := by decide +kernel
theorem dX10_core_29 : decode cX10_core 29 = .ok (.iload_n 2, 1) := by decide +kernel
theorem dX10_core_30 : decode cX10_core 30 = .ok (.invokestatic 106, 3) := by decide +kernel
theorem dX10_core_33 : decode cX10_core 33 = .ok (.ifCond .eq 18, 3) := by decide +kernel
theorem dX10_core_36 : decode cX10_core 36 = .ok (.aload_n 0, 1) := by decide +kernel
theorem dX10_core_37 : decode cX10_core 37 = .ok (.getfield 12, 3) := by decide +kernel
theorem dX10_core_40 : decode cX10_core 40 = .ok (.getfield 278, 3) := by decide +kernel
theorem dX10_core_43 : decode cX10_core 43 = .ok (.getfield 282, 3) := by decide +kernel
theorem dX10_core_46 : decode cX10_core 46 = .ok (.bipush 8, 2) := by decide +kernel
theorem dX10_core_48 : decode cX10_core 48 = .ok (.if_icmp .lt 5, 3) := by decide +kernel
theorem dX10_core_51 : decode cX10_core 51 = .ok (.iconst (-1), 1) := by decide +kernel
theorem dX10_core_52 : decode cX10_core 52 = .ok (.ireturn, 1) := by decide +kernel
theorem dX10_core_53 : decode cX10_core 53 = .ok (.aload_n 0, 1) := by decide +kernel
theorem dX10_core_54 : decode cX10_core 54 = .ok (.getfield 12, 3) := by decide +kernel
theorem dX10_core_57 : decode cX10_core 57 = .ok (.getfield 278, 3) := by decide +kernel
theorem dX10_core_60 : decode cX10_core 60 = .ok (.iload_n 1, 1) := by decide +kernel
theorem dX10_core_61 : decode cX10_core 61 = .ok (.iload_n 2, 1) := by decide +kernel
theorem dX10_core_62 : decode cX10_core 62 = .ok (.invokevirtual 287, 3) := by decide +kernel
theorem dX10_core_65 : decode cX10_core 65 = .ok (.ireturn, 1) := by decide +kernel
theorem dX10_whose_0 : decode cX10_whose 0 = .ok (.iload_n 1, 1) := by decide +kernel
theorem dX10_whose_1 : decode cX10_whose 1 = .ok (.iconst 0, 1) := by decide +kernel
theorem dX10_whose_2 : decode cX10_whose 2 = .ok (.iconst 1, 1) := by decide +kernel
theorem dX10_whose_3 : decode cX10_whose 3 = .ok (.invokestatic 71, 3) := by decide +kernel
theorem dX10_whose_6 : decode cX10_whose 6 = .ok (.ifCond .ne 5, 3) := by decide +kernel
theorem dX10_whose_9 : decode cX10_whose 9 = .ok (.iconst (-1), 1) := by decide +kernel
theorem dX10_whose_10 : decode cX10_whose 10 = .ok (.ireturn, 1) := by decide +kernel
theorem dX10_whose_11 : decode cX10_whose 11 = .ok (.iconst 0, 1) := by decide +kernel
theorem dX10_whose_12 : decode cX10_whose 12 = .ok (.istore_n 2, 1) := by decide +kernel
theorem dX10_whose_13 : decode cX10_whose 13 = .ok (.iconst 0, 1) := by decide +kernel
theorem dX10_whose_14 : decode cX10_whose 14 = .ok (.istore_n 3, 1) := by decide +kernel
theorem dX10_whose_15 : decode cX10_whose 15 = .ok (.iload_n 3, 1) := by decide +kernel
theorem dX10_whose_16 : decode cX10_whose 16 = .ok (.aload_n 0, 1) := by decide +kernel
theorem dX10_whose_17 : decode cX10_whose 17 = .ok (.getfield 20, 3) := by decide +kernel
theorem dX10_whose_20 : decode cX10_whose 20 = .ok (.getfield 82, 3) := by decide +kernel
theorem dX10_whose_23 : decode cX10_whose 23 = .ok (.if_icmp .ge 45, 3) := by decide +kernel
theorem dX10_whose_26 : decode cX10_whose 26 = .ok (.aload_n 0, 1) := by decide +kernel
theorem dX10_whose_27 : decode cX10_whose 27 = .ok (.getfield 12, 3) := by decide +kernel
theorem dX10_whose_30 : decode cX10_whose 30 = .ok (.getfield 278, 3) := by decide +kernel
theorem dX10_whose_33 : decode cX10_whose 33 = .ok (.aload_n 0, 1) := by decide +kernel
theorem dX10_whose_34 : decode cX10_whose 34 = .ok (.getfield 20, 3) := by decide +kernel
theorem dX10_whose_37 : decode cX10_whose 37 = .ok (.iload_n 3, 1) := by decide +kernel
theorem dX10_whose_38 : decode cX10_whose 38 = .ok (.aload_n 0, 1) := by decide +kernel
theorem dX10_whose_39 : decode cX10_whose 39 = .ok (.getfield 12, 3) := by decide +kernel
theorem dX10_whose_42 : decode cX10_whose 42 = .ok (.getfield 170, 3) := by decide +kernel
theorem dX10_whose_45 : decode cX10_whose 45 = .ok (.getfield 290, 3) := by decide +kernel
theorem dX10_whose_48 : decode cX10_whose 48 = .ok (.iload_n 3, 1) := by decide +kernel
theorem dX10_whose_49 : decode cX10_whose 49 = .ok (.iaload, 1) := by decide +kernel
theorem dX10_whose_50 : decode cX10_whose 50 = .ok (.invokevirtual 293, 3) := by decide +kernel
theorem dX10_whose_53 : decode cX10_whose 53 = .ok (.ifCond .eq 9, 3) := by decide +kernel
theorem dX10_whose_56 : decode cX10_whose 56 = .ok (.iload_n 2, 1) := by decide +kernel
theorem dX10_whose_57 : decode cX10_whose 57 = .ok (.iconst 1, 1) := by decide +kernel
theorem dX10_whose_58 : decode cX10_whose 58 = .ok (.iload_n 3, 1) := by decide +kernel
theorem dX10_whose_59 : decode cX10_whose 59 = .ok (.ishl, 1) := by decide +kernel
theorem dX10_whose_60 : decode cX10_whose 60 = .ok (.ior, 1) := by decide +kernel
theorem dX10_whose_61 : decode cX10_whose 61 = .ok (.istore_n 2, 1) := by decide +kernel
theorem dX10_whose_62 : decode cX10_whose 62 = .ok (.iinc 3 1, 3) := by decide +kernel
theorem dX10_whose_65 : decode cX10_whose 65 = .ok (.goto (-50), 3) := by decide +kernel
theorem dX10_whose_68 : decode cX10_whose 68 = .ok (.iload_n 1, 1) := by decide +kernel
theorem dX10_whose_69 : decode cX10_whose 69 = .ok (.ifCond .ne 7, 3) := by decide +kernel
theorem dX10_whose_72 : decode cX10_whose 72 = .ok (.iload_n 2, 1) := by decide +kernel
theorem dX10_whose_73 : decode cX10_whose 73 = .ok (.goto 8, 3) := by decide +kernel
theorem dX10_whose_76 : decode cX10_whose 76 = .ok (.aload_n 0, 1) := by decide +kernel
theorem dX10_whose_77 : decode cX10_whose 77 = .ok (.iload_n 2, 1) := by decide +kernel
theorem dX10_whose_78 : decode cX10_whose 78 = .ok (.invokevirtual 297, 3) := by decide +kernel
theorem dX10_whose_81 : decode cX10_whose 81 = .ok (.ireturn, 1) := by decide +kernel
theorem dX10_left_0 : decode cX10_left 0 = .ok (.iload_n 1, 1) := by decide +kernel
theorem dX10_left_1 : decode cX10_left 1 = .ok (.iconst 0, 1) := by decide +kernel
theorem dX10_left_2 : decode cX10_left 2 = .ok (.bipush 99, 2) := by decide +kernel
theorem dX10_left_4 : decode cX10_left 4 = .ok (.invokestatic 71, 3) := by decide +kernel
theorem dX10_left_7 : decode cX10_left 7 = .ok (.ifCond .ne 5, 3) := by decide +kernel
theorem dX10_left_10 : decode cX10_left 10 = .ok (.iconst (-1), 1) := by decide +kernel
theorem dX10_left_11 : decode cX10_left 11 = .ok (.ireturn, 1) := by decide +kernel
theorem dX10_left_12 : decode cX10_left 12 = .ok (.aload_n 0, 1) := by decide +kernel
theorem dX10_left_13 : decode cX10_left 13 = .ok (.getfield 60, 3) := by decide +kernel
theorem dX10_left_16 : decode cX10_left 16 = .ok (.iconst 0, 1) := by decide +kernel
theorem dX10_left_17 : decode cX10_left 17 = .ok (.lconst 1, 1) := by decide +kernel
theorem dX10_left_18 : decode cX10_left 18 = .ok (.lastore, 1) := by decide +kernel
theorem dX10_left_19 : decode cX10_left 19 = .ok (.iconst 1, 1) := by decide +kernel
theorem dX10_left_20 : decode cX10_left 20 = .ok (.istore_n 2, 1) := by decide +kernel
theorem dX10_left_21 : decode cX10_left 21 = .ok (.iload_n 2, 1) := by decide +kernel
theorem dX10_left_22 : decode cX10_left 22 = .ok (.iload_n 1, 1) := by decide +kernel
theorem dX10_left_23 : decode cX10_left 23 = .ok (.if_icmp .gt 16, 3) := by decide +kernel
theorem dX10_left_26 : decode cX10_left 26 = .ok (.aload_n 0, 1) := by decide +kernel
theorem dX10_left_27 : decode cX10_left 27 = .ok (.getfield 60, 3) := by decide +kernel
theorem dX10_left_30 : decode cX10_left 30 = .ok (.iload_n 2, 1) := by decide +kernel
theorem dX10_left_31 : decode cX10_left 31 = .ok (.lconst 0, 1) := by decide +kernel
theorem dX10_left_32 : decode cX10_left 32 = .ok (.lastore, 1) := by decide +kernel
theorem dX10_left_33 : decode cX10_left 33 = .ok (.iinc 2 1, 3) := by decide +kernel
theorem dX10_left_36 : decode cX10_left 36 = .ok (.goto (-15), 3) := by decide +kernel
theorem dX10_left_39 : decode cX10_left 39 = .ok (.iconst 0, 1) := by decide +kernel
theorem dX10_left_40 : decode cX10_left 40 = .ok (.istore_n 2, 1) := by decide +kernel
theorem dX10_left_41 : decode cX10_left 41 = .ok (.iload_n 2, 1) := by decide +kernel
theorem dX10_left_42 : decode cX10_left 42 = .ok (.aload_n 0, 1) := by decide +kernel
theorem dX10_left_43 : decode cX10_left 43 = .ok (.getfield 20, 3) := by decide +kernel
theorem dX10_left_46 : decode cX10_left 46 = .ok (.getfield 82, 3) := by decide +kernel
theorem dX10_left_49 : decode cX10_left 49 = .ok (.if_icmp .ge 29, 3) := by decide +kernel
theorem dX10_left_52 : decode cX10_left 52 = .ok (.aload_n 0, 1) := by decide +kernel
theorem dX10_left_53 : decode cX10_left 53 = .ok (.aload_n 0, 1) := by decide +kernel
theorem dX10_left_54 : decode cX10_left 54 = .ok (.getfield 12, 3) := by decide +kernel
theorem dX10_left_57 : decode cX10_left 57 = .ok (.getfield 162, 3) := by decide +kernel
theorem dX10_left_60 : decode cX10_left 60 = .ok (.aload_n 0, 1) := by decide +kernel
theorem dX10_left_61 : decode cX10_left 61 = .ok (.getfield 20, 3) := by decide +kernel
theorem dX10_left_64 : decode cX10_left 64 = .ok (.iload_n 2, 1) := by decide +kernel
theorem dX10_left_65 : decode cX10_left 65 = .ok (.invokevirtual 228, 3) := by decide +kernel
theorem dX10_left_68 : decode cX10_left 68 = .ok (.iload_n 1, 1) := by decide +kernel
theorem dX10_left_69 : decode cX10_left 69 = .ok (.invokevirtual 300, 3) := by decide +kernel
theorem dX10_left_72 : decode cX10_left 72 = .ok (.iinc 2 1, 3) := by decide +kernel
theorem dX10_left_75 : decode cX10_left 75 = .ok (.goto (-34), 3) := by decide +kernel
theorem dX10_left_78 : decode cX10_left 78 = .ok (.aload_n 0, 1) := by decide +kernel
theorem dX10_left_79 : decode cX10_left 79 = .ok (.getfield 60, 3) := by decide +kernel
theorem dX10_left_82 : decode cX10_left 82 = .ok (.iload_n 1, 1) := by decide +kernel
theorem dX10_left_83 : decode cX10_left 83 = .ok (.laload, 1) := by decide +kernel
theorem dX10_left_84 : decode cX10_left 84 = .ok (.l2i, 1) := by decide +kernel
theorem dX10_left_85 : decode cX10_left 85 = .ok (.ireturn, 1) := by decide +kernel
theorem dX10_rules_0 : decode cX10_rules 0 = .ok (.aload_n 0, 1) := by decide +kernel
theorem dX10_rules_1 : decode cX10_rules 1 = .ok (.getfield 20, 3) := by decide +kernel
theorem dX10_rules_4 : decode cX10_rules 4 = .ok (.bipush 31, 2) := by decide +kernel
theorem dX10_rules_6 : decode cX10_rules 6 = .ok (.invokevirtual 303, 3) := by decide +kernel
theorem dX10_rules_9 : decode cX10_rules 9 = .ok (.istore_n 2, 1) := by decide +kernel
theorem dX10_rules_10 : decode cX10_rules 10 = .ok (.iload_n 1, 1) := by decide +kernel
theorem dX10_rules_11 : decode cX10_rules 11 = .ok (.iconst 0, 1) := by decide +kernel
theorem dX10_rules_12 : decode cX10_rules 12 = .ok (.iconst 1, 1) := by decide +kernel
theorem dX10_rules_13 : decode cX10_rules 13 = .ok (.invokestatic 71, 3) := by decide +kernel
theorem dX10_rules_16 : decode cX10_rules 16 = .ok (.ifCond .eq 7, 3) := by decide +kernel
theorem dX10_rules_19 : decode cX10_rules 19 = .ok (.iload_n 2, 1) := by decide +kernel
theorem dX10_rules_20 : decode cX10_rules 20 = .ok (.ifCond .ne 5, 3) := by decide +kernel
theorem dX10_rules_23 : decode cX10_rules 23 = .ok (.iconst (-1), 1) := by decide +kernel
theorem dX10_rules_24 : decode cX10_rules 24 = .ok (.ireturn, 1) := by decide +kernel
theorem dX10_rules_25 : decode cX10_rules 25 = .ok (.iconst 1, 1) := by decide +kernel
theorem dX10_rules_26 : decode cX10_rules 26 = .ok (.aload_n 0, 1) := by decide +kernel
theorem dX10_rules_27 : decode cX10_rules 27 = .ok (.getfield 20, 3) := by decide +kernel
theorem dX10_rules_30 : decode cX10_rules 30 = .ok (.getfield 75, 3) := by decide +kernel
theorem dX10_rules_33 : decode cX10_rules 33 = .ok (.ishl, 1) := by decide +kernel
theorem dX10_rules_34 : decode cX10_rules 34 = .ok (.iconst 1, 1) := by decide +kernel
theorem dX10_rules_35 : decode cX10_rules 35 = .ok (.isub, 1) := by decide +kernel
theorem dX10_rules_36 : decode cX10_rules 36 = .ok (.istore_n 3, 1) := by decide +kernel
theorem dX10_rules_37 : decode cX10_rules 37 = .ok (.iload_n 3, 1) := by decide +kernel
theorem dX10_rules_38 : decode cX10_rules 38 = .ok (.istore 4, 2) := by decide +kernel
theorem dX10_rules_40 : decode cX10_rules 40 = .ok (.iload 4, 2) := by decide +kernel
theorem dX10_rules_42 : decode cX10_rules 42 = .ok (.ifCond .le 51, 3) := by decide +kernel
theorem dX10_rules_45 : decode cX10_rules 45 = .ok (.iconst 2, 1) := by decide +kernel
theorem dX10_rules_46 : decode cX10_rules 46 = .ok (.aload_n 0, 1) := by decide +kernel
theorem dX10_rules_47 : decode cX10_rules 47 = .ok (.getfield 20, 3) := by decide +kernel
theorem dX10_rules_50 : decode cX10_rules 50 = .ok (.iload 4, 2) := by decide +kernel
theorem dX10_rules_52 : decode cX10_rules 52 = .ok (.invokevirtual 303, 3) := by decide +kernel
theorem dX10_rules_55 : decode cX10_rules 55 = .ok (.imul, 1) := by decide +kernel
theorem dX10_rules_56 : decode cX10_rules 56 = .ok (.iload_n 2, 1) := by decide +kernel
theorem dX10_rules_57 : decode cX10_rules 57 = .ok (.if_icmp .le 7, 3) := by decide +kernel
theorem dX10_rules_60 : decode cX10_rules 60 = .ok (.iconst 1, 1) := by decide +kernel
theorem dX10_rules_61 : decode cX10_rules 61 = .ok (.goto 4, 3) := by decide +kernel
theorem dX10_rules_64 : decode cX10_rules 64 = .ok (.iconst 0, 1) := by decide +kernel
theorem dX10_rules_65 : decode cX10_rules 65 = .ok (.istore 5, 2) := by decide +kernel
theorem dX10_rules_67 : decode cX10_rules 67 = .ok (.iload 5, 2) := by decide +kernel
theorem dX10_rules_69 : decode cX10_rules 69 = .ok (.ifCond .eq 18, 3) := by decide +kernel
theorem dX10_rules_72 : decode cX10_rules 72 = .ok (.iload 4, 2) := by decide +kernel
theorem dX10_rules_74 : decode cX10_rules 74 = .ok (.invokestatic 270, 3) := by decide +kernel
theorem dX10_rules_77 : decode cX10_rules 77 = .ok (.iload_n 3, 1) := by decide +kernel
theorem dX10_rules_78 : decode cX10_rules 78 = .ok (.invokestatic 270, 3) := by decide +kernel
theorem dX10_rules_81 : decode cX10_rules 81 = .ok (.if_icmp .gt 6, 3) := by decide +kernel
theorem dX10_rules_84 : decode cX10_rules 84 = .ok (.iload 4, 2) := by decide +kernel
theorem dX10_rules_86 : decode cX10_rules 86 = .ok (.istore_n 3, 1) := by decide +kernel
theorem dX10_rules_87 : decode cX10_rules 87 = .ok (.iinc 4 (-1), 3) := by decide +kernel
theorem dX10_rules_90 : decode cX10_rules 90 = .ok (.goto (-50), 3) := by decide +kernel
theorem dX10_rules_93 : decode cX10_rules 93 = .ok (.iload_n 1, 1) := by decide +kernel
theorem dX10_rules_94 : decode cX10_rules 94 = .ok (.ifCond .ne 10, 3) := by decide +kernel
theorem dX10_rules_97 : decode cX10_rules 97 = .ok (.iload_n 3, 1) := by decide +kernel
theorem dX10_rules_98 : decode cX10_rules 98 = .ok (.invokestatic 270, 3) := by decide +kernel
theorem dX10_rules_101 : decode cX10_rules 101 = .ok (.goto 4, 3) := by decide +kernel
theorem dX10_rules_104 : decode cX10_rules 104 = .ok (.iload_n 3, 1) := by decide +kernel
theorem dX10_rules_105 : decode cX10_rules 105 = .ok (.ireturn, 1) := by decide +kernel
theorem dX10_weighs_0 : decode cX10_weighs 0 = .ok (.aload_n 0, 1) := by decide +kernel
theorem dX10_weighs_1 : decode cX10_weighs 1 = .ok (.getfield 20, 3) := by decide +kernel
theorem dX10_weighs_4 : decode cX10_weighs 4 = .ok (.iload_n 1, 1) := by decide +kernel
theorem dX10_weighs_5 : decode cX10_weighs 5 = .ok (.invokevirtual 92, 3) := by decide +kernel
theorem dX10_weighs_8 : decode cX10_weighs 8 = .ok (.ifCond .ne 5, 3) := by decide +kernel
theorem dX10_weighs_11 : decode cX10_weighs 11 = .ok (.iconst (-1), 1) := by decide +kernel
theorem dX10_weighs_12 : decode cX10_weighs 12 = .ok (.ireturn, 1) := by decide +kernel
theorem dX10_weighs_13 : decode cX10_weighs 13 = .ok (.aload_n 0, 1) := by decide +kernel
theorem dX10_weighs_14 : decode cX10_weighs 14 = .ok (.getfield 20, 3) := by decide +kernel
theorem dX10_weighs_17 : decode cX10_weighs 17 = .ok (.bipush 31, 2) := by decide +kernel
theorem dX10_weighs_19 : decode cX10_weighs 19 = .ok (.invokevirtual 303, 3) := by decide +kernel
theorem dX10_weighs_22 : decode cX10_weighs 22 = .ok (.istore_n 2, 1) := by decide +kernel
theorem dX10_weighs_23 : decode cX10_weighs 23 = .ok (.aload_n 0, 1) := by decide +kernel
theorem dX10_weighs_24 : decode cX10_weighs 24 = .ok (.getfield 20, 3) := by decide +kernel
theorem dX10_weighs_27 : decode cX10_weighs 27 = .ok (.getfield 198, 3) := by decide +kernel
theorem dX10_weighs_30 : decode cX10_weighs 30 = .ok (.iload_n 1, 1) := by decide +kernel
theorem dX10_weighs_31 : decode cX10_weighs 31 = .ok (.iaload, 1) := by decide +kernel
theorem dX10_weighs_32 : decode cX10_weighs 32 = .ok (.istore_n 3, 1) := by decide +kernel
theorem dX10_weighs_33 : decode cX10_weighs 33 = .ok (.iconst 0, 1) := by decide +kernel
theorem dX10_weighs_34 : decode cX10_weighs 34 = .ok (.istore 4, 2) := by decide +kernel
theorem dX10_weighs_36 : decode cX10_weighs 36 = .ok (.iconst 0, 1) := by decide +kernel
theorem dX10_weighs_37 : decode cX10_weighs 37 = .ok (.istore 5, 2) := by decide +kernel
theorem dX10_weighs_39 : decode cX10_weighs 39 = .ok (.iload 5, 2) := by decide +kernel
theorem dX10_weighs_41 : decode cX10_weighs 41 = .ok (.iconst 1, 1) := by decide +kernel
theorem dX10_weighs_42 : decode cX10_weighs 42 = .ok (.aload_n 0, 1) := by decide +kernel
theorem dX10_weighs_43 : decode cX10_weighs 43 = .ok (.getfield 20, 3) := by decide +kernel
theorem dX10_weighs_46 : decode cX10_weighs 46 = .ok (.getfield 75, 3) := by decide +kernel
theorem dX10_weighs_49 : decode cX10_weighs 49 = .ok (.ishl, 1) := by decide +kernel
theorem dX10_weighs_50 : decode cX10_weighs 50 = .ok (.if_icmp .ge 62, 3) := by decide +kernel
theorem dX10_weighs_53 : decode cX10_weighs 53 = .ok (.aload_n 0, 1) := by decide +kernel
theorem dX10_weighs_54 : decode cX10_weighs 54 = .ok (.getfield 20, 3) := by decide +kernel
theorem dX10_weighs_57 : decode cX10_weighs 57 = .ok (.iload 5, 2) := by decide +kernel
theorem dX10_weighs_59 : decode cX10_weighs 59 = .ok (.invokevirtual 303, 3) := by decide +kernel
theorem dX10_weighs_62 : decode cX10_weighs 62 = .ok (.istore 6, 2) := by decide +kernel
theorem dX10_weighs_64 : decode cX10_weighs 64 = .ok (.iload 5, 2) := by decide +kernel
theorem dX10_weighs_66 : decode cX10_weighs 66 = .ok (.iload_n 1, 1) := by decide +kernel
theorem dX10_weighs_67 : decode cX10_weighs 67 = .ok (.ishr, 1) := by decide +kernel
theorem dX10_weighs_68 : decode cX10_weighs 68 = .ok (.iconst 1, 1) := by decide +kernel
theorem dX10_weighs_69 : decode cX10_weighs 69 = .ok (.iand, 1) := by decide +kernel
theorem dX10_weighs_70 : decode cX10_weighs 70 = .ok (.ifCond .ne 7, 3) := by decide +kernel
theorem dX10_weighs_73 : decode cX10_weighs 73 = .ok (.iconst 1, 1) := by decide +kernel
theorem dX10_weighs_74 : decode cX10_weighs 74 = .ok (.goto 4, 3) := by decide +kernel
theorem dX10_weighs_77 : decode cX10_weighs 77 = .ok (.iconst 0, 1) := by decide +kernel
theorem dX10_weighs_78 : decode cX10_weighs 78 = .ok (.istore 7, 2) := by decide +kernel
theorem dX10_weighs_80 : decode cX10_weighs 80 = .ok (.iload 7, 2) := by decide +kernel
theorem dX10_weighs_82 : decode cX10_weighs 82 = .ok (.ifCond .eq 24, 3) := by decide +kernel
theorem dX10_weighs_85 : decode cX10_weighs 85 = .ok (.iconst 2, 1) := by decide +kernel
theorem dX10_weighs_86 : decode cX10_weighs 86 = .ok (.iload 6, 2) := by decide +kernel
theorem dX10_weighs_88 : decode cX10_weighs 88 = .ok (.imul, 1) := by decide +kernel
theorem dX10_weighs_89 : decode cX10_weighs 89 = .ok (.iload_n 2, 1) := by decide +kernel
theorem dX10_weighs_90 : decode cX10_weighs 90 = .ok (.if_icmp .gt 16, 3) := by decide +kernel
theorem dX10_weighs_93 : decode cX10_weighs 93 = .ok (.iconst 2, 1) := by decide +kernel
theorem dX10_weighs_94 : decode cX10_weighs 94 = .ok (.iload 6, 2) := by decide +kernel
theorem dX10_weighs_96 : decode cX10_weighs 96 = .ok (.iload_n 3, 1) := by decide +kernel
theorem dX10_weighs_97 : decode cX10_weighs 97 = .ok (.iadd, 1) := by decide +kernel
theorem dX10_weighs_98 : decode cX10_weighs 98 = .ok (.imul, 1) := by decide +kernel
theorem dX10_weighs_99 : decode cX10_weighs 99 = .ok (.iload_n 2, 1) := by decide +kernel
theorem dX10_weighs_100 : decode cX10_weighs 100 = .ok (.if_icmp .le 6, 3) := by decide +kernel
theorem dX10_weighs_103 : decode cX10_weighs 103 = .ok (.iinc 4 1, 3) := by decide +kernel
theorem dX10_weighs_106 : decode cX10_weighs 106 = .ok (.iinc 5 1, 3) := by decide +kernel
theorem dX10_weighs_109 : decode cX10_weighs 109 = .ok (.goto (-70), 3) := by decide +kernel
theorem dX10_weighs_112 : decode cX10_weighs 112 = .ok (.iload 4, 2) := by decide +kernel
theorem dX10_weighs_114 : decode cX10_weighs 114 = .ok (.ireturn, 1) := by decide +kernel
theorem dX10_lasts_0 : decode cX10_lasts 0 = .ok (.aload_n 0, 1) := by decide +kernel
theorem dX10_lasts_1 : decode cX10_lasts 1 = .ok (.getfield 20, 3) := by decide +kernel
theorem dX10_lasts_4 : decode cX10_lasts 4 = .ok (.iload_n 1, 1) := by decide +kernel
theorem dX10_lasts_5 : decode cX10_lasts 5 = .ok (.invokevirtual 92, 3) := by decide +kernel
theorem dX10_lasts_8 : decode cX10_lasts 8 = .ok (.ifCond .ne 5, 3) := by decide +kernel
theorem dX10_lasts_11 : decode cX10_lasts 11 = .ok (.iconst (-1), 1) := by decide +kernel
theorem dX10_lasts_12 : decode cX10_lasts 12 = .ok (.ireturn, 1) := by decide +kernel
theorem dX10_lasts_13 : decode cX10_lasts 13 = .ok (.iconst 0, 1) := by decide +kernel
theorem dX10_lasts_14 : decode cX10_lasts 14 = .ok (.istore_n 2, 1) := by decide +kernel
theorem dX10_lasts_15 : decode cX10_lasts 15 = .ok (.iconst 0, 1) := by decide +kernel
theorem dX10_lasts_16 : decode cX10_lasts 16 = .ok (.istore_n 3, 1) := by decide +kernel
theorem dX10_lasts_17 : decode cX10_lasts 17 = .ok (.iload_n 3, 1) := by decide +kernel
theorem dX10_lasts_18 : decode cX10_lasts 18 = .ok (.aload_n 0, 1) := by decide +kernel
theorem dX10_lasts_19 : decode cX10_lasts 19 = .ok (.getfield 20, 3) := by decide +kernel
theorem dX10_lasts_22 : decode cX10_lasts 22 = .ok (.getfield 82, 3) := by decide +kernel
theorem dX10_lasts_25 : decode cX10_lasts 25 = .ok (.if_icmp .ge 39, 3) := by decide +kernel
theorem dX10_lasts_28 : decode cX10_lasts 28 = .ok (.aload_n 0, 1) := by decide +kernel
theorem dX10_lasts_29 : decode cX10_lasts 29 = .ok (.getfield 20, 3) := by decide +kernel
theorem dX10_lasts_32 : decode cX10_lasts 32 = .ok (.iload_n 3, 1) := by decide +kernel
theorem dX10_lasts_33 : decode cX10_lasts 33 = .ok (.iload_n 1, 1) := by decide +kernel
theorem dX10_lasts_34 : decode cX10_lasts 34 = .ok (.invokevirtual 239, 3) := by decide +kernel
theorem dX10_lasts_37 : decode cX10_lasts 37 = .ok (.ifCond .le 21, 3) := by decide +kernel
theorem dX10_lasts_40 : decode cX10_lasts 40 = .ok (.iload_n 2, 1) := by decide +kernel
theorem dX10_lasts_41 : decode cX10_lasts 41 = .ok (.aload_n 0, 1) := by decide +kernel
theorem dX10_lasts_42 : decode cX10_lasts 42 = .ok (.getfield 12, 3) := by decide +kernel
theorem dX10_lasts_45 : decode cX10_lasts 45 = .ok (.getfield 162, 3) := by decide +kernel
theorem dX10_lasts_48 : decode cX10_lasts 48 = .ok (.aload_n 0, 1) := by decide +kernel
theorem dX10_lasts_49 : decode cX10_lasts 49 = .ok (.getfield 20, 3) := by decide +kernel
theorem dX10_lasts_52 : decode cX10_lasts 52 = .ok (.iload_n 3, 1) := by decide +kernel
theorem dX10_lasts_53 : decode cX10_lasts 53 = .ok (.invokevirtual 228, 3) := by decide +kernel
theorem dX10_lasts_56 : decode cX10_lasts 56 = .ok (.iadd, 1) := by decide +kernel
theorem dX10_lasts_57 : decode cX10_lasts 57 = .ok (.istore_n 2, 1) := by decide +kernel
theorem dX10_lasts_58 : decode cX10_lasts 58 = .ok (.iinc 3 1, 3) := by decide +kernel
theorem dX10_lasts_61 : decode cX10_lasts 61 = .ok (.goto (-44), 3) := by decide +kernel
theorem dX10_lasts_64 : decode cX10_lasts 64 = .ok (.iload_n 2, 1) := by decide +kernel
theorem dX10_lasts_65 : decode cX10_lasts 65 = .ok (.ifCond .le 21, 3) := by decide +kernel
theorem dX10_lasts_68 : decode cX10_lasts 68 = .ok (.aload_n 0, 1) := by decide +kernel
theorem dX10_lasts_69 : decode cX10_lasts 69 = .ok (.getfield 20, 3) := by decide +kernel
theorem dX10_lasts_72 : decode cX10_lasts 72 = .ok (.getfield 192, 3) := by decide +kernel
theorem dX10_lasts_75 : decode cX10_lasts 75 = .ok (.iload_n 1, 1) := by decide +kernel
theorem dX10_lasts_76 : decode cX10_lasts 76 = .ok (.iaload, 1) := by decide +kernel
theorem dX10_lasts_77 : decode cX10_lasts 77 = .ok (.iload_n 2, 1) := by decide +kernel
theorem dX10_lasts_78 : decode cX10_lasts 78 = .ok (.iadd, 1) := by decide +kernel
theorem dX10_lasts_79 : decode cX10_lasts 79 = .ok (.iconst 1, 1) := by decide +kernel
theorem dX10_lasts_80 : decode cX10_lasts 80 = .ok (.isub, 1) := by decide +kernel
theorem dX10_lasts_81 : decode cX10_lasts 81 = .ok (.iload_n 2, 1) := by decide +kernel
theorem dX10_lasts_82 : decode cX10_lasts 82 = .ok (.idiv, 1) := by decide +kernel
theorem dX10_lasts_83 : decode cX10_lasts 83 = .ok (.goto 4, 3) := by decide +kernel
theorem dX10_lasts_86 : decode cX10_lasts 86 = .ok (.iconst (-1), 1) := by decide +kernel
theorem dX10_lasts_87 : decode cX10_lasts 87 = .ok (.ireturn, 1) := by decide +kernel
theorem dX10_meets_0 : decode cX10_meets 0 = .ok (.aload_n 0, 1) := by decide +kernel
theorem dX10_meets_1 : decode cX10_meets 1 = .ok (.getfield 20, 3) := by decide +kernel
theorem dX10_meets_4 : decode cX10_meets 4 = .ok (.iload_n 1, 1) := by decide +kernel
theorem dX10_meets_5 : decode cX10_meets 5 = .ok (.invokevirtual 88, 3) := by decide +kernel
theorem dX10_meets_8 : decode cX10_meets 8 = .ok (.ifCond .eq 14, 3) := by decide +kernel
theorem dX10_meets_11 : decode cX10_meets 11 = .ok (.aload_n 0, 1) := by decide +kernel
theorem dX10_meets_12 : decode cX10_meets 12 = .ok (.getfield 20, 3) := by decide +kernel
theorem dX10_meets_15 : decode cX10_meets 15 = .ok (.iload_n 2, 1) := by decide +kernel
theorem dX10_meets_16 : decode cX10_meets 16 = .ok (.invokevirtual 88, 3) := by decide +kernel
theorem dX10_meets_19 : decode cX10_meets 19 = .ok (.ifCond .ne 5, 3) := by decide +kernel
theorem dX10_meets_22 : decode cX10_meets 22 = .ok (.iconst (-1), 1) := by decide +kernel
theorem dX10_meets_23 : decode cX10_meets 23 = .ok (.ireturn, 1) := by decide +kernel
theorem dX10_meets_24 : decode cX10_meets 24 = .ok (.aload_n 0, 1) := by decide +kernel
theorem dX10_meets_25 : decode cX10_meets 25 = .ok (.getfield 12, 3) := by decide +kernel
theorem dX10_meets_28 : decode cX10_meets 28 = .ok (.getfield 170, 3) := by decide +kernel
theorem dX10_meets_31 : decode cX10_meets 31 = .ok (.getfield 290, 3) := by decide +kernel
theorem dX10_meets_34 : decode cX10_meets 34 = .ok (.iload_n 1, 1) := by decide +kernel
theorem dX10_meets_35 : decode cX10_meets 35 = .ok (.iaload, 1) := by decide +kernel
theorem dX10_meets_36 : decode cX10_meets 36 = .ok (.aload_n 0, 1) := by decide +kernel
theorem dX10_meets_37 : decode cX10_meets 37 = .ok (.getfield 12, 3) := by decide +kernel
theorem dX10_meets_40 : decode cX10_meets 40 = .ok (.getfield 170, 3) := by decide +kernel
theorem dX10_meets_43 : decode cX10_meets 43 = .ok (.getfield 290, 3) := by decide +kernel
theorem dX10_meets_46 : decode cX10_meets 46 = .ok (.iload_n 2, 1) := by decide +kernel
theorem dX10_meets_47 : decode cX10_meets 47 = .ok (.iaload, 1) := by decide +kernel
theorem dX10_meets_48 : decode cX10_meets 48 = .ok (.iand, 1) := by decide +kernel
theorem dX10_meets_49 : decode cX10_meets 49 = .ok (.ireturn, 1) := by decide +kernel
theorem dX10_game_0 : decode cX10_game 0 = .ok (.iload_n 1, 1) := by decide +kernel
theorem dX10_game_1 : decode cX10_game 1 = .ok (.iconst 0, 1) := by decide +kernel
theorem dX10_game_2 : decode cX10_game 2 = .ok (.iconst 1, 1) := by decide +kernel
theorem dX10_game_3 : decode cX10_game 3 = .ok (.invokestatic 71, 3) := by decide +kernel
theorem dX10_game_6 : decode cX10_game 6 = .ok (.ifCond .ne 5, 3) := by decide +kernel
theorem dX10_game_9 : decode cX10_game 9 = .ok (.iconst (-1), 1) := by decide +kernel
theorem dX10_game_10 : decode cX10_game 10 = .ok (.ireturn, 1) := by decide +kernel
theorem dX10_game_11 : decode cX10_game 11 = .ok (.iconst 0, 1) := by decide +kernel
theorem dX10_game_12 : decode cX10_game 12 = .ok (.istore_n 2, 1) := by decide +kernel
theorem dX10_game_13 : decode cX10_game 13 = .ok (.iconst 0, 1) := by decide +kernel
theorem dX10_game_14 : decode cX10_game 14 = .ok (.istore_n 3, 1) := by decide +kernel
theorem dX10_game_15 : decode cX10_game 15 = .ok (.iload_n 3, 1) := by decide +kernel
theorem dX10_game_16 : decode cX10_game 16 = .ok (.aload_n 0, 1) := by decide +kernel
theorem dX10_game_17 : decode cX10_game 17 = .ok (.getfield 20, 3) := by decide +kernel
theorem dX10_game_20 : decode cX10_game 20 = .ok (.getfield 109, 3) := by decide +kernel
theorem dX10_game_23 : decode cX10_game 23 = .ok (.if_icmp .ge 23, 3) := by decide +kernel
theorem dX10_game_26 : decode cX10_game 26 = .ok (.iload_n 2, 1) := by decide +kernel
theorem dX10_game_27 : decode cX10_game 27 = .ok (.aload_n 0, 1) := by decide +kernel
theorem dX10_game_28 : decode cX10_game 28 = .ok (.getfield 20, 3) := by decide +kernel
theorem dX10_game_31 : decode cX10_game 31 = .ok (.getfield 216, 3) := by decide +kernel
theorem dX10_game_34 : decode cX10_game 34 = .ok (.iload_n 3, 1) := by decide +kernel
theorem dX10_game_35 : decode cX10_game 35 = .ok (.iaload, 1) := by decide +kernel
theorem dX10_game_36 : decode cX10_game 36 = .ok (.iconst 3, 1) := by decide +kernel
theorem dX10_game_37 : decode cX10_game 37 = .ok (.iand, 1) := by decide +kernel
theorem dX10_game_38 : decode cX10_game 38 = .ok (.ixor, 1) := by decide +kernel
theorem dX10_game_39 : decode cX10_game 39 = .ok (.istore_n 2, 1) := by decide +kernel
theorem dX10_game_40 : decode cX10_game 40 = .ok (.iinc 3 1, 3) := by decide +kernel
theorem dX10_game_43 : decode cX10_game 43 = .ok (.goto (-28), 3) := by decide +kernel
theorem dX10_game_46 : decode cX10_game 46 = .ok (.iconst 0, 1) := by decide +kernel
theorem dX10_game_47 : decode cX10_game 47 = .ok (.istore_n 3, 1) := by decide +kernel
theorem dX10_game_48 : decode cX10_game 48 = .ok (.iload_n 3, 1) := by decide +kernel
theorem dX10_game_49 : decode cX10_game 49 = .ok (.aload_n 0, 1) := by decide +kernel
theorem dX10_game_50 : decode cX10_game 50 = .ok (.getfield 20, 3) := by decide +kernel
theorem dX10_game_53 : decode cX10_game 53 = .ok (.getfield 109, 3) := by decide +kernel
theorem dX10_game_56 : decode cX10_game 56 = .ok (.if_icmp .ge 45, 3) := by decide +kernel
theorem dX10_game_59 : decode cX10_game 59 = .ok (.iload_n 2, 1) := by decide +kernel
theorem dX10_game_60 : decode cX10_game 60 = .ok (.ifCond .eq 41, 3) := by decide +kernel
theorem dX10_game_63 : decode cX10_game 63 = .ok (.aload_n 0, 1) := by decide +kernel
theorem dX10_game_64 : decode cX10_game 64 = .ok (.getfield 20, 3) := by decide +kernel
theorem dX10_game_67 : decode cX10_game 67 = .ok (.getfield 216, 3) := by decide +kernel
theorem dX10_game_70 : decode cX10_game 70 = .ok (.iload_n 3, 1) := by decide +kernel
theorem dX10_game_71 : decode cX10_game 71 = .ok (.iaload, 1) := by decide +kernel
theorem dX10_game_72 : decode cX10_game 72 = .ok (.iload_n 2, 1) := by decide +kernel
theorem dX10_game_73 : decode cX10_game 73 = .ok (.invokestatic 306, 3) := by decide +kernel
theorem dX10_game_76 : decode cX10_game 76 = .ok (.istore 4, 2) := by decide +kernel
theorem dX10_game_78 : decode cX10_game 78 = .ok (.iload 4, 2) := by decide +kernel
theorem dX10_game_80 : decode cX10_game 80 = .ok (.iconst (-1), 1) := by decide +kernel
theorem dX10_game_81 : decode cX10_game 81 = .ok (.if_icmp .eq 14, 3) := by decide +kernel
theorem dX10_game_84 : decode cX10_game 84 = .ok (.iload_n 1, 1) := by decide +kernel
theorem dX10_game_85 : decode cX10_game 85 = .ok (.ifCond .ne 7, 3) := by decide +kernel
theorem dX10_game_88 : decode cX10_game 88 = .ok (.iload_n 3, 1) := by decide +kernel
theorem dX10_game_89 : decode cX10_game 89 = .ok (.goto 5, 3) := by decide +kernel
theorem dX10_game_92 : decode cX10_game 92 = .ok (.iload 4, 2) := by decide +kernel
theorem dX10_game_94 : decode cX10_game 94 = .ok (.ireturn, 1) := by decide +kernel
theorem dX10_game_95 : decode cX10_game 95 = .ok (.iinc 3 1, 3) := by decide +kernel
theorem dX10_game_98 : decode cX10_game 98 = .ok (.goto (-50), 3) := by decide +kernel
theorem dX10_game_101 : decode cX10_game 101 = .ok (.iconst (-1), 1) := by decide +kernel
theorem dX10_game_102 : decode cX10_game 102 = .ok (.ireturn, 1) := by decide +kernel
theorem dX10_undo_0 : decode cX10_undo 0 = .ok (.aload_n 0, 1) := by decide +kernel
theorem dX10_undo_1 : decode cX10_undo 1 = .ok (.getfield 309, 3) := by decide +kernel
theorem dX10_undo_4 : decode cX10_undo 4 = .ok (.ifCond .ne 5, 3) := by decide +kernel
theorem dX10_undo_7 : decode cX10_undo 7 = .ok (.iconst 0, 1) := by decide +kernel
theorem dX10_undo_8 : decode cX10_undo 8 = .ok (.ireturn, 1) := by decide +kernel
theorem dX10_undo_9 : decode cX10_undo 9 = .ok (.aload_n 0, 1) := by decide +kernel
theorem dX10_undo_10 : decode cX10_undo 10 = .ok (.aload_n 0, 1) := by decide +kernel
theorem dX10_undo_11 : decode cX10_undo 11 = .ok (.getfield 312, 3) := by decide +kernel
theorem dX10_undo_14 : decode cX10_undo 14 = .ok (.ifCond .le 12, 3) := by decide +kernel
theorem dX10_undo_17 : decode cX10_undo 17 = .ok (.aload_n 0, 1) := by decide +kernel
theorem dX10_undo_18 : decode cX10_undo 18 = .ok (.getfield 312, 3) := by decide +kernel
theorem dX10_undo_21 : decode cX10_undo 21 = .ok (.iconst 1, 1) := by decide +kernel
theorem dX10_undo_22 : decode cX10_undo 22 = .ok (.isub, 1) := by decide +kernel
theorem dX10_undo_23 : decode cX10_undo 23 = .ok (.goto 4, 3) := by decide +kernel
theorem dX10_undo_26 : decode cX10_undo 26 = .ok (.iconst 5, 1) := by decide +kernel
theorem dX10_undo_27 : decode cX10_undo 27 = .ok (.putfield 312, 3) := by decide +kernel
theorem dX10_undo_30 : decode cX10_undo 30 = .ok (.aload_n 0, 1) := by decide +kernel
theorem dX10_undo_31 : decode cX10_undo 31 = .ok (.dup, 1) := by decide +kernel
theorem dX10_undo_32 : decode cX10_undo 32 = .ok (.getfield 309, 3) := by decide +kernel
theorem dX10_undo_35 : decode cX10_undo 35 = .ok (.iconst 1, 1) := by decide +kernel
theorem dX10_undo_36 : decode cX10_undo 36 = .ok (.isub, 1) := by decide +kernel
theorem dX10_undo_37 : decode cX10_undo 37 = .ok (.putfield 309, 3) := by decide +kernel
theorem dX10_undo_40 : decode cX10_undo 40 = .ok (.aload_n 0, 1) := by decide +kernel
theorem dX10_undo_41 : decode cX10_undo 41 = .ok (.getfield 20, 3) := by decide +kernel
theorem dX10_undo_44 : decode cX10_undo 44 = .ok (.aload_n 0, 1) := by decide +kernel
theorem dX10_undo_45 : decode cX10_undo 45 = .ok (.getfield 28, 3) := by decide +kernel
theorem dX10_undo_48 : decode cX10_undo 48 = .ok (.aload_n 0, 1) := by decide +kernel
theorem dX10_undo_49 : decode cX10_undo 49 = .ok (.getfield 312, 3) := by decide +kernel
theorem dX10_undo_52 : decode cX10_undo 52 = .ok (.aaload, 1) := by decide +kernel
theorem dX10_undo_53 : decode cX10_undo 53 = .ok (.invokevirtual 248, 3) := by decide +kernel
theorem dX10_undo_56 : decode cX10_undo 56 = .ok (.iconst 1, 1) := by decide +kernel
theorem dX10_undo_57 : decode cX10_undo 57 = .ok (.ireturn, 1) := by decide +kernel
theorem dX10_image_0 : decode cX10_image 0 = .ok (.iload_n 1, 1) := by decide +kernel
theorem dX10_image_1 : decode cX10_image 1 = .ok (.ifCond .eq 21, 3) := by decide +kernel
theorem dX10_image_4 : decode cX10_image 4 = .ok (.aload_n 0, 1) := by decide +kernel
theorem dX10_image_5 : decode cX10_image 5 = .ok (.getfield 23, 3) := by decide +kernel
theorem dX10_image_8 : decode cX10_image 8 = .ok (.aload_n 0, 1) := by decide +kernel
theorem dX10_image_9 : decode cX10_image 9 = .ok (.getfield 12, 3) := by decide +kernel
theorem dX10_image_12 : decode cX10_image 12 = .ok (.invokevirtual 315, 3) := by decide +kernel
theorem dX10_image_15 : decode cX10_image 15 = .ok (.aload_n 0, 1) := by decide +kernel
theorem dX10_image_16 : decode cX10_image 16 = .ok (.iconst 1, 1) := by decide +kernel
theorem dX10_image_17 : decode cX10_image 17 = .ok (.putfield 318, 3) := by decide +kernel
theorem dX10_image_20 : decode cX10_image 20 = .ok (.iconst 1, 1) := by decide +kernel
theorem dX10_image_21 : decode cX10_image 21 = .ok (.ireturn, 1) := by decide +kernel
theorem dX10_image_22 : decode cX10_image 22 = .ok (.aload_n 0, 1) := by decide +kernel
theorem dX10_image_23 : decode cX10_image 23 = .ok (.getfield 318, 3) := by decide +kernel
theorem dX10_image_26 : decode cX10_image 26 = .ok (.ifCond .ne 5, 3) := by decide +kernel
theorem dX10_image_29 : decode cX10_image 29 = .ok (.iconst 0, 1) := by decide +kernel
theorem dX10_image_30 : decode cX10_image 30 = .ok (.ireturn, 1) := by decide +kernel
theorem dX10_image_31 : decode cX10_image 31 = .ok (.aload_n 0, 1) := by decide +kernel
theorem dX10_image_32 : decode cX10_image 32 = .ok (.getfield 12, 3) := by decide +kernel
theorem dX10_image_35 : decode cX10_image 35 = .ok (.aload_n 0, 1) := by decide +kernel
theorem dX10_image_36 : decode cX10_image 36 = .ok (.getfield 23, 3) := by decide +kernel
theorem dX10_image_39 : decode cX10_image 39 = .ok (.invokevirtual 315, 3) := by decide +kernel
theorem dX10_image_42 : decode cX10_image 42 = .ok (.aload_n 0, 1) := by decide +kernel
theorem dX10_image_43 : decode cX10_image 43 = .ok (.invokevirtual 68, 3) := by decide +kernel
theorem dX10_image_46 : decode cX10_image 46 = .ok (.iconst 1, 1) := by decide +kernel
theorem dX10_image_47 : decode cX10_image 47 = .ok (.ireturn, 1) := by decide +kernel
theorem dX10_look_0 : decode cX10_look 0 = .ok (.iload_n 1, 1) := by decide +kernel
theorem dX10_look_1 : decode cX10_look 1 = .ok (.tableswitch 216 0 15 #[79, 87, 95, 103, 111, 119, 127, 135, 143, 151, 159, 170, 181, 192, 203, 208], 79) := by decide +kernel
theorem dX10_look_80 : decode cX10_look 80 = .ok (.aload_n 0, 1) := by decide +kernel
theorem dX10_look_81 : decode cX10_look 81 = .ok (.getfield 20, 3) := by decide +kernel
theorem dX10_look_84 : decode cX10_look 84 = .ok (.getfield 75, 3) := by decide +kernel
theorem dX10_look_87 : decode cX10_look 87 = .ok (.ireturn, 1) := by decide +kernel
theorem dX10_look_88 : decode cX10_look 88 = .ok (.aload_n 0, 1) := by decide +kernel
theorem dX10_look_89 : decode cX10_look 89 = .ok (.getfield 20, 3) := by decide +kernel
theorem dX10_look_92 : decode cX10_look 92 = .ok (.getfield 109, 3) := by decide +kernel
theorem dX10_look_95 : decode cX10_look 95 = .ok (.ireturn, 1) := by decide +kernel
theorem dX10_look_96 : decode cX10_look 96 = .ok (.aload_n 0, 1) := by decide +kernel
theorem dX10_look_97 : decode cX10_look 97 = .ok (.getfield 20, 3) := by decide +kernel
theorem dX10_look_100 : decode cX10_look 100 = .ok (.getfield 82, 3) := by decide +kernel
theorem dX10_look_103 : decode cX10_look 103 = .ok (.ireturn, 1) := by decide +kernel
theorem dX10_look_104 : decode cX10_look 104 = .ok (.aload_n 0, 1) := by decide +kernel
theorem dX10_look_105 : decode cX10_look 105 = .ok (.getfield 20, 3) := by decide +kernel
theorem dX10_look_108 : decode cX10_look 108 = .ok (.getfield 140, 3) := by decide +kernel
theorem dX10_look_111 : decode cX10_look 111 = .ok (.ireturn, 1) := by decide +kernel
theorem dX10_look_112 : decode cX10_look 112 = .ok (.aload_n 0, 1) := by decide +kernel
theorem dX10_look_113 : decode cX10_look 113 = .ok (.getfield 20, 3) := by decide +kernel
theorem dX10_look_116 : decode cX10_look 116 = .ok (.getfield 322, 3) := by decide +kernel
theorem dX10_look_119 : decode cX10_look 119 = .ok (.ireturn, 1) := by decide +kernel
theorem dX10_look_120 : decode cX10_look 120 = .ok (.aload_n 0, 1) := by decide +kernel
theorem dX10_look_121 : decode cX10_look 121 = .ok (.getfield 20, 3) := by decide +kernel
theorem dX10_look_124 : decode cX10_look 124 = .ok (.getfield 325, 3) := by decide +kernel
theorem dX10_look_127 : decode cX10_look 127 = .ok (.ireturn, 1) := by decide +kernel
theorem dX10_look_128 : decode cX10_look 128 = .ok (.aload_n 0, 1) := by decide +kernel
theorem dX10_look_129 : decode cX10_look 129 = .ok (.getfield 20, 3) := by decide +kernel
theorem dX10_look_132 : decode cX10_look 132 = .ok (.getfield 328, 3) := by decide +kernel
theorem dX10_look_135 : decode cX10_look 135 = .ok (.ireturn, 1) := by decide +kernel
theorem dX10_look_136 : decode cX10_look 136 = .ok (.aload_n 0, 1) := by decide +kernel
theorem dX10_look_137 : decode cX10_look 137 = .ok (.getfield 20, 3) := by decide +kernel
theorem dX10_look_140 : decode cX10_look 140 = .ok (.getfield 331, 3) := by decide +kernel
theorem dX10_look_143 : decode cX10_look 143 = .ok (.ireturn, 1) := by decide +kernel
theorem dX10_look_144 : decode cX10_look 144 = .ok (.aload_n 0, 1) := by decide +kernel
theorem dX10_look_145 : decode cX10_look 145 = .ok (.getfield 20, 3) := by decide +kernel
theorem dX10_look_148 : decode cX10_look 148 = .ok (.getfield 242, 3) := by decide +kernel
theorem dX10_look_151 : decode cX10_look 151 = .ok (.ireturn, 1) := by decide +kernel
theorem dX10_look_152 : decode cX10_look 152 = .ok (.aload_n 0, 1) := by decide +kernel
theorem dX10_look_153 : decode cX10_look 153 = .ok (.getfield 20, 3) := by decide +kernel
theorem dX10_look_156 : decode cX10_look 156 = .ok (.getfield 64, 3) := by decide +kernel
theorem dX10_look_159 : decode cX10_look 159 = .ok (.ireturn, 1) := by decide +kernel
theorem dX10_look_160 : decode cX10_look 160 = .ok (.aload_n 0, 1) := by decide +kernel
theorem dX10_look_161 : decode cX10_look 161 = .ok (.getfield 12, 3) := by decide +kernel
theorem dX10_look_164 : decode cX10_look 164 = .ok (.getfield 162, 3) := by decide +kernel
theorem dX10_look_167 : decode cX10_look 167 = .ok (.getfield 334, 3) := by decide +kernel
theorem dX10_look_170 : decode cX10_look 170 = .ok (.ireturn, 1) := by decide +kernel
theorem dX10_look_171 : decode cX10_look 171 = .ok (.aload_n 0, 1) := by decide +kernel
theorem dX10_look_172 : decode cX10_look 172 = .ok (.getfield 12, 3) := by decide +kernel
theorem dX10_look_175 : decode cX10_look 175 = .ok (.getfield 170, 3) := by decide +kernel
theorem dX10_look_178 : decode cX10_look 178 = .ok (.getfield 335, 3) := by decide +kernel
theorem dX10_look_181 : decode cX10_look 181 = .ok (.ireturn, 1) := by decide +kernel
theorem dX10_look_182 : decode cX10_look 182 = .ok (.aload_n 0, 1) := by decide +kernel
theorem dX10_look_183 : decode cX10_look 183 = .ok (.getfield 12, 3) := by decide +kernel
theorem dX10_look_186 : decode cX10_look 186 = .ok (.getfield 178, 3) := by decide +kernel
theorem dX10_look_189 : decode cX10_look 189 = .ok (.getfield 336, 3) := by decide +kernel
theorem dX10_look_192 : decode cX10_look 192 = .ok (.ireturn, 1) := by decide +kernel
theorem dX10_look_193 : decode cX10_look 193 = .ok (.aload_n 0, 1) := by decide +kernel
theorem dX10_look_194 : decode cX10_look 194 = .ok (.getfield 12, 3) := by decide +kernel
theorem dX10_look_197 : decode cX10_look 197 = .ok (.getfield 278, 3) := by decide +kernel
theorem dX10_look_200 : decode cX10_look 200 = .ok (.getfield 282, 3) := by decide +kernel
theorem dX10_look_203 : decode cX10_look 203 = .ok (.ireturn, 1) := by decide +kernel
theorem dX10_look_204 : decode cX10_look 204 = .ok (.aload_n 0, 1) := by decide +kernel
theorem dX10_look_205 : decode cX10_look 205 = .ok (.getfield 309, 3) := by decide +kernel
theorem dX10_look_208 : decode cX10_look 208 = .ok (.ireturn, 1) := by decide +kernel
theorem dX10_look_209 : decode cX10_look 209 = .ok (.aload_n 0, 1) := by decide +kernel
theorem dX10_look_210 : decode cX10_look 210 = .ok (.getfield 20, 3) := by decide +kernel
theorem dX10_look_213 : decode cX10_look 213 = .ok (.getfield 339, 3) := by decide +kernel
theorem dX10_look_216 : decode cX10_look 216 = .ok (.ireturn, 1) := by decide +kernel
theorem dX10_look_217 : decode cX10_look 217 = .ok (.iconst (-1), 1) := by decide +kernel
theorem dX10_look_218 : decode cX10_look 218 = .ok (.ireturn, 1) := by decide +kernel
theorem dX10_isWithin_0 : decode cX10_isWithin 0 = .ok (.iload_n 0, 1) := by decide +kernel
theorem dX10_isWithin_1 : decode cX10_isWithin 1 = .ok (.iload_n 1, 1) := by decide +kernel
theorem dX10_isWithin_2 : decode cX10_isWithin 2 = .ok (.if_icmp .lt 12, 3) := by decide +kernel
theorem dX10_isWithin_5 : decode cX10_isWithin 5 = .ok (.iload_n 0, 1) := by decide +kernel
theorem dX10_isWithin_6 : decode cX10_isWithin 6 = .ok (.iload_n 2, 1) := by decide +kernel
theorem dX10_isWithin_7 : decode cX10_isWithin 7 = .ok (.if_icmp .gt 7, 3) := by decide +kernel
theorem dX10_isWithin_10 : decode cX10_isWithin 10 = .ok (.iconst 1, 1) := by decide +kernel
theorem dX10_isWithin_11 : decode cX10_isWithin 11 = .ok (.goto 4, 3) := by decide +kernel
theorem dX10_isWithin_14 : decode cX10_isWithin 14 = .ok (.iconst 0, 1) := by decide +kernel
theorem dX10_isWithin_15 : decode cX10_isWithin 15 = .ok (.ireturn, 1) := by decide +kernel
theorem dX10_isPlace_0 : decode cX10_isPlace 0 = .ok (.iload_n 0, 1) := by decide +kernel
theorem dX10_isPlace_1 : decode cX10_isPlace 1 = .ok (.ifCond .lt 13, 3) := by decide +kernel
theorem dX10_isPlace_4 : decode cX10_isPlace 4 = .ok (.iload_n 0, 1) := by decide +kernel
theorem dX10_isPlace_5 : decode cX10_isPlace 5 = .ok (.bipush 10, 2) := by decide +kernel
theorem dX10_isPlace_7 : decode cX10_isPlace 7 = .ok (.if_icmp .ge 7, 3) := by decide +kernel
theorem dX10_isPlace_10 : decode cX10_isPlace 10 = .ok (.iconst 1, 1) := by decide +kernel
theorem dX10_isPlace_11 : decode cX10_isPlace 11 = .ok (.goto 4, 3) := by decide +kernel
theorem dX10_isPlace_14 : decode cX10_isPlace 14 = .ok (.iconst 0, 1) := by decide +kernel
theorem dX10_isPlace_15 : decode cX10_isPlace 15 = .ok (.ireturn, 1) := by decide +kernel
theorem dX10_forget_0 : decode cX10_forget 0 = .ok (.aload_n 0, 1) := by decide +kernel
theorem dX10_forget_1 : decode cX10_forget 1 = .ok (.iconst 0, 1) := by decide +kernel
theorem dX10_forget_2 : decode cX10_forget 2 = .ok (.putfield 309, 3) := by decide +kernel
theorem dX10_forget_5 : decode cX10_forget 5 = .ok (.return_, 1) := by decide +kernel
theorem dX10_keep_0 : decode cX10_keep 0 = .ok (.aload_n 0, 1) := by decide +kernel
theorem dX10_keep_1 : decode cX10_keep 1 = .ok (.getfield 28, 3) := by decide +kernel
theorem dX10_keep_4 : decode cX10_keep 4 = .ok (.aload_n 0, 1) := by decide +kernel
theorem dX10_keep_5 : decode cX10_keep 5 = .ok (.getfield 312, 3) := by decide +kernel
theorem dX10_keep_8 : decode cX10_keep 8 = .ok (.aaload, 1) := by decide +kernel
theorem dX10_keep_9 : decode cX10_keep 9 = .ok (.aload_n 0, 1) := by decide +kernel
theorem dX10_keep_10 : decode cX10_keep 10 = .ok (.getfield 20, 3) := by decide +kernel
theorem dX10_keep_13 : decode cX10_keep 13 = .ok (.invokevirtual 248, 3) := by decide +kernel
theorem dX10_keep_16 : decode cX10_keep 16 = .ok (.aload_n 0, 1) := by decide +kernel
theorem dX10_keep_17 : decode cX10_keep 17 = .ok (.aload_n 0, 1) := by decide +kernel
theorem dX10_keep_18 : decode cX10_keep 18 = .ok (.getfield 312, 3) := by decide +kernel
theorem dX10_keep_21 : decode cX10_keep 21 = .ok (.iconst 5, 1) := by decide +kernel
theorem dX10_keep_22 : decode cX10_keep 22 = .ok (.if_icmp .ge 12, 3) := by decide +kernel
theorem dX10_keep_25 : decode cX10_keep 25 = .ok (.aload_n 0, 1) := by decide +kernel
theorem dX10_keep_26 : decode cX10_keep 26 = .ok (.getfield 312, 3) := by decide +kernel
theorem dX10_keep_29 : decode cX10_keep 29 = .ok (.iconst 1, 1) := by decide +kernel
theorem dX10_keep_30 : decode cX10_keep 30 = .ok (.iadd, 1) := by decide +kernel
theorem dX10_keep_31 : decode cX10_keep 31 = .ok (.goto 4, 3) := by decide +kernel
theorem dX10_keep_34 : decode cX10_keep 34 = .ok (.iconst 0, 1) := by decide +kernel
theorem dX10_keep_35 : decode cX10_keep 35 = .ok (.putfield 312, 3) := by decide +kernel
theorem dX10_keep_38 : decode cX10_keep 38 = .ok (.aload_n 0, 1) := by decide +kernel
theorem dX10_keep_39 : decode cX10_keep 39 = .ok (.bipush 6, 2) := by decide +kernel
theorem dX10_keep_41 : decode cX10_keep 41 = .ok (.aload_n 0, 1) := by decide +kernel
theorem dX10_keep_42 : decode cX10_keep 42 = .ok (.getfield 309, 3) := by decide +kernel
theorem dX10_keep_45 : decode cX10_keep 45 = .ok (.iconst 1, 1) := by decide +kernel
theorem dX10_keep_46 : decode cX10_keep 46 = .ok (.iadd, 1) := by decide +kernel
theorem dX10_keep_47 : decode cX10_keep 47 = .ok (.invokestatic 342, 3) := by decide +kernel
theorem dX10_keep_50 : decode cX10_keep 50 = .ok (.putfield 309, 3) := by decide +kernel
theorem dX10_keep_53 : decode cX10_keep 53 = .ok (.return_, 1) := by decide +kernel
theorem dX10_weeksToLastSeating_0 : decode cX10_weeksToLastSeating 0 = .ok (.iload_n 1, 1) := by decide +kernel
theorem dX10_weeksToLastSeating_1 : decode cX10_weeksToLastSeating 1 = .ok (.istore_n 2, 1) := by decide +kernel
theorem dX10_weeksToLastSeating_2 : decode cX10_weeksToLastSeating 2 = .ok (.iload_n 2, 1) := by decide +kernel
theorem dX10_weeksToLastSeating_3 : decode cX10_weeksToLastSeating 3 = .ok (.ifCond .le 41, 3) := by decide +kernel
theorem dX10_weeksToLastSeating_6 : decode cX10_weeksToLastSeating 6 = .ok (.aload_n 0, 1) := by decide +kernel
theorem dX10_weeksToLastSeating_7 : decode cX10_weeksToLastSeating 7 = .ok (.getfield 20, 3) := by decide +kernel
theorem dX10_weeksToLastSeating_10 : decode cX10_weeksToLastSeating 10 = .ok (.getfield 331, 3) := by decide +kernel
theorem dX10_weeksToLastSeating_13 : decode cX10_weeksToLastSeating 13 = .ok (.ifCond .le 25, 3) := by decide +kernel
theorem dX10_weeksToLastSeating_16 : decode cX10_weeksToLastSeating 16 = .ok (.aload_n 0, 1) := by decide +kernel
theorem dX10_weeksToLastSeating_17 : decode cX10_weeksToLastSeating 17 = .ok (.getfield 20, 3) := by decide +kernel
theorem dX10_weeksToLastSeating_20 : decode cX10_weeksToLastSeating 20 = .ok (.getfield 140, 3) := by decide +kernel
theorem dX10_weeksToLastSeating_23 : decode cX10_weeksToLastSeating 23 = .ok (.iload_n 2, 1) := by decide +kernel
theorem dX10_weeksToLastSeating_24 : decode cX10_weeksToLastSeating 24 = .ok (.iadd, 1) := by decide +kernel
theorem dX10_weeksToLastSeating_25 : decode cX10_weeksToLastSeating 25 = .ok (.aload_n 0, 1) := by decide +kernel
theorem dX10_weeksToLastSeating_26 : decode cX10_weeksToLastSeating 26 = .ok (.getfield 20, 3) := by decide +kernel
theorem dX10_weeksToLastSeating_29 : decode cX10_weeksToLastSeating 29 = .ok (.getfield 331, 3) := by decide +kernel
theorem dX10_weeksToLastSeating_32 : decode cX10_weeksToLastSeating 32 = .ok (.irem, 1) := by decide +kernel
theorem dX10_weeksToLastSeating_33 : decode cX10_weeksToLastSeating 33 = .ok (.ifCond .ne 5, 3) := by decide +kernel
theorem dX10_weeksToLastSeating_36 : decode cX10_weeksToLastSeating 36 = .ok (.iload_n 2, 1) := by decide +kernel
theorem dX10_weeksToLastSeating_37 : decode cX10_weeksToLastSeating 37 = .ok (.ireturn, 1) := by decide +kernel
theorem dX10_weeksToLastSeating_38 : decode cX10_weeksToLastSeating 38 = .ok (.iinc 2 (-1), 3) := by decide +kernel
theorem dX10_weeksToLastSeating_41 : decode cX10_weeksToLastSeating 41 = .ok (.goto (-39), 3) := by decide +kernel
theorem dX10_weeksToLastSeating_44 : decode cX10_weeksToLastSeating 44 = .ok (.iconst 0, 1) := by decide +kernel
theorem dX10_weeksToLastSeating_45 : decode cX10_weeksToLastSeating 45 = .ok (.ireturn, 1) := by decide +kernel
theorem dX10_firstPartyBehind_0 : decode cX10_firstPartyBehind 0 = .ok (.aload_n 0, 1) := by decide +kernel
theorem dX10_firstPartyBehind_1 : decode cX10_firstPartyBehind 1 = .ok (.getfield 57, 3) := by decide +kernel
theorem dX10_firstPartyBehind_4 : decode cX10_firstPartyBehind 4 = .ok (.aload_n 0, 1) := by decide +kernel
theorem dX10_firstPartyBehind_5 : decode cX10_firstPartyBehind 5 = .ok (.getfield 20, 3) := by decide +kernel
theorem dX10_firstPartyBehind_8 : decode cX10_firstPartyBehind 8 = .ok (.invokevirtual 248, 3) := by decide +kernel
theorem dX10_firstPartyBehind_11 : decode cX10_firstPartyBehind 11 = .ok (.aload_n 0, 1) := by decide +kernel
theorem dX10_firstPartyBehind_12 : decode cX10_firstPartyBehind 12 = .ok (.getfield 57, 3) := by decide +kernel
theorem dX10_firstPartyBehind_15 : decode cX10_firstPartyBehind 15 = .ok (.getfield 216, 3) := by decide +kernel
theorem dX10_firstPartyBehind_18 : decode cX10_firstPartyBehind 18 = .ok (.iload_n 1, 1) := by decide +kernel
theorem dX10_firstPartyBehind_19 : decode cX10_firstPartyBehind 19 = .ok (.dup2, 1) := by decide +kernel
theorem dX10_firstPartyBehind_20 : decode cX10_firstPartyBehind 20 = .ok (.iaload, 1) := by decide +kernel
theorem dX10_firstPartyBehind_21 : decode cX10_firstPartyBehind 21 = .ok (.iload_n 2, 1) := by decide +kernel
theorem dX10_firstPartyBehind_22 : decode cX10_firstPartyBehind 22 = .ok (.isub, 1) := by decide +kernel
theorem dX10_firstPartyBehind_23 : decode cX10_firstPartyBehind 23 = .ok (.iastore, 1) := by decide +kernel
theorem dX10_firstPartyBehind_24 : decode cX10_firstPartyBehind 24 = .ok (.aload_n 0, 1) := by decide +kernel
theorem dX10_firstPartyBehind_25 : decode cX10_firstPartyBehind 25 = .ok (.getfield 53, 3) := by decide +kernel
theorem dX10_firstPartyBehind_28 : decode cX10_firstPartyBehind 28 = .ok (.aload_n 0, 1) := by decide +kernel
theorem dX10_firstPartyBehind_29 : decode cX10_firstPartyBehind 29 = .ok (.getfield 12, 3) := by decide +kernel
theorem dX10_firstPartyBehind_32 : decode cX10_firstPartyBehind 32 = .ok (.aload_n 0, 1) := by decide +kernel
theorem dX10_firstPartyBehind_33 : decode cX10_firstPartyBehind 33 = .ok (.getfield 57, 3) := by decide +kernel
theorem dX10_firstPartyBehind_36 : decode cX10_firstPartyBehind 36 = .ok (.iload_n 3, 1) := by decide +kernel
theorem dX10_firstPartyBehind_37 : decode cX10_firstPartyBehind 37 = .ok (.invokevirtual 143, 3) := by decide +kernel
theorem dX10_firstPartyBehind_40 : decode cX10_firstPartyBehind 40 = .ok (.aload_n 0, 1) := by decide +kernel
theorem dX10_firstPartyBehind_41 : decode cX10_firstPartyBehind 41 = .ok (.getfield 57, 3) := by decide +kernel
theorem dX10_firstPartyBehind_44 : decode cX10_firstPartyBehind 44 = .ok (.invokevirtual 347, 3) := by decide +kernel
theorem dX10_firstPartyBehind_47 : decode cX10_firstPartyBehind 47 = .ok (.ireturn, 1) := by decide +kernel
theorem dX10_isEachFedAt_0 : decode cX10_isEachFedAt 0 = .ok (.iconst 0, 1) := by decide +kernel
theorem dX10_isEachFedAt_1 : decode cX10_isEachFedAt 1 = .ok (.istore_n 2, 1) := by decide +kernel
theorem dX10_isEachFedAt_2 : decode cX10_isEachFedAt 2 = .ok (.iload_n 2, 1) := by decide +kernel
theorem dX10_isEachFedAt_3 : decode cX10_isEachFedAt 3 = .ok (.aload_n 0, 1) := by decide +kernel
theorem dX10_isEachFedAt_4 : decode cX10_isEachFedAt 4 = .ok (.getfield 20, 3) := by decide +kernel
theorem dX10_isEachFedAt_7 : decode cX10_isEachFedAt 7 = .ok (.getfield 82, 3) := by decide +kernel
theorem dX10_isEachFedAt_10 : decode cX10_isEachFedAt 10 = .ok (.if_icmp .ge 34, 3) := by decide +kernel
theorem dX10_isEachFedAt_13 : decode cX10_isEachFedAt 13 = .ok (.aload_n 0, 1) := by decide +kernel
theorem dX10_isEachFedAt_14 : decode cX10_isEachFedAt 14 = .ok (.getfield 12, 3) := by decide +kernel
theorem dX10_isEachFedAt_17 : decode cX10_isEachFedAt 17 = .ok (.getfield 170, 3) := by decide +kernel
theorem dX10_isEachFedAt_20 : decode cX10_isEachFedAt 20 = .ok (.getfield 290, 3) := by decide +kernel
theorem dX10_isEachFedAt_23 : decode cX10_isEachFedAt 23 = .ok (.iload_n 2, 1) := by decide +kernel
theorem dX10_isEachFedAt_24 : decode cX10_isEachFedAt 24 = .ok (.iaload, 1) := by decide +kernel
theorem dX10_isEachFedAt_25 : decode cX10_isEachFedAt 25 = .ok (.istore_n 3, 1) := by decide +kernel
theorem dX10_isEachFedAt_26 : decode cX10_isEachFedAt 26 = .ok (.iload_n 3, 1) := by decide +kernel
theorem dX10_isEachFedAt_27 : decode cX10_isEachFedAt 27 = .ok (.ifCond .eq 11, 3) := by decide +kernel
theorem dX10_isEachFedAt_30 : decode cX10_isEachFedAt 30 = .ok (.iload_n 3, 1) := by decide +kernel
theorem dX10_isEachFedAt_31 : decode cX10_isEachFedAt 31 = .ok (.iload_n 1, 1) := by decide +kernel
theorem dX10_isEachFedAt_32 : decode cX10_isEachFedAt 32 = .ok (.iand, 1) := by decide +kernel
theorem dX10_isEachFedAt_33 : decode cX10_isEachFedAt 33 = .ok (.ifCond .ne 5, 3) := by decide +kernel
theorem dX10_isEachFedAt_36 : decode cX10_isEachFedAt 36 = .ok (.iconst 0, 1) := by decide +kernel
theorem dX10_isEachFedAt_37 : decode cX10_isEachFedAt 37 = .ok (.ireturn, 1) := by decide +kernel
theorem dX10_isEachFedAt_38 : decode cX10_isEachFedAt 38 = .ok (.iinc 2 1, 3) := by decide +kernel
theorem dX10_isEachFedAt_41 : decode cX10_isEachFedAt 41 = .ok (.goto (-39), 3) := by decide +kernel
theorem dX10_isEachFedAt_44 : decode cX10_isEachFedAt 44 = .ok (.iconst 1, 1) := by decide +kernel
theorem dX10_isEachFedAt_45 : decode cX10_isEachFedAt 45 = .ok (.ireturn, 1) := by decide +kernel
theorem dX10_askNext_0 : decode cX10_askNext 0 = .ok (.iload_n 1, 1) := by decide +kernel
theorem dX10_askNext_1 : decode cX10_askNext 1 = .ok (.invokestatic 270, 3) := by decide +kernel
theorem dX10_askNext_4 : decode cX10_askNext 4 = .ok (.istore_n 2, 1) := by decide +kernel
theorem dX10_askNext_5 : decode cX10_askNext 5 = .ok (.iload_n 2, 1) := by decide +kernel
theorem dX10_askNext_6 : decode cX10_askNext 6 = .ok (.iconst 2, 1) := by decide +kernel
theorem dX10_askNext_7 : decode cX10_askNext 7 = .ok (.if_icmp .ge 5, 3) := by decide +kernel
theorem dX10_askNext_10 : decode cX10_askNext 10 = .ok (.iconst (-1), 1) := by decide +kernel
theorem dX10_askNext_11 : decode cX10_askNext 11 = .ok (.ireturn, 1) := by decide +kernel
theorem dX10_askNext_12 : decode cX10_askNext 12 = .ok (.iconst (-1), 1) := by decide +kernel
theorem dX10_askNext_13 : decode cX10_askNext 13 = .ok (.istore_n 3, 1) := by decide +kernel
theorem dX10_askNext_14 : decode cX10_askNext 14 = .ok (.iload_n 2, 1) := by decide +kernel
theorem dX10_askNext_15 : decode cX10_askNext 15 = .ok (.iconst 1, 1) := by decide +kernel
theorem dX10_askNext_16 : decode cX10_askNext 16 = .ok (.iadd, 1) := by decide +kernel
theorem dX10_askNext_17 : decode cX10_askNext 17 = .ok (.istore 4, 2) := by decide +kernel
theorem dX10_askNext_19 : decode cX10_askNext 19 = .ok (.iconst 0, 1) := by decide +kernel
theorem dX10_askNext_20 : decode cX10_askNext 20 = .ok (.istore 5, 2) := by decide +kernel
theorem dX10_askNext_22 : decode cX10_askNext 22 = .ok (.iload 5, 2) := by decide +kernel
theorem dX10_askNext_24 : decode cX10_askNext 24 = .ok (.aload_n 0, 1) := by decide +kernel
theorem dX10_askNext_25 : decode cX10_askNext 25 = .ok (.getfield 20, 3) := by decide +kernel
theorem dX10_askNext_28 : decode cX10_askNext 28 = .ok (.getfield 75, 3) := by decide +kernel
theorem dX10_askNext_31 : decode cX10_askNext 31 = .ok (.if_icmp .ge 86, 3) := by decide +kernel
theorem dX10_askNext_34 : decode cX10_askNext 34 = .ok (.iconst 0, 1) := by decide +kernel
theorem dX10_askNext_35 : decode cX10_askNext 35 = .ok (.istore 6, 2) := by decide +kernel
theorem dX10_askNext_37 : decode cX10_askNext 37 = .ok (.iconst 0, 1) := by decide +kernel
theorem dX10_askNext_38 : decode cX10_askNext 38 = .ok (.istore 7, 2) := by decide +kernel
theorem dX10_askNext_40 : decode cX10_askNext 40 = .ok (.iload 7, 2) := by decide +kernel
theorem dX10_askNext_42 : decode cX10_askNext 42 = .ok (.aload_n 0, 1) := by decide +kernel
theorem dX10_askNext_43 : decode cX10_askNext 43 = .ok (.getfield 20, 3) := by decide +kernel
theorem dX10_askNext_46 : decode cX10_askNext 46 = .ok (.getfield 82, 3) := by decide +kernel
theorem dX10_askNext_49 : decode cX10_askNext 49 = .ok (.if_icmp .ge 37, 3) := by decide +kernel
theorem dX10_askNext_52 : decode cX10_askNext 52 = .ok (.iload_n 1, 1) := by decide +kernel
theorem dX10_askNext_53 : decode cX10_askNext 53 = .ok (.iload 7, 2) := by decide +kernel
theorem dX10_askNext_55 : decode cX10_askNext 55 = .ok (.ishr, 1) := by decide +kernel
theorem dX10_askNext_56 : decode cX10_askNext 56 = .ok (.iconst 1, 1) := by decide +kernel
theorem dX10_askNext_57 : decode cX10_askNext 57 = .ok (.iand, 1) := by decide +kernel
theorem dX10_askNext_58 : decode cX10_askNext 58 = .ok (.iconst 1, 1) := by decide +kernel
theorem dX10_askNext_59 : decode cX10_askNext 59 = .ok (.if_icmp .ne 21, 3) := by decide +kernel
theorem dX10_askNext_62 : decode cX10_askNext 62 = .ok (.aload_n 0, 1) := by decide +kernel
theorem dX10_askNext_63 : decode cX10_askNext 63 = .ok (.getfield 20, 3) := by decide +kernel
theorem dX10_askNext_66 : decode cX10_askNext 66 = .ok (.iload 7, 2) := by decide +kernel
theorem dX10_askNext_68 : decode cX10_askNext 68 = .ok (.iload 5, 2) := by decide +kernel
theorem dX10_askNext_70 : decode cX10_askNext 70 = .ok (.invokevirtual 239, 3) := by decide +kernel
theorem dX10_askNext_73 : decode cX10_askNext 73 = .ok (.iconst 5, 1) := by decide +kernel
theorem dX10_askNext_74 : decode cX10_askNext 74 = .ok (.if_icmp .lt 6, 3) := by decide +kernel
theorem dX10_askNext_77 : decode cX10_askNext 77 = .ok (.iinc 6 1, 3) := by decide +kernel
theorem dX10_askNext_80 : decode cX10_askNext 80 = .ok (.iinc 7 1, 3) := by decide +kernel
theorem dX10_askNext_83 : decode cX10_askNext 83 = .ok (.goto (-43), 3) := by decide +kernel
theorem dX10_askNext_86 : decode cX10_askNext 86 = .ok (.iload 6, 2) := by decide +kernel
theorem dX10_askNext_88 : decode cX10_askNext 88 = .ok (.iload_n 2, 1) := by decide +kernel
theorem dX10_askNext_89 : decode cX10_askNext 89 = .ok (.iload 6, 2) := by decide +kernel
theorem dX10_askNext_91 : decode cX10_askNext 91 = .ok (.isub, 1) := by decide +kernel
theorem dX10_askNext_92 : decode cX10_askNext 92 = .ok (.invokestatic 351, 3) := by decide +kernel
theorem dX10_askNext_95 : decode cX10_askNext 95 = .ok (.istore 7, 2) := by decide +kernel
theorem dX10_askNext_97 : decode cX10_askNext 97 = .ok (.iload 7, 2) := by decide +kernel
theorem dX10_askNext_99 : decode cX10_askNext 99 = .ok (.iload 4, 2) := by decide +kernel
theorem dX10_askNext_101 : decode cX10_askNext 101 = .ok (.if_icmp .ge 10, 3) := by decide +kernel
theorem dX10_askNext_104 : decode cX10_askNext 104 = .ok (.iload 5, 2) := by decide +kernel
theorem dX10_askNext_106 : decode cX10_askNext 106 = .ok (.istore_n 3, 1) := by decide +kernel
theorem dX10_askNext_107 : decode cX10_askNext 107 = .ok (.iload 7, 2) := by decide +kernel
theorem dX10_askNext_109 : decode cX10_askNext 109 = .ok (.istore 4, 2) := by decide +kernel
theorem dX10_askNext_111 : decode cX10_askNext 111 = .ok (.iinc 5 1, 3) := by decide +kernel
theorem dX10_askNext_114 : decode cX10_askNext 114 = .ok (.goto (-92), 3) := by decide +kernel
theorem dX10_askNext_117 : decode cX10_askNext 117 = .ok (.iload_n 3, 1) := by decide +kernel
theorem dX10_askNext_118 : decode cX10_askNext 118 = .ok (.ireturn, 1) := by decide +kernel
theorem dX10_leaveUpTo_0 : decode cX10_leaveUpTo 0 = .ok (.iload_n 2, 1) := by decide +kernel
theorem dX10_leaveUpTo_1 : decode cX10_leaveUpTo 1 = .ok (.istore_n 3, 1) := by decide +kernel
theorem dX10_leaveUpTo_2 : decode cX10_leaveUpTo 2 = .ok (.iload_n 3, 1) := by decide +kernel
theorem dX10_leaveUpTo_3 : decode cX10_leaveUpTo 3 = .ok (.ifCond .lt 59, 3) := by decide +kernel
theorem dX10_leaveUpTo_6 : decode cX10_leaveUpTo 6 = .ok (.lconst 0, 1) := by decide +kernel
theorem dX10_leaveUpTo_7 : decode cX10_leaveUpTo 7 = .ok (.lstore 4, 2) := by decide +kernel
theorem dX10_leaveUpTo_9 : decode cX10_leaveUpTo 9 = .ok (.iconst 0, 1) := by decide +kernel
theorem dX10_leaveUpTo_10 : decode cX10_leaveUpTo 10 = .ok (.istore 6, 2) := by decide +kernel
theorem dX10_leaveUpTo_12 : decode cX10_leaveUpTo 12 = .ok (.iload 6, 2) := by decide +kernel
theorem dX10_leaveUpTo_14 : decode cX10_leaveUpTo 14 = .ok (.iload_n 1, 1) := by decide +kernel
theorem dX10_leaveUpTo_15 : decode cX10_leaveUpTo 15 = .ok (.if_icmp .gt 29, 3) := by decide +kernel
theorem dX10_leaveUpTo_18 : decode cX10_leaveUpTo 18 = .ok (.iload 6, 2) := by decide +kernel
theorem dX10_leaveUpTo_20 : decode cX10_leaveUpTo 20 = .ok (.iload_n 3, 1) := by decide +kernel
theorem dX10_leaveUpTo_21 : decode cX10_leaveUpTo 21 = .ok (.if_icmp .gt 23, 3) := by decide +kernel
theorem dX10_leaveUpTo_24 : decode cX10_leaveUpTo 24 = .ok (.lload 4, 2) := by decide +kernel
theorem dX10_leaveUpTo_26 : decode cX10_leaveUpTo 26 = .ok (.aload_n 0, 1) := by decide +kernel
theorem dX10_leaveUpTo_27 : decode cX10_leaveUpTo 27 = .ok (.getfield 60, 3) := by decide +kernel
theorem dX10_leaveUpTo_30 : decode cX10_leaveUpTo 30 = .ok (.iload_n 3, 1) := by decide +kernel
theorem dX10_leaveUpTo_31 : decode cX10_leaveUpTo 31 = .ok (.iload 6, 2) := by decide +kernel
theorem dX10_leaveUpTo_33 : decode cX10_leaveUpTo 33 = .ok (.isub, 1) := by decide +kernel
theorem dX10_leaveUpTo_34 : decode cX10_leaveUpTo 34 = .ok (.laload, 1) := by decide +kernel
theorem dX10_leaveUpTo_35 : decode cX10_leaveUpTo 35 = .ok (.ladd, 1) := by decide +kernel
theorem dX10_leaveUpTo_36 : decode cX10_leaveUpTo 36 = .ok (.lstore 4, 2) := by decide +kernel
theorem dX10_leaveUpTo_38 : decode cX10_leaveUpTo 38 = .ok (.iinc 6 1, 3) := by decide +kernel
theorem dX10_leaveUpTo_41 : decode cX10_leaveUpTo 41 = .ok (.goto (-29), 3) := by decide +kernel
theorem dX10_leaveUpTo_44 : decode cX10_leaveUpTo 44 = .ok (.aload_n 0, 1) := by decide +kernel
theorem dX10_leaveUpTo_45 : decode cX10_leaveUpTo 45 = .ok (.getfield 60, 3) := by decide +kernel
theorem dX10_leaveUpTo_48 : decode cX10_leaveUpTo 48 = .ok (.iload_n 3, 1) := by decide +kernel
theorem dX10_leaveUpTo_49 : decode cX10_leaveUpTo 49 = .ok (.lload 4, 2) := by decide +kernel
theorem dX10_leaveUpTo_51 : decode cX10_leaveUpTo 51 = .ok (.ldc2_w 354, 3) := by decide +kernel
theorem dX10_leaveUpTo_54 : decode cX10_leaveUpTo 54 = .ok (.lrem, 1) := by decide +kernel
theorem dX10_leaveUpTo_55 : decode cX10_leaveUpTo 55 = .ok (.lastore, 1) := by decide +kernel
theorem dX10_leaveUpTo_56 : decode cX10_leaveUpTo 56 = .ok (.iinc 3 (-1), 3) := by decide +kernel
theorem dX10_leaveUpTo_59 : decode cX10_leaveUpTo 59 = .ok (.goto (-57), 3) := by decide +kernel
theorem dX10_leaveUpTo_62 : decode cX10_leaveUpTo 62 = .ok (.return_, 1) := by decide +kernel
theorem dX10_goodPick_0 : decode cX10_goodPick 0 = .ok (.iload_n 0, 1) := by decide +kernel
theorem dX10_goodPick_1 : decode cX10_goodPick 1 = .ok (.iconst 3, 1) := by decide +kernel
theorem dX10_goodPick_2 : decode cX10_goodPick 2 = .ok (.iand, 1) := by decide +kernel
theorem dX10_goodPick_3 : decode cX10_goodPick 3 = .ok (.iload_n 1, 1) := by decide +kernel
theorem dX10_goodPick_4 : decode cX10_goodPick 4 = .ok (.ixor, 1) := by decide +kernel
theorem dX10_goodPick_5 : decode cX10_goodPick 5 = .ok (.istore_n 2, 1) := by decide +kernel
theorem dX10_goodPick_6 : decode cX10_goodPick 6 = .ok (.iconst 1, 1) := by decide +kernel
theorem dX10_goodPick_7 : decode cX10_goodPick 7 = .ok (.istore_n 3, 1) := by decide +kernel
theorem dX10_goodPick_8 : decode cX10_goodPick 8 = .ok (.iload_n 3, 1) := by decide +kernel
theorem dX10_goodPick_9 : decode cX10_goodPick 9 = .ok (.iconst 3, 1) := by decide +kernel
theorem dX10_goodPick_10 : decode cX10_goodPick 10 = .ok (.if_icmp .gt 25, 3) := by decide +kernel
theorem dX10_goodPick_13 : decode cX10_goodPick 13 = .ok (.iload_n 3, 1) := by decide +kernel
theorem dX10_goodPick_14 : decode cX10_goodPick 14 = .ok (.iload_n 0, 1) := by decide +kernel
theorem dX10_goodPick_15 : decode cX10_goodPick 15 = .ok (.if_icmp .gt 20, 3) := by decide +kernel
theorem dX10_goodPick_18 : decode cX10_goodPick 18 = .ok (.iload_n 0, 1) := by decide +kernel
theorem dX10_goodPick_19 : decode cX10_goodPick 19 = .ok (.iload_n 3, 1) := by decide +kernel
theorem dX10_goodPick_20 : decode cX10_goodPick 20 = .ok (.isub, 1) := by decide +kernel
theorem dX10_goodPick_21 : decode cX10_goodPick 21 = .ok (.iconst 3, 1) := by decide +kernel
theorem dX10_goodPick_22 : decode cX10_goodPick 22 = .ok (.iand, 1) := by decide +kernel
theorem dX10_goodPick_23 : decode cX10_goodPick 23 = .ok (.iload_n 2, 1) := by decide +kernel
theorem dX10_goodPick_24 : decode cX10_goodPick 24 = .ok (.if_icmp .ne 5, 3) := by decide +kernel
theorem dX10_goodPick_27 : decode cX10_goodPick 27 = .ok (.iload_n 3, 1) := by decide +kernel
theorem dX10_goodPick_28 : decode cX10_goodPick 28 = .ok (.ireturn, 1) := by decide +kernel
theorem dX10_goodPick_29 : decode cX10_goodPick 29 = .ok (.iinc 3 1, 3) := by decide +kernel
theorem dX10_goodPick_32 : decode cX10_goodPick 32 = .ok (.goto (-24), 3) := by decide +kernel
theorem dX10_goodPick_35 : decode cX10_goodPick 35 = .ok (.iconst (-1), 1) := by decide +kernel
theorem dX10_goodPick_36 : decode cX10_goodPick 36 = .ok (.ireturn, 1) := by decide +kernel
theorem dJ6_bitCount_0f7a4_0 : decode cJ6_bitCount_0f7a4 0 = .ok (.iload_n 0, 1) := by decide +kernel
theorem dJ6_bitCount_0f7a4_1 : decode cJ6_bitCount_0f7a4 1 = .ok (.iload_n 0, 1) := by decide +kernel
theorem dJ6_bitCount_0f7a4_2 : decode cJ6_bitCount_0f7a4 2 = .ok (.iconst 1, 1) := by decide +kernel
theorem dJ6_bitCount_0f7a4_3 : decode cJ6_bitCount_0f7a4 3 = .ok (.iushr, 1) := by decide +kernel
theorem dJ6_bitCount_0f7a4_4 : decode cJ6_bitCount_0f7a4 4 = .ok (.ldc_w 265, 3) := by decide +kernel
theorem dJ6_bitCount_0f7a4_7 : decode cJ6_bitCount_0f7a4 7 = .ok (.iand, 1) := by decide +kernel
theorem dJ6_bitCount_0f7a4_8 : decode cJ6_bitCount_0f7a4 8 = .ok (.isub, 1) := by decide +kernel
theorem dJ6_bitCount_0f7a4_9 : decode cJ6_bitCount_0f7a4 9 = .ok (.istore_n 0, 1) := by decide +kernel
theorem dJ6_bitCount_0f7a4_10 : decode cJ6_bitCount_0f7a4 10 = .ok (.iload_n 0, 1) := by decide +kernel
theorem dJ6_bitCount_0f7a4_11 : decode cJ6_bitCount_0f7a4 11 = .ok (.ldc_w 266, 3) := by decide +kernel
theorem dJ6_bitCount_0f7a4_14 : decode cJ6_bitCount_0f7a4 14 = .ok (.iand, 1) := by decide +kernel
theorem dJ6_bitCount_0f7a4_15 : decode cJ6_bitCount_0f7a4 15 = .ok (.iload_n 0, 1) := by decide +kernel
theorem dJ6_bitCount_0f7a4_16 : decode cJ6_bitCount_0f7a4 16 = .ok (.iconst 2, 1) := by decide +kernel
theorem dJ6_bitCount_0f7a4_17 : decode cJ6_bitCount_0f7a4 17 = .ok (.iushr, 1) := by decide +kernel
theorem dJ6_bitCount_0f7a4_18 : decode cJ6_bitCount_0f7a4 18 = .ok (.ldc_w 266, 3) := by decide +kernel
theorem dJ6_bitCount_0f7a4_21 : decode cJ6_bitCount_0f7a4 21 = .ok (.iand, 1) := by decide +kernel
theorem dJ6_bitCount_0f7a4_22 : decode cJ6_bitCount_0f7a4 22 = .ok (.iadd, 1) := by decide +kernel
theorem dJ6_bitCount_0f7a4_23 : decode cJ6_bitCount_0f7a4 23 = .ok (.istore_n 0, 1) := by decide +kernel
theorem dJ6_bitCount_0f7a4_24 : decode cJ6_bitCount_0f7a4 24 = .ok (.iload_n 0, 1) := by decide +kernel
theorem dJ6_bitCount_0f7a4_25 : decode cJ6_bitCount_0f7a4 25 = .ok (.iload_n 0, 1) := by decide +kernel
theorem dJ6_bitCount_0f7a4_26 : decode cJ6_bitCount_0f7a4 26 = .ok (.iconst 4, 1) := by decide +kernel
theorem dJ6_bitCount_0f7a4_27 : decode cJ6_bitCount_0f7a4 27 = .ok (.iushr, 1) := by decide +kernel
theorem dJ6_bitCount_0f7a4_28 : decode cJ6_bitCount_0f7a4 28 = .ok (.iadd, 1) := by decide +kernel
theorem dJ6_bitCount_0f7a4_29 : decode cJ6_bitCount_0f7a4 29 = .ok (.ldc_w 267, 3) := by decide +kernel
theorem dJ6_bitCount_0f7a4_32 : decode cJ6_bitCount_0f7a4 32 = .ok (.iand, 1) := by decide +kernel
theorem dJ6_bitCount_0f7a4_33 : decode cJ6_bitCount_0f7a4 33 = .ok (.istore_n 0, 1) := by decide +kernel
theorem dJ6_bitCount_0f7a4_34 : decode cJ6_bitCount_0f7a4 34 = .ok (.iload_n 0, 1) := by decide +kernel
theorem dJ6_bitCount_0f7a4_35 : decode cJ6_bitCount_0f7a4 35 = .ok (.iload_n 0, 1) := by decide +kernel
theorem dJ6_bitCount_0f7a4_36 : decode cJ6_bitCount_0f7a4 36 = .ok (.bipush 8, 2) := by decide +kernel
theorem dJ6_bitCount_0f7a4_38 : decode cJ6_bitCount_0f7a4 38 = .ok (.iushr, 1) := by decide +kernel
theorem dJ6_bitCount_0f7a4_39 : decode cJ6_bitCount_0f7a4 39 = .ok (.iadd, 1) := by decide +kernel
theorem dJ6_bitCount_0f7a4_40 : decode cJ6_bitCount_0f7a4 40 = .ok (.istore_n 0, 1) := by decide +kernel
theorem dJ6_bitCount_0f7a4_41 : decode cJ6_bitCount_0f7a4 41 = .ok (.iload_n 0, 1) := by decide +kernel
theorem dJ6_bitCount_0f7a4_42 : decode cJ6_bitCount_0f7a4 42 = .ok (.iload_n 0, 1) := by decide +kernel
theorem dJ6_bitCount_0f7a4_43 : decode cJ6_bitCount_0f7a4 43 = .ok (.bipush 16, 2) := by decide +kernel
theorem dJ6_bitCount_0f7a4_45 : decode cJ6_bitCount_0f7a4 45 = .ok (.iushr, 1) := by decide +kernel
theorem dJ6_bitCount_0f7a4_46 : decode cJ6_bitCount_0f7a4 46 = .ok (.iadd, 1) := by decide +kernel
theorem dJ6_bitCount_0f7a4_47 : decode cJ6_bitCount_0f7a4 47 = .ok (.istore_n 0, 1) := by decide +kernel
theorem dJ6_bitCount_0f7a4_48 : decode cJ6_bitCount_0f7a4 48 = .ok (.iload_n 0, 1) := by decide +kernel
theorem dJ6_bitCount_0f7a4_49 : decode cJ6_bitCount_0f7a4 49 = .ok (.bipush 63, 2) := by decide +kernel
theorem dJ6_bitCount_0f7a4_51 : decode cJ6_bitCount_0f7a4 51 = .ok (.iand, 1) := by decide +kernel
theorem dJ6_bitCount_0f7a4_52 : decode cJ6_bitCount_0f7a4 52 = .ok (.ireturn, 1) := by decide +kernel
theorem dJ9_max_7cf53_0 : decode cJ9_max_7cf53 0 = .ok (.iload_n 0, 1) := by decide +kernel
theorem dJ9_max_7cf53_1 : decode cJ9_max_7cf53 1 = .ok (.iload_n 1, 1) := by decide +kernel
theorem dJ9_max_7cf53_2 : decode cJ9_max_7cf53 2 = .ok (.if_icmp .lt 7, 3) := by decide +kernel
theorem dJ9_max_7cf53_5 : decode cJ9_max_7cf53 5 = .ok (.iload_n 0, 1) := by decide +kernel
theorem dJ9_max_7cf53_6 : decode cJ9_max_7cf53 6 = .ok (.goto 4, 3) := by decide +kernel
theorem dJ9_max_7cf53_9 : decode cJ9_max_7cf53 9 = .ok (.iload_n 1, 1) := by decide +kernel
theorem dJ9_max_7cf53_10 : decode cJ9_max_7cf53 10 = .ok (.ireturn, 1) := by decide +kernel
theorem dJ9_min_7cf53_0 : decode cJ9_min_7cf53 0 = .ok (.iload_n 0, 1) := by decide +kernel
theorem dJ9_min_7cf53_1 : decode cJ9_min_7cf53 1 = .ok (.iload_n 1, 1) := by decide +kernel
theorem dJ9_min_7cf53_2 : decode cJ9_min_7cf53 2 = .ok (.if_icmp .gt 7, 3) := by decide +kernel
theorem dJ9_min_7cf53_5 : decode cJ9_min_7cf53 5 = .ok (.iload_n 0, 1) := by decide +kernel
theorem dJ9_min_7cf53_6 : decode cJ9_min_7cf53 6 = .ok (.goto 4, 3) := by decide +kernel
theorem dJ9_min_7cf53_9 : decode cJ9_min_7cf53 9 = .ok (.iload_n 1, 1) := by decide +kernel
theorem dJ9_min_7cf53_10 : decode cJ9_min_7cf53 10 = .ok (.ireturn, 1) := by decide +kernel
theorem dJ0_length_8abf5_0 : decode cJ0_length_8abf5 0 = .ok (.aload_n 0, 1) := by decide +kernel
theorem dJ0_length_8abf5_1 : decode cJ0_length_8abf5 1 = .ok (.getfield 9, 3) := by decide +kernel
theorem dJ0_length_8abf5_4 : decode cJ0_length_8abf5 4 = .ok (.arraylength, 1) := by decide +kernel
theorem dJ0_length_8abf5_5 : decode cJ0_length_8abf5 5 = .ok (.aload_n 0, 1) := by decide +kernel
theorem dJ0_length_8abf5_6 : decode cJ0_length_8abf5 6 = .ok (.invokevirtual 335, 3) := by decide +kernel
theorem dJ0_length_8abf5_9 : decode cJ0_length_8abf5 9 = .ok (.ishr, 1) := by decide +kernel
theorem dJ0_length_8abf5_10 : decode cJ0_length_8abf5 10 = .ok (.ireturn, 1) := by decide +kernel
theorem dJ0_charAt_5068e_0 : decode cJ0_charAt_5068e 0 = .ok (.aload_n 0, 1) := by decide +kernel
theorem dJ0_charAt_5068e_1 : decode cJ0_charAt_5068e 1 = .ok (.invokevirtual 492, 3) := by decide +kernel
theorem dJ0_charAt_5068e_4 : decode cJ0_charAt_5068e 4 = .ok (.ifCond .eq 12, 3) := by decide +kernel
theorem dJ0_charAt_5068e_7 : decode cJ0_charAt_5068e 7 = .ok (.aload_n 0, 1) := by decide +kernel
theorem dJ0_charAt_5068e_8 : decode cJ0_charAt_5068e 8 = .ok (.getfield 9, 3) := by decide +kernel
theorem dJ0_charAt_5068e_11 : decode cJ0_charAt_5068e 11 = .ok (.iload_n 1, 1) := by decide +kernel
theorem dJ0_charAt_5068e_12 : decode cJ0_charAt_5068e 12 = .ok (.invokestatic 495, 3) := by decide +kernel
theorem dJ0_charAt_5068e_15 : decode cJ0_charAt_5068e 15 = .ok (.ireturn, 1) := by decide +kernel
theorem dJ0_charAt_5068e_16 : decode cJ0_charAt_5068e 16 = .ok (.aload_n 0, 1) := by decide +kernel
theorem dJ0_charAt_5068e_17 : decode cJ0_charAt_5068e 17 = .ok (.getfield 9, 3) := by decide +kernel
theorem dJ0_charAt_5068e_20 : decode cJ0_charAt_5068e 20 = .ok (.iload_n 1, 1) := by decide +kernel
theorem dJ0_charAt_5068e_21 : decode cJ0_charAt_5068e 21 = .ok (.invokestatic 498, 3) := by decide +kernel
theorem dJ0_charAt_5068e_24 : decode cJ0_charAt_5068e 24 = .ok (.ireturn, 1) := by decide +kernel
theorem dJ0_coder_7d493_0 : decode cJ0_coder_7d493 0 = .ok (.getstatic 38, 3) := by decide +kernel
theorem dJ0_coder_7d493_3 : decode cJ0_coder_7d493 3 = .ok (.ifCond .eq 10, 3) := by decide +kernel
theorem dJ0_coder_7d493_6 : decode cJ0_coder_7d493 6 = .ok (.aload_n 0, 1) := by decide +kernel
theorem dJ0_coder_7d493_7 : decode cJ0_coder_7d493 7 = .ok (.getfield 15, 3) := by decide +kernel
theorem dJ0_coder_7d493_10 : decode cJ0_coder_7d493 10 = .ok (.goto 4, 3) := by decide +kernel
theorem dJ0_coder_7d493_13 : decode cJ0_coder_7d493 13 = .ok (.iconst 1, 1) := by decide +kernel
theorem dJ0_coder_7d493_14 : decode cJ0_coder_7d493 14 = .ok (.ireturn, 1) := by decide +kernel
theorem dJ0_isLatin1_aae02_0 : decode cJ0_isLatin1_aae02 0 = .ok (.getstatic 38, 3) := by decide +kernel
theorem dJ0_isLatin1_aae02_3 : decode cJ0_isLatin1_aae02 3 = .ok (.ifCond .eq 14, 3) := by decide +kernel
theorem dJ0_isLatin1_aae02_6 : decode cJ0_isLatin1_aae02 6 = .ok (.aload_n 0, 1) := by decide +kernel
theorem dJ0_isLatin1_aae02_7 : decode cJ0_isLatin1_aae02 7 = .ok (.getfield 15, 3) := by decide +kernel
theorem dJ0_isLatin1_aae02_10 : decode cJ0_isLatin1_aae02 10 = .ok (.ifCond .ne 7, 3) := by decide +kernel
theorem dJ0_isLatin1_aae02_13 : decode cJ0_isLatin1_aae02 13 = .ok (.iconst 1, 1) := by decide +kernel
theorem dJ0_isLatin1_aae02_14 : decode cJ0_isLatin1_aae02 14 = .ok (.goto 4, 3) := by decide +kernel
theorem dJ0_isLatin1_aae02_17 : decode cJ0_isLatin1_aae02 17 = .ok (.iconst 0, 1) := by decide +kernel
theorem dJ0_isLatin1_aae02_18 : decode cJ0_isLatin1_aae02 18 = .ok (.ireturn, 1) := by decide +kernel
theorem dJ0_checkIndex_df160_0 : decode cJ0_checkIndex_df160 0 = .ok (.iload_n 0, 1) := by decide +kernel
theorem dJ0_checkIndex_df160_1 : decode cJ0_checkIndex_df160 1 = .ok (.iload_n 1, 1) := by decide +kernel
theorem dJ0_checkIndex_df160_2 : decode cJ0_checkIndex_df160 2 = .ok (.getstatic 1053, 3) := by decide +kernel
theorem dJ0_checkIndex_df160_5 : decode cJ0_checkIndex_df160 5 = .ok (.invokestatic 1059, 3) := by decide +kernel
theorem dJ0_checkIndex_df160_8 : decode cJ0_checkIndex_df160 8 = .ok (.pop, 1) := by decide +kernel
theorem dJ0_checkIndex_df160_9 : decode cJ0_checkIndex_df160 9 = .ok (.return_, 1) := by decide +kernel
theorem dJ1_charAt_3b067_0 : decode cJ1_charAt_3b067 0 = .ok (.iload_n 1, 1) := by decide +kernel
theorem dJ1_charAt_3b067_1 : decode cJ1_charAt_3b067 1 = .ok (.aload_n 0, 1) := by decide +kernel
theorem dJ1_charAt_3b067_2 : decode cJ1_charAt_3b067 2 = .ok (.arraylength, 1) := by decide +kernel
theorem dJ1_charAt_3b067_3 : decode cJ1_charAt_3b067 3 = .ok (.invokestatic 9, 3) := by decide +kernel
theorem dJ1_charAt_3b067_6 : decode cJ1_charAt_3b067 6 = .ok (.aload_n 0, 1) := by decide +kernel
theorem dJ1_charAt_3b067_7 : decode cJ1_charAt_3b067 7 = .ok (.iload_n 1, 1) := by decide +kernel
theorem dJ1_charAt_3b067_8 : decode cJ1_charAt_3b067 8 = .ok (.baload, 1) := by decide +kernel
theorem dJ1_charAt_3b067_9 : decode cJ1_charAt_3b067 9 = .ok (.sipush 255, 3) := by decide +kernel
theorem dJ1_charAt_3b067_12 : decode cJ1_charAt_3b067 12 = .ok (.iand, 1) := by decide +kernel
theorem dJ1_charAt_3b067_13 : decode cJ1_charAt_3b067 13 = .ok (.i2c, 1) := by decide +kernel
theorem dJ1_charAt_3b067_14 : decode cJ1_charAt_3b067 14 = .ok (.ireturn, 1) := by decide +kernel
theorem dJ2_getChar_3b067_0 : decode cJ2_getChar_3b067 0 = .ok (.getstatic 44, 3) := by decide +kernel
theorem dJ2_getChar_3b067_3 : decode cJ2_getChar_3b067 3 = .ok (.ifCond .ne 25, 3) := by decide +kernel
theorem dJ2_getChar_3b067_6 : decode cJ2_getChar_3b067 6 = .ok (.iload_n 1, 1) := by decide +kernel
theorem dJ2_getChar_3b067_7 : decode cJ2_getChar_3b067 7 = .ok (.ifCond .lt 11, 3) := by decide +kernel
theorem dJ2_getChar_3b067_10 : decode cJ2_getChar_3b067 10 = .ok (.iload_n 1, 1) := by decide +kernel
theorem dJ2_getChar_3b067_11 : decode cJ2_getChar_3b067 11 = .ok (.aload_n 0, 1) := by decide +kernel
theorem dJ2_getChar_3b067_12 : decode cJ2_getChar_3b067 12 = .ok (.invokestatic 48, 3) := by decide +kernel
theorem dJ2_getChar_3b067_15 : decode cJ2_getChar_3b067 15 = .ok (.if_icmp .lt 13, 3) := by decide +kernel
theorem dJ2_getChar_3b067_18 : decode cJ2_getChar_3b067 18 = .ok (.new 52, 3) := by decide +kernel
theorem dJ2_getChar_3b067_21 : decode cJ2_getChar_3b067 21 = .ok (.dup, 1) := by decide +kernel
theorem dJ2_getChar_3b067_22 : decode cJ2_getChar_3b067 22 = .ok (.ldc 54, 2) := by decide +kernel
theorem dJ2_getChar_3b067_24 : decode cJ2_getChar_3b067 24 = .ok (.invokespecial 56, 3) := by decide +kernel
theorem dJ2_getChar_3b067_27 : decode cJ2_getChar_3b067 27 = .ok (.athrow, 1) := by decide +kernel
theorem dJ2_getChar_3b067_28 : decode cJ2_getChar_3b067 28 = .ok (.iload_n 1, 1) := by decide +kernel
theorem dJ2_getChar_3b067_29 : decode cJ2_getChar_3b067 29 = .ok (.iconst 1, 1) := by decide +kernel
theorem dJ2_getChar_3b067_30 : decode cJ2_getChar_3b067 30 = .ok (.ishl, 1) := by decide +kernel
theorem dJ2_getChar_3b067_31 : decode cJ2_getChar_3b067 31 = .ok (.istore_n 1, 1) := by decide +kernel
theorem dJ2_getChar_3b067_32 : decode cJ2_getChar_3b067 32 = .ok (.aload_n 0, 1) := by decide +kernel
theorem dJ2_getChar_3b067_33 : decode cJ2_getChar_3b067 33 = .ok (.iload_n 1, 1) := by decide +kernel
theorem dJ2_getChar_3b067_34 : decode cJ2_getChar_3b067 34 = .ok (.iinc 1 1, 3) := by decide +kernel
theorem dJ2_getChar_3b067_37 : decode cJ2_getChar_3b067 37 = .ok (.baload, 1) := by decide +kernel
theorem dJ2_getChar_3b067_38 : decode cJ2_getChar_3b067 38 = .ok (.sipush 255, 3) := by decide +kernel
theorem dJ2_getChar_3b067_41 : decode cJ2_getChar_3b067 41 = .ok (.iand, 1) := by decide +kernel
theorem dJ2_getChar_3b067_42 : decode cJ2_getChar_3b067 42 = .ok (.getstatic 59, 3) := by decide +kernel
theorem dJ2_getChar_3b067_45 : decode cJ2_getChar_3b067 45 = .ok (.ishl, 1) := by decide +kernel
theorem dJ2_getChar_3b067_46 : decode cJ2_getChar_3b067 46 = .ok (.aload_n 0, 1) := by decide +kernel
theorem dJ2_getChar_3b067_47 : decode cJ2_getChar_3b067 47 = .ok (.iload_n 1, 1) := by decide +kernel
theorem dJ2_getChar_3b067_48 : decode cJ2_getChar_3b067 48 = .ok (.baload, 1) := by decide +kernel
theorem dJ2_getChar_3b067_49 : decode cJ2_getChar_3b067 49 = .ok (.sipush 255, 3) := by decide +kernel
theorem dJ2_getChar_3b067_52 : decode cJ2_getChar_3b067 52 = .ok (.iand, 1) := by decide +kernel
theorem dJ2_getChar_3b067_53 : decode cJ2_getChar_3b067 53 = .ok (.getstatic 63, 3) := by decide +kernel
theorem dJ2_getChar_3b067_56 : decode cJ2_getChar_3b067 56 = .ok (.ishl, 1) := by decide +kernel
theorem dJ2_getChar_3b067_57 : decode cJ2_getChar_3b067 57 = .ok (.ior, 1) := by decide +kernel
theorem dJ2_getChar_3b067_58 : decode cJ2_getChar_3b067 58 = .ok (.i2c, 1) := by decide +kernel
theorem dJ2_getChar_3b067_59 : decode cJ2_getChar_3b067 59 = .ok (.ireturn, 1) := by decide +kernel
theorem dJ2_length_9d52b_0 : decode cJ2_length_9d52b 0 = .ok (.aload_n 0, 1) := by decide +kernel
theorem dJ2_length_9d52b_1 : decode cJ2_length_9d52b 1 = .ok (.arraylength, 1) := by decide +kernel
theorem dJ2_length_9d52b_2 : decode cJ2_length_9d52b 2 = .ok (.iconst 1, 1) := by decide +kernel
theorem dJ2_length_9d52b_3 : decode cJ2_length_9d52b 3 = .ok (.ishr, 1) := by decide +kernel
theorem dJ2_length_9d52b_4 : decode cJ2_length_9d52b 4 = .ok (.ireturn, 1) := by decide +kernel
theorem dJ2_charAt_3b067_0 : decode cJ2_charAt_3b067 0 = .ok (.iload_n 1, 1) := by decide +kernel
theorem dJ2_charAt_3b067_1 : decode cJ2_charAt_3b067 1 = .ok (.aload_n 0, 1) := by decide +kernel
theorem dJ2_charAt_3b067_2 : decode cJ2_charAt_3b067 2 = .ok (.invokestatic 67, 3) := by decide +kernel
theorem dJ2_charAt_3b067_5 : decode cJ2_charAt_3b067 5 = .ok (.aload_n 0, 1) := by decide +kernel
theorem dJ2_charAt_3b067_6 : decode cJ2_charAt_3b067 6 = .ok (.iload_n 1, 1) := by decide +kernel
theorem dJ2_charAt_3b067_7 : decode cJ2_charAt_3b067 7 = .ok (.invokestatic 71, 3) := by decide +kernel
theorem dJ2_charAt_3b067_10 : decode cJ2_charAt_3b067 10 = .ok (.ireturn, 1) := by decide +kernel
theorem dJ2_checkIndex_2214a_0 : decode cJ2_checkIndex_2214a 0 = .ok (.iload_n 0, 1) := by decide +kernel
theorem dJ2_checkIndex_2214a_1 : decode cJ2_checkIndex_2214a 1 = .ok (.aload_n 1, 1) := by decide +kernel
theorem dJ2_checkIndex_2214a_2 : decode cJ2_checkIndex_2214a 2 = .ok (.invokestatic 48, 3) := by decide +kernel
theorem dJ2_checkIndex_2214a_5 : decode cJ2_checkIndex_2214a 5 = .ok (.invokestatic 414, 3) := by decide +kernel
theorem dJ2_checkIndex_2214a_8 : decode cJ2_checkIndex_2214a 8 = .ok (.return_, 1) := by decide +kernel
theorem dJ3_checkIndex_8e157_0 : decode cJ3_checkIndex_8e157 0 = .ok (.iload_n 0, 1) := by decide +kernel
theorem dJ3_checkIndex_8e157_1 : decode cJ3_checkIndex_8e157 1 = .ok (.ifCond .lt 8, 3) := by decide +kernel
theorem dJ3_checkIndex_8e157_4 : decode cJ3_checkIndex_8e157 4 = .ok (.iload_n 0, 1) := by decide +kernel
theorem dJ3_checkIndex_8e157_5 : decode cJ3_checkIndex_8e157 5 = .ok (.iload_n 1, 1) := by decide +kernel
theorem dJ3_checkIndex_8e157_6 : decode cJ3_checkIndex_8e157 6 = .ok (.if_icmp .lt 10, 3) := by decide +kernel
theorem dJ3_checkIndex_8e157_9 : decode cJ3_checkIndex_8e157 9 = .ok (.aload_n 2, 1) := by decide +kernel
theorem dJ3_checkIndex_8e157_10 : decode cJ3_checkIndex_8e157 10 = .ok (.iload_n 0, 1) := by decide +kernel
theorem dJ3_checkIndex_8e157_11 : decode cJ3_checkIndex_8e157 11 = .ok (.iload_n 1, 1) := by decide +kernel
theorem dJ3_checkIndex_8e157_12 : decode cJ3_checkIndex_8e157 12 = .ok (.invokestatic 95, 3) := by decide +kernel
theorem dJ3_checkIndex_8e157_15 : decode cJ3_checkIndex_8e157 15 = .ok (.athrow, 1) := by decide +kernel
theorem dJ3_checkIndex_8e157_16 : decode cJ3_checkIndex_8e157 16 = .ok (.iload_n 0, 1) := by decide +kernel
theorem dJ3_checkIndex_8e157_17 : decode cJ3_checkIndex_8e157 17 = .ok (.ireturn, 1) := by decide +kernel
