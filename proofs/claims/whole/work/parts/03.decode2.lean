theorem dX6_grant_1 : decode cX6_grant 1 = .ok (.iload_n 1, 1) := by decide +kernel
theorem dX6_grant_2 : decode cX6_grant 2 = .ok (.invokevirtual 120, 3) := by decide +kernel
theorem dX6_grant_5 : decode cX6_grant 5 = .ok (.ifCond .eq 32, 3) := by decide +kernel
theorem dX6_grant_8 : decode cX6_grant 8 = .ok (.iload_n 2, 1) := by decide +kernel
theorem dX6_grant_9 : decode cX6_grant 9 = .ok (.iconst 0, 1) := by decide +kernel
theorem dX6_grant_10 : decode cX6_grant 10 = .ok (.bipush 7, 2) := by decide +kernel
theorem dX6_grant_12 : decode cX6_grant 12 = .ok (.invokestatic 93, 3) := by decide +kernel
theorem dX6_grant_15 : decode cX6_grant 15 = .ok (.ifCond .eq 22, 3) := by decide +kernel
theorem dX6_grant_18 : decode cX6_grant 18 = .ok (.iload 4, 2) := by decide +kernel
theorem dX6_grant_20 : decode cX6_grant 20 = .ok (.iconst (-1), 1) := by decide +kernel
theorem dX6_grant_21 : decode cX6_grant 21 = .ok (.if_icmp .eq 12, 3) := by decide +kernel
theorem dX6_grant_24 : decode cX6_grant 24 = .ok (.aload_n 0, 1) := by decide +kernel
theorem dX6_grant_25 : decode cX6_grant 25 = .ok (.iload 4, 2) := by decide +kernel
theorem dX6_grant_27 : decode cX6_grant 27 = .ok (.invokevirtual 130, 3) := by decide +kernel
theorem dX6_grant_30 : decode cX6_grant 30 = .ok (.ifCond .eq 7, 3) := by decide +kernel
theorem dX6_grant_33 : decode cX6_grant 33 = .ok (.iconst 1, 1) := by decide +kernel
theorem dX6_grant_34 : decode cX6_grant 34 = .ok (.goto 4, 3) := by decide +kernel
theorem dX6_grant_37 : decode cX6_grant 37 = .ok (.iconst 0, 1) := by decide +kernel
theorem dX6_grant_38 : decode cX6_grant 38 = .ok (.istore 6, 2) := by decide +kernel
theorem dX6_grant_40 : decode cX6_grant 40 = .ok (.iload_n 3, 1) := by decide +kernel
theorem dX6_grant_41 : decode cX6_grant 41 = .ok (.iconst 1, 1) := by decide +kernel
theorem dX6_grant_42 : decode cX6_grant 42 = .ok (.ldc 119, 2) := by decide +kernel
theorem dX6_grant_44 : decode cX6_grant 44 = .ok (.invokestatic 93, 3) := by decide +kernel
theorem dX6_grant_47 : decode cX6_grant 47 = .ok (.ifCond .eq 18, 3) := by decide +kernel
theorem dX6_grant_50 : decode cX6_grant 50 = .ok (.iload 5, 2) := by decide +kernel
theorem dX6_grant_52 : decode cX6_grant 52 = .ok (.iconst 0, 1) := by decide +kernel
theorem dX6_grant_53 : decode cX6_grant 53 = .ok (.bipush 60, 2) := by decide +kernel
theorem dX6_grant_55 : decode cX6_grant 55 = .ok (.invokestatic 93, 3) := by decide +kernel
theorem dX6_grant_58 : decode cX6_grant 58 = .ok (.ifCond .eq 7, 3) := by decide +kernel
theorem dX6_grant_61 : decode cX6_grant 61 = .ok (.iconst 1, 1) := by decide +kernel
theorem dX6_grant_62 : decode cX6_grant 62 = .ok (.goto 4, 3) := by decide +kernel
theorem dX6_grant_65 : decode cX6_grant 65 = .ok (.iconst 0, 1) := by decide +kernel
theorem dX6_grant_66 : decode cX6_grant 66 = .ok (.istore 7, 2) := by decide +kernel
theorem dX6_grant_68 : decode cX6_grant 68 = .ok (.iload 6, 2) := by decide +kernel
theorem dX6_grant_70 : decode cX6_grant 70 = .ok (.ifCond .eq 42, 3) := by decide +kernel
theorem dX6_grant_73 : decode cX6_grant 73 = .ok (.aload_n 0, 1) := by decide +kernel
theorem dX6_grant_74 : decode cX6_grant 74 = .ok (.getfield 100, 3) := by decide +kernel
theorem dX6_grant_77 : decode cX6_grant 77 = .ok (.bipush 40, 2) := by decide +kernel
theorem dX6_grant_79 : decode cX6_grant 79 = .ok (.if_icmp .ge 33, 3) := by decide +kernel
theorem dX6_grant_82 : decode cX6_grant 82 = .ok (.aload_n 0, 1) := by decide +kernel
theorem dX6_grant_83 : decode cX6_grant 83 = .ok (.iload_n 1, 1) := by decide +kernel
theorem dX6_grant_84 : decode cX6_grant 84 = .ok (.invokevirtual 137, 3) := by decide +kernel
theorem dX6_grant_87 : decode cX6_grant 87 = .ok (.iload_n 3, 1) := by decide +kernel
theorem dX6_grant_88 : decode cX6_grant 88 = .ok (.if_icmp .lt 24, 3) := by decide +kernel
theorem dX6_grant_91 : decode cX6_grant 91 = .ok (.iload 4, 2) := by decide +kernel
theorem dX6_grant_93 : decode cX6_grant 93 = .ok (.iconst (-1), 1) := by decide +kernel
theorem dX6_grant_94 : decode cX6_grant 94 = .ok (.if_icmp .eq 14, 3) := by decide +kernel
theorem dX6_grant_97 : decode cX6_grant 97 = .ok (.aload_n 0, 1) := by decide +kernel
theorem dX6_grant_98 : decode cX6_grant 98 = .ok (.getfield 47, 3) := by decide +kernel
theorem dX6_grant_101 : decode cX6_grant 101 = .ok (.iload 4, 2) := by decide +kernel
theorem dX6_grant_103 : decode cX6_grant 103 = .ok (.iaload, 1) := by decide +kernel
theorem dX6_grant_104 : decode cX6_grant 104 = .ok (.iconst 1, 1) := by decide +kernel
theorem dX6_grant_105 : decode cX6_grant 105 = .ok (.if_icmp .ne 7, 3) := by decide +kernel
theorem dX6_grant_108 : decode cX6_grant 108 = .ok (.iconst 1, 1) := by decide +kernel
theorem dX6_grant_109 : decode cX6_grant 109 = .ok (.goto 4, 3) := by decide +kernel
theorem dX6_grant_112 : decode cX6_grant 112 = .ok (.iconst 0, 1) := by decide +kernel
theorem dX6_grant_113 : decode cX6_grant 113 = .ok (.istore 8, 2) := by decide +kernel
theorem dX6_grant_115 : decode cX6_grant 115 = .ok (.aload_n 0, 1) := by decide +kernel
theorem dX6_grant_116 : decode cX6_grant 116 = .ok (.iload 6, 2) := by decide +kernel
theorem dX6_grant_118 : decode cX6_grant 118 = .ok (.ifCond .ne 7, 3) := by decide +kernel
theorem dX6_grant_121 : decode cX6_grant 121 = .ok (.iconst 1, 1) := by decide +kernel
theorem dX6_grant_122 : decode cX6_grant 122 = .ok (.goto 22, 3) := by decide +kernel
theorem dX6_grant_125 : decode cX6_grant 125 = .ok (.iload 7, 2) := by decide +kernel
theorem dX6_grant_127 : decode cX6_grant 127 = .ok (.ifCond .ne 7, 3) := by decide +kernel
theorem dX6_grant_130 : decode cX6_grant 130 = .ok (.iconst 2, 1) := by decide +kernel
theorem dX6_grant_131 : decode cX6_grant 131 = .ok (.goto 13, 3) := by decide +kernel
theorem dX6_grant_134 : decode cX6_grant 134 = .ok (.iload 8, 2) := by decide +kernel
theorem dX6_grant_136 : decode cX6_grant 136 = .ok (.ifCond .eq 7, 3) := by decide +kernel
theorem dX6_grant_139 : decode cX6_grant 139 = .ok (.iconst 0, 1) := by decide +kernel
theorem dX6_grant_140 : decode cX6_grant 140 = .ok (.goto 4, 3) := by decide +kernel
theorem dX6_grant_143 : decode cX6_grant 143 = .ok (.iconst 3, 1) := by decide +kernel
theorem dX6_grant_144 : decode cX6_grant 144 = .ok (.invokevirtual 114, 3) := by decide +kernel
theorem dX6_grant_147 : decode cX6_grant 147 = .ok (.ifCond .ne 5, 3) := by decide +kernel
theorem dX6_grant_150 : decode cX6_grant 150 = .ok (.iconst 0, 1) := by decide +kernel
theorem dX6_grant_151 : decode cX6_grant 151 = .ok (.ireturn, 1) := by decide +kernel
theorem dX6_grant_152 : decode cX6_grant 152 = .ok (.aload_n 0, 1) := by decide +kernel
theorem dX6_grant_153 : decode cX6_grant 153 = .ok (.getfield 56, 3) := by decide +kernel
theorem dX6_grant_156 : decode cX6_grant 156 = .ok (.aload_n 0, 1) := by decide +kernel
theorem dX6_grant_157 : decode cX6_grant 157 = .ok (.getfield 100, 3) := by decide +kernel
theorem dX6_grant_160 : decode cX6_grant 160 = .ok (.iload_n 1, 1) := by decide +kernel
theorem dX6_grant_161 : decode cX6_grant 161 = .ok (.iastore, 1) := by decide +kernel
theorem dX6_grant_162 : decode cX6_grant 162 = .ok (.aload_n 0, 1) := by decide +kernel
theorem dX6_grant_163 : decode cX6_grant 163 = .ok (.getfield 59, 3) := by decide +kernel
theorem dX6_grant_166 : decode cX6_grant 166 = .ok (.aload_n 0, 1) := by decide +kernel
theorem dX6_grant_167 : decode cX6_grant 167 = .ok (.getfield 100, 3) := by decide +kernel
theorem dX6_grant_170 : decode cX6_grant 170 = .ok (.iload_n 2, 1) := by decide +kernel
theorem dX6_grant_171 : decode cX6_grant 171 = .ok (.iastore, 1) := by decide +kernel
theorem dX6_grant_172 : decode cX6_grant 172 = .ok (.aload_n 0, 1) := by decide +kernel
theorem dX6_grant_173 : decode cX6_grant 173 = .ok (.getfield 62, 3) := by decide +kernel
theorem dX6_grant_176 : decode cX6_grant 176 = .ok (.aload_n 0, 1) := by decide +kernel
theorem dX6_grant_177 : decode cX6_grant 177 = .ok (.getfield 100, 3) := by decide +kernel
theorem dX6_grant_180 : decode cX6_grant 180 = .ok (.iload_n 3, 1) := by decide +kernel
theorem dX6_grant_181 : decode cX6_grant 181 = .ok (.iastore, 1) := by decide +kernel
theorem dX6_grant_182 : decode cX6_grant 182 = .ok (.aload_n 0, 1) := by decide +kernel
theorem dX6_grant_183 : decode cX6_grant 183 = .ok (.getfield 68, 3) := by decide +kernel
theorem dX6_grant_186 : decode cX6_grant 186 = .ok (.aload_n 0, 1) := by decide +kernel
theorem dX6_grant_187 : decode cX6_grant 187 = .ok (.getfield 100, 3) := by decide +kernel
theorem dX6_grant_190 : decode cX6_grant 190 = .ok (.iload 4, 2) := by decide +kernel
theorem dX6_grant_192 : decode cX6_grant 192 = .ok (.iastore, 1) := by decide +kernel
theorem dX6_grant_193 : decode cX6_grant 193 = .ok (.aload_n 0, 1) := by decide +kernel
theorem dX6_grant_194 : decode cX6_grant 194 = .ok (.getfield 71, 3) := by decide +kernel
theorem dX6_grant_197 : decode cX6_grant 197 = .ok (.aload_n 0, 1) := by decide +kernel
theorem dX6_grant_198 : decode cX6_grant 198 = .ok (.getfield 100, 3) := by decide +kernel
theorem dX6_grant_201 : decode cX6_grant 201 = .ok (.aload_n 0, 1) := by decide +kernel
theorem dX6_grant_202 : decode cX6_grant 202 = .ok (.getfield 156, 3) := by decide +kernel
theorem dX6_grant_205 : decode cX6_grant 205 = .ok (.iload 5, 2) := by decide +kernel
theorem dX6_grant_207 : decode cX6_grant 207 = .ok (.iadd, 1) := by decide +kernel
theorem dX6_grant_208 : decode cX6_grant 208 = .ok (.iastore, 1) := by decide +kernel
theorem dX6_grant_209 : decode cX6_grant 209 = .ok (.aload_n 0, 1) := by decide +kernel
theorem dX6_grant_210 : decode cX6_grant 210 = .ok (.dup, 1) := by decide +kernel
theorem dX6_grant_211 : decode cX6_grant 211 = .ok (.getfield 100, 3) := by decide +kernel
theorem dX6_grant_214 : decode cX6_grant 214 = .ok (.iconst 1, 1) := by decide +kernel
theorem dX6_grant_215 : decode cX6_grant 215 = .ok (.iadd, 1) := by decide +kernel
theorem dX6_grant_216 : decode cX6_grant 216 = .ok (.putfield 100, 3) := by decide +kernel
theorem dX6_grant_219 : decode cX6_grant 219 = .ok (.aload_n 0, 1) := by decide +kernel
theorem dX6_grant_220 : decode cX6_grant 220 = .ok (.getfield 100, 3) := by decide +kernel
theorem dX6_grant_223 : decode cX6_grant 223 = .ok (.iconst 1, 1) := by decide +kernel
theorem dX6_grant_224 : decode cX6_grant 224 = .ok (.isub, 1) := by decide +kernel
theorem dX6_grant_225 : decode cX6_grant 225 = .ok (.ireturn, 1) := by decide +kernel
theorem dX6_canPay_0 : decode cX6_canPay 0 = .ok (.aload_n 0, 1) := by decide +kernel
theorem dX6_canPay_1 : decode cX6_canPay 1 = .ok (.getfield 17, 3) := by decide +kernel
theorem dX6_canPay_4 : decode cX6_canPay 4 = .ok (.aload_n 0, 1) := by decide +kernel
theorem dX6_canPay_5 : decode cX6_canPay 5 = .ok (.getfield 23, 3) := by decide +kernel
theorem dX6_canPay_8 : decode cX6_canPay 8 = .ok (.iload_n 1, 1) := by decide +kernel
theorem dX6_canPay_9 : decode cX6_canPay 9 = .ok (.iaload, 1) := by decide +kernel
theorem dX6_canPay_10 : decode cX6_canPay 10 = .ok (.iaload, 1) := by decide +kernel
theorem dX6_canPay_11 : decode cX6_canPay 11 = .ok (.iload_n 2, 1) := by decide +kernel
theorem dX6_canPay_12 : decode cX6_canPay 12 = .ok (.iadd, 1) := by decide +kernel
theorem dX6_canPay_13 : decode cX6_canPay 13 = .ok (.aload_n 0, 1) := by decide +kernel
theorem dX6_canPay_14 : decode cX6_canPay 14 = .ok (.getfield 13, 3) := by decide +kernel
theorem dX6_canPay_17 : decode cX6_canPay 17 = .ok (.aload_n 0, 1) := by decide +kernel
theorem dX6_canPay_18 : decode cX6_canPay 18 = .ok (.getfield 23, 3) := by decide +kernel
theorem dX6_canPay_21 : decode cX6_canPay 21 = .ok (.iload_n 1, 1) := by decide +kernel
theorem dX6_canPay_22 : decode cX6_canPay 22 = .ok (.iaload, 1) := by decide +kernel
theorem dX6_canPay_23 : decode cX6_canPay 23 = .ok (.iaload, 1) := by decide +kernel
theorem dX6_canPay_24 : decode cX6_canPay 24 = .ok (.if_icmp .gt 7, 3) := by decide +kernel
theorem dX6_canPay_27 : decode cX6_canPay 27 = .ok (.iconst 1, 1) := by decide +kernel
theorem dX6_canPay_28 : decode cX6_canPay 28 = .ok (.goto 4, 3) := by decide +kernel
theorem dX6_canPay_31 : decode cX6_canPay 31 = .ok (.iconst 0, 1) := by decide +kernel
theorem dX6_canPay_32 : decode cX6_canPay 32 = .ok (.ireturn, 1) := by decide +kernel
theorem dX6_pay_0 : decode cX6_pay 0 = .ok (.aload_n 0, 1) := by decide +kernel
theorem dX6_pay_1 : decode cX6_pay 1 = .ok (.iload_n 1, 1) := by decide +kernel
theorem dX6_pay_2 : decode cX6_pay 2 = .ok (.invokevirtual 159, 3) := by decide +kernel
theorem dX6_pay_5 : decode cX6_pay 5 = .ok (.istore_n 3, 1) := by decide +kernel
theorem dX6_pay_6 : decode cX6_pay 6 = .ok (.iload_n 2, 1) := by decide +kernel
theorem dX6_pay_7 : decode cX6_pay 7 = .ok (.iconst 1, 1) := by decide +kernel
theorem dX6_pay_8 : decode cX6_pay 8 = .ok (.ldc 119, 2) := by decide +kernel
theorem dX6_pay_10 : decode cX6_pay 10 = .ok (.invokestatic 93, 3) := by decide +kernel
theorem dX6_pay_13 : decode cX6_pay 13 = .ok (.istore 4, 2) := by decide +kernel
theorem dX6_pay_15 : decode cX6_pay 15 = .ok (.iload_n 3, 1) := by decide +kernel
theorem dX6_pay_16 : decode cX6_pay 16 = .ok (.ifCond .eq 52, 3) := by decide +kernel
theorem dX6_pay_19 : decode cX6_pay 19 = .ok (.iload 4, 2) := by decide +kernel
theorem dX6_pay_21 : decode cX6_pay 21 = .ok (.ifCond .eq 47, 3) := by decide +kernel
theorem dX6_pay_24 : decode cX6_pay 24 = .ok (.aload_n 0, 1) := by decide +kernel
theorem dX6_pay_25 : decode cX6_pay 25 = .ok (.getfield 74, 3) := by decide +kernel
theorem dX6_pay_28 : decode cX6_pay 28 = .ok (.iload_n 1, 1) := by decide +kernel
theorem dX6_pay_29 : decode cX6_pay 29 = .ok (.iaload, 1) := by decide +kernel
theorem dX6_pay_30 : decode cX6_pay 30 = .ok (.ifCond .ne 38, 3) := by decide +kernel
theorem dX6_pay_33 : decode cX6_pay 33 = .ok (.aload_n 0, 1) := by decide +kernel
theorem dX6_pay_34 : decode cX6_pay 34 = .ok (.getfield 65, 3) := by decide +kernel
theorem dX6_pay_37 : decode cX6_pay 37 = .ok (.iload_n 1, 1) := by decide +kernel
theorem dX6_pay_38 : decode cX6_pay 38 = .ok (.iaload, 1) := by decide +kernel
theorem dX6_pay_39 : decode cX6_pay 39 = .ok (.iload_n 2, 1) := by decide +kernel
theorem dX6_pay_40 : decode cX6_pay 40 = .ok (.iadd, 1) := by decide +kernel
theorem dX6_pay_41 : decode cX6_pay 41 = .ok (.aload_n 0, 1) := by decide +kernel
theorem dX6_pay_42 : decode cX6_pay 42 = .ok (.getfield 62, 3) := by decide +kernel
theorem dX6_pay_45 : decode cX6_pay 45 = .ok (.iload_n 1, 1) := by decide +kernel
theorem dX6_pay_46 : decode cX6_pay 46 = .ok (.iaload, 1) := by decide +kernel
theorem dX6_pay_47 : decode cX6_pay 47 = .ok (.if_icmp .gt 21, 3) := by decide +kernel
theorem dX6_pay_50 : decode cX6_pay 50 = .ok (.aload_n 0, 1) := by decide +kernel
theorem dX6_pay_51 : decode cX6_pay 51 = .ok (.aload_n 0, 1) := by decide +kernel
theorem dX6_pay_52 : decode cX6_pay 52 = .ok (.getfield 56, 3) := by decide +kernel
theorem dX6_pay_55 : decode cX6_pay 55 = .ok (.iload_n 1, 1) := by decide +kernel
theorem dX6_pay_56 : decode cX6_pay 56 = .ok (.iaload, 1) := by decide +kernel
theorem dX6_pay_57 : decode cX6_pay 57 = .ok (.iload_n 2, 1) := by decide +kernel
theorem dX6_pay_58 : decode cX6_pay 58 = .ok (.invokevirtual 162, 3) := by decide +kernel
theorem dX6_pay_61 : decode cX6_pay 61 = .ok (.ifCond .eq 7, 3) := by decide +kernel
theorem dX6_pay_64 : decode cX6_pay 64 = .ok (.iconst 1, 1) := by decide +kernel
theorem dX6_pay_65 : decode cX6_pay 65 = .ok (.goto 4, 3) := by decide +kernel
theorem dX6_pay_68 : decode cX6_pay 68 = .ok (.iconst 0, 1) := by decide +kernel
theorem dX6_pay_69 : decode cX6_pay 69 = .ok (.istore 5, 2) := by decide +kernel
theorem dX6_pay_71 : decode cX6_pay 71 = .ok (.aload_n 0, 1) := by decide +kernel
theorem dX6_pay_72 : decode cX6_pay 72 = .ok (.iload_n 3, 1) := by decide +kernel
theorem dX6_pay_73 : decode cX6_pay 73 = .ok (.ifCond .ne 7, 3) := by decide +kernel
theorem dX6_pay_76 : decode cX6_pay 76 = .ok (.iconst 1, 1) := by decide +kernel
theorem dX6_pay_77 : decode cX6_pay 77 = .ok (.goto 22, 3) := by decide +kernel
theorem dX6_pay_80 : decode cX6_pay 80 = .ok (.iload 4, 2) := by decide +kernel
theorem dX6_pay_82 : decode cX6_pay 82 = .ok (.ifCond .ne 7, 3) := by decide +kernel
theorem dX6_pay_85 : decode cX6_pay 85 = .ok (.iconst 2, 1) := by decide +kernel
theorem dX6_pay_86 : decode cX6_pay 86 = .ok (.goto 13, 3) := by decide +kernel
theorem dX6_pay_89 : decode cX6_pay 89 = .ok (.iload 5, 2) := by decide +kernel
theorem dX6_pay_91 : decode cX6_pay 91 = .ok (.ifCond .eq 7, 3) := by decide +kernel
theorem dX6_pay_94 : decode cX6_pay 94 = .ok (.iconst 0, 1) := by decide +kernel
theorem dX6_pay_95 : decode cX6_pay 95 = .ok (.goto 4, 3) := by decide +kernel
theorem dX6_pay_98 : decode cX6_pay 98 = .ok (.iconst 3, 1) := by decide +kernel
theorem dX6_pay_99 : decode cX6_pay 99 = .ok (.invokevirtual 114, 3) := by decide +kernel
theorem dX6_pay_102 : decode cX6_pay 102 = .ok (.ifCond .ne 5, 3) := by decide +kernel
theorem dX6_pay_105 : decode cX6_pay 105 = .ok (.iconst 0, 1) := by decide +kernel
theorem dX6_pay_106 : decode cX6_pay 106 = .ok (.ireturn, 1) := by decide +kernel
theorem dX6_pay_107 : decode cX6_pay 107 = .ok (.aload_n 0, 1) := by decide +kernel
theorem dX6_pay_108 : decode cX6_pay 108 = .ok (.getfield 65, 3) := by decide +kernel
theorem dX6_pay_111 : decode cX6_pay 111 = .ok (.iload_n 1, 1) := by decide +kernel
theorem dX6_pay_112 : decode cX6_pay 112 = .ok (.dup2, 1) := by decide +kernel
theorem dX6_pay_113 : decode cX6_pay 113 = .ok (.iaload, 1) := by decide +kernel
theorem dX6_pay_114 : decode cX6_pay 114 = .ok (.iload_n 2, 1) := by decide +kernel
theorem dX6_pay_115 : decode cX6_pay 115 = .ok (.iadd, 1) := by decide +kernel
theorem dX6_pay_116 : decode cX6_pay 116 = .ok (.iastore, 1) := by decide +kernel
theorem dX6_pay_117 : decode cX6_pay 117 = .ok (.aload_n 0, 1) := by decide +kernel
theorem dX6_pay_118 : decode cX6_pay 118 = .ok (.getfield 17, 3) := by decide +kernel
theorem dX6_pay_121 : decode cX6_pay 121 = .ok (.aload_n 0, 1) := by decide +kernel
theorem dX6_pay_122 : decode cX6_pay 122 = .ok (.getfield 23, 3) := by decide +kernel
theorem dX6_pay_125 : decode cX6_pay 125 = .ok (.aload_n 0, 1) := by decide +kernel
theorem dX6_pay_126 : decode cX6_pay 126 = .ok (.getfield 56, 3) := by decide +kernel
theorem dX6_pay_129 : decode cX6_pay 129 = .ok (.iload_n 1, 1) := by decide +kernel
theorem dX6_pay_130 : decode cX6_pay 130 = .ok (.iaload, 1) := by decide +kernel
theorem dX6_pay_131 : decode cX6_pay 131 = .ok (.iaload, 1) := by decide +kernel
theorem dX6_pay_132 : decode cX6_pay 132 = .ok (.dup2, 1) := by decide +kernel
theorem dX6_pay_133 : decode cX6_pay 133 = .ok (.iaload, 1) := by decide +kernel
theorem dX6_pay_134 : decode cX6_pay 134 = .ok (.iload_n 2, 1) := by decide +kernel
theorem dX6_pay_135 : decode cX6_pay 135 = .ok (.iadd, 1) := by decide +kernel
theorem dX6_pay_136 : decode cX6_pay 136 = .ok (.iastore, 1) := by decide +kernel
theorem dX6_pay_137 : decode cX6_pay 137 = .ok (.aload_n 0, 1) := by decide +kernel
theorem dX6_pay_138 : decode cX6_pay 138 = .ok (.getfield 65, 3) := by decide +kernel
theorem dX6_pay_141 : decode cX6_pay 141 = .ok (.iload_n 1, 1) := by decide +kernel
theorem dX6_pay_142 : decode cX6_pay 142 = .ok (.iaload, 1) := by decide +kernel
theorem dX6_pay_143 : decode cX6_pay 143 = .ok (.ireturn, 1) := by decide +kernel
theorem dX6_report_0 : decode cX6_report 0 = .ok (.aload_n 0, 1) := by decide +kernel
theorem dX6_report_1 : decode cX6_report 1 = .ok (.iload_n 1, 1) := by decide +kernel
theorem dX6_report_2 : decode cX6_report 2 = .ok (.invokevirtual 159, 3) := by decide +kernel
theorem dX6_report_5 : decode cX6_report 5 = .ok (.istore_n 2, 1) := by decide +kernel
theorem dX6_report_6 : decode cX6_report 6 = .ok (.aload_n 0, 1) := by decide +kernel
theorem dX6_report_7 : decode cX6_report 7 = .ok (.iload_n 2, 1) := by decide +kernel
theorem dX6_report_8 : decode cX6_report 8 = .ok (.ifCond .ne 7, 3) := by decide +kernel
theorem dX6_report_11 : decode cX6_report 11 = .ok (.iconst 1, 1) := by decide +kernel
theorem dX6_report_12 : decode cX6_report 12 = .ok (.goto 18, 3) := by decide +kernel
theorem dX6_report_15 : decode cX6_report 15 = .ok (.aload_n 0, 1) := by decide +kernel
theorem dX6_report_16 : decode cX6_report 16 = .ok (.getfield 74, 3) := by decide +kernel
theorem dX6_report_19 : decode cX6_report 19 = .ok (.iload_n 1, 1) := by decide +kernel
theorem dX6_report_20 : decode cX6_report 20 = .ok (.iaload, 1) := by decide +kernel
theorem dX6_report_21 : decode cX6_report 21 = .ok (.iconst 2, 1) := by decide +kernel
theorem dX6_report_22 : decode cX6_report 22 = .ok (.if_icmp .ne 7, 3) := by decide +kernel
theorem dX6_report_25 : decode cX6_report 25 = .ok (.iconst 2, 1) := by decide +kernel
theorem dX6_report_26 : decode cX6_report 26 = .ok (.goto 4, 3) := by decide +kernel
theorem dX6_report_29 : decode cX6_report 29 = .ok (.iconst 0, 1) := by decide +kernel
theorem dX6_report_30 : decode cX6_report 30 = .ok (.invokevirtual 114, 3) := by decide +kernel
theorem dX6_report_33 : decode cX6_report 33 = .ok (.ifCond .ne 5, 3) := by decide +kernel
theorem dX6_report_36 : decode cX6_report 36 = .ok (.iconst 0, 1) := by decide +kernel
theorem dX6_report_37 : decode cX6_report 37 = .ok (.ireturn, 1) := by decide +kernel
theorem dX6_report_38 : decode cX6_report 38 = .ok (.aload_n 0, 1) := by decide +kernel
theorem dX6_report_39 : decode cX6_report 39 = .ok (.getfield 77, 3) := by decide +kernel
theorem dX6_report_42 : decode cX6_report 42 = .ok (.iload_n 1, 1) := by decide +kernel
theorem dX6_report_43 : decode cX6_report 43 = .ok (.baload, 1) := by decide +kernel
theorem dX6_report_44 : decode cX6_report 44 = .ok (.istore_n 3, 1) := by decide +kernel
theorem dX6_report_45 : decode cX6_report 45 = .ok (.aload_n 0, 1) := by decide +kernel
theorem dX6_report_46 : decode cX6_report 46 = .ok (.getfield 77, 3) := by decide +kernel
theorem dX6_report_49 : decode cX6_report 49 = .ok (.iload_n 1, 1) := by decide +kernel
theorem dX6_report_50 : decode cX6_report 50 = .ok (.iconst 1, 1) := by decide +kernel
theorem dX6_report_51 : decode cX6_report 51 = .ok (.bastore, 1) := by decide +kernel
theorem dX6_report_52 : decode cX6_report 52 = .ok (.iload_n 3, 1) := by decide +kernel
theorem dX6_report_53 : decode cX6_report 53 = .ok (.ifCond .ne 7, 3) := by decide +kernel
theorem dX6_report_56 : decode cX6_report 56 = .ok (.iconst 1, 1) := by decide +kernel
theorem dX6_report_57 : decode cX6_report 57 = .ok (.goto 4, 3) := by decide +kernel
theorem dX6_report_60 : decode cX6_report 60 = .ok (.iconst 0, 1) := by decide +kernel
theorem dX6_report_61 : decode cX6_report 61 = .ok (.ireturn, 1) := by decide +kernel
theorem dX6_spend_0 : decode cX6_spend 0 = .ok (.aload_n 0, 1) := by decide +kernel
theorem dX6_spend_1 : decode cX6_spend 1 = .ok (.iload_n 1, 1) := by decide +kernel
theorem dX6_spend_2 : decode cX6_spend 2 = .ok (.invokevirtual 120, 3) := by decide +kernel
theorem dX6_spend_5 : decode cX6_spend 5 = .ok (.istore_n 3, 1) := by decide +kernel
theorem dX6_spend_6 : decode cX6_spend 6 = .ok (.iload_n 2, 1) := by decide +kernel
theorem dX6_spend_7 : decode cX6_spend 7 = .ok (.iconst 1, 1) := by decide +kernel
theorem dX6_spend_8 : decode cX6_spend 8 = .ok (.ldc 119, 2) := by decide +kernel
theorem dX6_spend_10 : decode cX6_spend 10 = .ok (.invokestatic 93, 3) := by decide +kernel
theorem dX6_spend_13 : decode cX6_spend 13 = .ok (.istore 4, 2) := by decide +kernel
theorem dX6_spend_15 : decode cX6_spend 15 = .ok (.iload_n 3, 1) := by decide +kernel
theorem dX6_spend_16 : decode cX6_spend 16 = .ok (.ifCond .eq 30, 3) := by decide +kernel
theorem dX6_spend_19 : decode cX6_spend 19 = .ok (.iload 4, 2) := by decide +kernel
theorem dX6_spend_21 : decode cX6_spend 21 = .ok (.ifCond .eq 25, 3) := by decide +kernel
theorem dX6_spend_24 : decode cX6_spend 24 = .ok (.aload_n 0, 1) := by decide +kernel
theorem dX6_spend_25 : decode cX6_spend 25 = .ok (.iload_n 1, 1) := by decide +kernel
theorem dX6_spend_26 : decode cX6_spend 26 = .ok (.invokevirtual 137, 3) := by decide +kernel
theorem dX6_spend_29 : decode cX6_spend 29 = .ok (.iload_n 2, 1) := by decide +kernel
theorem dX6_spend_30 : decode cX6_spend 30 = .ok (.if_icmp .lt 16, 3) := by decide +kernel
theorem dX6_spend_33 : decode cX6_spend 33 = .ok (.aload_n 0, 1) := by decide +kernel
theorem dX6_spend_34 : decode cX6_spend 34 = .ok (.iload_n 1, 1) := by decide +kernel
theorem dX6_spend_35 : decode cX6_spend 35 = .ok (.iload_n 2, 1) := by decide +kernel
theorem dX6_spend_36 : decode cX6_spend 36 = .ok (.invokevirtual 162, 3) := by decide +kernel
theorem dX6_spend_39 : decode cX6_spend 39 = .ok (.ifCond .eq 7, 3) := by decide +kernel
theorem dX6_spend_42 : decode cX6_spend 42 = .ok (.iconst 1, 1) := by decide +kernel
theorem dX6_spend_43 : decode cX6_spend 43 = .ok (.goto 4, 3) := by decide +kernel
theorem dX6_spend_46 : decode cX6_spend 46 = .ok (.iconst 0, 1) := by decide +kernel
theorem dX6_spend_47 : decode cX6_spend 47 = .ok (.istore 5, 2) := by decide +kernel
theorem dX6_spend_49 : decode cX6_spend 49 = .ok (.aload_n 0, 1) := by decide +kernel
theorem dX6_spend_50 : decode cX6_spend 50 = .ok (.iload_n 3, 1) := by decide +kernel
theorem dX6_spend_51 : decode cX6_spend 51 = .ok (.ifCond .ne 7, 3) := by decide +kernel
theorem dX6_spend_54 : decode cX6_spend 54 = .ok (.iconst 1, 1) := by decide +kernel
theorem dX6_spend_55 : decode cX6_spend 55 = .ok (.goto 22, 3) := by decide +kernel
theorem dX6_spend_58 : decode cX6_spend 58 = .ok (.iload 4, 2) := by decide +kernel
theorem dX6_spend_60 : decode cX6_spend 60 = .ok (.ifCond .ne 7, 3) := by decide +kernel
theorem dX6_spend_63 : decode cX6_spend 63 = .ok (.iconst 2, 1) := by decide +kernel
theorem dX6_spend_64 : decode cX6_spend 64 = .ok (.goto 13, 3) := by decide +kernel
theorem dX6_spend_67 : decode cX6_spend 67 = .ok (.iload 5, 2) := by decide +kernel
theorem dX6_spend_69 : decode cX6_spend 69 = .ok (.ifCond .eq 7, 3) := by decide +kernel
theorem dX6_spend_72 : decode cX6_spend 72 = .ok (.iconst 0, 1) := by decide +kernel
theorem dX6_spend_73 : decode cX6_spend 73 = .ok (.goto 4, 3) := by decide +kernel
theorem dX6_spend_76 : decode cX6_spend 76 = .ok (.iconst 3, 1) := by decide +kernel
theorem dX6_spend_77 : decode cX6_spend 77 = .ok (.invokevirtual 114, 3) := by decide +kernel
theorem dX6_spend_80 : decode cX6_spend 80 = .ok (.ifCond .ne 5, 3) := by decide +kernel
theorem dX6_spend_83 : decode cX6_spend 83 = .ok (.iconst 0, 1) := by decide +kernel
theorem dX6_spend_84 : decode cX6_spend 84 = .ok (.ireturn, 1) := by decide +kernel
theorem dX6_spend_85 : decode cX6_spend 85 = .ok (.aload_n 0, 1) := by decide +kernel
theorem dX6_spend_86 : decode cX6_spend 86 = .ok (.getfield 35, 3) := by decide +kernel
theorem dX6_spend_89 : decode cX6_spend 89 = .ok (.iload_n 1, 1) := by decide +kernel
theorem dX6_spend_90 : decode cX6_spend 90 = .ok (.dup2, 1) := by decide +kernel
theorem dX6_spend_91 : decode cX6_spend 91 = .ok (.iaload, 1) := by decide +kernel
theorem dX6_spend_92 : decode cX6_spend 92 = .ok (.iload_n 2, 1) := by decide +kernel
theorem dX6_spend_93 : decode cX6_spend 93 = .ok (.iadd, 1) := by decide +kernel
theorem dX6_spend_94 : decode cX6_spend 94 = .ok (.iastore, 1) := by decide +kernel
theorem dX6_spend_95 : decode cX6_spend 95 = .ok (.aload_n 0, 1) := by decide +kernel
theorem dX6_spend_96 : decode cX6_spend 96 = .ok (.getfield 17, 3) := by decide +kernel
theorem dX6_spend_99 : decode cX6_spend 99 = .ok (.aload_n 0, 1) := by decide +kernel
theorem dX6_spend_100 : decode cX6_spend 100 = .ok (.getfield 23, 3) := by decide +kernel
theorem dX6_spend_103 : decode cX6_spend 103 = .ok (.iload_n 1, 1) := by decide +kernel
theorem dX6_spend_104 : decode cX6_spend 104 = .ok (.iaload, 1) := by decide +kernel
theorem dX6_spend_105 : decode cX6_spend 105 = .ok (.dup2, 1) := by decide +kernel
theorem dX6_spend_106 : decode cX6_spend 106 = .ok (.iaload, 1) := by decide +kernel
theorem dX6_spend_107 : decode cX6_spend 107 = .ok (.iload_n 2, 1) := by decide +kernel
theorem dX6_spend_108 : decode cX6_spend 108 = .ok (.iadd, 1) := by decide +kernel
theorem dX6_spend_109 : decode cX6_spend 109 = .ok (.iastore, 1) := by decide +kernel
theorem dX6_spend_110 : decode cX6_spend 110 = .ok (.aload_n 0, 1) := by decide +kernel
theorem dX6_spend_111 : decode cX6_spend 111 = .ok (.iload_n 1, 1) := by decide +kernel
theorem dX6_spend_112 : decode cX6_spend 112 = .ok (.invokevirtual 137, 3) := by decide +kernel
theorem dX6_spend_115 : decode cX6_spend 115 = .ok (.ireturn, 1) := by decide +kernel
theorem dX6_audit_0 : decode cX6_audit 0 = .ok (.aload_n 0, 1) := by decide +kernel
theorem dX6_audit_1 : decode cX6_audit 1 = .ok (.iload_n 1, 1) := by decide +kernel
theorem dX6_audit_2 : decode cX6_audit 2 = .ok (.invokevirtual 159, 3) := by decide +kernel
theorem dX6_audit_5 : decode cX6_audit 5 = .ok (.istore_n 3, 1) := by decide +kernel
theorem dX6_audit_6 : decode cX6_audit 6 = .ok (.iload_n 2, 1) := by decide +kernel
theorem dX6_audit_7 : decode cX6_audit 7 = .ok (.iconst 1, 1) := by decide +kernel
theorem dX6_audit_8 : decode cX6_audit 8 = .ok (.ldc 119, 2) := by decide +kernel
theorem dX6_audit_10 : decode cX6_audit 10 = .ok (.invokestatic 93, 3) := by decide +kernel
theorem dX6_audit_13 : decode cX6_audit 13 = .ok (.istore 4, 2) := by decide +kernel
theorem dX6_audit_15 : decode cX6_audit 15 = .ok (.iload_n 3, 1) := by decide +kernel
theorem dX6_audit_16 : decode cX6_audit 16 = .ok (.ifCond .eq 27, 3) := by decide +kernel
theorem dX6_audit_19 : decode cX6_audit 19 = .ok (.aload_n 0, 1) := by decide +kernel
theorem dX6_audit_20 : decode cX6_audit 20 = .ok (.getfield 74, 3) := by decide +kernel
theorem dX6_audit_23 : decode cX6_audit 23 = .ok (.iload_n 1, 1) := by decide +kernel
theorem dX6_audit_24 : decode cX6_audit 24 = .ok (.iaload, 1) := by decide +kernel
theorem dX6_audit_25 : decode cX6_audit 25 = .ok (.iconst 2, 1) := by decide +kernel
theorem dX6_audit_26 : decode cX6_audit 26 = .ok (.if_icmp .eq 17, 3) := by decide +kernel
theorem dX6_audit_29 : decode cX6_audit 29 = .ok (.aload_n 0, 1) := by decide +kernel
theorem dX6_audit_30 : decode cX6_audit 30 = .ok (.getfield 65, 3) := by decide +kernel
theorem dX6_audit_33 : decode cX6_audit 33 = .ok (.iload_n 1, 1) := by decide +kernel
theorem dX6_audit_34 : decode cX6_audit 34 = .ok (.iaload, 1) := by decide +kernel
theorem dX6_audit_35 : decode cX6_audit 35 = .ok (.iload_n 2, 1) := by decide +kernel
theorem dX6_audit_36 : decode cX6_audit 36 = .ok (.if_icmp .lt 7, 3) := by decide +kernel
theorem dX6_audit_39 : decode cX6_audit 39 = .ok (.iconst 1, 1) := by decide +kernel
theorem dX6_audit_40 : decode cX6_audit 40 = .ok (.goto 4, 3) := by decide +kernel
theorem dX6_audit_43 : decode cX6_audit 43 = .ok (.iconst 0, 1) := by decide +kernel
theorem dX6_audit_44 : decode cX6_audit 44 = .ok (.istore 5, 2) := by decide +kernel
theorem dX6_audit_46 : decode cX6_audit 46 = .ok (.aload_n 0, 1) := by decide +kernel
theorem dX6_audit_47 : decode cX6_audit 47 = .ok (.iload_n 3, 1) := by decide +kernel
theorem dX6_audit_48 : decode cX6_audit 48 = .ok (.ifCond .ne 7, 3) := by decide +kernel
theorem dX6_audit_51 : decode cX6_audit 51 = .ok (.iconst 1, 1) := by decide +kernel
theorem dX6_audit_52 : decode cX6_audit 52 = .ok (.goto 22, 3) := by decide +kernel
theorem dX6_audit_55 : decode cX6_audit 55 = .ok (.iload 4, 2) := by decide +kernel
theorem dX6_audit_57 : decode cX6_audit 57 = .ok (.ifCond .ne 7, 3) := by decide +kernel
theorem dX6_audit_60 : decode cX6_audit 60 = .ok (.iconst 2, 1) := by decide +kernel
theorem dX6_audit_61 : decode cX6_audit 61 = .ok (.goto 13, 3) := by decide +kernel
theorem dX6_audit_64 : decode cX6_audit 64 = .ok (.iload 5, 2) := by decide +kernel
theorem dX6_audit_66 : decode cX6_audit 66 = .ok (.ifCond .eq 7, 3) := by decide +kernel
theorem dX6_audit_69 : decode cX6_audit 69 = .ok (.iconst 0, 1) := by decide +kernel
theorem dX6_audit_70 : decode cX6_audit 70 = .ok (.goto 4, 3) := by decide +kernel
theorem dX6_audit_73 : decode cX6_audit 73 = .ok (.iconst 3, 1) := by decide +kernel
theorem dX6_audit_74 : decode cX6_audit 74 = .ok (.invokevirtual 114, 3) := by decide +kernel
theorem dX6_audit_77 : decode cX6_audit 77 = .ok (.ifCond .ne 5, 3) := by decide +kernel
theorem dX6_audit_80 : decode cX6_audit 80 = .ok (.iconst 0, 1) := by decide +kernel
theorem dX6_audit_81 : decode cX6_audit 81 = .ok (.ireturn, 1) := by decide +kernel
theorem dX6_audit_82 : decode cX6_audit 82 = .ok (.aload_n 0, 1) := by decide +kernel
theorem dX6_audit_83 : decode cX6_audit 83 = .ok (.getfield 20, 3) := by decide +kernel
theorem dX6_audit_86 : decode cX6_audit 86 = .ok (.aload_n 0, 1) := by decide +kernel
theorem dX6_audit_87 : decode cX6_audit 87 = .ok (.getfield 59, 3) := by decide +kernel
theorem dX6_audit_90 : decode cX6_audit 90 = .ok (.iload_n 1, 1) := by decide +kernel
theorem dX6_audit_91 : decode cX6_audit 91 = .ok (.iaload, 1) := by decide +kernel
theorem dX6_audit_92 : decode cX6_audit 92 = .ok (.dup2, 1) := by decide +kernel
theorem dX6_audit_93 : decode cX6_audit 93 = .ok (.iaload, 1) := by decide +kernel
theorem dX6_audit_94 : decode cX6_audit 94 = .ok (.iload_n 2, 1) := by decide +kernel
theorem dX6_audit_95 : decode cX6_audit 95 = .ok (.iadd, 1) := by decide +kernel
theorem dX6_audit_96 : decode cX6_audit 96 = .ok (.iastore, 1) := by decide +kernel
theorem dX6_audit_97 : decode cX6_audit 97 = .ok (.aload_n 0, 1) := by decide +kernel
theorem dX6_audit_98 : decode cX6_audit 98 = .ok (.getfield 35, 3) := by decide +kernel
theorem dX6_audit_101 : decode cX6_audit 101 = .ok (.aload_n 0, 1) := by decide +kernel
theorem dX6_audit_102 : decode cX6_audit 102 = .ok (.getfield 56, 3) := by decide +kernel
theorem dX6_audit_105 : decode cX6_audit 105 = .ok (.iload_n 1, 1) := by decide +kernel
theorem dX6_audit_106 : decode cX6_audit 106 = .ok (.iaload, 1) := by decide +kernel
theorem dX6_audit_107 : decode cX6_audit 107 = .ok (.dup2, 1) := by decide +kernel
theorem dX6_audit_108 : decode cX6_audit 108 = .ok (.iaload, 1) := by decide +kernel
theorem dX6_audit_109 : decode cX6_audit 109 = .ok (.iload_n 2, 1) := by decide +kernel
theorem dX6_audit_110 : decode cX6_audit 110 = .ok (.iadd, 1) := by decide +kernel
theorem dX6_audit_111 : decode cX6_audit 111 = .ok (.iastore, 1) := by decide +kernel
theorem dX6_audit_112 : decode cX6_audit 112 = .ok (.aload_n 0, 1) := by decide +kernel
theorem dX6_audit_113 : decode cX6_audit 113 = .ok (.getfield 74, 3) := by decide +kernel
theorem dX6_audit_116 : decode cX6_audit 116 = .ok (.iload_n 1, 1) := by decide +kernel
theorem dX6_audit_117 : decode cX6_audit 117 = .ok (.iconst 1, 1) := by decide +kernel
theorem dX6_audit_118 : decode cX6_audit 118 = .ok (.iastore, 1) := by decide +kernel
theorem dX6_audit_119 : decode cX6_audit 119 = .ok (.aload_n 0, 1) := by decide +kernel
theorem dX6_audit_120 : decode cX6_audit 120 = .ok (.getfield 65, 3) := by decide +kernel
theorem dX6_audit_123 : decode cX6_audit 123 = .ok (.iload_n 1, 1) := by decide +kernel
theorem dX6_audit_124 : decode cX6_audit 124 = .ok (.dup2, 1) := by decide +kernel
theorem dX6_audit_125 : decode cX6_audit 125 = .ok (.iaload, 1) := by decide +kernel
theorem dX6_audit_126 : decode cX6_audit 126 = .ok (.iload_n 2, 1) := by decide +kernel
theorem dX6_audit_127 : decode cX6_audit 127 = .ok (.isub, 1) := by decide +kernel
theorem dX6_audit_128 : decode cX6_audit 128 = .ok (.iastore, 1) := by decide +kernel
theorem dX6_audit_129 : decode cX6_audit 129 = .ok (.aload_n 0, 1) := by decide +kernel
theorem dX6_audit_130 : decode cX6_audit 130 = .ok (.getfield 62, 3) := by decide +kernel
theorem dX6_audit_133 : decode cX6_audit 133 = .ok (.iload_n 1, 1) := by decide +kernel
theorem dX6_audit_134 : decode cX6_audit 134 = .ok (.aload_n 0, 1) := by decide +kernel
theorem dX6_audit_135 : decode cX6_audit 135 = .ok (.getfield 65, 3) := by decide +kernel
theorem dX6_audit_138 : decode cX6_audit 138 = .ok (.iload_n 1, 1) := by decide +kernel
theorem dX6_audit_139 : decode cX6_audit 139 = .ok (.iaload, 1) := by decide +kernel
theorem dX6_audit_140 : decode cX6_audit 140 = .ok (.iastore, 1) := by decide +kernel
theorem dX6_audit_141 : decode cX6_audit 141 = .ok (.aload_n 0, 1) := by decide +kernel
theorem dX6_audit_142 : decode cX6_audit 142 = .ok (.getfield 65, 3) := by decide +kernel
theorem dX6_audit_145 : decode cX6_audit 145 = .ok (.iload_n 1, 1) := by decide +kernel
theorem dX6_audit_146 : decode cX6_audit 146 = .ok (.iaload, 1) := by decide +kernel
theorem dX6_audit_147 : decode cX6_audit 147 = .ok (.ireturn, 1) := by decide +kernel
theorem dX6_repay_0 : decode cX6_repay 0 = .ok (.iload_n 1, 1) := by decide +kernel
theorem dX6_repay_1 : decode cX6_repay 1 = .ok (.iconst 0, 1) := by decide +kernel
theorem dX6_repay_2 : decode cX6_repay 2 = .ok (.bipush 7, 2) := by decide +kernel
theorem dX6_repay_4 : decode cX6_repay 4 = .ok (.invokestatic 93, 3) := by decide +kernel
theorem dX6_repay_7 : decode cX6_repay 7 = .ok (.istore_n 3, 1) := by decide +kernel
theorem dX6_repay_8 : decode cX6_repay 8 = .ok (.iload_n 2, 1) := by decide +kernel
theorem dX6_repay_9 : decode cX6_repay 9 = .ok (.iconst 1, 1) := by decide +kernel
theorem dX6_repay_10 : decode cX6_repay 10 = .ok (.ldc 119, 2) := by decide +kernel
theorem dX6_repay_12 : decode cX6_repay 12 = .ok (.invokestatic 93, 3) := by decide +kernel
theorem dX6_repay_15 : decode cX6_repay 15 = .ok (.istore 4, 2) := by decide +kernel
theorem dX6_repay_17 : decode cX6_repay 17 = .ok (.aload_n 0, 1) := by decide +kernel
theorem dX6_repay_18 : decode cX6_repay 18 = .ok (.iload_n 3, 1) := by decide +kernel
theorem dX6_repay_19 : decode cX6_repay 19 = .ok (.ifCond .ne 7, 3) := by decide +kernel
theorem dX6_repay_22 : decode cX6_repay 22 = .ok (.iconst 1, 1) := by decide +kernel
theorem dX6_repay_23 : decode cX6_repay 23 = .ok (.goto 27, 3) := by decide +kernel
theorem dX6_repay_26 : decode cX6_repay 26 = .ok (.iload 4, 2) := by decide +kernel
theorem dX6_repay_28 : decode cX6_repay 28 = .ok (.ifCond .ne 7, 3) := by decide +kernel
theorem dX6_repay_31 : decode cX6_repay 31 = .ok (.iconst 2, 1) := by decide +kernel
theorem dX6_repay_32 : decode cX6_repay 32 = .ok (.goto 18, 3) := by decide +kernel
theorem dX6_repay_35 : decode cX6_repay 35 = .ok (.aload_n 0, 1) := by decide +kernel
theorem dX6_repay_36 : decode cX6_repay 36 = .ok (.getfield 20, 3) := by decide +kernel
theorem dX6_repay_39 : decode cX6_repay 39 = .ok (.iload_n 1, 1) := by decide +kernel
theorem dX6_repay_40 : decode cX6_repay 40 = .ok (.iaload, 1) := by decide +kernel
theorem dX6_repay_41 : decode cX6_repay 41 = .ok (.iload_n 2, 1) := by decide +kernel
theorem dX6_repay_42 : decode cX6_repay 42 = .ok (.if_icmp .ge 7, 3) := by decide +kernel
theorem dX6_repay_45 : decode cX6_repay 45 = .ok (.iconst 3, 1) := by decide +kernel
theorem dX6_repay_46 : decode cX6_repay 46 = .ok (.goto 4, 3) := by decide +kernel
theorem dX6_repay_49 : decode cX6_repay 49 = .ok (.iconst 0, 1) := by decide +kernel
theorem dX6_repay_50 : decode cX6_repay 50 = .ok (.invokevirtual 114, 3) := by decide +kernel
theorem dX6_repay_53 : decode cX6_repay 53 = .ok (.ifCond .ne 5, 3) := by decide +kernel
theorem dX6_repay_56 : decode cX6_repay 56 = .ok (.iconst 0, 1) := by decide +kernel
theorem dX6_repay_57 : decode cX6_repay 57 = .ok (.ireturn, 1) := by decide +kernel
theorem dX6_repay_58 : decode cX6_repay 58 = .ok (.aload_n 0, 1) := by decide +kernel
theorem dX6_repay_59 : decode cX6_repay 59 = .ok (.getfield 20, 3) := by decide +kernel
theorem dX6_repay_62 : decode cX6_repay 62 = .ok (.iload_n 1, 1) := by decide +kernel
theorem dX6_repay_63 : decode cX6_repay 63 = .ok (.dup2, 1) := by decide +kernel
theorem dX6_repay_64 : decode cX6_repay 64 = .ok (.iaload, 1) := by decide +kernel
theorem dX6_repay_65 : decode cX6_repay 65 = .ok (.iload_n 2, 1) := by decide +kernel
theorem dX6_repay_66 : decode cX6_repay 66 = .ok (.isub, 1) := by decide +kernel
theorem dX6_repay_67 : decode cX6_repay 67 = .ok (.iastore, 1) := by decide +kernel
theorem dX6_repay_68 : decode cX6_repay 68 = .ok (.aload_n 0, 1) := by decide +kernel
theorem dX6_repay_69 : decode cX6_repay 69 = .ok (.dup, 1) := by decide +kernel
theorem dX6_repay_70 : decode cX6_repay 70 = .ok (.getfield 140, 3) := by decide +kernel
theorem dX6_repay_73 : decode cX6_repay 73 = .ok (.iload_n 2, 1) := by decide +kernel
theorem dX6_repay_74 : decode cX6_repay 74 = .ok (.iadd, 1) := by decide +kernel
theorem dX6_repay_75 : decode cX6_repay 75 = .ok (.putfield 140, 3) := by decide +kernel
theorem dX6_repay_78 : decode cX6_repay 78 = .ok (.aload_n 0, 1) := by decide +kernel
theorem dX6_repay_79 : decode cX6_repay 79 = .ok (.getfield 20, 3) := by decide +kernel
theorem dX6_repay_82 : decode cX6_repay 82 = .ok (.iload_n 1, 1) := by decide +kernel
theorem dX6_repay_83 : decode cX6_repay 83 = .ok (.iaload, 1) := by decide +kernel
theorem dX6_repay_84 : decode cX6_repay 84 = .ok (.ireturn, 1) := by decide +kernel
theorem dX6_target_0 : decode cX6_target 0 = .ok (.aload_n 0, 1) := by decide +kernel
theorem dX6_target_1 : decode cX6_target 1 = .ok (.iload_n 1, 1) := by decide +kernel
theorem dX6_target_2 : decode cX6_target 2 = .ok (.iconst 0, 1) := by decide +kernel
theorem dX6_target_3 : decode cX6_target 3 = .ok (.bipush 50, 2) := by decide +kernel
theorem dX6_target_5 : decode cX6_target 5 = .ok (.invokestatic 93, 3) := by decide +kernel
theorem dX6_target_8 : decode cX6_target 8 = .ok (.ifCond .eq 7, 3) := by decide +kernel
theorem dX6_target_11 : decode cX6_target 11 = .ok (.iconst 0, 1) := by decide +kernel
theorem dX6_target_12 : decode cX6_target 12 = .ok (.goto 4, 3) := by decide +kernel
theorem dX6_target_15 : decode cX6_target 15 = .ok (.iconst 1, 1) := by decide +kernel
theorem dX6_target_16 : decode cX6_target 16 = .ok (.invokevirtual 114, 3) := by decide +kernel
theorem dX6_target_19 : decode cX6_target 19 = .ok (.ifCond .ne 5, 3) := by decide +kernel
theorem dX6_target_22 : decode cX6_target 22 = .ok (.iconst 0, 1) := by decide +kernel
theorem dX6_target_23 : decode cX6_target 23 = .ok (.ireturn, 1) := by decide +kernel
theorem dX6_target_24 : decode cX6_target 24 = .ok (.aload_n 0, 1) := by decide +kernel
theorem dX6_target_25 : decode cX6_target 25 = .ok (.getfield 7, 3) := by decide +kernel
theorem dX6_target_28 : decode cX6_target 28 = .ok (.istore_n 2, 1) := by decide +kernel
theorem dX6_target_29 : decode cX6_target 29 = .ok (.aload_n 0, 1) := by decide +kernel
theorem dX6_target_30 : decode cX6_target 30 = .ok (.iload_n 1, 1) := by decide +kernel
theorem dX6_target_31 : decode cX6_target 31 = .ok (.putfield 7, 3) := by decide +kernel
theorem dX6_target_34 : decode cX6_target 34 = .ok (.iload_n 2, 1) := by decide +kernel
theorem dX6_target_35 : decode cX6_target 35 = .ok (.ireturn, 1) := by decide +kernel
theorem dX6_fill_0 : decode cX6_fill 0 = .ok (.lconst 0, 1) := by decide +kernel
theorem dX6_fill_1 : decode cX6_fill 1 = .ok (.lstore_n 1, 1) := by decide +kernel
theorem dX6_fill_2 : decode cX6_fill 2 = .ok (.iconst 0, 1) := by decide +kernel
theorem dX6_fill_3 : decode cX6_fill 3 = .ok (.istore_n 3, 1) := by decide +kernel
theorem dX6_fill_4 : decode cX6_fill 4 = .ok (.iload_n 3, 1) := by decide +kernel
theorem dX6_fill_5 : decode cX6_fill 5 = .ok (.aload_n 0, 1) := by decide +kernel
theorem dX6_fill_6 : decode cX6_fill 6 = .ok (.getfield 90, 3) := by decide +kernel
theorem dX6_fill_9 : decode cX6_fill 9 = .ok (.if_icmp .ge 18, 3) := by decide +kernel
theorem dX6_fill_12 : decode cX6_fill 12 = .ok (.lload_n 1, 1) := by decide +kernel
theorem dX6_fill_13 : decode cX6_fill 13 = .ok (.aload_n 0, 1) := by decide +kernel
theorem dX6_fill_14 : decode cX6_fill 14 = .ok (.iload_n 3, 1) := by decide +kernel
theorem dX6_fill_15 : decode cX6_fill 15 = .ok (.invokevirtual 106, 3) := by decide +kernel
theorem dX6_fill_18 : decode cX6_fill 18 = .ok (.i2l, 1) := by decide +kernel
theorem dX6_fill_19 : decode cX6_fill 19 = .ok (.ladd, 1) := by decide +kernel
theorem dX6_fill_20 : decode cX6_fill 20 = .ok (.lstore_n 1, 1) := by decide +kernel
theorem dX6_fill_21 : decode cX6_fill 21 = .ok (.iinc 3 1, 3) := by decide +kernel
theorem dX6_fill_24 : decode cX6_fill 24 = .ok (.goto (-20), 3) := by decide +kernel
theorem dX6_fill_27 : decode cX6_fill 27 = .ok (.lload_n 1, 1) := by decide +kernel
theorem dX6_fill_28 : decode cX6_fill 28 = .ok (.lconst 0, 1) := by decide +kernel
theorem dX6_fill_29 : decode cX6_fill 29 = .ok (.lcmp, 1) := by decide +kernel
theorem dX6_fill_30 : decode cX6_fill 30 = .ok (.ifCond .ge 7, 3) := by decide +kernel
theorem dX6_fill_33 : decode cX6_fill 33 = .ok (.lconst 0, 1) := by decide +kernel
theorem dX6_fill_34 : decode cX6_fill 34 = .ok (.goto 14, 3) := by decide +kernel
theorem dX6_fill_37 : decode cX6_fill 37 = .ok (.aload_n 0, 1) := by decide +kernel
theorem dX6_fill_38 : decode cX6_fill 38 = .ok (.getfield 7, 3) := by decide +kernel
theorem dX6_fill_41 : decode cX6_fill 41 = .ok (.i2l, 1) := by decide +kernel
theorem dX6_fill_42 : decode cX6_fill 42 = .ok (.lload_n 1, 1) := by decide +kernel
theorem dX6_fill_43 : decode cX6_fill 43 = .ok (.lmul, 1) := by decide +kernel
theorem dX6_fill_44 : decode cX6_fill 44 = .ok (.ldc2_w 166, 3) := by decide +kernel
theorem dX6_fill_47 : decode cX6_fill 47 = .ok (.ldiv, 1) := by decide +kernel
theorem dX6_fill_48 : decode cX6_fill 48 = .ok (.lstore_n 3, 1) := by decide +kernel
theorem dX6_fill_49 : decode cX6_fill 49 = .ok (.iconst 0, 1) := by decide +kernel
theorem dX6_fill_50 : decode cX6_fill 50 = .ok (.istore 5, 2) := by decide +kernel
theorem dX6_fill_52 : decode cX6_fill 52 = .ok (.iload 5, 2) := by decide +kernel
theorem dX6_fill_54 : decode cX6_fill 54 = .ok (.aload_n 0, 1) := by decide +kernel
theorem dX6_fill_55 : decode cX6_fill 55 = .ok (.getfield 90, 3) := by decide +kernel
theorem dX6_fill_58 : decode cX6_fill 58 = .ok (.if_icmp .ge 79, 3) := by decide +kernel
theorem dX6_fill_61 : decode cX6_fill 61 = .ok (.lload_n 3, 1) := by decide +kernel
theorem dX6_fill_62 : decode cX6_fill 62 = .ok (.aload_n 0, 1) := by decide +kernel
theorem dX6_fill_63 : decode cX6_fill 63 = .ok (.getfield 140, 3) := by decide +kernel
theorem dX6_fill_66 : decode cX6_fill 66 = .ok (.i2l, 1) := by decide +kernel
theorem dX6_fill_67 : decode cX6_fill 67 = .ok (.lsub, 1) := by decide +kernel
theorem dX6_fill_68 : decode cX6_fill 68 = .ok (.lstore 6, 2) := by decide +kernel
theorem dX6_fill_70 : decode cX6_fill 70 = .ok (.aload_n 0, 1) := by decide +kernel
theorem dX6_fill_71 : decode cX6_fill 71 = .ok (.iload 5, 2) := by decide +kernel
theorem dX6_fill_73 : decode cX6_fill 73 = .ok (.invokevirtual 137, 3) := by decide +kernel
theorem dX6_fill_76 : decode cX6_fill 76 = .ok (.bipush 10, 2) := by decide +kernel
theorem dX6_fill_78 : decode cX6_fill 78 = .ok (.idiv, 1) := by decide +kernel
theorem dX6_fill_79 : decode cX6_fill 79 = .ok (.i2l, 1) := by decide +kernel
theorem dX6_fill_80 : decode cX6_fill 80 = .ok (.lstore 8, 2) := by decide +kernel
theorem dX6_fill_82 : decode cX6_fill 82 = .ok (.lload 8, 2) := by decide +kernel
theorem dX6_fill_84 : decode cX6_fill 84 = .ok (.lload 6, 2) := by decide +kernel
theorem dX6_fill_86 : decode cX6_fill 86 = .ok (.lcmp, 1) := by decide +kernel
theorem dX6_fill_87 : decode cX6_fill 87 = .ok (.ifCond .ge 8, 3) := by decide +kernel
theorem dX6_fill_90 : decode cX6_fill 90 = .ok (.lload 8, 2) := by decide +kernel
theorem dX6_fill_92 : decode cX6_fill 92 = .ok (.goto 5, 3) := by decide +kernel
theorem dX6_fill_95 : decode cX6_fill 95 = .ok (.lload 6, 2) := by decide +kernel
theorem dX6_fill_97 : decode cX6_fill 97 = .ok (.lstore 8, 2) := by decide +kernel
theorem dX6_fill_99 : decode cX6_fill 99 = .ok (.lload 8, 2) := by decide +kernel
theorem dX6_fill_101 : decode cX6_fill 101 = .ok (.lconst 0, 1) := by decide +kernel
theorem dX6_fill_102 : decode cX6_fill 102 = .ok (.lcmp, 1) := by decide +kernel
theorem dX6_fill_103 : decode cX6_fill 103 = .ok (.ifCond .le 28, 3) := by decide +kernel
theorem dX6_fill_106 : decode cX6_fill 106 = .ok (.aload_n 0, 1) := by decide +kernel
theorem dX6_fill_107 : decode cX6_fill 107 = .ok (.getfield 29, 3) := by decide +kernel
theorem dX6_fill_110 : decode cX6_fill 110 = .ok (.iload 5, 2) := by decide +kernel
theorem dX6_fill_112 : decode cX6_fill 112 = .ok (.dup2, 1) := by decide +kernel
theorem dX6_fill_113 : decode cX6_fill 113 = .ok (.iaload, 1) := by decide +kernel
theorem dX6_fill_114 : decode cX6_fill 114 = .ok (.lload 8, 2) := by decide +kernel
theorem dX6_fill_116 : decode cX6_fill 116 = .ok (.l2i, 1) := by decide +kernel
theorem dX6_fill_117 : decode cX6_fill 117 = .ok (.iadd, 1) := by decide +kernel
theorem dX6_fill_118 : decode cX6_fill 118 = .ok (.iastore, 1) := by decide +kernel
theorem dX6_fill_119 : decode cX6_fill 119 = .ok (.aload_n 0, 1) := by decide +kernel
theorem dX6_fill_120 : decode cX6_fill 120 = .ok (.dup, 1) := by decide +kernel
theorem dX6_fill_121 : decode cX6_fill 121 = .ok (.getfield 140, 3) := by decide +kernel
theorem dX6_fill_124 : decode cX6_fill 124 = .ok (.lload 8, 2) := by decide +kernel
theorem dX6_fill_126 : decode cX6_fill 126 = .ok (.l2i, 1) := by decide +kernel
theorem dX6_fill_127 : decode cX6_fill 127 = .ok (.iadd, 1) := by decide +kernel
theorem dX6_fill_128 : decode cX6_fill 128 = .ok (.putfield 140, 3) := by decide +kernel
theorem dX6_fill_131 : decode cX6_fill 131 = .ok (.iinc 5 1, 3) := by decide +kernel
theorem dX6_fill_134 : decode cX6_fill 134 = .ok (.goto (-82), 3) := by decide +kernel
theorem dX6_fill_137 : decode cX6_fill 137 = .ok (.return_, 1) := by decide +kernel
theorem dX6_month_0 : decode cX6_month 0 = .ok (.aload_n 0, 1) := by decide +kernel
theorem dX6_month_1 : decode cX6_month 1 = .ok (.iload_n 1, 1) := by decide +kernel
theorem dX6_month_2 : decode cX6_month 2 = .ok (.iconst 1, 1) := by decide +kernel
theorem dX6_month_3 : decode cX6_month 3 = .ok (.bipush 24, 2) := by decide +kernel
theorem dX6_month_5 : decode cX6_month 5 = .ok (.invokestatic 93, 3) := by decide +kernel
theorem dX6_month_8 : decode cX6_month 8 = .ok (.ifCond .eq 7, 3) := by decide +kernel
theorem dX6_month_11 : decode cX6_month 11 = .ok (.iconst 0, 1) := by decide +kernel
theorem dX6_month_12 : decode cX6_month 12 = .ok (.goto 4, 3) := by decide +kernel
theorem dX6_month_15 : decode cX6_month 15 = .ok (.iconst 1, 1) := by decide +kernel
theorem dX6_month_16 : decode cX6_month 16 = .ok (.invokevirtual 114, 3) := by decide +kernel
theorem dX6_month_19 : decode cX6_month 19 = .ok (.ifCond .ne 5, 3) := by decide +kernel
theorem dX6_month_22 : decode cX6_month 22 = .ok (.iconst 0, 1) := by decide +kernel
theorem dX6_month_23 : decode cX6_month 23 = .ok (.ireturn, 1) := by decide +kernel
theorem dX6_month_24 : decode cX6_month 24 = .ok (.iconst 0, 1) := by decide +kernel
theorem dX6_month_25 : decode cX6_month 25 = .ok (.istore_n 2, 1) := by decide +kernel
theorem dX6_month_26 : decode cX6_month 26 = .ok (.iload_n 2, 1) := by decide +kernel
theorem dX6_month_27 : decode cX6_month 27 = .ok (.iload_n 1, 1) := by decide +kernel
theorem dX6_month_28 : decode cX6_month 28 = .ok (.if_icmp .ge 75, 3) := by decide +kernel
theorem dX6_month_31 : decode cX6_month 31 = .ok (.aload_n 0, 1) := by decide +kernel
theorem dX6_month_32 : decode cX6_month 32 = .ok (.dup, 1) := by decide +kernel
theorem dX6_month_33 : decode cX6_month 33 = .ok (.getfield 156, 3) := by decide +kernel
theorem dX6_month_36 : decode cX6_month 36 = .ok (.iconst 1, 1) := by decide +kernel
theorem dX6_month_37 : decode cX6_month 37 = .ok (.iadd, 1) := by decide +kernel
theorem dX6_month_38 : decode cX6_month 38 = .ok (.putfield 156, 3) := by decide +kernel
theorem dX6_month_41 : decode cX6_month 41 = .ok (.iconst 0, 1) := by decide +kernel
theorem dX6_month_42 : decode cX6_month 42 = .ok (.istore_n 3, 1) := by decide +kernel
theorem dX6_month_43 : decode cX6_month 43 = .ok (.iload_n 3, 1) := by decide +kernel
theorem dX6_month_44 : decode cX6_month 44 = .ok (.aload_n 0, 1) := by decide +kernel
theorem dX6_month_45 : decode cX6_month 45 = .ok (.getfield 100, 3) := by decide +kernel
theorem dX6_month_48 : decode cX6_month 48 = .ok (.if_icmp .ge 45, 3) := by decide +kernel
theorem dX6_month_51 : decode cX6_month 51 = .ok (.aload_n 0, 1) := by decide +kernel
theorem dX6_month_52 : decode cX6_month 52 = .ok (.getfield 74, 3) := by decide +kernel
theorem dX6_month_55 : decode cX6_month 55 = .ok (.iload_n 3, 1) := by decide +kernel
theorem dX6_month_56 : decode cX6_month 56 = .ok (.iaload, 1) := by decide +kernel
theorem dX6_month_57 : decode cX6_month 57 = .ok (.ifCond .ne 30, 3) := by decide +kernel
theorem dX6_month_60 : decode cX6_month 60 = .ok (.aload_n 0, 1) := by decide +kernel
theorem dX6_month_61 : decode cX6_month 61 = .ok (.getfield 71, 3) := by decide +kernel
theorem dX6_month_64 : decode cX6_month 64 = .ok (.iload_n 3, 1) := by decide +kernel
theorem dX6_month_65 : decode cX6_month 65 = .ok (.iaload, 1) := by decide +kernel
theorem dX6_month_66 : decode cX6_month 66 = .ok (.aload_n 0, 1) := by decide +kernel
theorem dX6_month_67 : decode cX6_month 67 = .ok (.getfield 156, 3) := by decide +kernel
theorem dX6_month_70 : decode cX6_month 70 = .ok (.if_icmp .ge 17, 3) := by decide +kernel
theorem dX6_month_73 : decode cX6_month 73 = .ok (.aload_n 0, 1) := by decide +kernel
theorem dX6_month_74 : decode cX6_month 74 = .ok (.getfield 77, 3) := by decide +kernel
theorem dX6_month_77 : decode cX6_month 77 = .ok (.iload_n 3, 1) := by decide +kernel
theorem dX6_month_78 : decode cX6_month 78 = .ok (.baload, 1) := by decide +kernel
theorem dX6_month_79 : decode cX6_month 79 = .ok (.ifCond .ne 8, 3) := by decide +kernel
theorem dX6_month_82 : decode cX6_month 82 = .ok (.aload_n 0, 1) := by decide +kernel
theorem dX6_month_83 : decode cX6_month 83 = .ok (.iload_n 3, 1) := by decide +kernel
theorem dX6_month_84 : decode cX6_month 84 = .ok (.invokevirtual 143, 3) := by decide +kernel
theorem dX6_month_87 : decode cX6_month 87 = .ok (.iinc 3 1, 3) := by decide +kernel
theorem dX6_month_90 : decode cX6_month 90 = .ok (.goto (-47), 3) := by decide +kernel
theorem dX6_month_93 : decode cX6_month 93 = .ok (.aload_n 0, 1) := by decide +kernel
theorem dX6_month_94 : decode cX6_month 94 = .ok (.invokevirtual 168, 3) := by decide +kernel
theorem dX6_month_97 : decode cX6_month 97 = .ok (.iinc 2 1, 3) := by decide +kernel
theorem dX6_month_100 : decode cX6_month 100 = .ok (.goto (-74), 3) := by decide +kernel
theorem dX6_month_103 : decode cX6_month 103 = .ok (.aload_n 0, 1) := by decide +kernel
theorem dX6_month_104 : decode cX6_month 104 = .ok (.getfield 156, 3) := by decide +kernel
theorem dX6_month_107 : decode cX6_month 107 = .ok (.ireturn, 1) := by decide +kernel
theorem dX6_ofLine_0 : decode cX6_ofLine 0 = .ok (.aload_n 0, 1) := by decide +kernel
theorem dX6_ofLine_1 : decode cX6_ofLine 1 = .ok (.iload_n 1, 1) := by decide +kernel
theorem dX6_ofLine_2 : decode cX6_ofLine 2 = .ok (.invokevirtual 120, 3) := by decide +kernel
theorem dX6_ofLine_5 : decode cX6_ofLine 5 = .ok (.istore_n 3, 1) := by decide +kernel
theorem dX6_ofLine_6 : decode cX6_ofLine 6 = .ok (.aload_n 0, 1) := by decide +kernel
theorem dX6_ofLine_7 : decode cX6_ofLine 7 = .ok (.iload_n 3, 1) := by decide +kernel
theorem dX6_ofLine_8 : decode cX6_ofLine 8 = .ok (.ifCond .ne 7, 3) := by decide +kernel
theorem dX6_ofLine_11 : decode cX6_ofLine 11 = .ok (.iconst 1, 1) := by decide +kernel
theorem dX6_ofLine_12 : decode cX6_ofLine 12 = .ok (.goto 18, 3) := by decide +kernel
theorem dX6_ofLine_15 : decode cX6_ofLine 15 = .ok (.iload_n 2, 1) := by decide +kernel
theorem dX6_ofLine_16 : decode cX6_ofLine 16 = .ok (.iconst 0, 1) := by decide +kernel
theorem dX6_ofLine_17 : decode cX6_ofLine 17 = .ok (.bipush 6, 2) := by decide +kernel
theorem dX6_ofLine_19 : decode cX6_ofLine 19 = .ok (.invokestatic 93, 3) := by decide +kernel
theorem dX6_ofLine_22 : decode cX6_ofLine 22 = .ok (.ifCond .eq 7, 3) := by decide +kernel
theorem dX6_ofLine_25 : decode cX6_ofLine 25 = .ok (.iconst 0, 1) := by decide +kernel
theorem dX6_ofLine_26 : decode cX6_ofLine 26 = .ok (.goto 4, 3) := by decide +kernel
theorem dX6_ofLine_29 : decode cX6_ofLine 29 = .ok (.iconst 2, 1) := by decide +kernel
theorem dX6_ofLine_30 : decode cX6_ofLine 30 = .ok (.invokevirtual 114, 3) := by decide +kernel
theorem dX6_ofLine_33 : decode cX6_ofLine 33 = .ok (.ifCond .ne 5, 3) := by decide +kernel
theorem dX6_ofLine_36 : decode cX6_ofLine 36 = .ok (.iconst 0, 1) := by decide +kernel
theorem dX6_ofLine_37 : decode cX6_ofLine 37 = .ok (.ireturn, 1) := by decide +kernel
theorem dX6_ofLine_38 : decode cX6_ofLine 38 = .ok (.iload_n 2, 1) := by decide +kernel
theorem dX6_ofLine_39 : decode cX6_ofLine 39 = .ok (.tableswitch 76 0 5 #[37, 43, 50, 56, 62, 69], 37) := by decide +kernel
theorem dX6_ofLine_76 : decode cX6_ofLine 76 = .ok (.aload_n 0, 1) := by decide +kernel
theorem dX6_ofLine_77 : decode cX6_ofLine 77 = .ok (.iload_n 1, 1) := by decide +kernel
theorem dX6_ofLine_78 : decode cX6_ofLine 78 = .ok (.invokevirtual 106, 3) := by decide +kernel
theorem dX6_ofLine_81 : decode cX6_ofLine 81 = .ok (.ireturn, 1) := by decide +kernel
theorem dX6_ofLine_82 : decode cX6_ofLine 82 = .ok (.aload_n 0, 1) := by decide +kernel
theorem dX6_ofLine_83 : decode cX6_ofLine 83 = .ok (.getfield 35, 3) := by decide +kernel
theorem dX6_ofLine_86 : decode cX6_ofLine 86 = .ok (.iload_n 1, 1) := by decide +kernel
theorem dX6_ofLine_87 : decode cX6_ofLine 87 = .ok (.iaload, 1) := by decide +kernel
theorem dX6_ofLine_88 : decode cX6_ofLine 88 = .ok (.ireturn, 1) := by decide +kernel
theorem dX6_ofLine_89 : decode cX6_ofLine 89 = .ok (.aload_n 0, 1) := by decide +kernel
theorem dX6_ofLine_90 : decode cX6_ofLine 90 = .ok (.iload_n 1, 1) := by decide +kernel
theorem dX6_ofLine_91 : decode cX6_ofLine 91 = .ok (.invokevirtual 110, 3) := by decide +kernel
theorem dX6_ofLine_94 : decode cX6_ofLine 94 = .ok (.ireturn, 1) := by decide +kernel
theorem dX6_ofLine_95 : decode cX6_ofLine 95 = .ok (.aload_n 0, 1) := by decide +kernel
theorem dX6_ofLine_96 : decode cX6_ofLine 96 = .ok (.iload_n 1, 1) := by decide +kernel
theorem dX6_ofLine_97 : decode cX6_ofLine 97 = .ok (.invokevirtual 137, 3) := by decide +kernel
theorem dX6_ofLine_100 : decode cX6_ofLine 100 = .ok (.ireturn, 1) := by decide +kernel
theorem dX6_ofLine_101 : decode cX6_ofLine 101 = .ok (.aload_n 0, 1) := by decide +kernel
theorem dX6_ofLine_102 : decode cX6_ofLine 102 = .ok (.getfield 29, 3) := by decide +kernel
theorem dX6_ofLine_105 : decode cX6_ofLine 105 = .ok (.iload_n 1, 1) := by decide +kernel
theorem dX6_ofLine_106 : decode cX6_ofLine 106 = .ok (.iaload, 1) := by decide +kernel
theorem dX6_ofLine_107 : decode cX6_ofLine 107 = .ok (.ireturn, 1) := by decide +kernel
theorem dX6_ofLine_108 : decode cX6_ofLine 108 = .ok (.aload_n 0, 1) := by decide +kernel
theorem dX6_ofLine_109 : decode cX6_ofLine 109 = .ok (.getfield 32, 3) := by decide +kernel
theorem dX6_ofLine_112 : decode cX6_ofLine 112 = .ok (.iload_n 1, 1) := by decide +kernel
theorem dX6_ofLine_113 : decode cX6_ofLine 113 = .ok (.iaload, 1) := by decide +kernel
theorem dX6_ofLine_114 : decode cX6_ofLine 114 = .ok (.ireturn, 1) := by decide +kernel
theorem dX6_ofLine_115 : decode cX6_ofLine 115 = .ok (.aload_n 0, 1) := by decide +kernel
theorem dX6_ofLine_116 : decode cX6_ofLine 116 = .ok (.getfield 23, 3) := by decide +kernel
theorem dX6_ofLine_119 : decode cX6_ofLine 119 = .ok (.iload_n 1, 1) := by decide +kernel
theorem dX6_ofLine_120 : decode cX6_ofLine 120 = .ok (.iaload, 1) := by decide +kernel
theorem dX6_ofLine_121 : decode cX6_ofLine 121 = .ok (.ireturn, 1) := by decide +kernel
theorem dX6_standsAnew_0 : decode cX6_standsAnew 0 = .ok (.aload_n 0, 1) := by decide +kernel
theorem dX6_standsAnew_1 : decode cX6_standsAnew 1 = .ok (.aload_n 0, 1) := by decide +kernel
theorem dX6_standsAnew_2 : decode cX6_standsAnew 2 = .ok (.iload_n 1, 1) := by decide +kernel
theorem dX6_standsAnew_3 : decode cX6_standsAnew 3 = .ok (.invokevirtual 120, 3) := by decide +kernel
theorem dX6_standsAnew_6 : decode cX6_standsAnew 6 = .ok (.ifCond .eq 7, 3) := by decide +kernel
theorem dX6_standsAnew_9 : decode cX6_standsAnew 9 = .ok (.iconst 0, 1) := by decide +kernel
theorem dX6_standsAnew_10 : decode cX6_standsAnew 10 = .ok (.goto 4, 3) := by decide +kernel
theorem dX6_standsAnew_13 : decode cX6_standsAnew 13 = .ok (.iconst 1, 1) := by decide +kernel
theorem dX6_standsAnew_14 : decode cX6_standsAnew 14 = .ok (.invokevirtual 114, 3) := by decide +kernel
theorem dX6_standsAnew_17 : decode cX6_standsAnew 17 = .ok (.ifCond .eq 11, 3) := by decide +kernel
theorem dX6_standsAnew_20 : decode cX6_standsAnew 20 = .ok (.aload_n 0, 1) := by decide +kernel
theorem dX6_standsAnew_21 : decode cX6_standsAnew 21 = .ok (.iload_n 1, 1) := by decide +kernel
theorem dX6_standsAnew_22 : decode cX6_standsAnew 22 = .ok (.invokevirtual 106, 3) := by decide +kernel
theorem dX6_standsAnew_25 : decode cX6_standsAnew 25 = .ok (.goto 4, 3) := by decide +kernel
theorem dX6_standsAnew_28 : decode cX6_standsAnew 28 = .ok (.iconst 0, 1) := by decide +kernel
theorem dX6_standsAnew_29 : decode cX6_standsAnew 29 = .ok (.ireturn, 1) := by decide +kernel
theorem dX6_manyOn_0 : decode cX6_manyOn 0 = .ok (.iconst 0, 1) := by decide +kernel
theorem dX6_manyOn_1 : decode cX6_manyOn 1 = .ok (.istore_n 2, 1) := by decide +kernel
theorem dX6_manyOn_2 : decode cX6_manyOn 2 = .ok (.iconst 0, 1) := by decide +kernel
theorem dX6_manyOn_3 : decode cX6_manyOn 3 = .ok (.istore_n 3, 1) := by decide +kernel
theorem dX6_manyOn_4 : decode cX6_manyOn 4 = .ok (.iload_n 3, 1) := by decide +kernel
theorem dX6_manyOn_5 : decode cX6_manyOn 5 = .ok (.aload_n 0, 1) := by decide +kernel
theorem dX6_manyOn_6 : decode cX6_manyOn 6 = .ok (.getfield 97, 3) := by decide +kernel
theorem dX6_manyOn_9 : decode cX6_manyOn 9 = .ok (.if_icmp .ge 27, 3) := by decide +kernel
theorem dX6_manyOn_12 : decode cX6_manyOn 12 = .ok (.iload_n 2, 1) := by decide +kernel
theorem dX6_manyOn_13 : decode cX6_manyOn 13 = .ok (.aload_n 0, 1) := by decide +kernel
theorem dX6_manyOn_14 : decode cX6_manyOn 14 = .ok (.getfield 38, 3) := by decide +kernel
theorem dX6_manyOn_17 : decode cX6_manyOn 17 = .ok (.iload_n 3, 1) := by decide +kernel
theorem dX6_manyOn_18 : decode cX6_manyOn 18 = .ok (.iaload, 1) := by decide +kernel
theorem dX6_manyOn_19 : decode cX6_manyOn 19 = .ok (.iload_n 1, 1) := by decide +kernel
theorem dX6_manyOn_20 : decode cX6_manyOn 20 = .ok (.if_icmp .ne 7, 3) := by decide +kernel
theorem dX6_manyOn_23 : decode cX6_manyOn 23 = .ok (.iconst 1, 1) := by decide +kernel
theorem dX6_manyOn_24 : decode cX6_manyOn 24 = .ok (.goto 4, 3) := by decide +kernel
theorem dX6_manyOn_27 : decode cX6_manyOn 27 = .ok (.iconst 0, 1) := by decide +kernel
theorem dX6_manyOn_28 : decode cX6_manyOn 28 = .ok (.iadd, 1) := by decide +kernel
theorem dX6_manyOn_29 : decode cX6_manyOn 29 = .ok (.istore_n 2, 1) := by decide +kernel
theorem dX6_manyOn_30 : decode cX6_manyOn 30 = .ok (.iinc 3 1, 3) := by decide +kernel
theorem dX6_manyOn_33 : decode cX6_manyOn 33 = .ok (.goto (-29), 3) := by decide +kernel
theorem dX6_manyOn_36 : decode cX6_manyOn 36 = .ok (.iload_n 2, 1) := by decide +kernel
theorem dX6_manyOn_37 : decode cX6_manyOn 37 = .ok (.ireturn, 1) := by decide +kernel
theorem dX6_ofAmendment_0 : decode cX6_ofAmendment 0 = .ok (.aload_n 0, 1) := by decide +kernel
theorem dX6_ofAmendment_1 : decode cX6_ofAmendment 1 = .ok (.iload_n 1, 1) := by decide +kernel
theorem dX6_ofAmendment_2 : decode cX6_ofAmendment 2 = .ok (.invokevirtual 130, 3) := by decide +kernel
theorem dX6_ofAmendment_5 : decode cX6_ofAmendment 5 = .ok (.istore_n 3, 1) := by decide +kernel
theorem dX6_ofAmendment_6 : decode cX6_ofAmendment 6 = .ok (.aload_n 0, 1) := by decide +kernel
theorem dX6_ofAmendment_7 : decode cX6_ofAmendment 7 = .ok (.iload_n 3, 1) := by decide +kernel
theorem dX6_ofAmendment_8 : decode cX6_ofAmendment 8 = .ok (.ifCond .ne 7, 3) := by decide +kernel
theorem dX6_ofAmendment_11 : decode cX6_ofAmendment 11 = .ok (.iconst 1, 1) := by decide +kernel
theorem dX6_ofAmendment_12 : decode cX6_ofAmendment 12 = .ok (.goto 18, 3) := by decide +kernel
theorem dX6_ofAmendment_15 : decode cX6_ofAmendment 15 = .ok (.iload_n 2, 1) := by decide +kernel
theorem dX6_ofAmendment_16 : decode cX6_ofAmendment 16 = .ok (.iconst 0, 1) := by decide +kernel
theorem dX6_ofAmendment_17 : decode cX6_ofAmendment 17 = .ok (.bipush 7, 2) := by decide +kernel
theorem dX6_ofAmendment_19 : decode cX6_ofAmendment 19 = .ok (.invokestatic 93, 3) := by decide +kernel
theorem dX6_ofAmendment_22 : decode cX6_ofAmendment 22 = .ok (.ifCond .eq 7, 3) := by decide +kernel
theorem dX6_ofAmendment_25 : decode cX6_ofAmendment 25 = .ok (.iconst 0, 1) := by decide +kernel
theorem dX6_ofAmendment_26 : decode cX6_ofAmendment 26 = .ok (.goto 4, 3) := by decide +kernel
theorem dX6_ofAmendment_29 : decode cX6_ofAmendment 29 = .ok (.iconst 2, 1) := by decide +kernel
theorem dX6_ofAmendment_30 : decode cX6_ofAmendment 30 = .ok (.invokevirtual 114, 3) := by decide +kernel
theorem dX6_ofAmendment_33 : decode cX6_ofAmendment 33 = .ok (.ifCond .ne 5, 3) := by decide +kernel
theorem dX6_ofAmendment_36 : decode cX6_ofAmendment 36 = .ok (.iconst 0, 1) := by decide +kernel
theorem dX6_ofAmendment_37 : decode cX6_ofAmendment 37 = .ok (.ireturn, 1) := by decide +kernel
theorem dX6_ofAmendment_38 : decode cX6_ofAmendment 38 = .ok (.aload_n 0, 1) := by decide +kernel
theorem dX6_ofAmendment_39 : decode cX6_ofAmendment 39 = .ok (.invokevirtual 103, 3) := by decide +kernel
theorem dX6_ofAmendment_42 : decode cX6_ofAmendment 42 = .ok (.iload_n 2, 1) := by decide +kernel
theorem dX6_ofAmendment_43 : decode cX6_ofAmendment 43 = .ok (.tableswitch 90 0 6 #[41, 48, 55, 62, 69, 76, 83], 41) := by decide +kernel
theorem dX6_ofAmendment_84 : decode cX6_ofAmendment 84 = .ok (.aload_n 0, 1) := by decide +kernel
theorem dX6_ofAmendment_85 : decode cX6_ofAmendment 85 = .ok (.getfield 47, 3) := by decide +kernel
theorem dX6_ofAmendment_88 : decode cX6_ofAmendment 88 = .ok (.iload_n 1, 1) := by decide +kernel
theorem dX6_ofAmendment_89 : decode cX6_ofAmendment 89 = .ok (.iaload, 1) := by decide +kernel
theorem dX6_ofAmendment_90 : decode cX6_ofAmendment 90 = .ok (.ireturn, 1) := by decide +kernel
theorem dX6_ofAmendment_91 : decode cX6_ofAmendment 91 = .ok (.aload_n 0, 1) := by decide +kernel
theorem dX6_ofAmendment_92 : decode cX6_ofAmendment 92 = .ok (.getfield 81, 3) := by decide +kernel
theorem dX6_ofAmendment_95 : decode cX6_ofAmendment 95 = .ok (.iload_n 1, 1) := by decide +kernel
theorem dX6_ofAmendment_96 : decode cX6_ofAmendment 96 = .ok (.iaload, 1) := by decide +kernel
theorem dX6_ofAmendment_97 : decode cX6_ofAmendment 97 = .ok (.ireturn, 1) := by decide +kernel
theorem dX6_ofAmendment_98 : decode cX6_ofAmendment 98 = .ok (.aload_n 0, 1) := by decide +kernel
theorem dX6_ofAmendment_99 : decode cX6_ofAmendment 99 = .ok (.getfield 50, 3) := by decide +kernel
theorem dX6_ofAmendment_102 : decode cX6_ofAmendment 102 = .ok (.iload_n 1, 1) := by decide +kernel
theorem dX6_ofAmendment_103 : decode cX6_ofAmendment 103 = .ok (.iaload, 1) := by decide +kernel
theorem dX6_ofAmendment_104 : decode cX6_ofAmendment 104 = .ok (.ireturn, 1) := by decide +kernel
theorem dX6_ofAmendment_105 : decode cX6_ofAmendment 105 = .ok (.aload_n 0, 1) := by decide +kernel
theorem dX6_ofAmendment_106 : decode cX6_ofAmendment 106 = .ok (.iload_n 1, 1) := by decide +kernel
theorem dX6_ofAmendment_107 : decode cX6_ofAmendment 107 = .ok (.iconst 1, 1) := by decide +kernel
theorem dX6_ofAmendment_108 : decode cX6_ofAmendment 108 = .ok (.invokevirtual 133, 3) := by decide +kernel
theorem dX6_ofAmendment_111 : decode cX6_ofAmendment 111 = .ok (.ireturn, 1) := by decide +kernel
theorem dX6_ofAmendment_112 : decode cX6_ofAmendment 112 = .ok (.aload_n 0, 1) := by decide +kernel
theorem dX6_ofAmendment_113 : decode cX6_ofAmendment 113 = .ok (.iload_n 1, 1) := by decide +kernel
theorem dX6_ofAmendment_114 : decode cX6_ofAmendment 114 = .ok (.iconst 2, 1) := by decide +kernel
theorem dX6_ofAmendment_115 : decode cX6_ofAmendment 115 = .ok (.invokevirtual 133, 3) := by decide +kernel
theorem dX6_ofAmendment_118 : decode cX6_ofAmendment 118 = .ok (.ireturn, 1) := by decide +kernel
theorem dX6_ofAmendment_119 : decode cX6_ofAmendment 119 = .ok (.aload_n 0, 1) := by decide +kernel
theorem dX6_ofAmendment_120 : decode cX6_ofAmendment 120 = .ok (.getfield 38, 3) := by decide +kernel
theorem dX6_ofAmendment_123 : decode cX6_ofAmendment 123 = .ok (.iload_n 1, 1) := by decide +kernel
theorem dX6_ofAmendment_124 : decode cX6_ofAmendment 124 = .ok (.iaload, 1) := by decide +kernel
theorem dX6_ofAmendment_125 : decode cX6_ofAmendment 125 = .ok (.ireturn, 1) := by decide +kernel
theorem dX6_ofAmendment_126 : decode cX6_ofAmendment 126 = .ok (.aload_n 0, 1) := by decide +kernel
theorem dX6_ofAmendment_127 : decode cX6_ofAmendment 127 = .ok (.getfield 41, 3) := by decide +kernel
theorem dX6_ofAmendment_130 : decode cX6_ofAmendment 130 = .ok (.iload_n 1, 1) := by decide +kernel
theorem dX6_ofAmendment_131 : decode cX6_ofAmendment 131 = .ok (.iaload, 1) := by decide +kernel
theorem dX6_ofAmendment_132 : decode cX6_ofAmendment 132 = .ok (.ireturn, 1) := by decide +kernel
theorem dX6_ofAmendment_133 : decode cX6_ofAmendment 133 = .ok (.aload_n 0, 1) := by decide +kernel
theorem dX6_ofAmendment_134 : decode cX6_ofAmendment 134 = .ok (.iload_n 1, 1) := by decide +kernel
theorem dX6_ofAmendment_135 : decode cX6_ofAmendment 135 = .ok (.invokevirtual 171, 3) := by decide +kernel
theorem dX6_ofAmendment_138 : decode cX6_ofAmendment 138 = .ok (.ireturn, 1) := by decide +kernel
theorem dX6_ofGrant_0 : decode cX6_ofGrant 0 = .ok (.aload_n 0, 1) := by decide +kernel
theorem dX6_ofGrant_1 : decode cX6_ofGrant 1 = .ok (.iload_n 1, 1) := by decide +kernel
theorem dX6_ofGrant_2 : decode cX6_ofGrant 2 = .ok (.invokevirtual 159, 3) := by decide +kernel
theorem dX6_ofGrant_5 : decode cX6_ofGrant 5 = .ok (.istore_n 3, 1) := by decide +kernel
theorem dX6_ofGrant_6 : decode cX6_ofGrant 6 = .ok (.aload_n 0, 1) := by decide +kernel
theorem dX6_ofGrant_7 : decode cX6_ofGrant 7 = .ok (.iload_n 3, 1) := by decide +kernel
theorem dX6_ofGrant_8 : decode cX6_ofGrant 8 = .ok (.ifCond .ne 7, 3) := by decide +kernel
theorem dX6_ofGrant_11 : decode cX6_ofGrant 11 = .ok (.iconst 1, 1) := by decide +kernel
theorem dX6_ofGrant_12 : decode cX6_ofGrant 12 = .ok (.goto 18, 3) := by decide +kernel
theorem dX6_ofGrant_15 : decode cX6_ofGrant 15 = .ok (.iload_n 2, 1) := by decide +kernel
theorem dX6_ofGrant_16 : decode cX6_ofGrant 16 = .ok (.iconst 0, 1) := by decide +kernel
theorem dX6_ofGrant_17 : decode cX6_ofGrant 17 = .ok (.bipush 7, 2) := by decide +kernel
theorem dX6_ofGrant_19 : decode cX6_ofGrant 19 = .ok (.invokestatic 93, 3) := by decide +kernel
theorem dX6_ofGrant_22 : decode cX6_ofGrant 22 = .ok (.ifCond .eq 7, 3) := by decide +kernel
theorem dX6_ofGrant_25 : decode cX6_ofGrant 25 = .ok (.iconst 0, 1) := by decide +kernel
theorem dX6_ofGrant_26 : decode cX6_ofGrant 26 = .ok (.goto 4, 3) := by decide +kernel
theorem dX6_ofGrant_29 : decode cX6_ofGrant 29 = .ok (.iconst 2, 1) := by decide +kernel
theorem dX6_ofGrant_30 : decode cX6_ofGrant 30 = .ok (.invokevirtual 114, 3) := by decide +kernel
theorem dX6_ofGrant_33 : decode cX6_ofGrant 33 = .ok (.ifCond .ne 5, 3) := by decide +kernel
theorem dX6_ofGrant_36 : decode cX6_ofGrant 36 = .ok (.iconst 0, 1) := by decide +kernel
theorem dX6_ofGrant_37 : decode cX6_ofGrant 37 = .ok (.ireturn, 1) := by decide +kernel
theorem dX6_ofGrant_38 : decode cX6_ofGrant 38 = .ok (.iload_n 2, 1) := by decide +kernel
theorem dX6_ofGrant_39 : decode cX6_ofGrant 39 = .ok (.tableswitch 90 0 6 #[41, 48, 55, 62, 69, 76, 83], 41) := by decide +kernel
theorem dX6_ofGrant_80 : decode cX6_ofGrant 80 = .ok (.aload_n 0, 1) := by decide +kernel
theorem dX6_ofGrant_81 : decode cX6_ofGrant 81 = .ok (.getfield 74, 3) := by decide +kernel
theorem dX6_ofGrant_84 : decode cX6_ofGrant 84 = .ok (.iload_n 1, 1) := by decide +kernel
theorem dX6_ofGrant_85 : decode cX6_ofGrant 85 = .ok (.iaload, 1) := by decide +kernel
theorem dX6_ofGrant_86 : decode cX6_ofGrant 86 = .ok (.ireturn, 1) := by decide +kernel
theorem dX6_ofGrant_87 : decode cX6_ofGrant 87 = .ok (.aload_n 0, 1) := by decide +kernel
theorem dX6_ofGrant_88 : decode cX6_ofGrant 88 = .ok (.getfield 62, 3) := by decide +kernel
theorem dX6_ofGrant_91 : decode cX6_ofGrant 91 = .ok (.iload_n 1, 1) := by decide +kernel
theorem dX6_ofGrant_92 : decode cX6_ofGrant 92 = .ok (.iaload, 1) := by decide +kernel
theorem dX6_ofGrant_93 : decode cX6_ofGrant 93 = .ok (.ireturn, 1) := by decide +kernel
theorem dX6_ofGrant_94 : decode cX6_ofGrant 94 = .ok (.aload_n 0, 1) := by decide +kernel
theorem dX6_ofGrant_95 : decode cX6_ofGrant 95 = .ok (.getfield 65, 3) := by decide +kernel
theorem dX6_ofGrant_98 : decode cX6_ofGrant 98 = .ok (.iload_n 1, 1) := by decide +kernel
theorem dX6_ofGrant_99 : decode cX6_ofGrant 99 = .ok (.iaload, 1) := by decide +kernel
theorem dX6_ofGrant_100 : decode cX6_ofGrant 100 = .ok (.ireturn, 1) := by decide +kernel
theorem dX6_ofGrant_101 : decode cX6_ofGrant 101 = .ok (.aload_n 0, 1) := by decide +kernel
theorem dX6_ofGrant_102 : decode cX6_ofGrant 102 = .ok (.getfield 56, 3) := by decide +kernel
theorem dX6_ofGrant_105 : decode cX6_ofGrant 105 = .ok (.iload_n 1, 1) := by decide +kernel
theorem dX6_ofGrant_106 : decode cX6_ofGrant 106 = .ok (.iaload, 1) := by decide +kernel
theorem dX6_ofGrant_107 : decode cX6_ofGrant 107 = .ok (.ireturn, 1) := by decide +kernel
theorem dX6_ofGrant_108 : decode cX6_ofGrant 108 = .ok (.aload_n 0, 1) := by decide +kernel
theorem dX6_ofGrant_109 : decode cX6_ofGrant 109 = .ok (.getfield 59, 3) := by decide +kernel
theorem dX6_ofGrant_112 : decode cX6_ofGrant 112 = .ok (.iload_n 1, 1) := by decide +kernel
theorem dX6_ofGrant_113 : decode cX6_ofGrant 113 = .ok (.iaload, 1) := by decide +kernel
theorem dX6_ofGrant_114 : decode cX6_ofGrant 114 = .ok (.ireturn, 1) := by decide +kernel
theorem dX6_ofGrant_115 : decode cX6_ofGrant 115 = .ok (.aload_n 0, 1) := by decide +kernel
theorem dX6_ofGrant_116 : decode cX6_ofGrant 116 = .ok (.getfield 68, 3) := by decide +kernel
theorem dX6_ofGrant_119 : decode cX6_ofGrant 119 = .ok (.iload_n 1, 1) := by decide +kernel
theorem dX6_ofGrant_120 : decode cX6_ofGrant 120 = .ok (.iaload, 1) := by decide +kernel
theorem dX6_ofGrant_121 : decode cX6_ofGrant 121 = .ok (.ireturn, 1) := by decide +kernel
theorem dX6_ofGrant_122 : decode cX6_ofGrant 122 = .ok (.aload_n 0, 1) := by decide +kernel
theorem dX6_ofGrant_123 : decode cX6_ofGrant 123 = .ok (.getfield 71, 3) := by decide +kernel
theorem dX6_ofGrant_126 : decode cX6_ofGrant 126 = .ok (.iload_n 1, 1) := by decide +kernel
theorem dX6_ofGrant_127 : decode cX6_ofGrant 127 = .ok (.iaload, 1) := by decide +kernel
theorem dX6_ofGrant_128 : decode cX6_ofGrant 128 = .ok (.ireturn, 1) := by decide +kernel
theorem dX6_ofGrant_129 : decode cX6_ofGrant 129 = .ok (.aload_n 0, 1) := by decide +kernel
theorem dX6_ofGrant_130 : decode cX6_ofGrant 130 = .ok (.getfield 77, 3) := by decide +kernel
theorem dX6_ofGrant_133 : decode cX6_ofGrant 133 = .ok (.iload_n 1, 1) := by decide +kernel
theorem dX6_ofGrant_134 : decode cX6_ofGrant 134 = .ok (.baload, 1) := by decide +kernel
theorem dX6_ofGrant_135 : decode cX6_ofGrant 135 = .ok (.ifCond .eq 7, 3) := by decide +kernel
theorem dX6_ofGrant_138 : decode cX6_ofGrant 138 = .ok (.iconst 1, 1) := by decide +kernel
theorem dX6_ofGrant_139 : decode cX6_ofGrant 139 = .ok (.goto 4, 3) := by decide +kernel
theorem dX6_ofGrant_142 : decode cX6_ofGrant 142 = .ok (.iconst 0, 1) := by decide +kernel
theorem dX6_ofGrant_143 : decode cX6_ofGrant 143 = .ok (.ireturn, 1) := by decide +kernel
theorem dX6_owes_0 : decode cX6_owes 0 = .ok (.aload_n 0, 1) := by decide +kernel
theorem dX6_owes_1 : decode cX6_owes 1 = .ok (.iload_n 1, 1) := by decide +kernel
theorem dX6_owes_2 : decode cX6_owes 2 = .ok (.iconst 0, 1) := by decide +kernel
theorem dX6_owes_3 : decode cX6_owes 3 = .ok (.bipush 7, 2) := by decide +kernel
theorem dX6_owes_5 : decode cX6_owes 5 = .ok (.invokestatic 93, 3) := by decide +kernel
theorem dX6_owes_8 : decode cX6_owes 8 = .ok (.ifCond .eq 7, 3) := by decide +kernel
theorem dX6_owes_11 : decode cX6_owes 11 = .ok (.iconst 0, 1) := by decide +kernel
theorem dX6_owes_12 : decode cX6_owes 12 = .ok (.goto 4, 3) := by decide +kernel
theorem dX6_owes_15 : decode cX6_owes 15 = .ok (.iconst 1, 1) := by decide +kernel
theorem dX6_owes_16 : decode cX6_owes 16 = .ok (.invokevirtual 114, 3) := by decide +kernel
theorem dX6_owes_19 : decode cX6_owes 19 = .ok (.ifCond .eq 12, 3) := by decide +kernel
theorem dX6_owes_22 : decode cX6_owes 22 = .ok (.aload_n 0, 1) := by decide +kernel
theorem dX6_owes_23 : decode cX6_owes 23 = .ok (.getfield 20, 3) := by decide +kernel
theorem dX6_owes_26 : decode cX6_owes 26 = .ok (.iload_n 1, 1) := by decide +kernel
theorem dX6_owes_27 : decode cX6_owes 27 = .ok (.iaload, 1) := by decide +kernel
theorem dX6_owes_28 : decode cX6_owes 28 = .ok (.goto 4, 3) := by decide +kernel
theorem dX6_owes_31 : decode cX6_owes 31 = .ok (.iconst 0, 1) := by decide +kernel
theorem dX6_owes_32 : decode cX6_owes 32 = .ok (.ireturn, 1) := by decide +kernel
theorem dX6_reserve_0 : decode cX6_reserve 0 = .ok (.aload_n 0, 1) := by decide +kernel
theorem dX6_reserve_1 : decode cX6_reserve 1 = .ok (.iconst 0, 1) := by decide +kernel
theorem dX6_reserve_2 : decode cX6_reserve 2 = .ok (.putfield 87, 3) := by decide +kernel
theorem dX6_reserve_5 : decode cX6_reserve 5 = .ok (.aload_n 0, 1) := by decide +kernel
theorem dX6_reserve_6 : decode cX6_reserve 6 = .ok (.getfield 140, 3) := by decide +kernel
theorem dX6_reserve_9 : decode cX6_reserve 9 = .ok (.ireturn, 1) := by decide +kernel
theorem dX6_ofSource_0 : decode cX6_ofSource 0 = .ok (.aload_n 0, 1) := by decide +kernel
theorem dX6_ofSource_1 : decode cX6_ofSource 1 = .ok (.iload_n 1, 1) := by decide +kernel
theorem dX6_ofSource_2 : decode cX6_ofSource 2 = .ok (.iconst 0, 1) := by decide +kernel
theorem dX6_ofSource_3 : decode cX6_ofSource 3 = .ok (.iconst 3, 1) := by decide +kernel
theorem dX6_ofSource_4 : decode cX6_ofSource 4 = .ok (.invokestatic 93, 3) := by decide +kernel
theorem dX6_ofSource_7 : decode cX6_ofSource 7 = .ok (.ifCond .eq 16, 3) := by decide +kernel
theorem dX6_ofSource_10 : decode cX6_ofSource 10 = .ok (.iload_n 2, 1) := by decide +kernel
theorem dX6_ofSource_11 : decode cX6_ofSource 11 = .ok (.iconst 0, 1) := by decide +kernel
theorem dX6_ofSource_12 : decode cX6_ofSource 12 = .ok (.iconst 2, 1) := by decide +kernel
theorem dX6_ofSource_13 : decode cX6_ofSource 13 = .ok (.invokestatic 93, 3) := by decide +kernel
theorem dX6_ofSource_16 : decode cX6_ofSource 16 = .ok (.ifCond .eq 7, 3) := by decide +kernel
theorem dX6_ofSource_19 : decode cX6_ofSource 19 = .ok (.iconst 0, 1) := by decide +kernel
theorem dX6_ofSource_20 : decode cX6_ofSource 20 = .ok (.goto 4, 3) := by decide +kernel
theorem dX6_ofSource_23 : decode cX6_ofSource 23 = .ok (.iconst 1, 1) := by decide +kernel
theorem dX6_ofSource_24 : decode cX6_ofSource 24 = .ok (.invokevirtual 114, 3) := by decide +kernel
theorem dX6_ofSource_27 : decode cX6_ofSource 27 = .ok (.ifCond .ne 5, 3) := by decide +kernel
theorem dX6_ofSource_30 : decode cX6_ofSource 30 = .ok (.iconst 0, 1) := by decide +kernel
theorem dX6_ofSource_31 : decode cX6_ofSource 31 = .ok (.ireturn, 1) := by decide +kernel
theorem dX6_ofSource_32 : decode cX6_ofSource 32 = .ok (.iconst 0, 1) := by decide +kernel
theorem dX6_ofSource_33 : decode cX6_ofSource 33 = .ok (.istore_n 3, 1) := by decide +kernel
theorem dX6_ofSource_34 : decode cX6_ofSource 34 = .ok (.iconst 0, 1) := by decide +kernel
theorem dX6_ofSource_35 : decode cX6_ofSource 35 = .ok (.istore 4, 2) := by decide +kernel
theorem dX6_ofSource_37 : decode cX6_ofSource 37 = .ok (.iload 4, 2) := by decide +kernel
theorem dX6_ofSource_39 : decode cX6_ofSource 39 = .ok (.aload_n 0, 1) := by decide +kernel
theorem dX6_ofSource_40 : decode cX6_ofSource 40 = .ok (.getfield 90, 3) := by decide +kernel
theorem dX6_ofSource_43 : decode cX6_ofSource 43 = .ok (.if_icmp .ge 33, 3) := by decide +kernel
theorem dX6_ofSource_46 : decode cX6_ofSource 46 = .ok (.iload_n 3, 1) := by decide +kernel
theorem dX6_ofSource_47 : decode cX6_ofSource 47 = .ok (.aload_n 0, 1) := by decide +kernel
theorem dX6_ofSource_48 : decode cX6_ofSource 48 = .ok (.getfield 23, 3) := by decide +kernel
theorem dX6_ofSource_51 : decode cX6_ofSource 51 = .ok (.iload 4, 2) := by decide +kernel
theorem dX6_ofSource_53 : decode cX6_ofSource 53 = .ok (.iaload, 1) := by decide +kernel
theorem dX6_ofSource_54 : decode cX6_ofSource 54 = .ok (.iload_n 1, 1) := by decide +kernel
theorem dX6_ofSource_55 : decode cX6_ofSource 55 = .ok (.if_icmp .ne 12, 3) := by decide +kernel
theorem dX6_ofSource_58 : decode cX6_ofSource 58 = .ok (.aload_n 0, 1) := by decide +kernel
theorem dX6_ofSource_59 : decode cX6_ofSource 59 = .ok (.iload 4, 2) := by decide +kernel
theorem dX6_ofSource_61 : decode cX6_ofSource 61 = .ok (.invokevirtual 106, 3) := by decide +kernel
theorem dX6_ofSource_64 : decode cX6_ofSource 64 = .ok (.goto 4, 3) := by decide +kernel
theorem dX6_ofSource_67 : decode cX6_ofSource 67 = .ok (.iconst 0, 1) := by decide +kernel
theorem dX6_ofSource_68 : decode cX6_ofSource 68 = .ok (.iadd, 1) := by decide +kernel
theorem dX6_ofSource_69 : decode cX6_ofSource 69 = .ok (.istore_n 3, 1) := by decide +kernel
theorem dX6_ofSource_70 : decode cX6_ofSource 70 = .ok (.iinc 4 1, 3) := by decide +kernel
theorem dX6_ofSource_73 : decode cX6_ofSource 73 = .ok (.goto (-36), 3) := by decide +kernel
theorem dX6_ofSource_76 : decode cX6_ofSource 76 = .ok (.iload_n 2, 1) := by decide +kernel
theorem dX6_ofSource_77 : decode cX6_ofSource 77 = .ok (.ifCond .ne 12, 3) := by decide +kernel
theorem dX6_ofSource_80 : decode cX6_ofSource 80 = .ok (.aload_n 0, 1) := by decide +kernel
theorem dX6_ofSource_81 : decode cX6_ofSource 81 = .ok (.getfield 13, 3) := by decide +kernel
theorem dX6_ofSource_84 : decode cX6_ofSource 84 = .ok (.iload_n 1, 1) := by decide +kernel
theorem dX6_ofSource_85 : decode cX6_ofSource 85 = .ok (.iaload, 1) := by decide +kernel
theorem dX6_ofSource_86 : decode cX6_ofSource 86 = .ok (.goto 18, 3) := by decide +kernel
theorem dX6_ofSource_89 : decode cX6_ofSource 89 = .ok (.iload_n 2, 1) := by decide +kernel
theorem dX6_ofSource_90 : decode cX6_ofSource 90 = .ok (.iconst 1, 1) := by decide +kernel
theorem dX6_ofSource_91 : decode cX6_ofSource 91 = .ok (.if_icmp .ne 12, 3) := by decide +kernel
theorem dX6_ofSource_94 : decode cX6_ofSource 94 = .ok (.aload_n 0, 1) := by decide +kernel
theorem dX6_ofSource_95 : decode cX6_ofSource 95 = .ok (.getfield 17, 3) := by decide +kernel
theorem dX6_ofSource_98 : decode cX6_ofSource 98 = .ok (.iload_n 1, 1) := by decide +kernel
theorem dX6_ofSource_99 : decode cX6_ofSource 99 = .ok (.iaload, 1) := by decide +kernel
theorem dX6_ofSource_100 : decode cX6_ofSource 100 = .ok (.goto 4, 3) := by decide +kernel
theorem dX6_ofSource_103 : decode cX6_ofSource 103 = .ok (.iload_n 3, 1) := by decide +kernel
theorem dX6_ofSource_104 : decode cX6_ofSource 104 = .ok (.ireturn, 1) := by decide +kernel
theorem dJ6_bitCount_0f7a4_0 : decode cJ6_bitCount_0f7a4 0 = .ok (.iload_n 0, 1) := by decide +kernel
theorem dJ6_bitCount_0f7a4_1 : decode cJ6_bitCount_0f7a4 1 = .ok (.iload_n 0, 1) := by decide +kernel
theorem dJ6_bitCount_0f7a4_2 : decode cJ6_bitCount_0f7a4 2 = .ok (.iconst 1, 1) := by decide +kernel
theorem dJ6_bitCount_0f7a4_3 : decode cJ6_bitCount_0f7a4 3 = .ok (.iushr, 1) := by decide +kernel
theorem dJ6_bitCount_0f7a4_4 : decode cJ6_bitCount_0f7a4 4 = .ok (.ldc_w 265, 3) := by decide +kernel
theorem dJ6_bitCount_0f7a4_7 : decode cJ6_bitCount_0f7a4 7 = .ok (.iand, 1) := by decide +kernel
theorem dJ6_bitCount_0f7a4_8 : decode cJ6_bitCount_0f7a4 8 = .ok (.isub, 1) := by decide +kernel
theorem dJ6_bitCount_0f7a4_9 : decode cJ6_bitCount_0f7a4 9 = .ok (.istore_n 0, 1) := by decide +kernel
theorem dJ6_bitCount_0f7a4_10 : decode cJ6_bitCount_0f7a4 10 = .ok (.iload_n 0, 1) := by decide +kernel
theorem dJ6_bitCount_0f7a4_11 : decode cJ6_bitCount_0f7a4 11 = .ok (.ldc_w 266, 3) := by decide +kernel
theorem dJ6_bitCount_0f7a4_14 : decode cJ6_bitCount_0f7a4 14 = .ok (.iand, 1) := by decide +kernel
theorem dJ6_bitCount_0f7a4_15 : decode cJ6_bitCount_0f7a4 15 = .ok (.iload_n 0, 1) := by decide +kernel
theorem dJ6_bitCount_0f7a4_16 : decode cJ6_bitCount_0f7a4 16 = .ok (.iconst 2, 1) := by decide +kernel
theorem dJ6_bitCount_0f7a4_17 : decode cJ6_bitCount_0f7a4 17 = .ok (.iushr, 1) := by decide +kernel
theorem dJ6_bitCount_0f7a4_18 : decode cJ6_bitCount_0f7a4 18 = .ok (.ldc_w 266, 3) := by decide +kernel
theorem dJ6_bitCount_0f7a4_21 : decode cJ6_bitCount_0f7a4 21 = .ok (.iand, 1) := by decide +kernel
theorem dJ6_bitCount_0f7a4_22 : decode cJ6_bitCount_0f7a4 22 = .ok (.iadd, 1) := by decide +kernel
theorem dJ6_bitCount_0f7a4_23 : decode cJ6_bitCount_0f7a4 23 = .ok (.istore_n 0, 1) := by decide +kernel
theorem dJ6_bitCount_0f7a4_24 : decode cJ6_bitCount_0f7a4 24 = .ok (.iload_n 0, 1) := by decide +kernel
theorem dJ6_bitCount_0f7a4_25 : decode cJ6_bitCount_0f7a4 25 = .ok (.iload_n 0, 1) := by decide +kernel
theorem dJ6_bitCount_0f7a4_26 : decode cJ6_bitCount_0f7a4 26 = .ok (.iconst 4, 1) := by decide +kernel
theorem dJ6_bitCount_0f7a4_27 : decode cJ6_bitCount_0f7a4 27 = .ok (.iushr, 1) := by decide +kernel
theorem dJ6_bitCount_0f7a4_28 : decode cJ6_bitCount_0f7a4 28 = .ok (.iadd, 1) := by decide +kernel
theorem dJ6_bitCount_0f7a4_29 : decode cJ6_bitCount_0f7a4 29 = .ok (.ldc_w 267, 3) := by decide +kernel
theorem dJ6_bitCount_0f7a4_32 : decode cJ6_bitCount_0f7a4 32 = .ok (.iand, 1) := by decide +kernel
theorem dJ6_bitCount_0f7a4_33 : decode cJ6_bitCount_0f7a4 33 = .ok (.istore_n 0, 1) := by decide +kernel
theorem dJ6_bitCount_0f7a4_34 : decode cJ6_bitCount_0f7a4 34 = .ok (.iload_n 0, 1) := by decide +kernel
theorem dJ6_bitCount_0f7a4_35 : decode cJ6_bitCount_0f7a4 35 = .ok (.iload_n 0, 1) := by decide +kernel
theorem dJ6_bitCount_0f7a4_36 : decode cJ6_bitCount_0f7a4 36 = .ok (.bipush 8, 2) := by decide +kernel
theorem dJ6_bitCount_0f7a4_38 : decode cJ6_bitCount_0f7a4 38 = .ok (.iushr, 1) := by decide +kernel
theorem dJ6_bitCount_0f7a4_39 : decode cJ6_bitCount_0f7a4 39 = .ok (.iadd, 1) := by decide +kernel
theorem dJ6_bitCount_0f7a4_40 : decode cJ6_bitCount_0f7a4 40 = .ok (.istore_n 0, 1) := by decide +kernel
theorem dJ6_bitCount_0f7a4_41 : decode cJ6_bitCount_0f7a4 41 = .ok (.iload_n 0, 1) := by decide +kernel
theorem dJ6_bitCount_0f7a4_42 : decode cJ6_bitCount_0f7a4 42 = .ok (.iload_n 0, 1) := by decide +kernel
theorem dJ6_bitCount_0f7a4_43 : decode cJ6_bitCount_0f7a4 43 = .ok (.bipush 16, 2) := by decide +kernel
theorem dJ6_bitCount_0f7a4_45 : decode cJ6_bitCount_0f7a4 45 = .ok (.iushr, 1) := by decide +kernel
theorem dJ6_bitCount_0f7a4_46 : decode cJ6_bitCount_0f7a4 46 = .ok (.iadd, 1) := by decide +kernel
theorem dJ6_bitCount_0f7a4_47 : decode cJ6_bitCount_0f7a4 47 = .ok (.istore_n 0, 1) := by decide +kernel
theorem dJ6_bitCount_0f7a4_48 : decode cJ6_bitCount_0f7a4 48 = .ok (.iload_n 0, 1) := by decide +kernel
theorem dJ6_bitCount_0f7a4_49 : decode cJ6_bitCount_0f7a4 49 = .ok (.bipush 63, 2) := by decide +kernel
theorem dJ6_bitCount_0f7a4_51 : decode cJ6_bitCount_0f7a4 51 = .ok (.iand, 1) := by decide +kernel
theorem dJ6_bitCount_0f7a4_52 : decode cJ6_bitCount_0f7a4 52 = .ok (.ireturn, 1) := by decide +kernel
theorem dJ9_max_7cf53_0 : decode cJ9_max_7cf53 0 = .ok (.iload_n 0, 1) := by decide +kernel
theorem dJ9_max_7cf53_1 : decode cJ9_max_7cf53 1 = .ok (.iload_n 1, 1) := by decide +kernel
theorem dJ9_max_7cf53_2 : decode cJ9_max_7cf53 2 = .ok (.if_icmp .lt 7, 3) := by decide +kernel
theorem dJ9_max_7cf53_5 : decode cJ9_max_7cf53 5 = .ok (.iload_n 0, 1) := by decide +kernel
theorem dJ9_max_7cf53_6 : decode cJ9_max_7cf53 6 = .ok (.goto 4, 3) := by decide +kernel
theorem dJ9_max_7cf53_9 : decode cJ9_max_7cf53 9 = .ok (.iload_n 1, 1) := by decide +kernel
theorem dJ9_max_7cf53_10 : decode cJ9_max_7cf53 10 = .ok (.ireturn, 1) := by decide +kernel
theorem dJ9_min_7cf53_0 : decode cJ9_min_7cf53 0 = .ok (.iload_n 0, 1) := by decide +kernel
theorem dJ9_min_7cf53_1 : decode cJ9_min_7cf53 1 = .ok (.iload_n 1, 1) := by decide +kernel
theorem dJ9_min_7cf53_2 : decode cJ9_min_7cf53 2 = .ok (.if_icmp .gt 7, 3) := by decide +kernel
theorem dJ9_min_7cf53_5 : decode cJ9_min_7cf53 5 = .ok (.iload_n 0, 1) := by decide +kernel
theorem dJ9_min_7cf53_6 : decode cJ9_min_7cf53 6 = .ok (.goto 4, 3) := by decide +kernel
theorem dJ9_min_7cf53_9 : decode cJ9_min_7cf53 9 = .ok (.iload_n 1, 1) := by decide +kernel
theorem dJ9_min_7cf53_10 : decode cJ9_min_7cf53 10 = .ok (.ireturn, 1) := by decide +kernel
theorem dJxa1e45_init_da8c8_0 : decode cJxa1e45_init_da8c8 0 = .ok (.aload_n 0, 1) := by decide +kernel
theorem dJxa1e45_init_da8c8_1 : decode cJxa1e45_init_da8c8 1 = .ok (.invokespecial 1, 3) := by decide +kernel
theorem dJxa1e45_init_da8c8_4 : decode cJxa1e45_init_da8c8 4 = .ok (.return_, 1) := by decide +kernel
theorem dJxc12de_init_da8c8_0 : decode cJxc12de_init_da8c8 0 = .ok (.aload_n 0, 1) := by decide +kernel
theorem dJxc12de_init_da8c8_1 : decode cJxc12de_init_da8c8 1 = .ok (.invokespecial 1, 3) := by decide +kernel
theorem dJxc12de_init_da8c8_4 : decode cJxc12de_init_da8c8 4 = .ok (.aload_n 0, 1) := by decide +kernel
theorem dJxc12de_init_da8c8_5 : decode cJxc12de_init_da8c8 5 = .ok (.iconst 0, 1) := by decide +kernel
theorem dJxc12de_init_da8c8_6 : decode cJxc12de_init_da8c8 6 = .ok (.putfield 7, 3) := by decide +kernel
theorem dJxc12de_init_da8c8_9 : decode cJxc12de_init_da8c8 9 = .ok (.return_, 1) := by decide +kernel
theorem dJx4a65c_init_da8c8_0 : decode cJx4a65c_init_da8c8 0 = .ok (.aload_n 0, 1) := by decide +kernel
theorem dJx4a65c_init_da8c8_1 : decode cJx4a65c_init_da8c8 1 = .ok (.invokespecial 1, 3) := by decide +kernel
theorem dJx4a65c_init_da8c8_4 : decode cJx4a65c_init_da8c8 4 = .ok (.aload_n 0, 1) := by decide +kernel
theorem dJx4a65c_init_da8c8_5 : decode cJx4a65c_init_da8c8 5 = .ok (.getstatic 39, 3) := by decide +kernel
theorem dJx4a65c_init_da8c8_8 : decode cJx4a65c_init_da8c8 8 = .ok (.putfield 9, 3) := by decide +kernel
theorem dJx4a65c_init_da8c8_11 : decode cJx4a65c_init_da8c8 11 = .ok (.return_, 1) := by decide +kernel
theorem dJx4a65c_grow_92f84_0 : decode cJx4a65c_grow_92f84 0 = .ok (.aload_n 0, 1) := by decide +kernel
theorem dJx4a65c_grow_92f84_1 : decode cJx4a65c_grow_92f84 1 = .ok (.getfield 9, 3) := by decide +kernel
theorem dJx4a65c_grow_92f84_4 : decode cJx4a65c_grow_92f84 4 = .ok (.arraylength, 1) := by decide +kernel
theorem dJx4a65c_grow_92f84_5 : decode cJx4a65c_grow_92f84 5 = .ok (.istore_n 2, 1) := by decide +kernel
theorem dJx4a65c_grow_92f84_6 : decode cJx4a65c_grow_92f84 6 = .ok (.iload_n 2, 1) := by decide +kernel
theorem dJx4a65c_grow_92f84_7 : decode cJx4a65c_grow_92f84 7 = .ok (.ifCond .gt 13, 3) := by decide +kernel
theorem dJx4a65c_grow_92f84_10 : decode cJx4a65c_grow_92f84 10 = .ok (.aload_n 0, 1) := by decide +kernel
theorem dJx4a65c_grow_92f84_11 : decode cJx4a65c_grow_92f84 11 = .ok (.getfield 9, 3) := by decide +kernel
theorem dJx4a65c_grow_92f84_14 : decode cJx4a65c_grow_92f84 14 = .ok (.getstatic 39, 3) := by decide +kernel
theorem dJx4a65c_grow_92f84_17 : decode cJx4a65c_grow_92f84 17 = .ok (.if_acmp .eq 28, 3) := by decide +kernel
theorem dJx4a65c_grow_92f84_20 : decode cJx4a65c_grow_92f84 20 = .ok (.iload_n 2, 1) := by decide +kernel
theorem dJx4a65c_grow_92f84_21 : decode cJx4a65c_grow_92f84 21 = .ok (.iload_n 1, 1) := by decide +kernel
theorem dJx4a65c_grow_92f84_22 : decode cJx4a65c_grow_92f84 22 = .ok (.iload_n 2, 1) := by decide +kernel
theorem dJx4a65c_grow_92f84_23 : decode cJx4a65c_grow_92f84 23 = .ok (.isub, 1) := by decide +kernel
theorem dJx4a65c_grow_92f84_24 : decode cJx4a65c_grow_92f84 24 = .ok (.iload_n 2, 1) := by decide +kernel
theorem dJx4a65c_grow_92f84_25 : decode cJx4a65c_grow_92f84 25 = .ok (.iconst 1, 1) := by decide +kernel
theorem dJx4a65c_grow_92f84_26 : decode cJx4a65c_grow_92f84 26 = .ok (.ishr, 1) := by decide +kernel
theorem dJx4a65c_grow_92f84_27 : decode cJx4a65c_grow_92f84 27 = .ok (.invokestatic 73, 3) := by decide +kernel
theorem dJx4a65c_grow_92f84_30 : decode cJx4a65c_grow_92f84 30 = .ok (.istore_n 3, 1) := by decide +kernel
theorem dJx4a65c_grow_92f84_31 : decode cJx4a65c_grow_92f84 31 = .ok (.aload_n 0, 1) := by decide +kernel
theorem dJx4a65c_grow_92f84_32 : decode cJx4a65c_grow_92f84 32 = .ok (.aload_n 0, 1) := by decide +kernel
theorem dJx4a65c_grow_92f84_33 : decode cJx4a65c_grow_92f84 33 = .ok (.getfield 9, 3) := by decide +kernel
theorem dJx4a65c_grow_92f84_36 : decode cJx4a65c_grow_92f84 36 = .ok (.iload_n 3, 1) := by decide +kernel
theorem dJx4a65c_grow_92f84_37 : decode cJx4a65c_grow_92f84 37 = .ok (.invokestatic 66, 3) := by decide +kernel
theorem dJx4a65c_grow_92f84_40 : decode cJx4a65c_grow_92f84 40 = .ok (.dup_x1, 1) := by decide +kernel
theorem dJx4a65c_grow_92f84_41 : decode cJx4a65c_grow_92f84 41 = .ok (.putfield 9, 3) := by decide +kernel
theorem dJx4a65c_grow_92f84_44 : decode cJx4a65c_grow_92f84 44 = .ok (.areturn, 1) := by decide +kernel
theorem dJx4a65c_grow_92f84_45 : decode cJx4a65c_grow_92f84 45 = .ok (.aload_n 0, 1) := by decide +kernel
theorem dJx4a65c_grow_92f84_46 : decode cJx4a65c_grow_92f84 46 = .ok (.bipush 10, 2) := by decide +kernel
theorem dJx4a65c_grow_92f84_48 : decode cJx4a65c_grow_92f84 48 = .ok (.iload_n 1, 1) := by decide +kernel
theorem dJx4a65c_grow_92f84_49 : decode cJx4a65c_grow_92f84 49 = .ok (.invokestatic 79, 3) := by decide +kernel
theorem dJx4a65c_grow_92f84_52 : decode cJx4a65c_grow_92f84 52 = .ok (.anewarray 7, 3) := by decide +kernel
theorem dJx4a65c_grow_92f84_55 : decode cJx4a65c_grow_92f84 55 = .ok (.dup_x1, 1) := by decide +kernel
theorem dJx4a65c_grow_92f84_56 : decode cJx4a65c_grow_92f84 56 = .ok (.putfield 9, 3) := by decide +kernel
theorem dJx4a65c_grow_92f84_59 : decode cJx4a65c_grow_92f84 59 = .ok (.areturn, 1) := by decide +kernel
theorem dJx4a65c_grow_d5877_0 : decode cJx4a65c_grow_d5877 0 = .ok (.aload_n 0, 1) := by decide +kernel
theorem dJx4a65c_grow_d5877_1 : decode cJx4a65c_grow_d5877 1 = .ok (.aload_n 0, 1) := by decide +kernel
theorem dJx4a65c_grow_d5877_2 : decode cJx4a65c_grow_d5877 2 = .ok (.getfield 48, 3) := by decide +kernel
theorem dJx4a65c_grow_d5877_5 : decode cJx4a65c_grow_d5877 5 = .ok (.iconst 1, 1) := by decide +kernel
theorem dJx4a65c_grow_d5877_6 : decode cJx4a65c_grow_d5877 6 = .ok (.iadd, 1) := by decide +kernel
theorem dJx4a65c_grow_d5877_7 : decode cJx4a65c_grow_d5877 7 = .ok (.invokevirtual 69, 3) := by decide +kernel
theorem dJx4a65c_grow_d5877_10 : decode cJx4a65c_grow_d5877 10 = .ok (.areturn, 1) := by decide +kernel
theorem dJx4a65c_size_8abf5_0 : decode cJx4a65c_size_8abf5 0 = .ok (.aload_n 0, 1) := by decide +kernel
theorem dJx4a65c_size_8abf5_1 : decode cJx4a65c_size_8abf5 1 = .ok (.getfield 48, 3) := by decide +kernel
theorem dJx4a65c_size_8abf5_4 : decode cJx4a65c_size_8abf5 4 = .ok (.ireturn, 1) := by decide +kernel
theorem dJx4a65c_elementData_915e3_0 : decode cJx4a65c_elementData_915e3 0 = .ok (.aload_n 0, 1) := by decide +kernel
theorem dJx4a65c_elementData_915e3_1 : decode cJx4a65c_elementData_915e3 1 = .ok (.getfield 9, 3) := by decide +kernel
theorem dJx4a65c_elementData_915e3_4 : decode cJx4a65c_elementData_915e3 4 = .ok (.iload_n 1, 1) := by decide +kernel
theorem dJx4a65c_elementData_915e3_5 : decode cJx4a65c_elementData_915e3 5 = .ok (.aaload, 1) := by decide +kernel
theorem dJx4a65c_elementData_915e3_6 : decode cJx4a65c_elementData_915e3 6 = .ok (.areturn, 1) := by decide +kernel
theorem dJx4a65c_get_915e3_0 : decode cJx4a65c_get_915e3 0 = .ok (.iload_n 1, 1) := by decide +kernel
theorem dJx4a65c_get_915e3_1 : decode cJx4a65c_get_915e3 1 = .ok (.aload_n 0, 1) := by decide +kernel
theorem dJx4a65c_get_915e3_2 : decode cJx4a65c_get_915e3 2 = .ok (.getfield 48, 3) := by decide +kernel
theorem dJx4a65c_get_915e3_5 : decode cJx4a65c_get_915e3 5 = .ok (.invokestatic 118, 3) := by decide +kernel
theorem dJx4a65c_get_915e3_8 : decode cJx4a65c_get_915e3 8 = .ok (.pop, 1) := by decide +kernel
theorem dJx4a65c_get_915e3_9 : decode cJx4a65c_get_915e3 9 = .ok (.aload_n 0, 1) := by decide +kernel
theorem dJx4a65c_get_915e3_10 : decode cJx4a65c_get_915e3 10 = .ok (.iload_n 1, 1) := by decide +kernel
theorem dJx4a65c_get_915e3_11 : decode cJx4a65c_get_915e3 11 = .ok (.invokevirtual 123, 3) := by decide +kernel
theorem dJx4a65c_get_915e3_14 : decode cJx4a65c_get_915e3 14 = .ok (.areturn, 1) := by decide +kernel
theorem dJx4a65c_add_72be8_0 : decode cJx4a65c_add_72be8 0 = .ok (.iload_n 3, 1) := by decide +kernel
theorem dJx4a65c_add_72be8_1 : decode cJx4a65c_add_72be8 1 = .ok (.aload_n 2, 1) := by decide +kernel
theorem dJx4a65c_add_72be8_2 : decode cJx4a65c_add_72be8 2 = .ok (.arraylength, 1) := by decide +kernel
theorem dJx4a65c_add_72be8_3 : decode cJx4a65c_add_72be8 3 = .ok (.if_icmp .ne 8, 3) := by decide +kernel
theorem dJx4a65c_add_72be8_6 : decode cJx4a65c_add_72be8 6 = .ok (.aload_n 0, 1) := by decide +kernel
theorem dJx4a65c_add_72be8_7 : decode cJx4a65c_add_72be8 7 = .ok (.invokevirtual 129, 3) := by decide +kernel
theorem dJx4a65c_add_72be8_10 : decode cJx4a65c_add_72be8 10 = .ok (.astore_n 2, 1) := by decide +kernel
theorem dJx4a65c_add_72be8_11 : decode cJx4a65c_add_72be8 11 = .ok (.aload_n 2, 1) := by decide +kernel
theorem dJx4a65c_add_72be8_12 : decode cJx4a65c_add_72be8 12 = .ok (.iload_n 3, 1) := by decide +kernel
theorem dJx4a65c_add_72be8_13 : decode cJx4a65c_add_72be8 13 = .ok (.aload_n 1, 1) := by decide +kernel
theorem dJx4a65c_add_72be8_14 : decode cJx4a65c_add_72be8 14 = .ok (.aastore, 1) := by decide +kernel
theorem dJx4a65c_add_72be8_15 : decode cJx4a65c_add_72be8 15 = .ok (.aload_n 0, 1) := by decide +kernel
theorem dJx4a65c_add_72be8_16 : decode cJx4a65c_add_72be8 16 = .ok (.iload_n 3, 1) := by decide +kernel
theorem dJx4a65c_add_72be8_17 : decode cJx4a65c_add_72be8 17 = .ok (.iconst 1, 1) := by decide +kernel
theorem dJx4a65c_add_72be8_18 : decode cJx4a65c_add_72be8 18 = .ok (.iadd, 1) := by decide +kernel
theorem dJx4a65c_add_72be8_19 : decode cJx4a65c_add_72be8 19 = .ok (.putfield 48, 3) := by decide +kernel
theorem dJx4a65c_add_72be8_22 : decode cJx4a65c_add_72be8 22 = .ok (.return_, 1) := by decide +kernel
theorem dJx4a65c_add_9ea2d_0 : decode cJx4a65c_add_9ea2d 0 = .ok (.aload_n 0, 1) := by decide +kernel
theorem dJx4a65c_add_9ea2d_1 : decode cJx4a65c_add_9ea2d 1 = .ok (.dup, 1) := by decide +kernel
theorem dJx4a65c_add_9ea2d_2 : decode cJx4a65c_add_9ea2d 2 = .ok (.getfield 63, 3) := by decide +kernel
theorem dJx4a65c_add_9ea2d_5 : decode cJx4a65c_add_9ea2d 5 = .ok (.iconst 1, 1) := by decide +kernel
theorem dJx4a65c_add_9ea2d_6 : decode cJx4a65c_add_9ea2d 6 = .ok (.iadd, 1) := by decide +kernel
theorem dJx4a65c_add_9ea2d_7 : decode cJx4a65c_add_9ea2d 7 = .ok (.putfield 63, 3) := by decide +kernel
theorem dJx4a65c_add_9ea2d_10 : decode cJx4a65c_add_9ea2d 10 = .ok (.aload_n 0, 1) := by decide +kernel
theorem dJx4a65c_add_9ea2d_11 : decode cJx4a65c_add_9ea2d 11 = .ok (.aload_n 1, 1) := by decide +kernel
theorem dJx4a65c_add_9ea2d_12 : decode cJx4a65c_add_9ea2d 12 = .ok (.aload_n 0, 1) := by decide +kernel
theorem dJx4a65c_add_9ea2d_13 : decode cJx4a65c_add_9ea2d 13 = .ok (.getfield 9, 3) := by decide +kernel
theorem dJx4a65c_add_9ea2d_16 : decode cJx4a65c_add_9ea2d 16 = .ok (.aload_n 0, 1) := by decide +kernel
theorem dJx4a65c_add_9ea2d_17 : decode cJx4a65c_add_9ea2d 17 = .ok (.getfield 48, 3) := by decide +kernel
theorem dJx4a65c_add_9ea2d_20 : decode cJx4a65c_add_9ea2d 20 = .ok (.invokevirtual 131, 3) := by decide +kernel
theorem dJx4a65c_add_9ea2d_23 : decode cJx4a65c_add_9ea2d 23 = .ok (.iconst 1, 1) := by decide +kernel
theorem dJx4a65c_add_9ea2d_24 : decode cJx4a65c_add_9ea2d 24 = .ok (.ireturn, 1) := by decide +kernel
theorem dJ7_copyOf_1904c_0 : decode cJ7_copyOf_1904c 0 = .ok (.aload_n 0, 1) := by decide +kernel
theorem dJ7_copyOf_1904c_1 : decode cJ7_copyOf_1904c 1 = .ok (.iload_n 1, 1) := by decide +kernel
theorem dJ7_copyOf_1904c_2 : decode cJ7_copyOf_1904c 2 = .ok (.aload_n 0, 1) := by decide +kernel
theorem dJ7_copyOf_1904c_3 : decode cJ7_copyOf_1904c 3 = .ok (.invokevirtual 86, 3) := by decide +kernel
theorem dJ7_copyOf_1904c_6 : decode cJ7_copyOf_1904c 6 = .ok (.invokestatic 300, 3) := by decide +kernel
theorem dJ7_copyOf_1904c_9 : decode cJ7_copyOf_1904c 9 = .ok (.areturn, 1) := by decide +kernel
theorem dJ7_copyOf_6403c_0 : decode cJ7_copyOf_6403c 0 = .ok (.aload_n 2, 1) := by decide +kernel
theorem dJ7_copyOf_6403c_1 : decode cJ7_copyOf_6403c 1 = .ok (.ldc 110, 2) := by decide +kernel
theorem dJ7_copyOf_6403c_3 : decode cJ7_copyOf_6403c 3 = .ok (.if_acmp .ne 10, 3) := by decide +kernel
theorem dJ7_copyOf_6403c_6 : decode cJ7_copyOf_6403c 6 = .ok (.iload_n 1, 1) := by decide +kernel
theorem dJ7_copyOf_6403c_7 : decode cJ7_copyOf_6403c 7 = .ok (.anewarray 2, 3) := by decide +kernel
theorem dJ7_copyOf_6403c_10 : decode cJ7_copyOf_6403c 10 = .ok (.goto 14, 3) := by decide +kernel
theorem dJ7_copyOf_6403c_13 : decode cJ7_copyOf_6403c 13 = .ok (.aload_n 2, 1) := by decide +kernel
theorem dJ7_copyOf_6403c_14 : decode cJ7_copyOf_6403c 14 = .ok (.invokevirtual 90, 3) := by decide +kernel
theorem dJ7_copyOf_6403c_17 : decode cJ7_copyOf_6403c 17 = .ok (.iload_n 1, 1) := by decide +kernel
theorem dJ7_copyOf_6403c_18 : decode cJ7_copyOf_6403c 18 = .ok (.invokestatic 95, 3) := by decide +kernel
theorem dJ7_copyOf_6403c_21 : decode cJ7_copyOf_6403c 21 = .ok (.checkcast 110, 3) := by decide +kernel
theorem dJ7_copyOf_6403c_24 : decode cJ7_copyOf_6403c 24 = .ok (.astore_n 3, 1) := by decide +kernel
theorem dJ7_copyOf_6403c_25 : decode cJ7_copyOf_6403c 25 = .ok (.aload_n 0, 1) := by decide +kernel
theorem dJ7_copyOf_6403c_26 : decode cJ7_copyOf_6403c 26 = .ok (.iconst 0, 1) := by decide +kernel
theorem dJ7_copyOf_6403c_27 : decode cJ7_copyOf_6403c 27 = .ok (.aload_n 3, 1) := by decide +kernel
theorem dJ7_copyOf_6403c_28 : decode cJ7_copyOf_6403c 28 = .ok (.iconst 0, 1) := by decide +kernel
theorem dJ7_copyOf_6403c_29 : decode cJ7_copyOf_6403c 29 = .ok (.aload_n 0, 1) := by decide +kernel
theorem dJ7_copyOf_6403c_30 : decode cJ7_copyOf_6403c 30 = .ok (.arraylength, 1) := by decide +kernel
theorem dJ7_copyOf_6403c_31 : decode cJ7_copyOf_6403c 31 = .ok (.iload_n 1, 1) := by decide +kernel
theorem dJ7_copyOf_6403c_32 : decode cJ7_copyOf_6403c 32 = .ok (.invokestatic 304, 3) := by decide +kernel
theorem dJ7_copyOf_6403c_35 : decode cJ7_copyOf_6403c 35 = .ok (.invokestatic 150, 3) := by decide +kernel
theorem dJ7_copyOf_6403c_38 : decode cJ7_copyOf_6403c 38 = .ok (.aload_n 3, 1) := by decide +kernel
theorem dJ7_copyOf_6403c_39 : decode cJ7_copyOf_6403c 39 = .ok (.areturn, 1) := by decide +kernel
theorem dJ15_checkIndex_7cf53_0 : decode cJ15_checkIndex_7cf53 0 = .ok (.iload_n 0, 1) := by decide +kernel
theorem dJ15_checkIndex_7cf53_1 : decode cJ15_checkIndex_7cf53 1 = .ok (.iload_n 1, 1) := by decide +kernel
theorem dJ15_checkIndex_7cf53_2 : decode cJ15_checkIndex_7cf53 2 = .ok (.aconst_null, 1) := by decide +kernel
theorem dJ15_checkIndex_7cf53_3 : decode cJ15_checkIndex_7cf53 3 = .ok (.invokestatic 105, 3) := by decide +kernel
theorem dJ15_checkIndex_7cf53_6 : decode cJ15_checkIndex_7cf53 6 = .ok (.ireturn, 1) := by decide +kernel
theorem dJ8_newLength_cabcc_0 : decode cJ8_newLength_cabcc 0 = .ok (.iload_n 0, 1) := by decide +kernel
theorem dJ8_newLength_cabcc_1 : decode cJ8_newLength_cabcc 1 = .ok (.iload_n 1, 1) := by decide +kernel
theorem dJ8_newLength_cabcc_2 : decode cJ8_newLength_cabcc 2 = .ok (.iload_n 2, 1) := by decide +kernel
theorem dJ8_newLength_cabcc_3 : decode cJ8_newLength_cabcc 3 = .ok (.invokestatic 194, 3) := by decide +kernel
theorem dJ8_newLength_cabcc_6 : decode cJ8_newLength_cabcc 6 = .ok (.iadd, 1) := by decide +kernel
theorem dJ8_newLength_cabcc_7 : decode cJ8_newLength_cabcc 7 = .ok (.istore_n 3, 1) := by decide +kernel
theorem dJ8_newLength_cabcc_8 : decode cJ8_newLength_cabcc 8 = .ok (.iconst 0, 1) := by decide +kernel
theorem dJ8_newLength_cabcc_9 : decode cJ8_newLength_cabcc 9 = .ok (.iload_n 3, 1) := by decide +kernel
theorem dJ8_newLength_cabcc_10 : decode cJ8_newLength_cabcc 10 = .ok (.if_icmp .ge 11, 3) := by decide +kernel
theorem dJ8_newLength_cabcc_13 : decode cJ8_newLength_cabcc 13 = .ok (.iload_n 3, 1) := by decide +kernel
theorem dJ8_newLength_cabcc_14 : decode cJ8_newLength_cabcc 14 = .ok (.ldc 200, 2) := by decide +kernel
theorem dJ8_newLength_cabcc_16 : decode cJ8_newLength_cabcc 16 = .ok (.if_icmp .gt 5, 3) := by decide +kernel
theorem dJ8_newLength_cabcc_19 : decode cJ8_newLength_cabcc 19 = .ok (.iload_n 3, 1) := by decide +kernel
theorem dJ8_newLength_cabcc_20 : decode cJ8_newLength_cabcc 20 = .ok (.ireturn, 1) := by decide +kernel
theorem dJ8_newLength_cabcc_21 : decode cJ8_newLength_cabcc 21 = .ok (.iload_n 0, 1) := by decide +kernel
theorem dJ8_newLength_cabcc_22 : decode cJ8_newLength_cabcc 22 = .ok (.iload_n 1, 1) := by decide +kernel
theorem dJ8_newLength_cabcc_23 : decode cJ8_newLength_cabcc 23 = .ok (.invokestatic 201, 3) := by decide +kernel
theorem dJ8_newLength_cabcc_26 : decode cJ8_newLength_cabcc 26 = .ok (.ireturn, 1) := by decide +kernel
theorem dJ8_hugeLength_7cf53_0 : decode cJ8_hugeLength_7cf53 0 = .ok (.iload_n 0, 1) := by decide +kernel
theorem dJ8_hugeLength_7cf53_1 : decode cJ8_hugeLength_7cf53 1 = .ok (.iload_n 1, 1) := by decide +kernel
theorem dJ8_hugeLength_7cf53_2 : decode cJ8_hugeLength_7cf53 2 = .ok (.iadd, 1) := by decide +kernel
theorem dJ8_hugeLength_7cf53_3 : decode cJ8_hugeLength_7cf53 3 = .ok (.istore_n 2, 1) := by decide +kernel
theorem dJ8_hugeLength_7cf53_4 : decode cJ8_hugeLength_7cf53 4 = .ok (.iload_n 2, 1) := by decide +kernel
theorem dJ8_hugeLength_7cf53_5 : decode cJ8_hugeLength_7cf53 5 = .ok (.ifCond .ge 44, 3) := by decide +kernel
theorem dJ8_hugeLength_7cf53_8 : decode cJ8_hugeLength_7cf53 8 = .ok (.new 204, 3) := by decide +kernel
theorem dJ8_hugeLength_7cf53_11 : decode cJ8_hugeLength_7cf53 11 = .ok (.dup, 1) := by decide +kernel
theorem dJ8_hugeLength_7cf53_12 : decode cJ8_hugeLength_7cf53 12 = .ok (.new 89, 3) := by decide +kernel
theorem dJ8_hugeLength_7cf53_15 : decode cJ8_hugeLength_7cf53 15 = .ok (.dup, 1) := by decide +kernel
theorem dJ8_hugeLength_7cf53_16 : decode cJ8_hugeLength_7cf53 16 = .ok (.invokespecial 91, 3) := by decide +kernel
theorem dJ8_hugeLength_7cf53_19 : decode cJ8_hugeLength_7cf53 19 = .ok (.ldc 206, 2) := by decide +kernel
theorem dJ8_hugeLength_7cf53_21 : decode cJ8_hugeLength_7cf53 21 = .ok (.invokevirtual 94, 3) := by decide +kernel
theorem dJ8_hugeLength_7cf53_24 : decode cJ8_hugeLength_7cf53 24 = .ok (.iload_n 0, 1) := by decide +kernel
theorem dJ8_hugeLength_7cf53_25 : decode cJ8_hugeLength_7cf53 25 = .ok (.invokevirtual 98, 3) := by decide +kernel
theorem dJ8_hugeLength_7cf53_28 : decode cJ8_hugeLength_7cf53 28 = .ok (.ldc 208, 2) := by decide +kernel
theorem dJ8_hugeLength_7cf53_30 : decode cJ8_hugeLength_7cf53 30 = .ok (.invokevirtual 94, 3) := by decide +kernel
theorem dJ8_hugeLength_7cf53_33 : decode cJ8_hugeLength_7cf53 33 = .ok (.iload_n 1, 1) := by decide +kernel
theorem dJ8_hugeLength_7cf53_34 : decode cJ8_hugeLength_7cf53 34 = .ok (.invokevirtual 98, 3) := by decide +kernel
theorem dJ8_hugeLength_7cf53_37 : decode cJ8_hugeLength_7cf53 37 = .ok (.ldc 210, 2) := by decide +kernel
theorem dJ8_hugeLength_7cf53_39 : decode cJ8_hugeLength_7cf53 39 = .ok (.invokevirtual 94, 3) := by decide +kernel
theorem dJ8_hugeLength_7cf53_42 : decode cJ8_hugeLength_7cf53 42 = .ok (.invokevirtual 101, 3) := by decide +kernel
theorem dJ8_hugeLength_7cf53_45 : decode cJ8_hugeLength_7cf53 45 = .ok (.invokespecial 212, 3) := by decide +kernel
theorem dJ8_hugeLength_7cf53_48 : decode cJ8_hugeLength_7cf53 48 = .ok (.athrow, 1) := by decide +kernel
theorem dJ8_hugeLength_7cf53_49 : decode cJ8_hugeLength_7cf53 49 = .ok (.iload_n 2, 1) := by decide +kernel
theorem dJ8_hugeLength_7cf53_50 : decode cJ8_hugeLength_7cf53 50 = .ok (.ldc 200, 2) := by decide +kernel
theorem dJ8_hugeLength_7cf53_52 : decode cJ8_hugeLength_7cf53 52 = .ok (.if_icmp .gt 6, 3) := by decide +kernel
theorem dJ8_hugeLength_7cf53_55 : decode cJ8_hugeLength_7cf53 55 = .ok (.ldc 200, 2) := by decide +kernel
theorem dJ8_hugeLength_7cf53_57 : decode cJ8_hugeLength_7cf53 57 = .ok (.ireturn, 1) := by decide +kernel
theorem dJ8_hugeLength_7cf53_58 : decode cJ8_hugeLength_7cf53 58 = .ok (.iload_n 2, 1) := by decide +kernel
theorem dJ8_hugeLength_7cf53_59 : decode cJ8_hugeLength_7cf53 59 = .ok (.ireturn, 1) := by decide +kernel
theorem dJ3_checkIndex_8e157_0 : decode cJ3_checkIndex_8e157 0 = .ok (.iload_n 0, 1) := by decide +kernel
theorem dJ3_checkIndex_8e157_1 : decode cJ3_checkIndex_8e157 1 = .ok (.ifCond .lt 8, 3) := by decide +kernel
theorem dJ3_checkIndex_8e157_4 : decode cJ3_checkIndex_8e157 4 = .ok (.iload_n 0, 1) := by decide +kernel
theorem dJ3_checkIndex_8e157_5 : decode cJ3_checkIndex_8e157 5 = .ok (.iload_n 1, 1) := by decide +kernel
theorem dJ3_checkIndex_8e157_6 : decode cJ3_checkIndex_8e157 6 = .ok (.if_icmp .lt 10, 3) := by decide +kernel
theorem dJ3_checkIndex_8e157_9 : decode cJ3_checkIndex_8e157 9 = .ok (.aload_n 2, 1) := by decide +kernel
theorem dJ3_checkIndex_8e157_10 : decode cJ3_checkIndex_8e157 10 = .ok (.iload_n 0, 1) := by decide +kernel
theorem dJ3_checkIndex_8e157_11 : decode cJ3_checkIndex_8e157 11 = .ok (.iload_n 1, 1) := by decide +kernel
theorem dJ3_checkIndex_8e157_12 : decode cJ3_checkIndex_8e157 12 = .ok (.invokestatic 95, 3) := by decide +kernel
theorem dJ3_checkIndex_8e157_15 : decode cJ3_checkIndex_8e157 15 = .ok (.athrow, 1) := by decide +kernel
theorem dJ3_checkIndex_8e157_16 : decode cJ3_checkIndex_8e157 16 = .ok (.iload_n 0, 1) := by decide +kernel
theorem dJ3_checkIndex_8e157_17 : decode cJ3_checkIndex_8e157 17 = .ok (.ireturn, 1) := by decide +kernel
theorem dL_line_0 : decode cL_line 0 = .ok (.aload_n 3, 1) := by decide +kernel
theorem dL_line_1 : decode cL_line 1 = .ok (.iconst 0, 1) := by decide +kernel
theorem dL_line_2 : decode cL_line 2 = .ok (.aload_n 0, 1) := by decide +kernel
theorem dL_line_3 : decode cL_line 3 = .ok (.iload_n 1, 1) := by decide +kernel
theorem dL_line_4 : decode cL_line 4 = .ok (.iload_n 2, 1) := by decide +kernel
theorem dL_line_5 : decode cL_line 5 = .ok (.invokevirtual 7, 3) := by decide +kernel
theorem dL_line_8 : decode cL_line 8 = .ok (.i2l, 1) := by decide +kernel
theorem dL_line_9 : decode cL_line 9 = .ok (.lastore, 1) := by decide +kernel
theorem dL_line_10 : decode cL_line 10 = .ok (.goto 11, 3) := by decide +kernel
theorem dL_line_13 : decode cL_line 13 = .ok (.astore 4, 2) := by decide +kernel
theorem dL_line_15 : decode cL_line 15 = .ok (.iconst 1, 1) := by decide +kernel
theorem dL_line_16 : decode cL_line 16 = .ok (.ireturn, 1) := by decide +kernel
theorem dL_line_17 : decode cL_line 17 = .ok (.astore 4, 2) := by decide +kernel
theorem dL_line_19 : decode cL_line 19 = .ok (.iconst 2, 1) := by decide +kernel
theorem dL_line_20 : decode cL_line 20 = .ok (.ireturn, 1) := by decide +kernel
theorem dL_line_21 : decode cL_line 21 = .ok (.iconst 0, 1) := by decide +kernel
theorem dL_line_22 : decode cL_line 22 = .ok (.ireturn, 1) := by decide +kernel
theorem dL_income_0 : decode cL_income 0 = .ok (.aload_n 3, 1) := by decide +kernel
theorem dL_income_1 : decode cL_income 1 = .ok (.iconst 0, 1) := by decide +kernel
theorem dL_income_2 : decode cL_income 2 = .ok (.aload_n 0, 1) := by decide +kernel
theorem dL_income_3 : decode cL_income 3 = .ok (.iload_n 1, 1) := by decide +kernel
theorem dL_income_4 : decode cL_income 4 = .ok (.iload_n 2, 1) := by decide +kernel
theorem dL_income_5 : decode cL_income 5 = .ok (.invokevirtual 17, 3) := by decide +kernel
theorem dL_income_8 : decode cL_income 8 = .ok (.i2l, 1) := by decide +kernel
theorem dL_income_9 : decode cL_income 9 = .ok (.lastore, 1) := by decide +kernel
theorem dL_income_10 : decode cL_income 10 = .ok (.goto 7, 3) := by decide +kernel
theorem dL_income_13 : decode cL_income 13 = .ok (.astore 4, 2) := by decide +kernel
theorem dL_income_15 : decode cL_income 15 = .ok (.iconst 1, 1) := by decide +kernel
theorem dL_income_16 : decode cL_income 16 = .ok (.ireturn, 1) := by decide +kernel
theorem dL_income_17 : decode cL_income 17 = .ok (.iconst 0, 1) := by decide +kernel
theorem dL_income_18 : decode cL_income 18 = .ok (.ireturn, 1) := by decide +kernel
theorem dL_amend_0 : decode cL_amend 0 = .ok (.aload_n 3, 1) := by decide +kernel
theorem dL_amend_1 : decode cL_amend 1 = .ok (.iconst 0, 1) := by decide +kernel
theorem dL_amend_2 : decode cL_amend 2 = .ok (.aload_n 0, 1) := by decide +kernel
theorem dL_amend_3 : decode cL_amend 3 = .ok (.iload_n 1, 1) := by decide +kernel
theorem dL_amend_4 : decode cL_amend 4 = .ok (.iload_n 2, 1) := by decide +kernel
theorem dL_amend_5 : decode cL_amend 5 = .ok (.invokevirtual 20, 3) := by decide +kernel
theorem dL_amend_8 : decode cL_amend 8 = .ok (.i2l, 1) := by decide +kernel
theorem dL_amend_9 : decode cL_amend 9 = .ok (.lastore, 1) := by decide +kernel
theorem dL_amend_10 : decode cL_amend 10 = .ok (.goto 15, 3) := by decide +kernel
theorem dL_amend_13 : decode cL_amend 13 = .ok (.astore 4, 2) := by decide +kernel
theorem dL_amend_15 : decode cL_amend 15 = .ok (.iconst 1, 1) := by decide +kernel
theorem dL_amend_16 : decode cL_amend 16 = .ok (.ireturn, 1) := by decide +kernel
theorem dL_amend_17 : decode cL_amend 17 = .ok (.astore 4, 2) := by decide +kernel
theorem dL_amend_19 : decode cL_amend 19 = .ok (.iconst 2, 1) := by decide +kernel
theorem dL_amend_20 : decode cL_amend 20 = .ok (.ireturn, 1) := by decide +kernel
theorem dL_amend_21 : decode cL_amend 21 = .ok (.astore 4, 2) := by decide +kernel
theorem dL_amend_23 : decode cL_amend 23 = .ok (.iconst 3, 1) := by decide +kernel
theorem dL_amend_24 : decode cL_amend 24 = .ok (.ireturn, 1) := by decide +kernel
theorem dL_amend_25 : decode cL_amend 25 = .ok (.iconst 0, 1) := by decide +kernel
theorem dL_amend_26 : decode cL_amend 26 = .ok (.ireturn, 1) := by decide +kernel
theorem dL_amendOn_0 : decode cL_amendOn 0 = .ok (.aload_n 3, 1) := by decide +kernel
theorem dL_amendOn_1 : decode cL_amendOn 1 = .ok (.iconst 0, 1) := by decide +kernel
theorem dL_amendOn_2 : decode cL_amendOn 2 = .ok (.aload_n 0, 1) := by decide +kernel
theorem dL_amendOn_3 : decode cL_amendOn 3 = .ok (.iload_n 1, 1) := by decide +kernel
theorem dL_amendOn_4 : decode cL_amendOn 4 = .ok (.iload_n 2, 1) := by decide +kernel
theorem dL_amendOn_5 : decode cL_amendOn 5 = .ok (.invokevirtual 25, 3) := by decide +kernel
theorem dL_amendOn_8 : decode cL_amendOn 8 = .ok (.i2l, 1) := by decide +kernel
theorem dL_amendOn_9 : decode cL_amendOn 9 = .ok (.lastore, 1) := by decide +kernel
theorem dL_amendOn_10 : decode cL_amendOn 10 = .ok (.goto 15, 3) := by decide +kernel
theorem dL_amendOn_13 : decode cL_amendOn 13 = .ok (.astore 4, 2) := by decide +kernel
theorem dL_amendOn_15 : decode cL_amendOn 15 = .ok (.iconst 1, 1) := by decide +kernel
theorem dL_amendOn_16 : decode cL_amendOn 16 = .ok (.ireturn, 1) := by decide +kernel
theorem dL_amendOn_17 : decode cL_amendOn 17 = .ok (.astore 4, 2) := by decide +kernel
theorem dL_amendOn_19 : decode cL_amendOn 19 = .ok (.iconst 2, 1) := by decide +kernel
theorem dL_amendOn_20 : decode cL_amendOn 20 = .ok (.ireturn, 1) := by decide +kernel
theorem dL_amendOn_21 : decode cL_amendOn 21 = .ok (.astore 4, 2) := by decide +kernel
theorem dL_amendOn_23 : decode cL_amendOn 23 = .ok (.iconst 3, 1) := by decide +kernel
theorem dL_amendOn_24 : decode cL_amendOn 24 = .ok (.ireturn, 1) := by decide +kernel
theorem dL_amendOn_25 : decode cL_amendOn 25 = .ok (.iconst 0, 1) := by decide +kernel
theorem dL_amendOn_26 : decode cL_amendOn 26 = .ok (.ireturn, 1) := by decide +kernel
theorem dL_vote_0 : decode cL_vote 0 = .ok (.aload 4, 2) := by decide +kernel
theorem dL_vote_2 : decode cL_vote 2 = .ok (.iconst 0, 1) := by decide +kernel
theorem dL_vote_3 : decode cL_vote 3 = .ok (.aload_n 0, 1) := by decide +kernel
theorem dL_vote_4 : decode cL_vote 4 = .ok (.iload_n 1, 1) := by decide +kernel
theorem dL_vote_5 : decode cL_vote 5 = .ok (.iload_n 2, 1) := by decide +kernel
theorem dL_vote_6 : decode cL_vote 6 = .ok (.iload_n 3, 1) := by decide +kernel
theorem dL_vote_7 : decode cL_vote 7 = .ok (.invokevirtual 28, 3) := by decide +kernel
theorem dL_vote_10 : decode cL_vote 10 = .ok (.i2l, 1) := by decide +kernel
theorem dL_vote_11 : decode cL_vote 11 = .ok (.lastore, 1) := by decide +kernel
theorem dL_vote_12 : decode cL_vote 12 = .ok (.goto 11, 3) := by decide +kernel
theorem dL_vote_15 : decode cL_vote 15 = .ok (.astore 5, 2) := by decide +kernel
theorem dL_vote_17 : decode cL_vote 17 = .ok (.iconst 1, 1) := by decide +kernel
theorem dL_vote_18 : decode cL_vote 18 = .ok (.ireturn, 1) := by decide +kernel
theorem dL_vote_19 : decode cL_vote 19 = .ok (.astore 5, 2) := by decide +kernel
theorem dL_vote_21 : decode cL_vote 21 = .ok (.iconst 2, 1) := by decide +kernel
theorem dL_vote_22 : decode cL_vote 22 = .ok (.ireturn, 1) := by decide +kernel
theorem dL_vote_23 : decode cL_vote 23 = .ok (.iconst 0, 1) := by decide +kernel
theorem dL_vote_24 : decode cL_vote 24 = .ok (.ireturn, 1) := by decide +kernel
theorem dL_decide_0 : decode cL_decide 0 = .ok (.aload_n 2, 1) := by decide +kernel
theorem dL_decide_1 : decode cL_decide 1 = .ok (.iconst 0, 1) := by decide +kernel
theorem dL_decide_2 : decode cL_decide 2 = .ok (.aload_n 0, 1) := by decide +kernel
theorem dL_decide_3 : decode cL_decide 3 = .ok (.iload_n 1, 1) := by decide +kernel
theorem dL_decide_4 : decode cL_decide 4 = .ok (.invokevirtual 32, 3) := by decide +kernel
theorem dL_decide_7 : decode cL_decide 7 = .ok (.i2l, 1) := by decide +kernel
theorem dL_decide_8 : decode cL_decide 8 = .ok (.lastore, 1) := by decide +kernel
theorem dL_decide_9 : decode cL_decide 9 = .ok (.goto 9, 3) := by decide +kernel
theorem dL_decide_12 : decode cL_decide 12 = .ok (.astore_n 3, 1) := by decide +kernel
theorem dL_decide_13 : decode cL_decide 13 = .ok (.iconst 1, 1) := by decide +kernel
theorem dL_decide_14 : decode cL_decide 14 = .ok (.ireturn, 1) := by decide +kernel
theorem dL_decide_15 : decode cL_decide 15 = .ok (.astore_n 3, 1) := by decide +kernel
theorem dL_decide_16 : decode cL_decide 16 = .ok (.iconst 2, 1) := by decide +kernel
theorem dL_decide_17 : decode cL_decide 17 = .ok (.ireturn, 1) := by decide +kernel
theorem dL_decide_18 : decode cL_decide 18 = .ok (.iconst 0, 1) := by decide +kernel
theorem dL_decide_19 : decode cL_decide 19 = .ok (.ireturn, 1) := by decide +kernel
theorem dL_strike_0 : decode cL_strike 0 = .ok (.aload_n 2, 1) := by decide +kernel
theorem dL_strike_1 : decode cL_strike 1 = .ok (.iconst 0, 1) := by decide +kernel
theorem dL_strike_2 : decode cL_strike 2 = .ok (.aload_n 0, 1) := by decide +kernel
theorem dL_strike_3 : decode cL_strike 3 = .ok (.iload_n 1, 1) := by decide +kernel
theorem dL_strike_4 : decode cL_strike 4 = .ok (.invokevirtual 36, 3) := by decide +kernel
theorem dL_strike_7 : decode cL_strike 7 = .ok (.i2l, 1) := by decide +kernel
theorem dL_strike_8 : decode cL_strike 8 = .ok (.lastore, 1) := by decide +kernel
theorem dL_strike_9 : decode cL_strike 9 = .ok (.goto 9, 3) := by decide +kernel
theorem dL_strike_12 : decode cL_strike 12 = .ok (.astore_n 3, 1) := by decide +kernel
theorem dL_strike_13 : decode cL_strike 13 = .ok (.iconst 1, 1) := by decide +kernel
theorem dL_strike_14 : decode cL_strike 14 = .ok (.ireturn, 1) := by decide +kernel
theorem dL_strike_15 : decode cL_strike 15 = .ok (.astore_n 3, 1) := by decide +kernel
theorem dL_strike_16 : decode cL_strike 16 = .ok (.iconst 2, 1) := by decide +kernel
theorem dL_strike_17 : decode cL_strike 17 = .ok (.ireturn, 1) := by decide +kernel
theorem dL_strike_18 : decode cL_strike 18 = .ok (.iconst 0, 1) := by decide +kernel
theorem dL_strike_19 : decode cL_strike 19 = .ok (.ireturn, 1) := by decide +kernel
theorem dL_grant_0 : decode cL_grant 0 = .ok (.aload 6, 2) := by decide +kernel
theorem dL_grant_2 : decode cL_grant 2 = .ok (.iconst 0, 1) := by decide +kernel
theorem dL_grant_3 : decode cL_grant 3 = .ok (.aload_n 0, 1) := by decide +kernel
theorem dL_grant_4 : decode cL_grant 4 = .ok (.iload_n 1, 1) := by decide +kernel
theorem dL_grant_5 : decode cL_grant 5 = .ok (.iload_n 2, 1) := by decide +kernel
theorem dL_grant_6 : decode cL_grant 6 = .ok (.iload_n 3, 1) := by decide +kernel
theorem dL_grant_7 : decode cL_grant 7 = .ok (.iload 4, 2) := by decide +kernel
theorem dL_grant_9 : decode cL_grant 9 = .ok (.iload 5, 2) := by decide +kernel
theorem dL_grant_11 : decode cL_grant 11 = .ok (.invokevirtual 39, 3) := by decide +kernel
theorem dL_grant_14 : decode cL_grant 14 = .ok (.i2l, 1) := by decide +kernel
theorem dL_grant_15 : decode cL_grant 15 = .ok (.lastore, 1) := by decide +kernel
theorem dL_grant_16 : decode cL_grant 16 = .ok (.goto 15, 3) := by decide +kernel
theorem dL_grant_19 : decode cL_grant 19 = .ok (.astore 7, 2) := by decide +kernel
theorem dL_grant_21 : decode cL_grant 21 = .ok (.iconst 1, 1) := by decide +kernel
theorem dL_grant_22 : decode cL_grant 22 = .ok (.ireturn, 1) := by decide +kernel
theorem dL_grant_23 : decode cL_grant 23 = .ok (.astore 7, 2) := by decide +kernel
theorem dL_grant_25 : decode cL_grant 25 = .ok (.iconst 2, 1) := by decide +kernel
theorem dL_grant_26 : decode cL_grant 26 = .ok (.ireturn, 1) := by decide +kernel
theorem dL_grant_27 : decode cL_grant 27 = .ok (.astore 7, 2) := by decide +kernel
theorem dL_grant_29 : decode cL_grant 29 = .ok (.iconst 3, 1) := by decide +kernel
theorem dL_grant_30 : decode cL_grant 30 = .ok (.ireturn, 1) := by decide +kernel
theorem dL_grant_31 : decode cL_grant 31 = .ok (.iconst 0, 1) := by decide +kernel
theorem dL_grant_32 : decode cL_grant 32 = .ok (.ireturn, 1) := by decide +kernel
theorem dL_pay_0 : decode cL_pay 0 = .ok (.aload_n 3, 1) := by decide +kernel
theorem dL_pay_1 : decode cL_pay 1 = .ok (.iconst 0, 1) := by decide +kernel
theorem dL_pay_2 : decode cL_pay 2 = .ok (.aload_n 0, 1) := by decide +kernel
theorem dL_pay_3 : decode cL_pay 3 = .ok (.iload_n 1, 1) := by decide +kernel
theorem dL_pay_4 : decode cL_pay 4 = .ok (.iload_n 2, 1) := by decide +kernel
theorem dL_pay_5 : decode cL_pay 5 = .ok (.invokevirtual 43, 3) := by decide +kernel
theorem dL_pay_8 : decode cL_pay 8 = .ok (.i2l, 1) := by decide +kernel
theorem dL_pay_9 : decode cL_pay 9 = .ok (.lastore, 1) := by decide +kernel
theorem dL_pay_10 : decode cL_pay 10 = .ok (.goto 15, 3) := by decide +kernel
theorem dL_pay_13 : decode cL_pay 13 = .ok (.astore 4, 2) := by decide +kernel
theorem dL_pay_15 : decode cL_pay 15 = .ok (.iconst 1, 1) := by decide +kernel
theorem dL_pay_16 : decode cL_pay 16 = .ok (.ireturn, 1) := by decide +kernel
theorem dL_pay_17 : decode cL_pay 17 = .ok (.astore 4, 2) := by decide +kernel
theorem dL_pay_19 : decode cL_pay 19 = .ok (.iconst 2, 1) := by decide +kernel
theorem dL_pay_20 : decode cL_pay 20 = .ok (.ireturn, 1) := by decide +kernel
theorem dL_pay_21 : decode cL_pay 21 = .ok (.astore 4, 2) := by decide +kernel
theorem dL_pay_23 : decode cL_pay 23 = .ok (.iconst 3, 1) := by decide +kernel
theorem dL_pay_24 : decode cL_pay 24 = .ok (.ireturn, 1) := by decide +kernel
theorem dL_pay_25 : decode cL_pay 25 = .ok (.iconst 0, 1) := by decide +kernel
theorem dL_pay_26 : decode cL_pay 26 = .ok (.ireturn, 1) := by decide +kernel
theorem dL_report_0 : decode cL_report 0 = .ok (.aload_n 2, 1) := by decide +kernel
theorem dL_report_1 : decode cL_report 1 = .ok (.iconst 0, 1) := by decide +kernel
theorem dL_report_2 : decode cL_report 2 = .ok (.aload_n 0, 1) := by decide +kernel
theorem dL_report_3 : decode cL_report 3 = .ok (.iload_n 1, 1) := by decide +kernel
theorem dL_report_4 : decode cL_report 4 = .ok (.invokevirtual 46, 3) := by decide +kernel
theorem dL_report_7 : decode cL_report 7 = .ok (.ifCond .eq 7, 3) := by decide +kernel
theorem dL_report_10 : decode cL_report 10 = .ok (.lconst 1, 1) := by decide +kernel
theorem dL_report_11 : decode cL_report 11 = .ok (.goto 4, 3) := by decide +kernel
theorem dL_report_14 : decode cL_report 14 = .ok (.lconst 0, 1) := by decide +kernel
theorem dL_report_15 : decode cL_report 15 = .ok (.lastore, 1) := by decide +kernel
theorem dL_report_16 : decode cL_report 16 = .ok (.goto 9, 3) := by decide +kernel
theorem dL_report_19 : decode cL_report 19 = .ok (.astore_n 3, 1) := by decide +kernel
theorem dL_report_20 : decode cL_report 20 = .ok (.iconst 1, 1) := by decide +kernel
theorem dL_report_21 : decode cL_report 21 = .ok (.ireturn, 1) := by decide +kernel
theorem dL_report_22 : decode cL_report 22 = .ok (.astore_n 3, 1) := by decide +kernel
theorem dL_report_23 : decode cL_report 23 = .ok (.iconst 2, 1) := by decide +kernel
theorem dL_report_24 : decode cL_report 24 = .ok (.ireturn, 1) := by decide +kernel
theorem dL_report_25 : decode cL_report 25 = .ok (.iconst 0, 1) := by decide +kernel
theorem dL_report_26 : decode cL_report 26 = .ok (.ireturn, 1) := by decide +kernel
theorem dL_spend_0 : decode cL_spend 0 = .ok (.aload_n 3, 1) := by decide +kernel
theorem dL_spend_1 : decode cL_spend 1 = .ok (.iconst 0, 1) := by decide +kernel
theorem dL_spend_2 : decode cL_spend 2 = .ok (.aload_n 0, 1) := by decide +kernel
theorem dL_spend_3 : decode cL_spend 3 = .ok (.iload_n 1, 1) := by decide +kernel
theorem dL_spend_4 : decode cL_spend 4 = .ok (.iload_n 2, 1) := by decide +kernel
theorem dL_spend_5 : decode cL_spend 5 = .ok (.invokevirtual 50, 3) := by decide +kernel
theorem dL_spend_8 : decode cL_spend 8 = .ok (.i2l, 1) := by decide +kernel
theorem dL_spend_9 : decode cL_spend 9 = .ok (.lastore, 1) := by decide +kernel
theorem dL_spend_10 : decode cL_spend 10 = .ok (.goto 15, 3) := by decide +kernel
theorem dL_spend_13 : decode cL_spend 13 = .ok (.astore 4, 2) := by decide +kernel
theorem dL_spend_15 : decode cL_spend 15 = .ok (.iconst 1, 1) := by decide +kernel
theorem dL_spend_16 : decode cL_spend 16 = .ok (.ireturn, 1) := by decide +kernel
theorem dL_spend_17 : decode cL_spend 17 = .ok (.astore 4, 2) := by decide +kernel
theorem dL_spend_19 : decode cL_spend 19 = .ok (.iconst 2, 1) := by decide +kernel
theorem dL_spend_20 : decode cL_spend 20 = .ok (.ireturn, 1) := by decide +kernel
theorem dL_spend_21 : decode cL_spend 21 = .ok (.astore 4, 2) := by decide +kernel
theorem dL_spend_23 : decode cL_spend 23 = .ok (.iconst 3, 1) := by decide +kernel
theorem dL_spend_24 : decode cL_spend 24 = .ok (.ireturn, 1) := by decide +kernel
theorem dL_spend_25 : decode cL_spend 25 = .ok (.iconst 0, 1) := by decide +kernel
theorem dL_spend_26 : decode cL_spend 26 = .ok (.ireturn, 1) := by decide +kernel
theorem dL_audit_0 : decode cL_audit 0 = .ok (.aload_n 3, 1) := by decide +kernel
theorem dL_audit_1 : decode cL_audit 1 = .ok (.iconst 0, 1) := by decide +kernel
theorem dL_audit_2 : decode cL_audit 2 = .ok (.aload_n 0, 1) := by decide +kernel
theorem dL_audit_3 : decode cL_audit 3 = .ok (.iload_n 1, 1) := by decide +kernel
theorem dL_audit_4 : decode cL_audit 4 = .ok (.iload_n 2, 1) := by decide +kernel
theorem dL_audit_5 : decode cL_audit 5 = .ok (.invokevirtual 53, 3) := by decide +kernel
theorem dL_audit_8 : decode cL_audit 8 = .ok (.i2l, 1) := by decide +kernel
theorem dL_audit_9 : decode cL_audit 9 = .ok (.lastore, 1) := by decide +kernel
theorem dL_audit_10 : decode cL_audit 10 = .ok (.goto 15, 3) := by decide +kernel
theorem dL_audit_13 : decode cL_audit 13 = .ok (.astore 4, 2) := by decide +kernel
theorem dL_audit_15 : decode cL_audit 15 = .ok (.iconst 1, 1) := by decide +kernel
theorem dL_audit_16 : decode cL_audit 16 = .ok (.ireturn, 1) := by decide +kernel
theorem dL_audit_17 : decode cL_audit 17 = .ok (.astore 4, 2) := by decide +kernel
theorem dL_audit_19 : decode cL_audit 19 = .ok (.iconst 2, 1) := by decide +kernel
theorem dL_audit_20 : decode cL_audit 20 = .ok (.ireturn, 1) := by decide +kernel
theorem dL_audit_21 : decode cL_audit 21 = .ok (.astore 4, 2) := by decide +kernel
theorem dL_audit_23 : decode cL_audit 23 = .ok (.iconst 3, 1) := by decide +kernel
theorem dL_audit_24 : decode cL_audit 24 = .ok (.ireturn, 1) := by decide +kernel
theorem dL_audit_25 : decode cL_audit 25 = .ok (.iconst 0, 1) := by decide +kernel
theorem dL_audit_26 : decode cL_audit 26 = .ok (.ireturn, 1) := by decide +kernel
theorem dL_repay_0 : decode cL_repay 0 = .ok (.aload_n 3, 1) := by decide +kernel
theorem dL_repay_1 : decode cL_repay 1 = .ok (.iconst 0, 1) := by decide +kernel
theorem dL_repay_2 : decode cL_repay 2 = .ok (.aload_n 0, 1) := by decide +kernel
theorem dL_repay_3 : decode cL_repay 3 = .ok (.iload_n 1, 1) := by decide +kernel
theorem dL_repay_4 : decode cL_repay 4 = .ok (.iload_n 2, 1) := by decide +kernel
theorem dL_repay_5 : decode cL_repay 5 = .ok (.invokevirtual 56, 3) := by decide +kernel
theorem dL_repay_8 : decode cL_repay 8 = .ok (.i2l, 1) := by decide +kernel
theorem dL_repay_9 : decode cL_repay 9 = .ok (.lastore, 1) := by decide +kernel
theorem dL_repay_10 : decode cL_repay 10 = .ok (.goto 15, 3) := by decide +kernel
theorem dL_repay_13 : decode cL_repay 13 = .ok (.astore 4, 2) := by decide +kernel
theorem dL_repay_15 : decode cL_repay 15 = .ok (.iconst 1, 1) := by decide +kernel
theorem dL_repay_16 : decode cL_repay 16 = .ok (.ireturn, 1) := by decide +kernel
theorem dL_repay_17 : decode cL_repay 17 = .ok (.astore 4, 2) := by decide +kernel
theorem dL_repay_19 : decode cL_repay 19 = .ok (.iconst 2, 1) := by decide +kernel
theorem dL_repay_20 : decode cL_repay 20 = .ok (.ireturn, 1) := by decide +kernel
theorem dL_repay_21 : decode cL_repay 21 = .ok (.astore 4, 2) := by decide +kernel
theorem dL_repay_23 : decode cL_repay 23 = .ok (.iconst 3, 1) := by decide +kernel
theorem dL_repay_24 : decode cL_repay 24 = .ok (.ireturn, 1) := by decide +kernel
theorem dL_repay_25 : decode cL_repay 25 = .ok (.iconst 0, 1) := by decide +kernel
theorem dL_repay_26 : decode cL_repay 26 = .ok (.ireturn, 1) := by decide +kernel
theorem dL_target_0 : decode cL_target 0 = .ok (.aload_n 2, 1) := by decide +kernel
theorem dL_target_1 : decode cL_target 1 = .ok (.iconst 0, 1) := by decide +kernel
theorem dL_target_2 : decode cL_target 2 = .ok (.aload_n 0, 1) := by decide +kernel
theorem dL_target_3 : decode cL_target 3 = .ok (.iload_n 1, 1) := by decide +kernel
theorem dL_target_4 : decode cL_target 4 = .ok (.invokevirtual 59, 3) := by decide +kernel
theorem dL_target_7 : decode cL_target 7 = .ok (.i2l, 1) := by decide +kernel
theorem dL_target_8 : decode cL_target 8 = .ok (.lastore, 1) := by decide +kernel
theorem dL_target_9 : decode cL_target 9 = .ok (.goto 6, 3) := by decide +kernel
theorem dL_target_12 : decode cL_target 12 = .ok (.astore_n 3, 1) := by decide +kernel
theorem dL_target_13 : decode cL_target 13 = .ok (.iconst 1, 1) := by decide +kernel
theorem dL_target_14 : decode cL_target 14 = .ok (.ireturn, 1) := by decide +kernel
theorem dL_target_15 : decode cL_target 15 = .ok (.iconst 0, 1) := by decide +kernel
theorem dL_target_16 : decode cL_target 16 = .ok (.ireturn, 1) := by decide +kernel
theorem dL_month_0 : decode cL_month 0 = .ok (.aload_n 2, 1) := by decide +kernel
theorem dL_month_1 : decode cL_month 1 = .ok (.iconst 0, 1) := by decide +kernel
theorem dL_month_2 : decode cL_month 2 = .ok (.aload_n 0, 1) := by decide +kernel
theorem dL_month_3 : decode cL_month 3 = .ok (.iload_n 1, 1) := by decide +kernel
theorem dL_month_4 : decode cL_month 4 = .ok (.invokevirtual 62, 3) := by decide +kernel
theorem dL_month_7 : decode cL_month 7 = .ok (.i2l, 1) := by decide +kernel
theorem dL_month_8 : decode cL_month 8 = .ok (.lastore, 1) := by decide +kernel
theorem dL_month_9 : decode cL_month 9 = .ok (.goto 6, 3) := by decide +kernel
theorem dL_month_12 : decode cL_month 12 = .ok (.astore_n 3, 1) := by decide +kernel
theorem dL_month_13 : decode cL_month 13 = .ok (.iconst 1, 1) := by decide +kernel
theorem dL_month_14 : decode cL_month 14 = .ok (.ireturn, 1) := by decide +kernel
theorem dL_month_15 : decode cL_month 15 = .ok (.iconst 0, 1) := by decide +kernel
theorem dL_month_16 : decode cL_month 16 = .ok (.ireturn, 1) := by decide +kernel
theorem dL_ofLine_0 : decode cL_ofLine 0 = .ok (.aload_n 3, 1) := by decide +kernel
theorem dL_ofLine_1 : decode cL_ofLine 1 = .ok (.iconst 0, 1) := by decide +kernel
theorem dL_ofLine_2 : decode cL_ofLine 2 = .ok (.aload_n 0, 1) := by decide +kernel
theorem dL_ofLine_3 : decode cL_ofLine 3 = .ok (.iload_n 1, 1) := by decide +kernel
theorem dL_ofLine_4 : decode cL_ofLine 4 = .ok (.iload_n 2, 1) := by decide +kernel
theorem dL_ofLine_5 : decode cL_ofLine 5 = .ok (.invokevirtual 65, 3) := by decide +kernel
theorem dL_ofLine_8 : decode cL_ofLine 8 = .ok (.i2l, 1) := by decide +kernel
theorem dL_ofLine_9 : decode cL_ofLine 9 = .ok (.lastore, 1) := by decide +kernel
theorem dL_ofLine_10 : decode cL_ofLine 10 = .ok (.goto 11, 3) := by decide +kernel
theorem dL_ofLine_13 : decode cL_ofLine 13 = .ok (.astore 4, 2) := by decide +kernel
theorem dL_ofLine_15 : decode cL_ofLine 15 = .ok (.iconst 1, 1) := by decide +kernel
theorem dL_ofLine_16 : decode cL_ofLine 16 = .ok (.ireturn, 1) := by decide +kernel
theorem dL_ofLine_17 : decode cL_ofLine 17 = .ok (.astore 4, 2) := by decide +kernel
theorem dL_ofLine_19 : decode cL_ofLine 19 = .ok (.iconst 2, 1) := by decide +kernel
theorem dL_ofLine_20 : decode cL_ofLine 20 = .ok (.ireturn, 1) := by decide +kernel
theorem dL_ofLine_21 : decode cL_ofLine 21 = .ok (.iconst 0, 1) := by decide +kernel
theorem dL_ofLine_22 : decode cL_ofLine 22 = .ok (.ireturn, 1) := by decide +kernel
theorem dL_standsAnew_0 : decode cL_standsAnew 0 = .ok (.aload_n 2, 1) := by decide +kernel
theorem dL_standsAnew_1 : decode cL_standsAnew 1 = .ok (.iconst 0, 1) := by decide +kernel
theorem dL_standsAnew_2 : decode cL_standsAnew 2 = .ok (.aload_n 0, 1) := by decide +kernel
theorem dL_standsAnew_3 : decode cL_standsAnew 3 = .ok (.iload_n 1, 1) := by decide +kernel
theorem dL_standsAnew_4 : decode cL_standsAnew 4 = .ok (.invokevirtual 68, 3) := by decide +kernel
theorem dL_standsAnew_7 : decode cL_standsAnew 7 = .ok (.i2l, 1) := by decide +kernel
theorem dL_standsAnew_8 : decode cL_standsAnew 8 = .ok (.lastore, 1) := by decide +kernel
theorem dL_standsAnew_9 : decode cL_standsAnew 9 = .ok (.goto 6, 3) := by decide +kernel
theorem dL_standsAnew_12 : decode cL_standsAnew 12 = .ok (.astore_n 3, 1) := by decide +kernel
theorem dL_standsAnew_13 : decode cL_standsAnew 13 = .ok (.iconst 1, 1) := by decide +kernel
theorem dL_standsAnew_14 : decode cL_standsAnew 14 = .ok (.ireturn, 1) := by decide +kernel
theorem dL_standsAnew_15 : decode cL_standsAnew 15 = .ok (.iconst 0, 1) := by decide +kernel
theorem dL_standsAnew_16 : decode cL_standsAnew 16 = .ok (.ireturn, 1) := by decide +kernel
theorem dL_ofAmendment_0 : decode cL_ofAmendment 0 = .ok (.aload_n 3, 1) := by decide +kernel
theorem dL_ofAmendment_1 : decode cL_ofAmendment 1 = .ok (.iconst 0, 1) := by decide +kernel
theorem dL_ofAmendment_2 : decode cL_ofAmendment 2 = .ok (.aload_n 0, 1) := by decide +kernel
theorem dL_ofAmendment_3 : decode cL_ofAmendment 3 = .ok (.iload_n 1, 1) := by decide +kernel
theorem dL_ofAmendment_4 : decode cL_ofAmendment 4 = .ok (.iload_n 2, 1) := by decide +kernel
theorem dL_ofAmendment_5 : decode cL_ofAmendment 5 = .ok (.invokevirtual 71, 3) := by decide +kernel
theorem dL_ofAmendment_8 : decode cL_ofAmendment 8 = .ok (.i2l, 1) := by decide +kernel
theorem dL_ofAmendment_9 : decode cL_ofAmendment 9 = .ok (.lastore, 1) := by decide +kernel
theorem dL_ofAmendment_10 : decode cL_ofAmendment 10 = .ok (.goto 11, 3) := by decide +kernel
theorem dL_ofAmendment_13 : decode cL_ofAmendment 13 = .ok (.astore 4, 2) := by decide +kernel
theorem dL_ofAmendment_15 : decode cL_ofAmendment 15 = .ok (.iconst 1, 1) := by decide +kernel
theorem dL_ofAmendment_16 : decode cL_ofAmendment 16 = .ok (.ireturn, 1) := by decide +kernel
theorem dL_ofAmendment_17 : decode cL_ofAmendment 17 = .ok (.astore 4, 2) := by decide +kernel
theorem dL_ofAmendment_19 : decode cL_ofAmendment 19 = .ok (.iconst 2, 1) := by decide +kernel
theorem dL_ofAmendment_20 : decode cL_ofAmendment 20 = .ok (.ireturn, 1) := by decide +kernel
theorem dL_ofAmendment_21 : decode cL_ofAmendment 21 = .ok (.iconst 0, 1) := by decide +kernel
theorem dL_ofAmendment_22 : decode cL_ofAmendment 22 = .ok (.ireturn, 1) := by decide +kernel
theorem dL_ofGrant_0 : decode cL_ofGrant 0 = .ok (.aload_n 3, 1) := by decide +kernel
theorem dL_ofGrant_1 : decode cL_ofGrant 1 = .ok (.iconst 0, 1) := by decide +kernel
theorem dL_ofGrant_2 : decode cL_ofGrant 2 = .ok (.aload_n 0, 1) := by decide +kernel
theorem dL_ofGrant_3 : decode cL_ofGrant 3 = .ok (.iload_n 1, 1) := by decide +kernel
theorem dL_ofGrant_4 : decode cL_ofGrant 4 = .ok (.iload_n 2, 1) := by decide +kernel
theorem dL_ofGrant_5 : decode cL_ofGrant 5 = .ok (.invokevirtual 74, 3) := by decide +kernel
theorem dL_ofGrant_8 : decode cL_ofGrant 8 = .ok (.i2l, 1) := by decide +kernel
theorem dL_ofGrant_9 : decode cL_ofGrant 9 = .ok (.lastore, 1) := by decide +kernel
theorem dL_ofGrant_10 : decode cL_ofGrant 10 = .ok (.goto 11, 3) := by decide +kernel
theorem dL_ofGrant_13 : decode cL_ofGrant 13 = .ok (.astore 4, 2) := by decide +kernel
theorem dL_ofGrant_15 : decode cL_ofGrant 15 = .ok (.iconst 1, 1) := by decide +kernel
theorem dL_ofGrant_16 : decode cL_ofGrant 16 = .ok (.ireturn, 1) := by decide +kernel
theorem dL_ofGrant_17 : decode cL_ofGrant 17 = .ok (.astore 4, 2) := by decide +kernel
theorem dL_ofGrant_19 : decode cL_ofGrant 19 = .ok (.iconst 2, 1) := by decide +kernel
theorem dL_ofGrant_20 : decode cL_ofGrant 20 = .ok (.ireturn, 1) := by decide +kernel
theorem dL_ofGrant_21 : decode cL_ofGrant 21 = .ok (.iconst 0, 1) := by decide +kernel
theorem dL_ofGrant_22 : decode cL_ofGrant 22 = .ok (.ireturn, 1) := by decide +kernel
theorem dL_owes_0 : decode cL_owes 0 = .ok (.aload_n 2, 1) := by decide +kernel
theorem dL_owes_1 : decode cL_owes 1 = .ok (.iconst 0, 1) := by decide +kernel
theorem dL_owes_2 : decode cL_owes 2 = .ok (.aload_n 0, 1) := by decide +kernel
theorem dL_owes_3 : decode cL_owes 3 = .ok (.iload_n 1, 1) := by decide +kernel
theorem dL_owes_4 : decode cL_owes 4 = .ok (.invokevirtual 77, 3) := by decide +kernel
theorem dL_owes_7 : decode cL_owes 7 = .ok (.i2l, 1) := by decide +kernel
theorem dL_owes_8 : decode cL_owes 8 = .ok (.lastore, 1) := by decide +kernel
theorem dL_owes_9 : decode cL_owes 9 = .ok (.goto 6, 3) := by decide +kernel
theorem dL_owes_12 : decode cL_owes 12 = .ok (.astore_n 3, 1) := by decide +kernel
theorem dL_owes_13 : decode cL_owes 13 = .ok (.iconst 1, 1) := by decide +kernel
theorem dL_owes_14 : decode cL_owes 14 = .ok (.ireturn, 1) := by decide +kernel
theorem dL_owes_15 : decode cL_owes 15 = .ok (.iconst 0, 1) := by decide +kernel
theorem dL_owes_16 : decode cL_owes 16 = .ok (.ireturn, 1) := by decide +kernel
theorem dL_ofSource_0 : decode cL_ofSource 0 = .ok (.aload_n 3, 1) := by decide +kernel
theorem dL_ofSource_1 : decode cL_ofSource 1 = .ok (.iconst 0, 1) := by decide +kernel
theorem dL_ofSource_2 : decode cL_ofSource 2 = .ok (.aload_n 0, 1) := by decide +kernel
theorem dL_ofSource_3 : decode cL_ofSource 3 = .ok (.iload_n 1, 1) := by decide +kernel
theorem dL_ofSource_4 : decode cL_ofSource 4 = .ok (.iload_n 2, 1) := by decide +kernel
theorem dL_ofSource_5 : decode cL_ofSource 5 = .ok (.invokevirtual 80, 3) := by decide +kernel
theorem dL_ofSource_8 : decode cL_ofSource 8 = .ok (.i2l, 1) := by decide +kernel
theorem dL_ofSource_9 : decode cL_ofSource 9 = .ok (.lastore, 1) := by decide +kernel
theorem dL_ofSource_10 : decode cL_ofSource 10 = .ok (.goto 7, 3) := by decide +kernel
theorem dL_ofSource_13 : decode cL_ofSource 13 = .ok (.astore 4, 2) := by decide +kernel
theorem dL_ofSource_15 : decode cL_ofSource 15 = .ok (.iconst 1, 1) := by decide +kernel
theorem dL_ofSource_16 : decode cL_ofSource 16 = .ok (.ireturn, 1) := by decide +kernel
theorem dL_ofSource_17 : decode cL_ofSource 17 = .ok (.iconst 0, 1) := by decide +kernel
theorem dL_ofSource_18 : decode cL_ofSource 18 = .ok (.ireturn, 1) := by decide +kernel
theorem dL_law_0 : decode cL_law 0 = .ok (.new 8, 3) := by decide +kernel
theorem dL_law_3 : decode cL_law 3 = .ok (.dup, 1) := by decide +kernel
theorem dL_law_4 : decode cL_law 4 = .ok (.invokespecial 83, 3) := by decide +kernel
theorem dL_law_7 : decode cL_law 7 = .ok (.astore_n 1, 1) := by decide +kernel
theorem dL_law_8 : decode cL_law 8 = .ok (.new 84, 3) := by decide +kernel
theorem dL_law_11 : decode cL_law 11 = .ok (.dup, 1) := by decide +kernel
theorem dL_law_12 : decode cL_law 12 = .ok (.invokespecial 86, 3) := by decide +kernel
theorem dL_law_15 : decode cL_law 15 = .ok (.astore_n 2, 1) := by decide +kernel
theorem dL_law_16 : decode cL_law 16 = .ok (.iconst 1, 1) := by decide +kernel
theorem dL_law_17 : decode cL_law 17 = .ok (.newarray .long, 2) := by decide +kernel
theorem dL_law_19 : decode cL_law 19 = .ok (.astore_n 3, 1) := by decide +kernel
theorem dL_law_20 : decode cL_law 20 = .ok (.iconst 0, 1) := by decide +kernel
theorem dL_law_21 : decode cL_law 21 = .ok (.istore 4, 2) := by decide +kernel
theorem dL_law_23 : decode cL_law 23 = .ok (.iload 4, 2) := by decide +kernel
theorem dL_law_25 : decode cL_law 25 = .ok (.aload_n 0, 1) := by decide +kernel
theorem dL_law_26 : decode cL_law 26 = .ok (.arraylength, 1) := by decide +kernel
theorem dL_law_27 : decode cL_law 27 = .ok (.bipush 6, 2) := by decide +kernel
theorem dL_law_29 : decode cL_law 29 = .ok (.isub, 1) := by decide +kernel
theorem dL_law_30 : decode cL_law 30 = .ok (.if_icmp .gt 1548, 3) := by decide +kernel
theorem dL_law_33 : decode cL_law 33 = .ok (.aload_n 0, 1) := by decide +kernel
theorem dL_law_34 : decode cL_law 34 = .ok (.iload 4, 2) := by decide +kernel
theorem dL_law_36 : decode cL_law 36 = .ok (.iaload, 1) := by decide +kernel
theorem dL_law_37 : decode cL_law 37 = .ok (.bipush 31, 2) := by decide +kernel
theorem dL_law_39 : decode cL_law 39 = .ok (.iand, 1) := by decide +kernel
theorem dL_law_40 : decode cL_law 40 = .ok (.tableswitch 1532 0 21 #[104, 172, 240, 308, 376, 472, 528, 584, 688, 756, 819, 887, 955, 1023, 1079, 1135, 1203, 1259, 1327, 1395, 1451, 1464], 104) := by decide +kernel
theorem dL_law_144 : decode cL_law 144 = .ok (.aload_n 1, 1) := by decide +kernel
theorem dL_law_145 : decode cL_law 145 = .ok (.aload_n 0, 1) := by decide +kernel
theorem dL_law_146 : decode cL_law 146 = .ok (.iload 4, 2) := by decide +kernel
theorem dL_law_148 : decode cL_law 148 = .ok (.iconst 1, 1) := by decide +kernel
theorem dL_law_149 : decode cL_law 149 = .ok (.iadd, 1) := by decide +kernel
theorem dL_law_150 : decode cL_law 150 = .ok (.iaload, 1) := by decide +kernel
theorem dL_law_151 : decode cL_law 151 = .ok (.aload_n 0, 1) := by decide +kernel
theorem dL_law_152 : decode cL_law 152 = .ok (.iload 4, 2) := by decide +kernel
theorem dL_law_154 : decode cL_law 154 = .ok (.iconst 2, 1) := by decide +kernel
theorem dL_law_155 : decode cL_law 155 = .ok (.iadd, 1) := by decide +kernel
theorem dL_law_156 : decode cL_law 156 = .ok (.iaload, 1) := by decide +kernel
theorem dL_law_157 : decode cL_law 157 = .ok (.aload_n 3, 1) := by decide +kernel
theorem dL_law_158 : decode cL_law 158 = .ok (.invokestatic 87, 3) := by decide +kernel
theorem dL_law_161 : decode cL_law 161 = .ok (.istore 5, 2) := by decide +kernel
theorem dL_law_163 : decode cL_law 163 = .ok (.aload_n 2, 1) := by decide +kernel
theorem dL_law_164 : decode cL_law 164 = .ok (.aload_n 0, 1) := by decide +kernel
theorem dL_law_165 : decode cL_law 165 = .ok (.iload 4, 2) := by decide +kernel
theorem dL_law_167 : decode cL_law 167 = .ok (.iconst 1, 1) := by decide +kernel
theorem dL_law_168 : decode cL_law 168 = .ok (.iadd, 1) := by decide +kernel
theorem dL_law_169 : decode cL_law 169 = .ok (.iaload, 1) := by decide +kernel
theorem dL_law_170 : decode cL_law 170 = .ok (.aload_n 0, 1) := by decide +kernel
theorem dL_law_171 : decode cL_law 171 = .ok (.iload 4, 2) := by decide +kernel
theorem dL_law_173 : decode cL_law 173 = .ok (.iconst 2, 1) := by decide +kernel
theorem dL_law_174 : decode cL_law 174 = .ok (.iadd, 1) := by decide +kernel
theorem dL_law_175 : decode cL_law 175 = .ok (.iaload, 1) := by decide +kernel
theorem dL_law_176 : decode cL_law 176 = .ok (.invokevirtual 92, 3) := by decide +kernel
theorem dL_law_179 : decode cL_law 179 = .ok (.istore 6, 2) := by decide +kernel
theorem dL_law_181 : decode cL_law 181 = .ok (.aload_n 2, 1) := by decide +kernel
theorem dL_law_182 : decode cL_law 182 = .ok (.invokevirtual 93, 3) := by decide +kernel
theorem dL_law_185 : decode cL_law 185 = .ok (.iload 5, 2) := by decide +kernel
theorem dL_law_187 : decode cL_law 187 = .ok (.if_icmp .eq 5, 3) := by decide +kernel
theorem dL_law_190 : decode cL_law 190 = .ok (.iconst 0, 1) := by decide +kernel
theorem dL_law_191 : decode cL_law 191 = .ok (.ireturn, 1) := by decide +kernel
theorem dL_law_192 : decode cL_law 192 = .ok (.iload 5, 2) := by decide +kernel
theorem dL_law_194 : decode cL_law 194 = .ok (.ifCond .ne 15, 3) := by decide +kernel
theorem dL_law_197 : decode cL_law 197 = .ok (.aload_n 3, 1) := by decide +kernel
theorem dL_law_198 : decode cL_law 198 = .ok (.iconst 0, 1) := by decide +kernel
theorem dL_law_199 : decode cL_law 199 = .ok (.laload, 1) := by decide +kernel
theorem dL_law_200 : decode cL_law 200 = .ok (.iload 6, 2) := by decide +kernel
theorem dL_law_202 : decode cL_law 202 = .ok (.i2l, 1) := by decide +kernel
theorem dL_law_203 : decode cL_law 203 = .ok (.lcmp, 1) := by decide +kernel
theorem dL_law_204 : decode cL_law 204 = .ok (.ifCond .eq 5, 3) := by decide +kernel
theorem dL_law_207 : decode cL_law 207 = .ok (.iconst 0, 1) := by decide +kernel
theorem dL_law_208 : decode cL_law 208 = .ok (.ireturn, 1) := by decide +kernel
theorem dL_law_209 : decode cL_law 209 = .ok (.goto 1363, 3) := by decide +kernel
theorem dL_law_212 : decode cL_law 212 = .ok (.aload_n 1, 1) := by decide +kernel
theorem dL_law_213 : decode cL_law 213 = .ok (.aload_n 0, 1) := by decide +kernel
theorem dL_law_214 : decode cL_law 214 = .ok (.iload 4, 2) := by decide +kernel
theorem dL_law_216 : decode cL_law 216 = .ok (.iconst 1, 1) := by decide +kernel
theorem dL_law_217 : decode cL_law 217 = .ok (.iadd, 1) := by decide +kernel
theorem dL_law_218 : decode cL_law 218 = .ok (.iaload, 1) := by decide +kernel
theorem dL_law_219 : decode cL_law 219 = .ok (.aload_n 0, 1) := by decide +kernel
theorem dL_law_220 : decode cL_law 220 = .ok (.iload 4, 2) := by decide +kernel
theorem dL_law_222 : decode cL_law 222 = .ok (.iconst 2, 1) := by decide +kernel
theorem dL_law_223 : decode cL_law 223 = .ok (.iadd, 1) := by decide +kernel
theorem dL_law_224 : decode cL_law 224 = .ok (.iaload, 1) := by decide +kernel
theorem dL_law_225 : decode cL_law 225 = .ok (.aload_n 3, 1) := by decide +kernel
theorem dL_law_226 : decode cL_law 226 = .ok (.invokestatic 97, 3) := by decide +kernel
theorem dL_law_229 : decode cL_law 229 = .ok (.istore 5, 2) := by decide +kernel
theorem dL_law_231 : decode cL_law 231 = .ok (.aload_n 2, 1) := by decide +kernel
theorem dL_law_232 : decode cL_law 232 = .ok (.aload_n 0, 1) := by decide +kernel
theorem dL_law_233 : decode cL_law 233 = .ok (.iload 4, 2) := by decide +kernel
theorem dL_law_235 : decode cL_law 235 = .ok (.iconst 1, 1) := by decide +kernel
theorem dL_law_236 : decode cL_law 236 = .ok (.iadd, 1) := by decide +kernel
theorem dL_law_237 : decode cL_law 237 = .ok (.iaload, 1) := by decide +kernel
theorem dL_law_238 : decode cL_law 238 = .ok (.aload_n 0, 1) := by decide +kernel
theorem dL_law_239 : decode cL_law 239 = .ok (.iload 4, 2) := by decide +kernel
theorem dL_law_241 : decode cL_law 241 = .ok (.iconst 2, 1) := by decide +kernel
theorem dL_law_242 : decode cL_law 242 = .ok (.iadd, 1) := by decide +kernel
theorem dL_law_243 : decode cL_law 243 = .ok (.iaload, 1) := by decide +kernel
theorem dL_law_244 : decode cL_law 244 = .ok (.invokevirtual 99, 3) := by decide +kernel
theorem dL_law_247 : decode cL_law 247 = .ok (.istore 6, 2) := by decide +kernel
theorem dL_law_249 : decode cL_law 249 = .ok (.aload_n 2, 1) := by decide +kernel
theorem dL_law_250 : decode cL_law 250 = .ok (.invokevirtual 93, 3) := by decide +kernel
theorem dL_law_253 : decode cL_law 253 = .ok (.iload 5, 2) := by decide +kernel
theorem dL_law_255 : decode cL_law 255 = .ok (.if_icmp .eq 5, 3) := by decide +kernel
theorem dL_law_258 : decode cL_law 258 = .ok (.iconst 0, 1) := by decide +kernel
theorem dL_law_259 : decode cL_law 259 = .ok (.ireturn, 1) := by decide +kernel
theorem dL_law_260 : decode cL_law 260 = .ok (.iload 5, 2) := by decide +kernel
theorem dL_law_262 : decode cL_law 262 = .ok (.ifCond .ne 15, 3) := by decide +kernel
theorem dL_law_265 : decode cL_law 265 = .ok (.aload_n 3, 1) := by decide +kernel
theorem dL_law_266 : decode cL_law 266 = .ok (.iconst 0, 1) := by decide +kernel
theorem dL_law_267 : decode cL_law 267 = .ok (.laload, 1) := by decide +kernel
theorem dL_law_268 : decode cL_law 268 = .ok (.iload 6, 2) := by decide +kernel
theorem dL_law_270 : decode cL_law 270 = .ok (.i2l, 1) := by decide +kernel
theorem dL_law_271 : decode cL_law 271 = .ok (.lcmp, 1) := by decide +kernel
theorem dL_law_272 : decode cL_law 272 = .ok (.ifCond .eq 5, 3) := by decide +kernel
theorem dL_law_275 : decode cL_law 275 = .ok (.iconst 0, 1) := by decide +kernel
theorem dL_law_276 : decode cL_law 276 = .ok (.ireturn, 1) := by decide +kernel
theorem dL_law_277 : decode cL_law 277 = .ok (.goto 1295, 3) := by decide +kernel
theorem dL_law_280 : decode cL_law 280 = .ok (.aload_n 1, 1) := by decide +kernel
theorem dL_law_281 : decode cL_law 281 = .ok (.aload_n 0, 1) := by decide +kernel
theorem dL_law_282 : decode cL_law 282 = .ok (.iload 4, 2) := by decide +kernel
theorem dL_law_284 : decode cL_law 284 = .ok (.iconst 1, 1) := by decide +kernel
theorem dL_law_285 : decode cL_law 285 = .ok (.iadd, 1) := by decide +kernel
theorem dL_law_286 : decode cL_law 286 = .ok (.iaload, 1) := by decide +kernel
theorem dL_law_287 : decode cL_law 287 = .ok (.aload_n 0, 1) := by decide +kernel
theorem dL_law_288 : decode cL_law 288 = .ok (.iload 4, 2) := by decide +kernel
theorem dL_law_290 : decode cL_law 290 = .ok (.iconst 2, 1) := by decide +kernel
theorem dL_law_291 : decode cL_law 291 = .ok (.iadd, 1) := by decide +kernel
theorem dL_law_292 : decode cL_law 292 = .ok (.iaload, 1) := by decide +kernel
theorem dL_law_293 : decode cL_law 293 = .ok (.aload_n 3, 1) := by decide +kernel
theorem dL_law_294 : decode cL_law 294 = .ok (.invokestatic 100, 3) := by decide +kernel
theorem dL_law_297 : decode cL_law 297 = .ok (.istore 5, 2) := by decide +kernel
theorem dL_law_299 : decode cL_law 299 = .ok (.aload_n 2, 1) := by decide +kernel
theorem dL_law_300 : decode cL_law 300 = .ok (.aload_n 0, 1) := by decide +kernel
theorem dL_law_301 : decode cL_law 301 = .ok (.iload 4, 2) := by decide +kernel
theorem dL_law_303 : decode cL_law 303 = .ok (.iconst 1, 1) := by decide +kernel
theorem dL_law_304 : decode cL_law 304 = .ok (.iadd, 1) := by decide +kernel
theorem dL_law_305 : decode cL_law 305 = .ok (.iaload, 1) := by decide +kernel
theorem dL_law_306 : decode cL_law 306 = .ok (.aload_n 0, 1) := by decide +kernel
theorem dL_law_307 : decode cL_law 307 = .ok (.iload 4, 2) := by decide +kernel
theorem dL_law_309 : decode cL_law 309 = .ok (.iconst 2, 1) := by decide +kernel
theorem dL_law_310 : decode cL_law 310 = .ok (.iadd, 1) := by decide +kernel
theorem dL_law_311 : decode cL_law 311 = .ok (.iaload, 1) := by decide +kernel
theorem dL_law_312 : decode cL_law 312 = .ok (.invokevirtual 102, 3) := by decide +kernel
theorem dL_law_315 : decode cL_law 315 = .ok (.istore 6, 2) := by decide +kernel
theorem dL_law_317 : decode cL_law 317 = .ok (.aload_n 2, 1) := by decide +kernel
theorem dL_law_318 : decode cL_law 318 = .ok (.invokevirtual 93, 3) := by decide +kernel
theorem dL_law_321 : decode cL_law 321 = .ok (.iload 5, 2) := by decide +kernel
theorem dL_law_323 : decode cL_law 323 = .ok (.if_icmp .eq 5, 3) := by decide +kernel
theorem dL_law_326 : decode cL_law 326 = .ok (.iconst 0, 1) := by decide +kernel
theorem dL_law_327 : decode cL_law 327 = .ok (.ireturn, 1) := by decide +kernel
theorem dL_law_328 : decode cL_law 328 = .ok (.iload 5, 2) := by decide +kernel
theorem dL_law_330 : decode cL_law 330 = .ok (.ifCond .ne 15, 3) := by decide +kernel
theorem dL_law_333 : decode cL_law 333 = .ok (.aload_n 3, 1) := by decide +kernel
theorem dL_law_334 : decode cL_law 334 = .ok (.iconst 0, 1) := by decide +kernel
theorem dL_law_335 : decode cL_law 335 = .ok (.laload, 1) := by decide +kernel
theorem dL_law_336 : decode cL_law 336 = .ok (.iload 6, 2) := by decide +kernel
theorem dL_law_338 : decode cL_law 338 = .ok (.i2l, 1) := by decide +kernel
theorem dL_law_339 : decode cL_law 339 = .ok (.lcmp, 1) := by decide +kernel
theorem dL_law_340 : decode cL_law 340 = .ok (.ifCond .eq 5, 3) := by decide +kernel
theorem dL_law_343 : decode cL_law 343 = .ok (.iconst 0, 1) := by decide +kernel
theorem dL_law_344 : decode cL_law 344 = .ok (.ireturn, 1) := by decide +kernel
theorem dL_law_345 : decode cL_law 345 = .ok (.goto 1227, 3) := by decide +kernel
theorem dL_law_348 : decode cL_law 348 = .ok (.aload_n 1, 1) := by decide +kernel
theorem dL_law_349 : decode cL_law 349 = .ok (.aload_n 0, 1) := by decide +kernel
theorem dL_law_350 : decode cL_law 350 = .ok (.iload 4, 2) := by decide +kernel
theorem dL_law_352 : decode cL_law 352 = .ok (.iconst 1, 1) := by decide +kernel
theorem dL_law_353 : decode cL_law 353 = .ok (.iadd, 1) := by decide +kernel
theorem dL_law_354 : decode cL_law 354 = .ok (.iaload, 1) := by decide +kernel
theorem dL_law_355 : decode cL_law 355 = .ok (.aload_n 0, 1) := by decide +kernel
theorem dL_law_356 : decode cL_law 356 = .ok (.iload 4, 2) := by decide +kernel
theorem dL_law_358 : decode cL_law 358 = .ok (.iconst 2, 1) := by decide +kernel
theorem dL_law_359 : decode cL_law 359 = .ok (.iadd, 1) := by decide +kernel
theorem dL_law_360 : decode cL_law 360 = .ok (.iaload, 1) := by decide +kernel
theorem dL_law_361 : decode cL_law 361 = .ok (.aload_n 3, 1) := by decide +kernel
theorem dL_law_362 : decode cL_law 362 = .ok (.invokestatic 103, 3) := by decide +kernel
theorem dL_law_365 : decode cL_law 365 = .ok (.istore 5, 2) := by decide +kernel
theorem dL_law_367 : decode cL_law 367 = .ok (.aload_n 2, 1) := by decide +kernel
theorem dL_law_368 : decode cL_law 368 = .ok (.aload_n 0, 1) := by decide +kernel
theorem dL_law_369 : decode cL_law 369 = .ok (.iload 4, 2) := by decide +kernel
theorem dL_law_371 : decode cL_law 371 = .ok (.iconst 1, 1) := by decide +kernel
theorem dL_law_372 : decode cL_law 372 = .ok (.iadd, 1) := by decide +kernel
theorem dL_law_373 : decode cL_law 373 = .ok (.iaload, 1) := by decide +kernel
theorem dL_law_374 : decode cL_law 374 = .ok (.aload_n 0, 1) := by decide +kernel
theorem dL_law_375 : decode cL_law 375 = .ok (.iload 4, 2) := by decide +kernel
theorem dL_law_377 : decode cL_law 377 = .ok (.iconst 2, 1) := by decide +kernel
theorem dL_law_378 : decode cL_law 378 = .ok (.iadd, 1) := by decide +kernel
theorem dL_law_379 : decode cL_law 379 = .ok (.iaload, 1) := by decide +kernel
theorem dL_law_380 : decode cL_law 380 = .ok (.invokevirtual 105, 3) := by decide +kernel
theorem dL_law_383 : decode cL_law 383 = .ok (.istore 6, 2) := by decide +kernel
theorem dL_law_385 : decode cL_law 385 = .ok (.aload_n 2, 1) := by decide +kernel
theorem dL_law_386 : decode cL_law 386 = .ok (.invokevirtual 93, 3) := by decide +kernel
theorem dL_law_389 : decode cL_law 389 = .ok (.iload 5, 2) := by decide +kernel
theorem dL_law_391 : decode cL_law 391 = .ok (.if_icmp .eq 5, 3) := by decide +kernel
theorem dL_law_394 : decode cL_law 394 = .ok (.iconst 0, 1) := by decide +kernel
theorem dL_law_395 : decode cL_law 395 = .ok (.ireturn, 1) := by decide +kernel
theorem dL_law_396 : decode cL_law 396 = .ok (.iload 5, 2) := by decide +kernel
theorem dL_law_398 : decode cL_law 398 = .ok (.ifCond .ne 15, 3) := by decide +kernel
theorem dL_law_401 : decode cL_law 401 = .ok (.aload_n 3, 1) := by decide +kernel
theorem dL_law_402 : decode cL_law 402 = .ok (.iconst 0, 1) := by decide +kernel
theorem dL_law_403 : decode cL_law 403 = .ok (.laload, 1) := by decide +kernel
theorem dL_law_404 : decode cL_law 404 = .ok (.iload 6, 2) := by decide +kernel
theorem dL_law_406 : decode cL_law 406 = .ok (.i2l, 1) := by decide +kernel
theorem dL_law_407 : decode cL_law 407 = .ok (.lcmp, 1) := by decide +kernel
theorem dL_law_408 : decode cL_law 408 = .ok (.ifCond .eq 5, 3) := by decide +kernel
theorem dL_law_411 : decode cL_law 411 = .ok (.iconst 0, 1) := by decide +kernel
theorem dL_law_412 : decode cL_law 412 = .ok (.ireturn, 1) := by decide +kernel
theorem dL_law_413 : decode cL_law 413 = .ok (.goto 1159, 3) := by decide +kernel
theorem dL_law_416 : decode cL_law 416 = .ok (.aload_n 1, 1) := by decide +kernel
theorem dL_law_417 : decode cL_law 417 = .ok (.aload_n 0, 1) := by decide +kernel
theorem dL_law_418 : decode cL_law 418 = .ok (.iload 4, 2) := by decide +kernel
theorem dL_law_420 : decode cL_law 420 = .ok (.iconst 1, 1) := by decide +kernel
theorem dL_law_421 : decode cL_law 421 = .ok (.iadd, 1) := by decide +kernel
theorem dL_law_422 : decode cL_law 422 = .ok (.iaload, 1) := by decide +kernel
theorem dL_law_423 : decode cL_law 423 = .ok (.aload_n 0, 1) := by decide +kernel
theorem dL_law_424 : decode cL_law 424 = .ok (.iload 4, 2) := by decide +kernel
theorem dL_law_426 : decode cL_law 426 = .ok (.iconst 2, 1) := by decide +kernel
theorem dL_law_427 : decode cL_law 427 = .ok (.iadd, 1) := by decide +kernel
theorem dL_law_428 : decode cL_law 428 = .ok (.iaload, 1) := by decide +kernel
theorem dL_law_429 : decode cL_law 429 = .ok (.aload_n 0, 1) := by decide +kernel
theorem dL_law_430 : decode cL_law 430 = .ok (.iload 4, 2) := by decide +kernel
theorem dL_law_432 : decode cL_law 432 = .ok (.iconst 3, 1) := by decide +kernel
theorem dL_law_433 : decode cL_law 433 = .ok (.iadd, 1) := by decide +kernel
theorem dL_law_434 : decode cL_law 434 = .ok (.iaload, 1) := by decide +kernel
theorem dL_law_435 : decode cL_law 435 = .ok (.ifCond .eq 7, 3) := by decide +kernel
theorem dL_law_438 : decode cL_law 438 = .ok (.iconst 1, 1) := by decide +kernel
theorem dL_law_439 : decode cL_law 439 = .ok (.goto 4, 3) := by decide +kernel
theorem dL_law_442 : decode cL_law 442 = .ok (.iconst 0, 1) := by decide +kernel
theorem dL_law_443 : decode cL_law 443 = .ok (.aload_n 3, 1) := by decide +kernel
theorem dL_law_444 : decode cL_law 444 = .ok (.invokestatic 106, 3) := by decide +kernel
theorem dL_law_447 : decode cL_law 447 = .ok (.istore 5, 2) := by decide +kernel
theorem dL_law_449 : decode cL_law 449 = .ok (.aload_n 2, 1) := by decide +kernel
theorem dL_law_450 : decode cL_law 450 = .ok (.aload_n 0, 1) := by decide +kernel
theorem dL_law_451 : decode cL_law 451 = .ok (.iload 4, 2) := by decide +kernel
theorem dL_law_453 : decode cL_law 453 = .ok (.iconst 1, 1) := by decide +kernel
theorem dL_law_454 : decode cL_law 454 = .ok (.iadd, 1) := by decide +kernel
theorem dL_law_455 : decode cL_law 455 = .ok (.iaload, 1) := by decide +kernel
theorem dL_law_456 : decode cL_law 456 = .ok (.aload_n 0, 1) := by decide +kernel
theorem dL_law_457 : decode cL_law 457 = .ok (.iload 4, 2) := by decide +kernel
theorem dL_law_459 : decode cL_law 459 = .ok (.iconst 2, 1) := by decide +kernel
theorem dL_law_460 : decode cL_law 460 = .ok (.iadd, 1) := by decide +kernel
theorem dL_law_461 : decode cL_law 461 = .ok (.iaload, 1) := by decide +kernel
theorem dL_law_462 : decode cL_law 462 = .ok (.aload_n 0, 1) := by decide +kernel
theorem dL_law_463 : decode cL_law 463 = .ok (.iload 4, 2) := by decide +kernel
theorem dL_law_465 : decode cL_law 465 = .ok (.iconst 3, 1) := by decide +kernel
theorem dL_law_466 : decode cL_law 466 = .ok (.iadd, 1) := by decide +kernel
theorem dL_law_467 : decode cL_law 467 = .ok (.iaload, 1) := by decide +kernel
theorem dL_law_468 : decode cL_law 468 = .ok (.ifCond .eq 7, 3) := by decide +kernel
theorem dL_law_471 : decode cL_law 471 = .ok (.iconst 1, 1) := by decide +kernel
theorem dL_law_472 : decode cL_law 472 = .ok (.goto 4, 3) := by decide +kernel
theorem dL_law_475 : decode cL_law 475 = .ok (.iconst 0, 1) := by decide +kernel
theorem dL_law_476 : decode cL_law 476 = .ok (.invokevirtual 109, 3) := by decide +kernel
theorem dL_law_479 : decode cL_law 479 = .ok (.istore 6, 2) := by decide +kernel
theorem dL_law_481 : decode cL_law 481 = .ok (.aload_n 2, 1) := by decide +kernel
theorem dL_law_482 : decode cL_law 482 = .ok (.invokevirtual 93, 3) := by decide +kernel
theorem dL_law_485 : decode cL_law 485 = .ok (.iload 5, 2) := by decide +kernel
theorem dL_law_487 : decode cL_law 487 = .ok (.if_icmp .eq 5, 3) := by decide +kernel
theorem dL_law_490 : decode cL_law 490 = .ok (.iconst 0, 1) := by decide +kernel
theorem dL_law_491 : decode cL_law 491 = .ok (.ireturn, 1) := by decide +kernel
theorem dL_law_492 : decode cL_law 492 = .ok (.iload 5, 2) := by decide +kernel
theorem dL_law_494 : decode cL_law 494 = .ok (.ifCond .ne 15, 3) := by decide +kernel
theorem dL_law_497 : decode cL_law 497 = .ok (.aload_n 3, 1) := by decide +kernel
theorem dL_law_498 : decode cL_law 498 = .ok (.iconst 0, 1) := by decide +kernel
theorem dL_law_499 : decode cL_law 499 = .ok (.laload, 1) := by decide +kernel
theorem dL_law_500 : decode cL_law 500 = .ok (.iload 6, 2) := by decide +kernel
theorem dL_law_502 : decode cL_law 502 = .ok (.i2l, 1) := by decide +kernel
theorem dL_law_503 : decode cL_law 503 = .ok (.lcmp, 1) := by decide +kernel
theorem dL_law_504 : decode cL_law 504 = .ok (.ifCond .eq 5, 3) := by decide +kernel
theorem dL_law_507 : decode cL_law 507 = .ok (.iconst 0, 1) := by decide +kernel
theorem dL_law_508 : decode cL_law 508 = .ok (.ireturn, 1) := by decide +kernel
theorem dL_law_509 : decode cL_law 509 = .ok (.goto 1063, 3) := by decide +kernel
theorem dL_law_512 : decode cL_law 512 = .ok (.aload_n 1, 1) := by decide +kernel
theorem dL_law_513 : decode cL_law 513 = .ok (.aload_n 0, 1) := by decide +kernel
theorem dL_law_514 : decode cL_law 514 = .ok (.iload 4, 2) := by decide +kernel
theorem dL_law_516 : decode cL_law 516 = .ok (.iconst 1, 1) := by decide +kernel
theorem dL_law_517 : decode cL_law 517 = .ok (.iadd, 1) := by decide +kernel
theorem dL_law_518 : decode cL_law 518 = .ok (.iaload, 1) := by decide +kernel
theorem dL_law_519 : decode cL_law 519 = .ok (.aload_n 3, 1) := by decide +kernel
theorem dL_law_520 : decode cL_law 520 = .ok (.invokestatic 110, 3) := by decide +kernel
theorem dL_law_523 : decode cL_law 523 = .ok (.istore 5, 2) := by decide +kernel
theorem dL_law_525 : decode cL_law 525 = .ok (.aload_n 2, 1) := by decide +kernel
theorem dL_law_526 : decode cL_law 526 = .ok (.aload_n 0, 1) := by decide +kernel
theorem dL_law_527 : decode cL_law 527 = .ok (.iload 4, 2) := by decide +kernel
theorem dL_law_529 : decode cL_law 529 = .ok (.iconst 1, 1) := by decide +kernel
theorem dL_law_530 : decode cL_law 530 = .ok (.iadd, 1) := by decide +kernel
theorem dL_law_531 : decode cL_law 531 = .ok (.iaload, 1) := by decide +kernel
theorem dL_law_532 : decode cL_law 532 = .ok (.invokevirtual 113, 3) := by decide +kernel
theorem dL_law_535 : decode cL_law 535 = .ok (.istore 6, 2) := by decide +kernel
theorem dL_law_537 : decode cL_law 537 = .ok (.aload_n 2, 1) := by decide +kernel
theorem dL_law_538 : decode cL_law 538 = .ok (.invokevirtual 93, 3) := by decide +kernel
theorem dL_law_541 : decode cL_law 541 = .ok (.iload 5, 2) := by decide +kernel
theorem dL_law_543 : decode cL_law 543 = .ok (.if_icmp .eq 5, 3) := by decide +kernel
theorem dL_law_546 : decode cL_law 546 = .ok (.iconst 0, 1) := by decide +kernel
theorem dL_law_547 : decode cL_law 547 = .ok (.ireturn, 1) := by decide +kernel
theorem dL_law_548 : decode cL_law 548 = .ok (.iload 5, 2) := by decide +kernel
theorem dL_law_550 : decode cL_law 550 = .ok (.ifCond .ne 15, 3) := by decide +kernel
theorem dL_law_553 : decode cL_law 553 = .ok (.aload_n 3, 1) := by decide +kernel
theorem dL_law_554 : decode cL_law 554 = .ok (.iconst 0, 1) := by decide +kernel
theorem dL_law_555 : decode cL_law 555 = .ok (.laload, 1) := by decide +kernel
theorem dL_law_556 : decode cL_law 556 = .ok (.iload 6, 2) := by decide +kernel
theorem dL_law_558 : decode cL_law 558 = .ok (.i2l, 1) := by decide +kernel
theorem dL_law_559 : decode cL_law 559 = .ok (.lcmp, 1) := by decide +kernel
theorem dL_law_560 : decode cL_law 560 = .ok (.ifCond .eq 5, 3) := by decide +kernel
theorem dL_law_563 : decode cL_law 563 = .ok (.iconst 0, 1) := by decide +kernel
theorem dL_law_564 : decode cL_law 564 = .ok (.ireturn, 1) := by decide +kernel
theorem dL_law_565 : decode cL_law 565 = .ok (.goto 1007, 3) := by decide +kernel
theorem dL_law_568 : decode cL_law 568 = .ok (.aload_n 1, 1) := by decide +kernel
theorem dL_law_569 : decode cL_law 569 = .ok (.aload_n 0, 1) := by decide +kernel
theorem dL_law_570 : decode cL_law 570 = .ok (.iload 4, 2) := by decide +kernel
theorem dL_law_572 : decode cL_law 572 = .ok (.iconst 1, 1) := by decide +kernel
theorem dL_law_573 : decode cL_law 573 = .ok (.iadd, 1) := by decide +kernel
theorem dL_law_574 : decode cL_law 574 = .ok (.iaload, 1) := by decide +kernel
theorem dL_law_575 : decode cL_law 575 = .ok (.aload_n 3, 1) := by decide +kernel
theorem dL_law_576 : decode cL_law 576 = .ok (.invokestatic 114, 3) := by decide +kernel
theorem dL_law_579 : decode cL_law 579 = .ok (.istore 5, 2) := by decide +kernel
theorem dL_law_581 : decode cL_law 581 = .ok (.aload_n 2, 1) := by decide +kernel
theorem dL_law_582 : decode cL_law 582 = .ok (.aload_n 0, 1) := by decide +kernel
theorem dL_law_583 : decode cL_law 583 = .ok (.iload 4, 2) := by decide +kernel
theorem dL_law_585 : decode cL_law 585 = .ok (.iconst 1, 1) := by decide +kernel
theorem dL_law_586 : decode cL_law 586 = .ok (.iadd, 1) := by decide +kernel
theorem dL_law_587 : decode cL_law 587 = .ok (.iaload, 1) := by decide +kernel
theorem dL_law_588 : decode cL_law 588 = .ok (.invokevirtual 116, 3) := by decide +kernel
theorem dL_law_591 : decode cL_law 591 = .ok (.istore 6, 2) := by decide +kernel
theorem dL_law_593 : decode cL_law 593 = .ok (.aload_n 2, 1) := by decide +kernel
theorem dL_law_594 : decode cL_law 594 = .ok (.invokevirtual 93, 3) := by decide +kernel
theorem dL_law_597 : decode cL_law 597 = .ok (.iload 5, 2) := by decide +kernel
theorem dL_law_599 : decode cL_law 599 = .ok (.if_icmp .eq 5, 3) := by decide +kernel
theorem dL_law_602 : decode cL_law 602 = .ok (.iconst 0, 1) := by decide +kernel
theorem dL_law_603 : decode cL_law 603 = .ok (.ireturn, 1) := by decide +kernel
theorem dL_law_604 : decode cL_law 604 = .ok (.iload 5, 2) := by decide +kernel
theorem dL_law_606 : decode cL_law 606 = .ok (.ifCond .ne 15, 3) := by decide +kernel
theorem dL_law_609 : decode cL_law 609 = .ok (.aload_n 3, 1) := by decide +kernel
theorem dL_law_610 : decode cL_law 610 = .ok (.iconst 0, 1) := by decide +kernel
theorem dL_law_611 : decode cL_law 611 = .ok (.laload, 1) := by decide +kernel
theorem dL_law_612 : decode cL_law 612 = .ok (.iload 6, 2) := by decide +kernel
theorem dL_law_614 : decode cL_law 614 = .ok (.i2l, 1) := by decide +kernel
theorem dL_law_615 : decode cL_law 615 = .ok (.lcmp, 1) := by decide +kernel
theorem dL_law_616 : decode cL_law 616 = .ok (.ifCond .eq 5, 3) := by decide +kernel
theorem dL_law_619 : decode cL_law 619 = .ok (.iconst 0, 1) := by decide +kernel
theorem dL_law_620 : decode cL_law 620 = .ok (.ireturn, 1) := by decide +kernel
theorem dL_law_621 : decode cL_law 621 = .ok (.goto 951, 3) := by decide +kernel
theorem dL_law_624 : decode cL_law 624 = .ok (.aload_n 1, 1) := by decide +kernel
theorem dL_law_625 : decode cL_law 625 = .ok (.aload_n 0, 1) := by decide +kernel
theorem dL_law_626 : decode cL_law 626 = .ok (.iload 4, 2) := by decide +kernel
theorem dL_law_628 : decode cL_law 628 = .ok (.iconst 1, 1) := by decide +kernel
theorem dL_law_629 : decode cL_law 629 = .ok (.iadd, 1) := by decide +kernel
theorem dL_law_630 : decode cL_law 630 = .ok (.iaload, 1) := by decide +kernel
theorem dL_law_631 : decode cL_law 631 = .ok (.aload_n 0, 1) := by decide +kernel
theorem dL_law_632 : decode cL_law 632 = .ok (.iload 4, 2) := by decide +kernel
theorem dL_law_634 : decode cL_law 634 = .ok (.iconst 2, 1) := by decide +kernel
theorem dL_law_635 : decode cL_law 635 = .ok (.iadd, 1) := by decide +kernel
theorem dL_law_636 : decode cL_law 636 = .ok (.iaload, 1) := by decide +kernel
theorem dL_law_637 : decode cL_law 637 = .ok (.aload_n 0, 1) := by decide +kernel
theorem dL_law_638 : decode cL_law 638 = .ok (.iload 4, 2) := by decide +kernel
theorem dL_law_640 : decode cL_law 640 = .ok (.iconst 3, 1) := by decide +kernel
theorem dL_law_641 : decode cL_law 641 = .ok (.iadd, 1) := by decide +kernel
theorem dL_law_642 : decode cL_law 642 = .ok (.iaload, 1) := by decide +kernel
theorem dL_law_643 : decode cL_law 643 = .ok (.aload_n 0, 1) := by decide +kernel
theorem dL_law_644 : decode cL_law 644 = .ok (.iload 4, 2) := by decide +kernel
theorem dL_law_646 : decode cL_law 646 = .ok (.iconst 4, 1) := by decide +kernel
theorem dL_law_647 : decode cL_law 647 = .ok (.iadd, 1) := by decide +kernel
theorem dL_law_648 : decode cL_law 648 = .ok (.iaload, 1) := by decide +kernel
theorem dL_law_649 : decode cL_law 649 = .ok (.aload_n 0, 1) := by decide +kernel
theorem dL_law_650 : decode cL_law 650 = .ok (.iload 4, 2) := by decide +kernel
theorem dL_law_652 : decode cL_law 652 = .ok (.iconst 5, 1) := by decide +kernel
theorem dL_law_653 : decode cL_law 653 = .ok (.iadd, 1) := by decide +kernel
theorem dL_law_654 : decode cL_law 654 = .ok (.iaload, 1) := by decide +kernel
theorem dL_law_655 : decode cL_law 655 = .ok (.aload_n 3, 1) := by decide +kernel
theorem dL_law_656 : decode cL_law 656 = .ok (.invokestatic 117, 3) := by decide +kernel
theorem dL_law_659 : decode cL_law 659 = .ok (.istore 5, 2) := by decide +kernel
theorem dL_law_661 : decode cL_law 661 = .ok (.aload_n 2, 1) := by decide +kernel
theorem dL_law_662 : decode cL_law 662 = .ok (.aload_n 0, 1) := by decide +kernel
theorem dL_law_663 : decode cL_law 663 = .ok (.iload 4, 2) := by decide +kernel
theorem dL_law_665 : decode cL_law 665 = .ok (.iconst 1, 1) := by decide +kernel
theorem dL_law_666 : decode cL_law 666 = .ok (.iadd, 1) := by decide +kernel
theorem dL_law_667 : decode cL_law 667 = .ok (.iaload, 1) := by decide +kernel
theorem dL_law_668 : decode cL_law 668 = .ok (.aload_n 0, 1) := by decide +kernel
theorem dL_law_669 : decode cL_law 669 = .ok (.iload 4, 2) := by decide +kernel
theorem dL_law_671 : decode cL_law 671 = .ok (.iconst 2, 1) := by decide +kernel
theorem dL_law_672 : decode cL_law 672 = .ok (.iadd, 1) := by decide +kernel
theorem dL_law_673 : decode cL_law 673 = .ok (.iaload, 1) := by decide +kernel
theorem dL_law_674 : decode cL_law 674 = .ok (.aload_n 0, 1) := by decide +kernel
theorem dL_law_675 : decode cL_law 675 = .ok (.iload 4, 2) := by decide +kernel
theorem dL_law_677 : decode cL_law 677 = .ok (.iconst 3, 1) := by decide +kernel
theorem dL_law_678 : decode cL_law 678 = .ok (.iadd, 1) := by decide +kernel
theorem dL_law_679 : decode cL_law 679 = .ok (.iaload, 1) := by decide +kernel
theorem dL_law_680 : decode cL_law 680 = .ok (.aload_n 0, 1) := by decide +kernel
theorem dL_law_681 : decode cL_law 681 = .ok (.iload 4, 2) := by decide +kernel
theorem dL_law_683 : decode cL_law 683 = .ok (.iconst 4, 1) := by decide +kernel
theorem dL_law_684 : decode cL_law 684 = .ok (.iadd, 1) := by decide +kernel
theorem dL_law_685 : decode cL_law 685 = .ok (.iaload, 1) := by decide +kernel
theorem dL_law_686 : decode cL_law 686 = .ok (.aload_n 0, 1) := by decide +kernel
theorem dL_law_687 : decode cL_law 687 = .ok (.iload 4, 2) := by decide +kernel
theorem dL_law_689 : decode cL_law 689 = .ok (.iconst 5, 1) := by decide +kernel
theorem dL_law_690 : decode cL_law 690 = .ok (.iadd, 1) := by decide +kernel
theorem dL_law_691 : decode cL_law 691 = .ok (.iaload, 1) := by decide +kernel
theorem dL_law_692 : decode cL_law 692 = .ok (.invokevirtual 120, 3) := by decide +kernel
theorem dL_law_695 : decode cL_law 695 = .ok (.istore 6, 2) := by decide +kernel
theorem dL_law_697 : decode cL_law 697 = .ok (.aload_n 2, 1) := by decide +kernel
theorem dL_law_698 : decode cL_law 698 = .ok (.invokevirtual 93, 3) := by decide +kernel
theorem dL_law_701 : decode cL_law 701 = .ok (.iload 5, 2) := by decide +kernel
theorem dL_law_703 : decode cL_law 703 = .ok (.if_icmp .eq 5, 3) := by decide +kernel
theorem dL_law_706 : decode cL_law 706 = .ok (.iconst 0, 1) := by decide +kernel
theorem dL_law_707 : decode cL_law 707 = .ok (.ireturn, 1) := by decide +kernel
theorem dL_law_708 : decode cL_law 708 = .ok (.iload 5, 2) := by decide +kernel
theorem dL_law_710 : decode cL_law 710 = .ok (.ifCond .ne 15, 3) := by decide +kernel
theorem dL_law_713 : decode cL_law 713 = .ok (.aload_n 3, 1) := by decide +kernel
theorem dL_law_714 : decode cL_law 714 = .ok (.iconst 0, 1) := by decide +kernel
theorem dL_law_715 : decode cL_law 715 = .ok (.laload, 1) := by decide +kernel
theorem dL_law_716 : decode cL_law 716 = .ok (.iload 6, 2) := by decide +kernel
theorem dL_law_718 : decode cL_law 718 = .ok (.i2l, 1) := by decide +kernel
theorem dL_law_719 : decode cL_law 719 = .ok (.lcmp, 1) := by decide +kernel
theorem dL_law_720 : decode cL_law 720 = .ok (.ifCond .eq 5, 3) := by decide +kernel
theorem dL_law_723 : decode cL_law 723 = .ok (.iconst 0, 1) := by decide +kernel
theorem dL_law_724 : decode cL_law 724 = .ok (.ireturn, 1) := by decide +kernel
theorem dL_law_725 : decode cL_law 725 = .ok (.goto 847, 3) := by decide +kernel
theorem dL_law_728 : decode cL_law 728 = .ok (.aload_n 1, 1) := by decide +kernel
theorem dL_law_729 : decode cL_law 729 = .ok (.aload_n 0, 1) := by decide +kernel
theorem dL_law_730 : decode cL_law 730 = .ok (.iload 4, 2) := by decide +kernel
theorem dL_law_732 : decode cL_law 732 = .ok (.iconst 1, 1) := by decide +kernel
theorem dL_law_733 : decode cL_law 733 = .ok (.iadd, 1) := by decide +kernel
theorem dL_law_734 : decode cL_law 734 = .ok (.iaload, 1) := by decide +kernel
theorem dL_law_735 : decode cL_law 735 = .ok (.aload_n 0, 1) := by decide +kernel
theorem dL_law_736 : decode cL_law 736 = .ok (.iload 4, 2) := by decide +kernel
theorem dL_law_738 : decode cL_law 738 = .ok (.iconst 2, 1) := by decide +kernel
theorem dL_law_739 : decode cL_law 739 = .ok (.iadd, 1) := by decide +kernel
theorem dL_law_740 : decode cL_law 740 = .ok (.iaload, 1) := by decide +kernel
theorem dL_law_741 : decode cL_law 741 = .ok (.aload_n 3, 1) := by decide +kernel
theorem dL_law_742 : decode cL_law 742 = .ok (.invokestatic 121, 3) := by decide +kernel
theorem dL_law_745 : decode cL_law 745 = .ok (.istore 5, 2) := by decide +kernel
theorem dL_law_747 : decode cL_law 747 = .ok (.aload_n 2, 1) := by decide +kernel
theorem dL_law_748 : decode cL_law 748 = .ok (.aload_n 0, 1) := by decide +kernel
theorem dL_law_749 : decode cL_law 749 = .ok (.iload 4, 2) := by decide +kernel
theorem dL_law_751 : decode cL_law 751 = .ok (.iconst 1, 1) := by decide +kernel
theorem dL_law_752 : decode cL_law 752 = .ok (.iadd, 1) := by decide +kernel
theorem dL_law_753 : decode cL_law 753 = .ok (.iaload, 1) := by decide +kernel
theorem dL_law_754 : decode cL_law 754 = .ok (.aload_n 0, 1) := by decide +kernel
theorem dL_law_755 : decode cL_law 755 = .ok (.iload 4, 2) := by decide +kernel
theorem dL_law_757 : decode cL_law 757 = .ok (.iconst 2, 1) := by decide +kernel
theorem dL_law_758 : decode cL_law 758 = .ok (.iadd, 1) := by decide +kernel
theorem dL_law_759 : decode cL_law 759 = .ok (.iaload, 1) := by decide +kernel
theorem dL_law_760 : decode cL_law 760 = .ok (.invokevirtual 123, 3) := by decide +kernel
theorem dL_law_763 : decode cL_law 763 = .ok (.istore 6, 2) := by decide +kernel
theorem dL_law_765 : decode cL_law 765 = .ok (.aload_n 2, 1) := by decide +kernel
theorem dL_law_766 : decode cL_law 766 = .ok (.invokevirtual 93, 3) := by decide +kernel
theorem dL_law_769 : decode cL_law 769 = .ok (.iload 5, 2) := by decide +kernel
theorem dL_law_771 : decode cL_law 771 = .ok (.if_icmp .eq 5, 3) := by decide +kernel
theorem dL_law_774 : decode cL_law 774 = .ok (.iconst 0, 1) := by decide +kernel
theorem dL_law_775 : decode cL_law 775 = .ok (.ireturn, 1) := by decide +kernel
theorem dL_law_776 : decode cL_law 776 = .ok (.iload 5, 2) := by decide +kernel
theorem dL_law_778 : decode cL_law 778 = .ok (.ifCond .ne 15, 3) := by decide +kernel
theorem dL_law_781 : decode cL_law 781 = .ok (.aload_n 3, 1) := by decide +kernel
theorem dL_law_782 : decode cL_law 782 = .ok (.iconst 0, 1) := by decide +kernel
theorem dL_law_783 : decode cL_law 783 = .ok (.laload, 1) := by decide +kernel
theorem dL_law_784 : decode cL_law 784 = .ok (.iload 6, 2) := by decide +kernel
theorem dL_law_786 : decode cL_law 786 = .ok (.i2l, 1) := by decide +kernel
theorem dL_law_787 : decode cL_law 787 = .ok (.lcmp, 1) := by decide +kernel
theorem dL_law_788 : decode cL_law 788 = .ok (.ifCond .eq 5, 3) := by decide +kernel
theorem dL_law_791 : decode cL_law 791 = .ok (.iconst 0, 1) := by decide +kernel
theorem dL_law_792 : decode cL_law 792 = .ok (.ireturn, 1) := by decide +kernel
theorem dL_law_793 : decode cL_law 793 = .ok (.goto 779, 3) := by decide +kernel
theorem dL_law_796 : decode cL_law 796 = .ok (.aload_n 1, 1) := by decide +kernel
theorem dL_law_797 : decode cL_law 797 = .ok (.aload_n 0, 1) := by decide +kernel
theorem dL_law_798 : decode cL_law 798 = .ok (.iload 4, 2) := by decide +kernel
theorem dL_law_800 : decode cL_law 800 = .ok (.iconst 1, 1) := by decide +kernel
theorem dL_law_801 : decode cL_law 801 = .ok (.iadd, 1) := by decide +kernel
theorem dL_law_802 : decode cL_law 802 = .ok (.iaload, 1) := by decide +kernel
theorem dL_law_803 : decode cL_law 803 = .ok (.aload_n 3, 1) := by decide +kernel
theorem dL_law_804 : decode cL_law 804 = .ok (.invokestatic 124, 3) := by decide +kernel
theorem dL_law_807 : decode cL_law 807 = .ok (.istore 5, 2) := by decide +kernel
theorem dL_law_809 : decode cL_law 809 = .ok (.aload_n 2, 1) := by decide +kernel
theorem dL_law_810 : decode cL_law 810 = .ok (.aload_n 0, 1) := by decide +kernel
theorem dL_law_811 : decode cL_law 811 = .ok (.iload 4, 2) := by decide +kernel
theorem dL_law_813 : decode cL_law 813 = .ok (.iconst 1, 1) := by decide +kernel
theorem dL_law_814 : decode cL_law 814 = .ok (.iadd, 1) := by decide +kernel
theorem dL_law_815 : decode cL_law 815 = .ok (.iaload, 1) := by decide +kernel
theorem dL_law_816 : decode cL_law 816 = .ok (.invokevirtual 126, 3) := by decide +kernel
theorem dL_law_819 : decode cL_law 819 = .ok (.istore 6, 2) := by decide +kernel
theorem dL_law_821 : decode cL_law 821 = .ok (.aload_n 2, 1) := by decide +kernel
theorem dL_law_822 : decode cL_law 822 = .ok (.invokevirtual 93, 3) := by decide +kernel
theorem dL_law_825 : decode cL_law 825 = .ok (.iload 5, 2) := by decide +kernel
theorem dL_law_827 : decode cL_law 827 = .ok (.if_icmp .eq 5, 3) := by decide +kernel
theorem dL_law_830 : decode cL_law 830 = .ok (.iconst 0, 1) := by decide +kernel
theorem dL_law_831 : decode cL_law 831 = .ok (.ireturn, 1) := by decide +kernel
theorem dL_law_832 : decode cL_law 832 = .ok (.iload 5, 2) := by decide +kernel
theorem dL_law_834 : decode cL_law 834 = .ok (.ifCond .ne 22, 3) := by decide +kernel
theorem dL_law_837 : decode cL_law 837 = .ok (.aload_n 3, 1) := by decide +kernel
theorem dL_law_838 : decode cL_law 838 = .ok (.iconst 0, 1) := by decide +kernel
theorem dL_law_839 : decode cL_law 839 = .ok (.laload, 1) := by decide +kernel
theorem dL_law_840 : decode cL_law 840 = .ok (.iload 6, 2) := by decide +kernel
theorem dL_law_842 : decode cL_law 842 = .ok (.ifCond .eq 7, 3) := by decide +kernel
theorem dL_law_845 : decode cL_law 845 = .ok (.lconst 1, 1) := by decide +kernel
theorem dL_law_846 : decode cL_law 846 = .ok (.goto 4, 3) := by decide +kernel
theorem dL_law_849 : decode cL_law 849 = .ok (.lconst 0, 1) := by decide +kernel
theorem dL_law_850 : decode cL_law 850 = .ok (.lcmp, 1) := by decide +kernel
theorem dL_law_851 : decode cL_law 851 = .ok (.ifCond .eq 5, 3) := by decide +kernel
theorem dL_law_854 : decode cL_law 854 = .ok (.iconst 0, 1) := by decide +kernel
theorem dL_law_855 : decode cL_law 855 = .ok (.ireturn, 1) := by decide +kernel
theorem dL_law_856 : decode cL_law 856 = .ok (.goto 716, 3) := by decide +kernel
theorem dL_law_859 : decode cL_law 859 = .ok (.aload_n 1, 1) := by decide +kernel
theorem dL_law_860 : decode cL_law 860 = .ok (.aload_n 0, 1) := by decide +kernel
theorem dL_law_861 : decode cL_law 861 = .ok (.iload 4, 2) := by decide +kernel
theorem dL_law_863 : decode cL_law 863 = .ok (.iconst 1, 1) := by decide +kernel
theorem dL_law_864 : decode cL_law 864 = .ok (.iadd, 1) := by decide +kernel
theorem dL_law_865 : decode cL_law 865 = .ok (.iaload, 1) := by decide +kernel
theorem dL_law_866 : decode cL_law 866 = .ok (.aload_n 0, 1) := by decide +kernel
theorem dL_law_867 : decode cL_law 867 = .ok (.iload 4, 2) := by decide +kernel
theorem dL_law_869 : decode cL_law 869 = .ok (.iconst 2, 1) := by decide +kernel
theorem dL_law_870 : decode cL_law 870 = .ok (.iadd, 1) := by decide +kernel
theorem dL_law_871 : decode cL_law 871 = .ok (.iaload, 1) := by decide +kernel
theorem dL_law_872 : decode cL_law 872 = .ok (.aload_n 3, 1) := by decide +kernel
theorem dL_law_873 : decode cL_law 873 = .ok (.invokestatic 127, 3) := by decide +kernel
theorem dL_law_876 : decode cL_law 876 = .ok (.istore 5, 2) := by decide +kernel
theorem dL_law_878 : decode cL_law 878 = .ok (.aload_n 2, 1) := by decide +kernel
theorem dL_law_879 : decode cL_law 879 = .ok (.aload_n 0, 1) := by decide +kernel
theorem dL_law_880 : decode cL_law 880 = .ok (.iload 4, 2) := by decide +kernel
theorem dL_law_882 : decode cL_law 882 = .ok (.iconst 1, 1) := by decide +kernel
theorem dL_law_883 : decode cL_law 883 = .ok (.iadd, 1) := by decide +kernel
theorem dL_law_884 : decode cL_law 884 = .ok (.iaload, 1) := by decide +kernel
theorem dL_law_885 : decode cL_law 885 = .ok (.aload_n 0, 1) := by decide +kernel
theorem dL_law_886 : decode cL_law 886 = .ok (.iload 4, 2) := by decide +kernel
theorem dL_law_888 : decode cL_law 888 = .ok (.iconst 2, 1) := by decide +kernel
theorem dL_law_889 : decode cL_law 889 = .ok (.iadd, 1) := by decide +kernel
theorem dL_law_890 : decode cL_law 890 = .ok (.iaload, 1) := by decide +kernel
theorem dL_law_891 : decode cL_law 891 = .ok (.invokevirtual 129, 3) := by decide +kernel
theorem dL_law_894 : decode cL_law 894 = .ok (.istore 6, 2) := by decide +kernel
theorem dL_law_896 : decode cL_law 896 = .ok (.aload_n 2, 1) := by decide +kernel
theorem dL_law_897 : decode cL_law 897 = .ok (.invokevirtual 93, 3) := by decide +kernel
theorem dL_law_900 : decode cL_law 900 = .ok (.iload 5, 2) := by decide +kernel
theorem dL_law_902 : decode cL_law 902 = .ok (.if_icmp .eq 5, 3) := by decide +kernel
theorem dL_law_905 : decode cL_law 905 = .ok (.iconst 0, 1) := by decide +kernel
theorem dL_law_906 : decode cL_law 906 = .ok (.ireturn, 1) := by decide +kernel
theorem dL_law_907 : decode cL_law 907 = .ok (.iload 5, 2) := by decide +kernel
theorem dL_law_909 : decode cL_law 909 = .ok (.ifCond .ne 15, 3) := by decide +kernel
theorem dL_law_912 : decode cL_law 912 = .ok (.aload_n 3, 1) := by decide +kernel
theorem dL_law_913 : decode cL_law 913 = .ok (.iconst 0, 1) := by decide +kernel
theorem dL_law_914 : decode cL_law 914 = .ok (.laload, 1) := by decide +kernel
theorem dL_law_915 : decode cL_law 915 = .ok (.iload 6, 2) := by decide +kernel
theorem dL_law_917 : decode cL_law 917 = .ok (.i2l, 1) := by decide +kernel
theorem dL_law_918 : decode cL_law 918 = .ok (.lcmp, 1) := by decide +kernel
theorem dL_law_919 : decode cL_law 919 = .ok (.ifCond .eq 5, 3) := by decide +kernel
theorem dL_law_922 : decode cL_law 922 = .ok (.iconst 0, 1) := by decide +kernel
theorem dL_law_923 : decode cL_law 923 = .ok (.ireturn, 1) := by decide +kernel
theorem dL_law_924 : decode cL_law 924 = .ok (.goto 648, 3) := by decide +kernel
theorem dL_law_927 : decode cL_law 927 = .ok (.aload_n 1, 1) := by decide +kernel
theorem dL_law_928 : decode cL_law 928 = .ok (.aload_n 0, 1) := by decide +kernel
theorem dL_law_929 : decode cL_law 929 = .ok (.iload 4, 2) := by decide +kernel
theorem dL_law_931 : decode cL_law 931 = .ok (.iconst 1, 1) := by decide +kernel
theorem dL_law_932 : decode cL_law 932 = .ok (.iadd, 1) := by decide +kernel
theorem dL_law_933 : decode cL_law 933 = .ok (.iaload, 1) := by decide +kernel
theorem dL_law_934 : decode cL_law 934 = .ok (.aload_n 0, 1) := by decide +kernel
theorem dL_law_935 : decode cL_law 935 = .ok (.iload 4, 2) := by decide +kernel
theorem dL_law_937 : decode cL_law 937 = .ok (.iconst 2, 1) := by decide +kernel
theorem dL_law_938 : decode cL_law 938 = .ok (.iadd, 1) := by decide +kernel
theorem dL_law_939 : decode cL_law 939 = .ok (.iaload, 1) := by decide +kernel
theorem dL_law_940 : decode cL_law 940 = .ok (.aload_n 3, 1) := by decide +kernel
theorem dL_law_941 : decode cL_law 941 = .ok (.invokestatic 130, 3) := by decide +kernel
theorem dL_law_944 : decode cL_law 944 = .ok (.istore 5, 2) := by decide +kernel
theorem dL_law_946 : decode cL_law 946 = .ok (.aload_n 2, 1) := by decide +kernel
theorem dL_law_947 : decode cL_law 947 = .ok (.aload_n 0, 1) := by decide +kernel
theorem dL_law_948 : decode cL_law 948 = .ok (.iload 4, 2) := by decide +kernel
theorem dL_law_950 : decode cL_law 950 = .ok (.iconst 1, 1) := by decide +kernel
theorem dL_law_951 : decode cL_law 951 = .ok (.iadd, 1) := by decide +kernel
theorem dL_law_952 : decode cL_law 952 = .ok (.iaload, 1) := by decide +kernel
theorem dL_law_953 : decode cL_law 953 = .ok (.aload_n 0, 1) := by decide +kernel
theorem dL_law_954 : decode cL_law 954 = .ok (.iload 4, 2) := by decide +kernel
theorem dL_law_956 : decode cL_law 956 = .ok (.iconst 2, 1) := by decide +kernel
theorem dL_law_957 : decode cL_law 957 = .ok (.iadd, 1) := by decide +kernel
theorem dL_law_958 : decode cL_law 958 = .ok (.iaload, 1) := by decide +kernel
theorem dL_law_959 : decode cL_law 959 = .ok (.invokevirtual 132, 3) := by decide +kernel
theorem dL_law_962 : decode cL_law 962 = .ok (.istore 6, 2) := by decide +kernel
theorem dL_law_964 : decode cL_law 964 = .ok (.aload_n 2, 1) := by decide +kernel
theorem dL_law_965 : decode cL_law 965 = .ok (.invokevirtual 93, 3) := by decide +kernel
theorem dL_law_968 : decode cL_law 968 = .ok (.iload 5, 2) := by decide +kernel
theorem dL_law_970 : decode cL_law 970 = .ok (.if_icmp .eq 5, 3) := by decide +kernel
theorem dL_law_973 : decode cL_law 973 = .ok (.iconst 0, 1) := by decide +kernel
theorem dL_law_974 : decode cL_law 974 = .ok (.ireturn, 1) := by decide +kernel
theorem dL_law_975 : decode cL_law 975 = .ok (.iload 5, 2) := by decide +kernel
theorem dL_law_977 : decode cL_law 977 = .ok (.ifCond .ne 15, 3) := by decide +kernel
theorem dL_law_980 : decode cL_law 980 = .ok (.aload_n 3, 1) := by decide +kernel
theorem dL_law_981 : decode cL_law 981 = .ok (.iconst 0, 1) := by decide +kernel
theorem dL_law_982 : decode cL_law 982 = .ok (.laload, 1) := by decide +kernel
theorem dL_law_983 : decode cL_law 983 = .ok (.iload 6, 2) := by decide +kernel
theorem dL_law_985 : decode cL_law 985 = .ok (.i2l, 1) := by decide +kernel
theorem dL_law_986 : decode cL_law 986 = .ok (.lcmp, 1) := by decide +kernel
theorem dL_law_987 : decode cL_law 987 = .ok (.ifCond .eq 5, 3) := by decide +kernel
theorem dL_law_990 : decode cL_law 990 = .ok (.iconst 0, 1) := by decide +kernel
theorem dL_law_991 : decode cL_law 991 = .ok (.ireturn, 1) := by decide +kernel
theorem dL_law_992 : decode cL_law 992 = .ok (.goto 580, 3) := by decide +kernel
theorem dL_law_995 : decode cL_law 995 = .ok (.aload_n 1, 1) := by decide +kernel
theorem dL_law_996 : decode cL_law 996 = .ok (.aload_n 0, 1) := by decide +kernel
theorem dL_law_997 : decode cL_law 997 = .ok (.iload 4, 2) := by decide +kernel
theorem dL_law_999 : decode cL_law 999 = .ok (.iconst 1, 1) := by decide +kernel
theorem dL_law_1000 : decode cL_law 1000 = .ok (.iadd, 1) := by decide +kernel
theorem dL_law_1001 : decode cL_law 1001 = .ok (.iaload, 1) := by decide +kernel
theorem dL_law_1002 : decode cL_law 1002 = .ok (.aload_n 0, 1) := by decide +kernel
theorem dL_law_1003 : decode cL_law 1003 = .ok (.iload 4, 2) := by decide +kernel
theorem dL_law_1005 : decode cL_law 1005 = .ok (.iconst 2, 1) := by decide +kernel
theorem dL_law_1006 : decode cL_law 1006 = .ok (.iadd, 1) := by decide +kernel
theorem dL_law_1007 : decode cL_law 1007 = .ok (.iaload, 1) := by decide +kernel
theorem dL_law_1008 : decode cL_law 1008 = .ok (.aload_n 3, 1) := by decide +kernel
theorem dL_law_1009 : decode cL_law 1009 = .ok (.invokestatic 133, 3) := by decide +kernel
theorem dL_law_1012 : decode cL_law 1012 = .ok (.istore 5, 2) := by decide +kernel
theorem dL_law_1014 : decode cL_law 1014 = .ok (.aload_n 2, 1) := by decide +kernel
theorem dL_law_1015 : decode cL_law 1015 = .ok (.aload_n 0, 1) := by decide +kernel
theorem dL_law_1016 : decode cL_law 1016 = .ok (.iload 4, 2) := by decide +kernel
theorem dL_law_1018 : decode cL_law 1018 = .ok (.iconst 1, 1) := by decide +kernel
theorem dL_law_1019 : decode cL_law 1019 = .ok (.iadd, 1) := by decide +kernel
theorem dL_law_1020 : decode cL_law 1020 = .ok (.iaload, 1) := by decide +kernel
theorem dL_law_1021 : decode cL_law 1021 = .ok (.aload_n 0, 1) := by decide +kernel
theorem dL_law_1022 : decode cL_law 1022 = .ok (.iload 4, 2) := by decide +kernel
theorem dL_law_1024 : decode cL_law 1024 = .ok (.iconst 2, 1) := by decide +kernel
theorem dL_law_1025 : decode cL_law 1025 = .ok (.iadd, 1) := by decide +kernel
theorem dL_law_1026 : decode cL_law 1026 = .ok (.iaload, 1) := by decide +kernel
theorem dL_law_1027 : decode cL_law 1027 = .ok (.invokevirtual 135, 3) := by decide +kernel
theorem dL_law_1030 : decode cL_law 1030 = .ok (.istore 6, 2) := by decide +kernel
theorem dL_law_1032 : decode cL_law 1032 = .ok (.aload_n 2, 1) := by decide +kernel
theorem dL_law_1033 : decode cL_law 1033 = .ok (.invokevirtual 93, 3) := by decide +kernel
theorem dL_law_1036 : decode cL_law 1036 = .ok (.iload 5, 2) := by decide +kernel
theorem dL_law_1038 : decode cL_law 1038 = .ok (.if_icmp .eq 5, 3) := by decide +kernel
theorem dL_law_1041 : decode cL_law 1041 = .ok (.iconst 0, 1) := by decide +kernel
theorem dL_law_1042 : decode cL_law 1042 = .ok (.ireturn, 1) := by decide +kernel
theorem dL_law_1043 : decode cL_law 1043 = .ok (.iload 5, 2) := by decide +kernel
theorem dL_law_1045 : decode cL_law 1045 = .ok (.ifCond .ne 15, 3) := by decide +kernel
theorem dL_law_1048 : decode cL_law 1048 = .ok (.aload_n 3, 1) := by decide +kernel
theorem dL_law_1049 : decode cL_law 1049 = .ok (.iconst 0, 1) := by decide +kernel
theorem dL_law_1050 : decode cL_law 1050 = .ok (.laload, 1) := by decide +kernel
theorem dL_law_1051 : decode cL_law 1051 = .ok (.iload 6, 2) := by decide +kernel
theorem dL_law_1053 : decode cL_law 1053 = .ok (.i2l, 1) := by decide +kernel
theorem dL_law_1054 : decode cL_law 1054 = .ok (.lcmp, 1) := by decide +kernel
theorem dL_law_1055 : decode cL_law 1055 = .ok (.ifCond .eq 5, 3) := by decide +kernel
theorem dL_law_1058 : decode cL_law 1058 = .ok (.iconst 0, 1) := by decide +kernel
theorem dL_law_1059 : decode cL_law 1059 = .ok (.ireturn, 1) := by decide +kernel
theorem dL_law_1060 : decode cL_law 1060 = .ok (.goto 512, 3) := by decide +kernel
theorem dL_law_1063 : decode cL_law 1063 = .ok (.aload_n 1, 1) := by decide +kernel
theorem dL_law_1064 : decode cL_law 1064 = .ok (.aload_n 0, 1) := by decide +kernel
theorem dL_law_1065 : decode cL_law 1065 = .ok (.iload 4, 2) := by decide +kernel
theorem dL_law_1067 : decode cL_law 1067 = .ok (.iconst 1, 1) := by decide +kernel
theorem dL_law_1068 : decode cL_law 1068 = .ok (.iadd, 1) := by decide +kernel
theorem dL_law_1069 : decode cL_law 1069 = .ok (.iaload, 1) := by decide +kernel
theorem dL_law_1070 : decode cL_law 1070 = .ok (.aload_n 3, 1) := by decide +kernel
theorem dL_law_1071 : decode cL_law 1071 = .ok (.invokestatic 136, 3) := by decide +kernel
theorem dL_law_1074 : decode cL_law 1074 = .ok (.istore 5, 2) := by decide +kernel
theorem dL_law_1076 : decode cL_law 1076 = .ok (.aload_n 2, 1) := by decide +kernel
theorem dL_law_1077 : decode cL_law 1077 = .ok (.aload_n 0, 1) := by decide +kernel
theorem dL_law_1078 : decode cL_law 1078 = .ok (.iload 4, 2) := by decide +kernel
theorem dL_law_1080 : decode cL_law 1080 = .ok (.iconst 1, 1) := by decide +kernel
theorem dL_law_1081 : decode cL_law 1081 = .ok (.iadd, 1) := by decide +kernel
theorem dL_law_1082 : decode cL_law 1082 = .ok (.iaload, 1) := by decide +kernel
theorem dL_law_1083 : decode cL_law 1083 = .ok (.invokevirtual 138, 3) := by decide +kernel
theorem dL_law_1086 : decode cL_law 1086 = .ok (.istore 6, 2) := by decide +kernel
theorem dL_law_1088 : decode cL_law 1088 = .ok (.aload_n 2, 1) := by decide +kernel
theorem dL_law_1089 : decode cL_law 1089 = .ok (.invokevirtual 93, 3) := by decide +kernel
theorem dL_law_1092 : decode cL_law 1092 = .ok (.iload 5, 2) := by decide +kernel
theorem dL_law_1094 : decode cL_law 1094 = .ok (.if_icmp .eq 5, 3) := by decide +kernel
theorem dL_law_1097 : decode cL_law 1097 = .ok (.iconst 0, 1) := by decide +kernel
theorem dL_law_1098 : decode cL_law 1098 = .ok (.ireturn, 1) := by decide +kernel
theorem dL_law_1099 : decode cL_law 1099 = .ok (.iload 5, 2) := by decide +kernel
theorem dL_law_1101 : decode cL_law 1101 = .ok (.ifCond .ne 15, 3) := by decide +kernel
theorem dL_law_1104 : decode cL_law 1104 = .ok (.aload_n 3, 1) := by decide +kernel
theorem dL_law_1105 : decode cL_law 1105 = .ok (.iconst 0, 1) := by decide +kernel
theorem dL_law_1106 : decode cL_law 1106 = .ok (.laload, 1) := by decide +kernel
theorem dL_law_1107 : decode cL_law 1107 = .ok (.iload 6, 2) := by decide +kernel
theorem dL_law_1109 : decode cL_law 1109 = .ok (.i2l, 1) := by decide +kernel
theorem dL_law_1110 : decode cL_law 1110 = .ok (.lcmp, 1) := by decide +kernel
theorem dL_law_1111 : decode cL_law 1111 = .ok (.ifCond .eq 5, 3) := by decide +kernel
theorem dL_law_1114 : decode cL_law 1114 = .ok (.iconst 0, 1) := by decide +kernel
theorem dL_law_1115 : decode cL_law 1115 = .ok (.ireturn, 1) := by decide +kernel
theorem dL_law_1116 : decode cL_law 1116 = .ok (.goto 456, 3) := by decide +kernel
theorem dL_law_1119 : decode cL_law 1119 = .ok (.aload_n 1, 1) := by decide +kernel
theorem dL_law_1120 : decode cL_law 1120 = .ok (.aload_n 0, 1) := by decide +kernel
theorem dL_law_1121 : decode cL_law 1121 = .ok (.iload 4, 2) := by decide +kernel
theorem dL_law_1123 : decode cL_law 1123 = .ok (.iconst 1, 1) := by decide +kernel
theorem dL_law_1124 : decode cL_law 1124 = .ok (.iadd, 1) := by decide +kernel
theorem dL_law_1125 : decode cL_law 1125 = .ok (.iaload, 1) := by decide +kernel
theorem dL_law_1126 : decode cL_law 1126 = .ok (.aload_n 3, 1) := by decide +kernel
theorem dL_law_1127 : decode cL_law 1127 = .ok (.invokestatic 139, 3) := by decide +kernel
theorem dL_law_1130 : decode cL_law 1130 = .ok (.istore 5, 2) := by decide +kernel
theorem dL_law_1132 : decode cL_law 1132 = .ok (.aload_n 2, 1) := by decide +kernel
theorem dL_law_1133 : decode cL_law 1133 = .ok (.aload_n 0, 1) := by decide +kernel
theorem dL_law_1134 : decode cL_law 1134 = .ok (.iload 4, 2) := by decide +kernel
theorem dL_law_1136 : decode cL_law 1136 = .ok (.iconst 1, 1) := by decide +kernel
theorem dL_law_1137 : decode cL_law 1137 = .ok (.iadd, 1) := by decide +kernel
theorem dL_law_1138 : decode cL_law 1138 = .ok (.iaload, 1) := by decide +kernel
theorem dL_law_1139 : decode cL_law 1139 = .ok (.invokevirtual 141, 3) := by decide +kernel
theorem dL_law_1142 : decode cL_law 1142 = .ok (.istore 6, 2) := by decide +kernel
theorem dL_law_1144 : decode cL_law 1144 = .ok (.aload_n 2, 1) := by decide +kernel
theorem dL_law_1145 : decode cL_law 1145 = .ok (.invokevirtual 93, 3) := by decide +kernel
theorem dL_law_1148 : decode cL_law 1148 = .ok (.iload 5, 2) := by decide +kernel
theorem dL_law_1150 : decode cL_law 1150 = .ok (.if_icmp .eq 5, 3) := by decide +kernel
theorem dL_law_1153 : decode cL_law 1153 = .ok (.iconst 0, 1) := by decide +kernel
theorem dL_law_1154 : decode cL_law 1154 = .ok (.ireturn, 1) := by decide +kernel
theorem dL_law_1155 : decode cL_law 1155 = .ok (.iload 5, 2) := by decide +kernel
theorem dL_law_1157 : decode cL_law 1157 = .ok (.ifCond .ne 15, 3) := by decide +kernel
theorem dL_law_1160 : decode cL_law 1160 = .ok (.aload_n 3, 1) := by decide +kernel
theorem dL_law_1161 : decode cL_law 1161 = .ok (.iconst 0, 1) := by decide +kernel
theorem dL_law_1162 : decode cL_law 1162 = .ok (.laload, 1) := by decide +kernel
theorem dL_law_1163 : decode cL_law 1163 = .ok (.iload 6, 2) := by decide +kernel
theorem dL_law_1165 : decode cL_law 1165 = .ok (.i2l, 1) := by decide +kernel
theorem dL_law_1166 : decode cL_law 1166 = .ok (.lcmp, 1) := by decide +kernel
theorem dL_law_1167 : decode cL_law 1167 = .ok (.ifCond .eq 5, 3) := by decide +kernel
theorem dL_law_1170 : decode cL_law 1170 = .ok (.iconst 0, 1) := by decide +kernel
theorem dL_law_1171 : decode cL_law 1171 = .ok (.ireturn, 1) := by decide +kernel
theorem dL_law_1172 : decode cL_law 1172 = .ok (.goto 400, 3) := by decide +kernel
theorem dL_law_1175 : decode cL_law 1175 = .ok (.aload_n 1, 1) := by decide +kernel
theorem dL_law_1176 : decode cL_law 1176 = .ok (.aload_n 0, 1) := by decide +kernel
theorem dL_law_1177 : decode cL_law 1177 = .ok (.iload 4, 2) := by decide +kernel
theorem dL_law_1179 : decode cL_law 1179 = .ok (.iconst 1, 1) := by decide +kernel
theorem dL_law_1180 : decode cL_law 1180 = .ok (.iadd, 1) := by decide +kernel
theorem dL_law_1181 : decode cL_law 1181 = .ok (.iaload, 1) := by decide +kernel
theorem dL_law_1182 : decode cL_law 1182 = .ok (.aload_n 0, 1) := by decide +kernel
theorem dL_law_1183 : decode cL_law 1183 = .ok (.iload 4, 2) := by decide +kernel
theorem dL_law_1185 : decode cL_law 1185 = .ok (.iconst 2, 1) := by decide +kernel
theorem dL_law_1186 : decode cL_law 1186 = .ok (.iadd, 1) := by decide +kernel
theorem dL_law_1187 : decode cL_law 1187 = .ok (.iaload, 1) := by decide +kernel
theorem dL_law_1188 : decode cL_law 1188 = .ok (.aload_n 3, 1) := by decide +kernel
theorem dL_law_1189 : decode cL_law 1189 = .ok (.invokestatic 142, 3) := by decide +kernel
theorem dL_law_1192 : decode cL_law 1192 = .ok (.istore 5, 2) := by decide +kernel
theorem dL_law_1194 : decode cL_law 1194 = .ok (.aload_n 2, 1) := by decide +kernel
theorem dL_law_1195 : decode cL_law 1195 = .ok (.aload_n 0, 1) := by decide +kernel
theorem dL_law_1196 : decode cL_law 1196 = .ok (.iload 4, 2) := by decide +kernel
theorem dL_law_1198 : decode cL_law 1198 = .ok (.iconst 1, 1) := by decide +kernel
theorem dL_law_1199 : decode cL_law 1199 = .ok (.iadd, 1) := by decide +kernel
theorem dL_law_1200 : decode cL_law 1200 = .ok (.iaload, 1) := by decide +kernel
theorem dL_law_1201 : decode cL_law 1201 = .ok (.aload_n 0, 1) := by decide +kernel
theorem dL_law_1202 : decode cL_law 1202 = .ok (.iload 4, 2) := by decide +kernel
theorem dL_law_1204 : decode cL_law 1204 = .ok (.iconst 2, 1) := by decide +kernel
theorem dL_law_1205 : decode cL_law 1205 = .ok (.iadd, 1) := by decide +kernel
theorem dL_law_1206 : decode cL_law 1206 = .ok (.iaload, 1) := by decide +kernel
theorem dL_law_1207 : decode cL_law 1207 = .ok (.invokevirtual 144, 3) := by decide +kernel
theorem dL_law_1210 : decode cL_law 1210 = .ok (.istore 6, 2) := by decide +kernel
theorem dL_law_1212 : decode cL_law 1212 = .ok (.aload_n 2, 1) := by decide +kernel
theorem dL_law_1213 : decode cL_law 1213 = .ok (.invokevirtual 93, 3) := by decide +kernel
theorem dL_law_1216 : decode cL_law 1216 = .ok (.iload 5, 2) := by decide +kernel
theorem dL_law_1218 : decode cL_law 1218 = .ok (.if_icmp .eq 5, 3) := by decide +kernel
theorem dL_law_1221 : decode cL_law 1221 = .ok (.iconst 0, 1) := by decide +kernel
theorem dL_law_1222 : decode cL_law 1222 = .ok (.ireturn, 1) := by decide +kernel
theorem dL_law_1223 : decode cL_law 1223 = .ok (.iload 5, 2) := by decide +kernel
theorem dL_law_1225 : decode cL_law 1225 = .ok (.ifCond .ne 15, 3) := by decide +kernel
theorem dL_law_1228 : decode cL_law 1228 = .ok (.aload_n 3, 1) := by decide +kernel
theorem dL_law_1229 : decode cL_law 1229 = .ok (.iconst 0, 1) := by decide +kernel
theorem dL_law_1230 : decode cL_law 1230 = .ok (.laload, 1) := by decide +kernel
theorem dL_law_1231 : decode cL_law 1231 = .ok (.iload 6, 2) := by decide +kernel
theorem dL_law_1233 : decode cL_law 1233 = .ok (.i2l, 1) := by decide +kernel
theorem dL_law_1234 : decode cL_law 1234 = .ok (.lcmp, 1) := by decide +kernel
theorem dL_law_1235 : decode cL_law 1235 = .ok (.ifCond .eq 5, 3) := by decide +kernel
theorem dL_law_1238 : decode cL_law 1238 = .ok (.iconst 0, 1) := by decide +kernel
theorem dL_law_1239 : decode cL_law 1239 = .ok (.ireturn, 1) := by decide +kernel
theorem dL_law_1240 : decode cL_law 1240 = .ok (.goto 332, 3) := by decide +kernel
theorem dL_law_1243 : decode cL_law 1243 = .ok (.aload_n 1, 1) := by decide +kernel
theorem dL_law_1244 : decode cL_law 1244 = .ok (.aload_n 0, 1) := by decide +kernel
theorem dL_law_1245 : decode cL_law 1245 = .ok (.iload 4, 2) := by decide +kernel
theorem dL_law_1247 : decode cL_law 1247 = .ok (.iconst 1, 1) := by decide +kernel
theorem dL_law_1248 : decode cL_law 1248 = .ok (.iadd, 1) := by decide +kernel
theorem dL_law_1249 : decode cL_law 1249 = .ok (.iaload, 1) := by decide +kernel
theorem dL_law_1250 : decode cL_law 1250 = .ok (.aload_n 3, 1) := by decide +kernel
theorem dL_law_1251 : decode cL_law 1251 = .ok (.invokestatic 145, 3) := by decide +kernel
theorem dL_law_1254 : decode cL_law 1254 = .ok (.istore 5, 2) := by decide +kernel
theorem dL_law_1256 : decode cL_law 1256 = .ok (.aload_n 2, 1) := by decide +kernel
theorem dL_law_1257 : decode cL_law 1257 = .ok (.aload_n 0, 1) := by decide +kernel
theorem dL_law_1258 : decode cL_law 1258 = .ok (.iload 4, 2) := by decide +kernel
theorem dL_law_1260 : decode cL_law 1260 = .ok (.iconst 1, 1) := by decide +kernel
theorem dL_law_1261 : decode cL_law 1261 = .ok (.iadd, 1) := by decide +kernel
theorem dL_law_1262 : decode cL_law 1262 = .ok (.iaload, 1) := by decide +kernel
theorem dL_law_1263 : decode cL_law 1263 = .ok (.invokevirtual 147, 3) := by decide +kernel
theorem dL_law_1266 : decode cL_law 1266 = .ok (.istore 6, 2) := by decide +kernel
theorem dL_law_1268 : decode cL_law 1268 = .ok (.aload_n 2, 1) := by decide +kernel
theorem dL_law_1269 : decode cL_law 1269 = .ok (.invokevirtual 93, 3) := by decide +kernel
theorem dL_law_1272 : decode cL_law 1272 = .ok (.iload 5, 2) := by decide +kernel
theorem dL_law_1274 : decode cL_law 1274 = .ok (.if_icmp .eq 5, 3) := by decide +kernel
theorem dL_law_1277 : decode cL_law 1277 = .ok (.iconst 0, 1) := by decide +kernel
theorem dL_law_1278 : decode cL_law 1278 = .ok (.ireturn, 1) := by decide +kernel
theorem dL_law_1279 : decode cL_law 1279 = .ok (.iload 5, 2) := by decide +kernel
theorem dL_law_1281 : decode cL_law 1281 = .ok (.ifCond .ne 15, 3) := by decide +kernel
theorem dL_law_1284 : decode cL_law 1284 = .ok (.aload_n 3, 1) := by decide +kernel
theorem dL_law_1285 : decode cL_law 1285 = .ok (.iconst 0, 1) := by decide +kernel
theorem dL_law_1286 : decode cL_law 1286 = .ok (.laload, 1) := by decide +kernel
theorem dL_law_1287 : decode cL_law 1287 = .ok (.iload 6, 2) := by decide +kernel
theorem dL_law_1289 : decode cL_law 1289 = .ok (.i2l, 1) := by decide +kernel
theorem dL_law_1290 : decode cL_law 1290 = .ok (.lcmp, 1) := by decide +kernel
theorem dL_law_1291 : decode cL_law 1291 = .ok (.ifCond .eq 5, 3) := by decide +kernel
theorem dL_law_1294 : decode cL_law 1294 = .ok (.iconst 0, 1) := by decide +kernel
theorem dL_law_1295 : decode cL_law 1295 = .ok (.ireturn, 1) := by decide +kernel
theorem dL_law_1296 : decode cL_law 1296 = .ok (.goto 276, 3) := by decide +kernel
theorem dL_law_1299 : decode cL_law 1299 = .ok (.aload_n 1, 1) := by decide +kernel
theorem dL_law_1300 : decode cL_law 1300 = .ok (.aload_n 0, 1) := by decide +kernel
theorem dL_law_1301 : decode cL_law 1301 = .ok (.iload 4, 2) := by decide +kernel
theorem dL_law_1303 : decode cL_law 1303 = .ok (.iconst 1, 1) := by decide +kernel
theorem dL_law_1304 : decode cL_law 1304 = .ok (.iadd, 1) := by decide +kernel
theorem dL_law_1305 : decode cL_law 1305 = .ok (.iaload, 1) := by decide +kernel
theorem dL_law_1306 : decode cL_law 1306 = .ok (.aload_n 0, 1) := by decide +kernel
theorem dL_law_1307 : decode cL_law 1307 = .ok (.iload 4, 2) := by decide +kernel
theorem dL_law_1309 : decode cL_law 1309 = .ok (.iconst 2, 1) := by decide +kernel
theorem dL_law_1310 : decode cL_law 1310 = .ok (.iadd, 1) := by decide +kernel
theorem dL_law_1311 : decode cL_law 1311 = .ok (.iaload, 1) := by decide +kernel
theorem dL_law_1312 : decode cL_law 1312 = .ok (.aload_n 3, 1) := by decide +kernel
theorem dL_law_1313 : decode cL_law 1313 = .ok (.invokestatic 148, 3) := by decide +kernel
theorem dL_law_1316 : decode cL_law 1316 = .ok (.istore 5, 2) := by decide +kernel
theorem dL_law_1318 : decode cL_law 1318 = .ok (.aload_n 2, 1) := by decide +kernel
theorem dL_law_1319 : decode cL_law 1319 = .ok (.aload_n 0, 1) := by decide +kernel
theorem dL_law_1320 : decode cL_law 1320 = .ok (.iload 4, 2) := by decide +kernel
theorem dL_law_1322 : decode cL_law 1322 = .ok (.iconst 1, 1) := by decide +kernel
theorem dL_law_1323 : decode cL_law 1323 = .ok (.iadd, 1) := by decide +kernel
theorem dL_law_1324 : decode cL_law 1324 = .ok (.iaload, 1) := by decide +kernel
theorem dL_law_1325 : decode cL_law 1325 = .ok (.aload_n 0, 1) := by decide +kernel
theorem dL_law_1326 : decode cL_law 1326 = .ok (.iload 4, 2) := by decide +kernel
theorem dL_law_1328 : decode cL_law 1328 = .ok (.iconst 2, 1) := by decide +kernel
theorem dL_law_1329 : decode cL_law 1329 = .ok (.iadd, 1) := by decide +kernel
theorem dL_law_1330 : decode cL_law 1330 = .ok (.iaload, 1) := by decide +kernel
theorem dL_law_1331 : decode cL_law 1331 = .ok (.invokevirtual 150, 3) := by decide +kernel
theorem dL_law_1334 : decode cL_law 1334 = .ok (.istore 6, 2) := by decide +kernel
theorem dL_law_1336 : decode cL_law 1336 = .ok (.aload_n 2, 1) := by decide +kernel
theorem dL_law_1337 : decode cL_law 1337 = .ok (.invokevirtual 93, 3) := by decide +kernel
theorem dL_law_1340 : decode cL_law 1340 = .ok (.iload 5, 2) := by decide +kernel
theorem dL_law_1342 : decode cL_law 1342 = .ok (.if_icmp .eq 5, 3) := by decide +kernel
theorem dL_law_1345 : decode cL_law 1345 = .ok (.iconst 0, 1) := by decide +kernel
theorem dL_law_1346 : decode cL_law 1346 = .ok (.ireturn, 1) := by decide +kernel
theorem dL_law_1347 : decode cL_law 1347 = .ok (.iload 5, 2) := by decide +kernel
theorem dL_law_1349 : decode cL_law 1349 = .ok (.ifCond .ne 15, 3) := by decide +kernel
theorem dL_law_1352 : decode cL_law 1352 = .ok (.aload_n 3, 1) := by decide +kernel
theorem dL_law_1353 : decode cL_law 1353 = .ok (.iconst 0, 1) := by decide +kernel
theorem dL_law_1354 : decode cL_law 1354 = .ok (.laload, 1) := by decide +kernel
theorem dL_law_1355 : decode cL_law 1355 = .ok (.iload 6, 2) := by decide +kernel
theorem dL_law_1357 : decode cL_law 1357 = .ok (.i2l, 1) := by decide +kernel
theorem dL_law_1358 : decode cL_law 1358 = .ok (.lcmp, 1) := by decide +kernel
theorem dL_law_1359 : decode cL_law 1359 = .ok (.ifCond .eq 5, 3) := by decide +kernel
theorem dL_law_1362 : decode cL_law 1362 = .ok (.iconst 0, 1) := by decide +kernel
theorem dL_law_1363 : decode cL_law 1363 = .ok (.ireturn, 1) := by decide +kernel
theorem dL_law_1364 : decode cL_law 1364 = .ok (.goto 208, 3) := by decide +kernel
theorem dL_law_1367 : decode cL_law 1367 = .ok (.aload_n 1, 1) := by decide +kernel
theorem dL_law_1368 : decode cL_law 1368 = .ok (.aload_n 0, 1) := by decide +kernel
theorem dL_law_1369 : decode cL_law 1369 = .ok (.iload 4, 2) := by decide +kernel
theorem dL_law_1371 : decode cL_law 1371 = .ok (.iconst 1, 1) := by decide +kernel
theorem dL_law_1372 : decode cL_law 1372 = .ok (.iadd, 1) := by decide +kernel
theorem dL_law_1373 : decode cL_law 1373 = .ok (.iaload, 1) := by decide +kernel
theorem dL_law_1374 : decode cL_law 1374 = .ok (.aload_n 0, 1) := by decide +kernel
theorem dL_law_1375 : decode cL_law 1375 = .ok (.iload 4, 2) := by decide +kernel
theorem dL_law_1377 : decode cL_law 1377 = .ok (.iconst 2, 1) := by decide +kernel
theorem dL_law_1378 : decode cL_law 1378 = .ok (.iadd, 1) := by decide +kernel
theorem dL_law_1379 : decode cL_law 1379 = .ok (.iaload, 1) := by decide +kernel
theorem dL_law_1380 : decode cL_law 1380 = .ok (.aload_n 3, 1) := by decide +kernel
theorem dL_law_1381 : decode cL_law 1381 = .ok (.invokestatic 151, 3) := by decide +kernel
theorem dL_law_1384 : decode cL_law 1384 = .ok (.istore 5, 2) := by decide +kernel
theorem dL_law_1386 : decode cL_law 1386 = .ok (.aload_n 2, 1) := by decide +kernel
theorem dL_law_1387 : decode cL_law 1387 = .ok (.aload_n 0, 1) := by decide +kernel
theorem dL_law_1388 : decode cL_law 1388 = .ok (.iload 4, 2) := by decide +kernel
theorem dL_law_1390 : decode cL_law 1390 = .ok (.iconst 1, 1) := by decide +kernel
theorem dL_law_1391 : decode cL_law 1391 = .ok (.iadd, 1) := by decide +kernel
theorem dL_law_1392 : decode cL_law 1392 = .ok (.iaload, 1) := by decide +kernel
theorem dL_law_1393 : decode cL_law 1393 = .ok (.aload_n 0, 1) := by decide +kernel
theorem dL_law_1394 : decode cL_law 1394 = .ok (.iload 4, 2) := by decide +kernel
theorem dL_law_1396 : decode cL_law 1396 = .ok (.iconst 2, 1) := by decide +kernel
theorem dL_law_1397 : decode cL_law 1397 = .ok (.iadd, 1) := by decide +kernel
theorem dL_law_1398 : decode cL_law 1398 = .ok (.iaload, 1) := by decide +kernel
theorem dL_law_1399 : decode cL_law 1399 = .ok (.invokevirtual 153, 3) := by decide +kernel
theorem dL_law_1402 : decode cL_law 1402 = .ok (.istore 6, 2) := by decide +kernel
theorem dL_law_1404 : decode cL_law 1404 = .ok (.aload_n 2, 1) := by decide +kernel
theorem dL_law_1405 : decode cL_law 1405 = .ok (.invokevirtual 93, 3) := by decide +kernel
theorem dL_law_1408 : decode cL_law 1408 = .ok (.iload 5, 2) := by decide +kernel
theorem dL_law_1410 : decode cL_law 1410 = .ok (.if_icmp .eq 5, 3) := by decide +kernel
theorem dL_law_1413 : decode cL_law 1413 = .ok (.iconst 0, 1) := by decide +kernel
theorem dL_law_1414 : decode cL_law 1414 = .ok (.ireturn, 1) := by decide +kernel
theorem dL_law_1415 : decode cL_law 1415 = .ok (.iload 5, 2) := by decide +kernel
theorem dL_law_1417 : decode cL_law 1417 = .ok (.ifCond .ne 15, 3) := by decide +kernel
theorem dL_law_1420 : decode cL_law 1420 = .ok (.aload_n 3, 1) := by decide +kernel
theorem dL_law_1421 : decode cL_law 1421 = .ok (.iconst 0, 1) := by decide +kernel
theorem dL_law_1422 : decode cL_law 1422 = .ok (.laload, 1) := by decide +kernel
theorem dL_law_1423 : decode cL_law 1423 = .ok (.iload 6, 2) := by decide +kernel
theorem dL_law_1425 : decode cL_law 1425 = .ok (.i2l, 1) := by decide +kernel
theorem dL_law_1426 : decode cL_law 1426 = .ok (.lcmp, 1) := by decide +kernel
theorem dL_law_1427 : decode cL_law 1427 = .ok (.ifCond .eq 5, 3) := by decide +kernel
theorem dL_law_1430 : decode cL_law 1430 = .ok (.iconst 0, 1) := by decide +kernel
theorem dL_law_1431 : decode cL_law 1431 = .ok (.ireturn, 1) := by decide +kernel
theorem dL_law_1432 : decode cL_law 1432 = .ok (.goto 140, 3) := by decide +kernel
theorem dL_law_1435 : decode cL_law 1435 = .ok (.aload_n 1, 1) := by decide +kernel
theorem dL_law_1436 : decode cL_law 1436 = .ok (.aload_n 0, 1) := by decide +kernel
theorem dL_law_1437 : decode cL_law 1437 = .ok (.iload 4, 2) := by decide +kernel
theorem dL_law_1439 : decode cL_law 1439 = .ok (.iconst 1, 1) := by decide +kernel
theorem dL_law_1440 : decode cL_law 1440 = .ok (.iadd, 1) := by decide +kernel
theorem dL_law_1441 : decode cL_law 1441 = .ok (.iaload, 1) := by decide +kernel
theorem dL_law_1442 : decode cL_law 1442 = .ok (.aload_n 3, 1) := by decide +kernel
theorem dL_law_1443 : decode cL_law 1443 = .ok (.invokestatic 154, 3) := by decide +kernel
theorem dL_law_1446 : decode cL_law 1446 = .ok (.istore 5, 2) := by decide +kernel
theorem dL_law_1448 : decode cL_law 1448 = .ok (.aload_n 2, 1) := by decide +kernel
theorem dL_law_1449 : decode cL_law 1449 = .ok (.aload_n 0, 1) := by decide +kernel
theorem dL_law_1450 : decode cL_law 1450 = .ok (.iload 4, 2) := by decide +kernel
theorem dL_law_1452 : decode cL_law 1452 = .ok (.iconst 1, 1) := by decide +kernel
theorem dL_law_1453 : decode cL_law 1453 = .ok (.iadd, 1) := by decide +kernel
theorem dL_law_1454 : decode cL_law 1454 = .ok (.iaload, 1) := by decide +kernel
theorem dL_law_1455 : decode cL_law 1455 = .ok (.invokevirtual 156, 3) := by decide +kernel
theorem dL_law_1458 : decode cL_law 1458 = .ok (.istore 6, 2) := by decide +kernel
theorem dL_law_1460 : decode cL_law 1460 = .ok (.aload_n 2, 1) := by decide +kernel
theorem dL_law_1461 : decode cL_law 1461 = .ok (.invokevirtual 93, 3) := by decide +kernel
theorem dL_law_1464 : decode cL_law 1464 = .ok (.iload 5, 2) := by decide +kernel
theorem dL_law_1466 : decode cL_law 1466 = .ok (.if_icmp .eq 5, 3) := by decide +kernel
theorem dL_law_1469 : decode cL_law 1469 = .ok (.iconst 0, 1) := by decide +kernel
theorem dL_law_1470 : decode cL_law 1470 = .ok (.ireturn, 1) := by decide +kernel
theorem dL_law_1471 : decode cL_law 1471 = .ok (.iload 5, 2) := by decide +kernel
theorem dL_law_1473 : decode cL_law 1473 = .ok (.ifCond .ne 15, 3) := by decide +kernel
theorem dL_law_1476 : decode cL_law 1476 = .ok (.aload_n 3, 1) := by decide +kernel
theorem dL_law_1477 : decode cL_law 1477 = .ok (.iconst 0, 1) := by decide +kernel
theorem dL_law_1478 : decode cL_law 1478 = .ok (.laload, 1) := by decide +kernel
theorem dL_law_1479 : decode cL_law 1479 = .ok (.iload 6, 2) := by decide +kernel
theorem dL_law_1481 : decode cL_law 1481 = .ok (.i2l, 1) := by decide +kernel
theorem dL_law_1482 : decode cL_law 1482 = .ok (.lcmp, 1) := by decide +kernel
theorem dL_law_1483 : decode cL_law 1483 = .ok (.ifCond .eq 5, 3) := by decide +kernel
theorem dL_law_1486 : decode cL_law 1486 = .ok (.iconst 0, 1) := by decide +kernel
theorem dL_law_1487 : decode cL_law 1487 = .ok (.ireturn, 1) := by decide +kernel
theorem dL_law_1488 : decode cL_law 1488 = .ok (.goto 84, 3) := by decide +kernel
theorem dL_law_1491 : decode cL_law 1491 = .ok (.aload_n 1, 1) := by decide +kernel
theorem dL_law_1492 : decode cL_law 1492 = .ok (.invokevirtual 157, 3) := by decide +kernel
theorem dL_law_1495 : decode cL_law 1495 = .ok (.aload_n 2, 1) := by decide +kernel
theorem dL_law_1496 : decode cL_law 1496 = .ok (.invokevirtual 160, 3) := by decide +kernel
theorem dL_law_1499 : decode cL_law 1499 = .ok (.if_icmp .eq 73, 3) := by decide +kernel
theorem dL_law_1502 : decode cL_law 1502 = .ok (.iconst 0, 1) := by decide +kernel
theorem dL_law_1503 : decode cL_law 1503 = .ok (.ireturn, 1) := by decide +kernel
theorem dL_law_1504 : decode cL_law 1504 = .ok (.aload_n 1, 1) := by decide +kernel
theorem dL_law_1505 : decode cL_law 1505 = .ok (.aload_n 0, 1) := by decide +kernel
theorem dL_law_1506 : decode cL_law 1506 = .ok (.iload 4, 2) := by decide +kernel
theorem dL_law_1508 : decode cL_law 1508 = .ok (.iconst 1, 1) := by decide +kernel
theorem dL_law_1509 : decode cL_law 1509 = .ok (.iadd, 1) := by decide +kernel
theorem dL_law_1510 : decode cL_law 1510 = .ok (.iaload, 1) := by decide +kernel
theorem dL_law_1511 : decode cL_law 1511 = .ok (.aload_n 0, 1) := by decide +kernel
theorem dL_law_1512 : decode cL_law 1512 = .ok (.iload 4, 2) := by decide +kernel
theorem dL_law_1514 : decode cL_law 1514 = .ok (.iconst 2, 1) := by decide +kernel
theorem dL_law_1515 : decode cL_law 1515 = .ok (.iadd, 1) := by decide +kernel
theorem dL_law_1516 : decode cL_law 1516 = .ok (.iaload, 1) := by decide +kernel
theorem dL_law_1517 : decode cL_law 1517 = .ok (.aload_n 3, 1) := by decide +kernel
theorem dL_law_1518 : decode cL_law 1518 = .ok (.invokestatic 161, 3) := by decide +kernel
theorem dL_law_1521 : decode cL_law 1521 = .ok (.istore 5, 2) := by decide +kernel
theorem dL_law_1523 : decode cL_law 1523 = .ok (.aload_n 2, 1) := by decide +kernel
theorem dL_law_1524 : decode cL_law 1524 = .ok (.aload_n 0, 1) := by decide +kernel
theorem dL_law_1525 : decode cL_law 1525 = .ok (.iload 4, 2) := by decide +kernel
theorem dL_law_1527 : decode cL_law 1527 = .ok (.iconst 1, 1) := by decide +kernel
theorem dL_law_1528 : decode cL_law 1528 = .ok (.iadd, 1) := by decide +kernel
theorem dL_law_1529 : decode cL_law 1529 = .ok (.iaload, 1) := by decide +kernel
theorem dL_law_1530 : decode cL_law 1530 = .ok (.aload_n 0, 1) := by decide +kernel
theorem dL_law_1531 : decode cL_law 1531 = .ok (.iload 4, 2) := by decide +kernel
theorem dL_law_1533 : decode cL_law 1533 = .ok (.iconst 2, 1) := by decide +kernel
theorem dL_law_1534 : decode cL_law 1534 = .ok (.iadd, 1) := by decide +kernel
theorem dL_law_1535 : decode cL_law 1535 = .ok (.iaload, 1) := by decide +kernel
theorem dL_law_1536 : decode cL_law 1536 = .ok (.invokevirtual 163, 3) := by decide +kernel
theorem dL_law_1539 : decode cL_law 1539 = .ok (.istore 6, 2) := by decide +kernel
theorem dL_law_1541 : decode cL_law 1541 = .ok (.aload_n 2, 1) := by decide +kernel
theorem dL_law_1542 : decode cL_law 1542 = .ok (.invokevirtual 93, 3) := by decide +kernel
theorem dL_law_1545 : decode cL_law 1545 = .ok (.iload 5, 2) := by decide +kernel
theorem dL_law_1547 : decode cL_law 1547 = .ok (.if_icmp .eq 5, 3) := by decide +kernel
theorem dL_law_1550 : decode cL_law 1550 = .ok (.iconst 0, 1) := by decide +kernel
theorem dL_law_1551 : decode cL_law 1551 = .ok (.ireturn, 1) := by decide +kernel
theorem dL_law_1552 : decode cL_law 1552 = .ok (.iload 5, 2) := by decide +kernel
theorem dL_law_1554 : decode cL_law 1554 = .ok (.ifCond .ne 15, 3) := by decide +kernel
theorem dL_law_1557 : decode cL_law 1557 = .ok (.aload_n 3, 1) := by decide +kernel
theorem dL_law_1558 : decode cL_law 1558 = .ok (.iconst 0, 1) := by decide +kernel
theorem dL_law_1559 : decode cL_law 1559 = .ok (.laload, 1) := by decide +kernel
theorem dL_law_1560 : decode cL_law 1560 = .ok (.iload 6, 2) := by decide +kernel
theorem dL_law_1562 : decode cL_law 1562 = .ok (.i2l, 1) := by decide +kernel
theorem dL_law_1563 : decode cL_law 1563 = .ok (.lcmp, 1) := by decide +kernel
theorem dL_law_1564 : decode cL_law 1564 = .ok (.ifCond .eq 5, 3) := by decide +kernel
theorem dL_law_1567 : decode cL_law 1567 = .ok (.iconst 0, 1) := by decide +kernel
theorem dL_law_1568 : decode cL_law 1568 = .ok (.ireturn, 1) := by decide +kernel
theorem dL_law_1569 : decode cL_law 1569 = .ok (.goto 3, 3) := by decide +kernel
theorem dL_law_1572 : decode cL_law 1572 = .ok (.iinc 4 6, 3) := by decide +kernel
theorem dL_law_1575 : decode cL_law 1575 = .ok (.goto (-1552), 3) := by decide +kernel
theorem dL_law_1578 : decode cL_law 1578 = .ok (.iconst 1, 1) := by decide +kernel
theorem dL_law_1579 : decode cL_law 1579 = .ok (.ireturn, 1) := by decide +kernel
