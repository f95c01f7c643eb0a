theorem dX12_scan_62 : decode cX12_scan 62 = .ok (.invokestatic 168, 3) := by decide +kernel
theorem dX12_scan_65 : decode cX12_scan 65 = .ok (.ifCond .eq 52, 3) := by decide +kernel
theorem dX12_scan_68 : decode cX12_scan 68 = .ok (.aload_n 0, 1) := by decide +kernel
theorem dX12_scan_69 : decode cX12_scan 69 = .ok (.iload_n 3, 1) := by decide +kernel
theorem dX12_scan_70 : decode cX12_scan 70 = .ok (.invokevirtual 156, 3) := by decide +kernel
theorem dX12_scan_73 : decode cX12_scan 73 = .ok (.invokestatic 168, 3) := by decide +kernel
theorem dX12_scan_76 : decode cX12_scan 76 = .ok (.ifCond .eq 9, 3) := by decide +kernel
theorem dX12_scan_79 : decode cX12_scan 79 = .ok (.iinc 3 1, 3) := by decide +kernel
theorem dX12_scan_82 : decode cX12_scan 82 = .ok (.goto (-14), 3) := by decide +kernel
theorem dX12_scan_85 : decode cX12_scan 85 = .ok (.aload_n 0, 1) := by decide +kernel
theorem dX12_scan_86 : decode cX12_scan 86 = .ok (.aload_n 0, 1) := by decide +kernel
theorem dX12_scan_87 : decode cX12_scan 87 = .ok (.iload_n 1, 1) := by decide +kernel
theorem dX12_scan_88 : decode cX12_scan 88 = .ok (.iload_n 3, 1) := by decide +kernel
theorem dX12_scan_89 : decode cX12_scan 89 = .ok (.iload_n 1, 1) := by decide +kernel
theorem dX12_scan_90 : decode cX12_scan 90 = .ok (.isub, 1) := by decide +kernel
theorem dX12_scan_91 : decode cX12_scan 91 = .ok (.invokevirtual 172, 3) := by decide +kernel
theorem dX12_scan_94 : decode cX12_scan 94 = .ok (.putfield 176, 3) := by decide +kernel
theorem dX12_scan_97 : decode cX12_scan 97 = .ok (.aload_n 0, 1) := by decide +kernel
theorem dX12_scan_98 : decode cX12_scan 98 = .ok (.aload_n 0, 1) := by decide +kernel
theorem dX12_scan_99 : decode cX12_scan 99 = .ok (.getfield 176, 3) := by decide +kernel
theorem dX12_scan_102 : decode cX12_scan 102 = .ok (.iconst (-1), 1) := by decide +kernel
theorem dX12_scan_103 : decode cX12_scan 103 = .ok (.if_icmp .ne 7, 3) := by decide +kernel
theorem dX12_scan_106 : decode cX12_scan 106 = .ok (.iconst 0, 1) := by decide +kernel
theorem dX12_scan_107 : decode cX12_scan 107 = .ok (.goto 4, 3) := by decide +kernel
theorem dX12_scan_110 : decode cX12_scan 110 = .ok (.iconst 1, 1) := by decide +kernel
theorem dX12_scan_111 : decode cX12_scan 111 = .ok (.putfield 165, 3) := by decide +kernel
theorem dX12_scan_114 : decode cX12_scan 114 = .ok (.goto 103, 3) := by decide +kernel
theorem dX12_scan_117 : decode cX12_scan 117 = .ok (.iload_n 2, 1) := by decide +kernel
theorem dX12_scan_118 : decode cX12_scan 118 = .ok (.invokestatic 179, 3) := by decide +kernel
theorem dX12_scan_121 : decode cX12_scan 121 = .ok (.ifCond .eq 81, 3) := by decide +kernel
theorem dX12_scan_124 : decode cX12_scan 124 = .ok (.aload_n 0, 1) := by decide +kernel
theorem dX12_scan_125 : decode cX12_scan 125 = .ok (.iload_n 2, 1) := by decide +kernel
theorem dX12_scan_126 : decode cX12_scan 126 = .ok (.bipush 48, 2) := by decide +kernel
theorem dX12_scan_128 : decode cX12_scan 128 = .ok (.isub, 1) := by decide +kernel
theorem dX12_scan_129 : decode cX12_scan 129 = .ok (.putfield 182, 3) := by decide +kernel
theorem dX12_scan_132 : decode cX12_scan 132 = .ok (.aload_n 0, 1) := by decide +kernel
theorem dX12_scan_133 : decode cX12_scan 133 = .ok (.iload_n 3, 1) := by decide +kernel
theorem dX12_scan_134 : decode cX12_scan 134 = .ok (.invokevirtual 156, 3) := by decide +kernel
theorem dX12_scan_137 : decode cX12_scan 137 = .ok (.invokestatic 179, 3) := by decide +kernel
theorem dX12_scan_140 : decode cX12_scan 140 = .ok (.ifCond .eq 43, 3) := by decide +kernel
theorem dX12_scan_143 : decode cX12_scan 143 = .ok (.aload_n 0, 1) := by decide +kernel
theorem dX12_scan_144 : decode cX12_scan 144 = .ok (.iload_n 3, 1) := by decide +kernel
theorem dX12_scan_145 : decode cX12_scan 145 = .ok (.iload_n 1, 1) := by decide +kernel
theorem dX12_scan_146 : decode cX12_scan 146 = .ok (.isub, 1) := by decide +kernel
theorem dX12_scan_147 : decode cX12_scan 147 = .ok (.iconst 4, 1) := by decide +kernel
theorem dX12_scan_148 : decode cX12_scan 148 = .ok (.if_icmp .ge 22, 3) := by decide +kernel
theorem dX12_scan_151 : decode cX12_scan 151 = .ok (.bipush 10, 2) := by decide +kernel
theorem dX12_scan_153 : decode cX12_scan 153 = .ok (.aload_n 0, 1) := by decide +kernel
theorem dX12_scan_154 : decode cX12_scan 154 = .ok (.getfield 182, 3) := by decide +kernel
theorem dX12_scan_157 : decode cX12_scan 157 = .ok (.imul, 1) := by decide +kernel
theorem dX12_scan_158 : decode cX12_scan 158 = .ok (.aload_n 0, 1) := by decide +kernel
theorem dX12_scan_159 : decode cX12_scan 159 = .ok (.iload_n 3, 1) := by decide +kernel
theorem dX12_scan_160 : decode cX12_scan 160 = .ok (.invokevirtual 156, 3) := by decide +kernel
theorem dX12_scan_163 : decode cX12_scan 163 = .ok (.iadd, 1) := by decide +kernel
theorem dX12_scan_164 : decode cX12_scan 164 = .ok (.bipush 48, 2) := by decide +kernel
theorem dX12_scan_166 : decode cX12_scan 166 = .ok (.isub, 1) := by decide +kernel
theorem dX12_scan_167 : decode cX12_scan 167 = .ok (.goto 7, 3) := by decide +kernel
theorem dX12_scan_170 : decode cX12_scan 170 = .ok (.aload_n 0, 1) := by decide +kernel
theorem dX12_scan_171 : decode cX12_scan 171 = .ok (.getfield 182, 3) := by decide +kernel
theorem dX12_scan_174 : decode cX12_scan 174 = .ok (.putfield 182, 3) := by decide +kernel
theorem dX12_scan_177 : decode cX12_scan 177 = .ok (.iinc 3 1, 3) := by decide +kernel
theorem dX12_scan_180 : decode cX12_scan 180 = .ok (.goto (-48), 3) := by decide +kernel
theorem dX12_scan_183 : decode cX12_scan 183 = .ok (.aload_n 0, 1) := by decide +kernel
theorem dX12_scan_184 : decode cX12_scan 184 = .ok (.iload_n 3, 1) := by decide +kernel
theorem dX12_scan_185 : decode cX12_scan 185 = .ok (.iload_n 1, 1) := by decide +kernel
theorem dX12_scan_186 : decode cX12_scan 186 = .ok (.isub, 1) := by decide +kernel
theorem dX12_scan_187 : decode cX12_scan 187 = .ok (.iconst 4, 1) := by decide +kernel
theorem dX12_scan_188 : decode cX12_scan 188 = .ok (.if_icmp .le 7, 3) := by decide +kernel
theorem dX12_scan_191 : decode cX12_scan 191 = .ok (.iconst 0, 1) := by decide +kernel
theorem dX12_scan_192 : decode cX12_scan 192 = .ok (.goto 4, 3) := by decide +kernel
theorem dX12_scan_195 : decode cX12_scan 195 = .ok (.iconst 2, 1) := by decide +kernel
theorem dX12_scan_196 : decode cX12_scan 196 = .ok (.putfield 165, 3) := by decide +kernel
theorem dX12_scan_199 : decode cX12_scan 199 = .ok (.goto 18, 3) := by decide +kernel
theorem dX12_scan_202 : decode cX12_scan 202 = .ok (.aload_n 0, 1) := by decide +kernel
theorem dX12_scan_203 : decode cX12_scan 203 = .ok (.iload_n 2, 1) := by decide +kernel
theorem dX12_scan_204 : decode cX12_scan 204 = .ok (.bipush 59, 2) := by decide +kernel
theorem dX12_scan_206 : decode cX12_scan 206 = .ok (.if_icmp .ne 7, 3) := by decide +kernel
theorem dX12_scan_209 : decode cX12_scan 209 = .ok (.iconst 3, 1) := by decide +kernel
theorem dX12_scan_210 : decode cX12_scan 210 = .ok (.goto 4, 3) := by decide +kernel
theorem dX12_scan_213 : decode cX12_scan 213 = .ok (.iconst 0, 1) := by decide +kernel
theorem dX12_scan_214 : decode cX12_scan 214 = .ok (.putfield 165, 3) := by decide +kernel
theorem dX12_scan_217 : decode cX12_scan 217 = .ok (.aload_n 0, 1) := by decide +kernel
theorem dX12_scan_218 : decode cX12_scan 218 = .ok (.iload_n 3, 1) := by decide +kernel
theorem dX12_scan_219 : decode cX12_scan 219 = .ok (.putfield 159, 3) := by decide +kernel
theorem dX12_scan_222 : decode cX12_scan 222 = .ok (.return_, 1) := by decide +kernel
theorem dX12_wrong_0 : decode cX12_wrong 0 = .ok (.aload_n 0, 1) := by decide +kernel
theorem dX12_wrong_1 : decode cX12_wrong 1 = .ok (.iload_n 1, 1) := by decide +kernel
theorem dX12_wrong_2 : decode cX12_wrong 2 = .ok (.putfield 185, 3) := by decide +kernel
theorem dX12_wrong_5 : decode cX12_wrong 5 = .ok (.aload_n 0, 1) := by decide +kernel
theorem dX12_wrong_6 : decode cX12_wrong 6 = .ok (.aload_n 0, 1) := by decide +kernel
theorem dX12_wrong_7 : decode cX12_wrong 7 = .ok (.getfield 162, 3) := by decide +kernel
theorem dX12_wrong_10 : decode cX12_wrong 10 = .ok (.putfield 13, 3) := by decide +kernel
theorem dX12_wrong_13 : decode cX12_wrong 13 = .ok (.iconst 0, 1) := by decide +kernel
theorem dX12_wrong_14 : decode cX12_wrong 14 = .ok (.ireturn, 1) := by decide +kernel
theorem dX12_isCourt_0 : decode cX12_isCourt 0 = .ok (.iload_n 0, 1) := by decide +kernel
theorem dX12_isCourt_1 : decode cX12_isCourt 1 = .ok (.iconst 0, 1) := by decide +kernel
theorem dX12_isCourt_2 : decode cX12_isCourt 2 = .ok (.bipush 11, 2) := by decide +kernel
theorem dX12_isCourt_4 : decode cX12_isCourt 4 = .ok (.invokestatic 188, 3) := by decide +kernel
theorem dX12_isCourt_7 : decode cX12_isCourt 7 = .ok (.ireturn, 1) := by decide +kernel
theorem dX12_isWard_0 : decode cX12_isWard 0 = .ok (.iload_n 0, 1) := by decide +kernel
theorem dX12_isWard_1 : decode cX12_isWard 1 = .ok (.iconst 0, 1) := by decide +kernel
theorem dX12_isWard_2 : decode cX12_isWard 2 = .ok (.iconst 3, 1) := by decide +kernel
theorem dX12_isWard_3 : decode cX12_isWard 3 = .ok (.invokestatic 188, 3) := by decide +kernel
theorem dX12_isWard_6 : decode cX12_isWard 6 = .ok (.ireturn, 1) := by decide +kernel
theorem dX12_court_0 : decode cX12_court 0 = .ok (.iload_n 1, 1) := by decide +kernel
theorem dX12_court_1 : decode cX12_court 1 = .ok (.invokestatic 192, 3) := by decide +kernel
theorem dX12_court_4 : decode cX12_court 4 = .ok (.ifCond .eq 21, 3) := by decide +kernel
theorem dX12_court_7 : decode cX12_court 7 = .ok (.iload_n 2, 1) := by decide +kernel
theorem dX12_court_8 : decode cX12_court 8 = .ok (.invokestatic 195, 3) := by decide +kernel
theorem dX12_court_11 : decode cX12_court 11 = .ok (.ifCond .eq 14, 3) := by decide +kernel
theorem dX12_court_14 : decode cX12_court 14 = .ok (.iload_n 3, 1) := by decide +kernel
theorem dX12_court_15 : decode cX12_court 15 = .ok (.iconst 1, 1) := by decide +kernel
theorem dX12_court_16 : decode cX12_court 16 = .ok (.sipush 999, 3) := by decide +kernel
theorem dX12_court_19 : decode cX12_court 19 = .ok (.invokestatic 188, 3) := by decide +kernel
theorem dX12_court_22 : decode cX12_court 22 = .ok (.ifCond .ne 6, 3) := by decide +kernel
theorem dX12_court_25 : decode cX12_court 25 = .ok (.bipush (-2), 2) := by decide +kernel
theorem dX12_court_27 : decode cX12_court 27 = .ok (.ireturn, 1) := by decide +kernel
theorem dX12_court_28 : decode cX12_court 28 = .ok (.aload_n 0, 1) := by decide +kernel
theorem dX12_court_29 : decode cX12_court 29 = .ok (.getfield 17, 3) := by decide +kernel
theorem dX12_court_32 : decode cX12_court 32 = .ok (.iload_n 1, 1) := by decide +kernel
theorem dX12_court_33 : decode cX12_court 33 = .ok (.iload_n 2, 1) := by decide +kernel
theorem dX12_court_34 : decode cX12_court 34 = .ok (.iastore, 1) := by decide +kernel
theorem dX12_court_35 : decode cX12_court 35 = .ok (.aload_n 0, 1) := by decide +kernel
theorem dX12_court_36 : decode cX12_court 36 = .ok (.getfield 21, 3) := by decide +kernel
theorem dX12_court_39 : decode cX12_court 39 = .ok (.iload_n 1, 1) := by decide +kernel
theorem dX12_court_40 : decode cX12_court 40 = .ok (.iload_n 3, 1) := by decide +kernel
theorem dX12_court_41 : decode cX12_court 41 = .ok (.iastore, 1) := by decide +kernel
theorem dX12_court_42 : decode cX12_court 42 = .ok (.iconst 1, 1) := by decide +kernel
theorem dX12_court_43 : decode cX12_court 43 = .ok (.ireturn, 1) := by decide +kernel
theorem dX12_makeFar_0 : decode cX12_makeFar 0 = .ok (.iconst 0, 1) := by decide +kernel
theorem dX12_makeFar_1 : decode cX12_makeFar 1 = .ok (.istore_n 1, 1) := by decide +kernel
theorem dX12_makeFar_2 : decode cX12_makeFar 2 = .ok (.iload_n 1, 1) := by decide +kernel
theorem dX12_makeFar_3 : decode cX12_makeFar 3 = .ok (.sipush 144, 3) := by decide +kernel
theorem dX12_makeFar_6 : decode cX12_makeFar 6 = .ok (.if_icmp .ge 47, 3) := by decide +kernel
theorem dX12_makeFar_9 : decode cX12_makeFar 9 = .ok (.aload_n 0, 1) := by decide +kernel
theorem dX12_makeFar_10 : decode cX12_makeFar 10 = .ok (.getfield 27, 3) := by decide +kernel
theorem dX12_makeFar_13 : decode cX12_makeFar 13 = .ok (.iload_n 1, 1) := by decide +kernel
theorem dX12_makeFar_14 : decode cX12_makeFar 14 = .ok (.iload_n 1, 1) := by decide +kernel
theorem dX12_makeFar_15 : decode cX12_makeFar 15 = .ok (.bipush 13, 2) := by decide +kernel
theorem dX12_makeFar_17 : decode cX12_makeFar 17 = .ok (.irem, 1) := by decide +kernel
theorem dX12_makeFar_18 : decode cX12_makeFar 18 = .ok (.ifCond .ne 7, 3) := by decide +kernel
theorem dX12_makeFar_21 : decode cX12_makeFar 21 = .ok (.iconst 0, 1) := by decide +kernel
theorem dX12_makeFar_22 : decode cX12_makeFar 22 = .ok (.goto 24, 3) := by decide +kernel
theorem dX12_makeFar_25 : decode cX12_makeFar 25 = .ok (.aload_n 0, 1) := by decide +kernel
theorem dX12_makeFar_26 : decode cX12_makeFar 26 = .ok (.getfield 24, 3) := by decide +kernel
theorem dX12_makeFar_29 : decode cX12_makeFar 29 = .ok (.iload_n 1, 1) := by decide +kernel
theorem dX12_makeFar_30 : decode cX12_makeFar 30 = .ok (.iaload, 1) := by decide +kernel
theorem dX12_makeFar_31 : decode cX12_makeFar 31 = .ok (.iconst (-1), 1) := by decide +kernel
theorem dX12_makeFar_32 : decode cX12_makeFar 32 = .ok (.if_icmp .ne 8, 3) := by decide +kernel
theorem dX12_makeFar_35 : decode cX12_makeFar 35 = .ok (.ldc 198, 2) := by decide +kernel
theorem dX12_makeFar_37 : decode cX12_makeFar 37 = .ok (.goto 9, 3) := by decide +kernel
theorem dX12_makeFar_40 : decode cX12_makeFar 40 = .ok (.aload_n 0, 1) := by decide +kernel
theorem dX12_makeFar_41 : decode cX12_makeFar 41 = .ok (.getfield 24, 3) := by decide +kernel
theorem dX12_makeFar_44 : decode cX12_makeFar 44 = .ok (.iload_n 1, 1) := by decide +kernel
theorem dX12_makeFar_45 : decode cX12_makeFar 45 = .ok (.iaload, 1) := by decide +kernel
theorem dX12_makeFar_46 : decode cX12_makeFar 46 = .ok (.iastore, 1) := by decide +kernel
theorem dX12_makeFar_47 : decode cX12_makeFar 47 = .ok (.iinc 1 1, 3) := by decide +kernel
theorem dX12_makeFar_50 : decode cX12_makeFar 50 = .ok (.goto (-48), 3) := by decide +kernel
theorem dX12_makeFar_53 : decode cX12_makeFar 53 = .ok (.iconst 0, 1) := by decide +kernel
theorem dX12_makeFar_54 : decode cX12_makeFar 54 = .ok (.istore_n 1, 1) := by decide +kernel
theorem dX12_makeFar_55 : decode cX12_makeFar 55 = .ok (.iload_n 1, 1) := by decide +kernel
theorem dX12_makeFar_56 : decode cX12_makeFar 56 = .ok (.bipush 12, 2) := by decide +kernel
theorem dX12_makeFar_58 : decode cX12_makeFar 58 = .ok (.if_icmp .ge 91, 3) := by decide +kernel
theorem dX12_makeFar_61 : decode cX12_makeFar 61 = .ok (.iconst 0, 1) := by decide +kernel
theorem dX12_makeFar_62 : decode cX12_makeFar 62 = .ok (.istore_n 2, 1) := by decide +kernel
theorem dX12_makeFar_63 : decode cX12_makeFar 63 = .ok (.iload_n 2, 1) := by decide +kernel
theorem dX12_makeFar_64 : decode cX12_makeFar 64 = .ok (.bipush 12, 2) := by decide +kernel
theorem dX12_makeFar_66 : decode cX12_makeFar 66 = .ok (.if_icmp .ge 77, 3) := by decide +kernel
theorem dX12_makeFar_69 : decode cX12_makeFar 69 = .ok (.iconst 0, 1) := by decide +kernel
theorem dX12_makeFar_70 : decode cX12_makeFar 70 = .ok (.istore_n 3, 1) := by decide +kernel
theorem dX12_makeFar_71 : decode cX12_makeFar 71 = .ok (.iload_n 3, 1) := by decide +kernel
theorem dX12_makeFar_72 : decode cX12_makeFar 72 = .ok (.bipush 12, 2) := by decide +kernel
theorem dX12_makeFar_74 : decode cX12_makeFar 74 = .ok (.if_icmp .ge 63, 3) := by decide +kernel
theorem dX12_makeFar_77 : decode cX12_makeFar 77 = .ok (.aload_n 0, 1) := by decide +kernel
theorem dX12_makeFar_78 : decode cX12_makeFar 78 = .ok (.getfield 27, 3) := by decide +kernel
theorem dX12_makeFar_81 : decode cX12_makeFar 81 = .ok (.bipush 12, 2) := by decide +kernel
theorem dX12_makeFar_83 : decode cX12_makeFar 83 = .ok (.iload_n 2, 1) := by decide +kernel
theorem dX12_makeFar_84 : decode cX12_makeFar 84 = .ok (.imul, 1) := by decide +kernel
theorem dX12_makeFar_85 : decode cX12_makeFar 85 = .ok (.iload_n 1, 1) := by decide +kernel
theorem dX12_makeFar_86 : decode cX12_makeFar 86 = .ok (.iadd, 1) := by decide +kernel
theorem dX12_makeFar_87 : decode cX12_makeFar 87 = .ok (.iaload, 1) := by decide +kernel
theorem dX12_makeFar_88 : decode cX12_makeFar 88 = .ok (.aload_n 0, 1) := by decide +kernel
theorem dX12_makeFar_89 : decode cX12_makeFar 89 = .ok (.getfield 27, 3) := by decide +kernel
theorem dX12_makeFar_92 : decode cX12_makeFar 92 = .ok (.bipush 12, 2) := by decide +kernel
theorem dX12_makeFar_94 : decode cX12_makeFar 94 = .ok (.iload_n 1, 1) := by decide +kernel
theorem dX12_makeFar_95 : decode cX12_makeFar 95 = .ok (.imul, 1) := by decide +kernel
theorem dX12_makeFar_96 : decode cX12_makeFar 96 = .ok (.iload_n 3, 1) := by decide +kernel
theorem dX12_makeFar_97 : decode cX12_makeFar 97 = .ok (.iadd, 1) := by decide +kernel
theorem dX12_makeFar_98 : decode cX12_makeFar 98 = .ok (.iaload, 1) := by decide +kernel
theorem dX12_makeFar_99 : decode cX12_makeFar 99 = .ok (.iadd, 1) := by decide +kernel
theorem dX12_makeFar_100 : decode cX12_makeFar 100 = .ok (.istore 4, 2) := by decide +kernel
theorem dX12_makeFar_102 : decode cX12_makeFar 102 = .ok (.iload 4, 2) := by decide +kernel
theorem dX12_makeFar_104 : decode cX12_makeFar 104 = .ok (.aload_n 0, 1) := by decide +kernel
theorem dX12_makeFar_105 : decode cX12_makeFar 105 = .ok (.getfield 27, 3) := by decide +kernel
theorem dX12_makeFar_108 : decode cX12_makeFar 108 = .ok (.bipush 12, 2) := by decide +kernel
theorem dX12_makeFar_110 : decode cX12_makeFar 110 = .ok (.iload_n 2, 1) := by decide +kernel
theorem dX12_makeFar_111 : decode cX12_makeFar 111 = .ok (.imul, 1) := by decide +kernel
theorem dX12_makeFar_112 : decode cX12_makeFar 112 = .ok (.iload_n 3, 1) := by decide +kernel
theorem dX12_makeFar_113 : decode cX12_makeFar 113 = .ok (.iadd, 1) := by decide +kernel
theorem dX12_makeFar_114 : decode cX12_makeFar 114 = .ok (.iaload, 1) := by decide +kernel
theorem dX12_makeFar_115 : decode cX12_makeFar 115 = .ok (.if_icmp .ge 16, 3) := by decide +kernel
theorem dX12_makeFar_118 : decode cX12_makeFar 118 = .ok (.aload_n 0, 1) := by decide +kernel
theorem dX12_makeFar_119 : decode cX12_makeFar 119 = .ok (.getfield 27, 3) := by decide +kernel
theorem dX12_makeFar_122 : decode cX12_makeFar 122 = .ok (.bipush 12, 2) := by decide +kernel
theorem dX12_makeFar_124 : decode cX12_makeFar 124 = .ok (.iload_n 2, 1) := by decide +kernel
theorem dX12_makeFar_125 : decode cX12_makeFar 125 = .ok (.imul, 1) := by decide +kernel
theorem dX12_makeFar_126 : decode cX12_makeFar 126 = .ok (.iload_n 3, 1) := by decide +kernel
theorem dX12_makeFar_127 : decode cX12_makeFar 127 = .ok (.iadd, 1) := by decide +kernel
theorem dX12_makeFar_128 : decode cX12_makeFar 128 = .ok (.iload 4, 2) := by decide +kernel
theorem dX12_makeFar_130 : decode cX12_makeFar 130 = .ok (.iastore, 1) := by decide +kernel
theorem dX12_makeFar_131 : decode cX12_makeFar 131 = .ok (.iinc 3 1, 3) := by decide +kernel
theorem dX12_makeFar_134 : decode cX12_makeFar 134 = .ok (.goto (-63), 3) := by decide +kernel
theorem dX12_makeFar_137 : decode cX12_makeFar 137 = .ok (.iinc 2 1, 3) := by decide +kernel
theorem dX12_makeFar_140 : decode cX12_makeFar 140 = .ok (.goto (-77), 3) := by decide +kernel
theorem dX12_makeFar_143 : decode cX12_makeFar 143 = .ok (.iinc 1 1, 3) := by decide +kernel
theorem dX12_makeFar_146 : decode cX12_makeFar 146 = .ok (.goto (-91), 3) := by decide +kernel
theorem dX12_makeFar_149 : decode cX12_makeFar 149 = .ok (.return_, 1) := by decide +kernel
theorem dX12_way_0 : decode cX12_way 0 = .ok (.iload_n 1, 1) := by decide +kernel
theorem dX12_way_1 : decode cX12_way 1 = .ok (.invokestatic 192, 3) := by decide +kernel
theorem dX12_way_4 : decode cX12_way 4 = .ok (.ifCond .eq 30, 3) := by decide +kernel
theorem dX12_way_7 : decode cX12_way 7 = .ok (.iload_n 2, 1) := by decide +kernel
theorem dX12_way_8 : decode cX12_way 8 = .ok (.invokestatic 192, 3) := by decide +kernel
theorem dX12_way_11 : decode cX12_way 11 = .ok (.ifCond .eq 23, 3) := by decide +kernel
theorem dX12_way_14 : decode cX12_way 14 = .ok (.iload_n 1, 1) := by decide +kernel
theorem dX12_way_15 : decode cX12_way 15 = .ok (.iload_n 2, 1) := by decide +kernel
theorem dX12_way_16 : decode cX12_way 16 = .ok (.if_icmp .eq 18, 3) := by decide +kernel
theorem dX12_way_19 : decode cX12_way 19 = .ok (.iload_n 3, 1) := by decide +kernel
theorem dX12_way_20 : decode cX12_way 20 = .ok (.iconst (-1), 1) := by decide +kernel
theorem dX12_way_21 : decode cX12_way 21 = .ok (.if_icmp .eq 16, 3) := by decide +kernel
theorem dX12_way_24 : decode cX12_way 24 = .ok (.iload_n 3, 1) := by decide +kernel
theorem dX12_way_25 : decode cX12_way 25 = .ok (.iconst 1, 1) := by decide +kernel
theorem dX12_way_26 : decode cX12_way 26 = .ok (.bipush 99, 2) := by decide +kernel
theorem dX12_way_28 : decode cX12_way 28 = .ok (.invokestatic 188, 3) := by decide +kernel
theorem dX12_way_31 : decode cX12_way 31 = .ok (.ifCond .ne 6, 3) := by decide +kernel
theorem dX12_way_34 : decode cX12_way 34 = .ok (.bipush (-2), 2) := by decide +kernel
theorem dX12_way_36 : decode cX12_way 36 = .ok (.ireturn, 1) := by decide +kernel
theorem dX12_way_37 : decode cX12_way 37 = .ok (.aload_n 0, 1) := by decide +kernel
theorem dX12_way_38 : decode cX12_way 38 = .ok (.getfield 24, 3) := by decide +kernel
theorem dX12_way_41 : decode cX12_way 41 = .ok (.bipush 12, 2) := by decide +kernel
theorem dX12_way_43 : decode cX12_way 43 = .ok (.iload_n 1, 1) := by decide +kernel
theorem dX12_way_44 : decode cX12_way 44 = .ok (.imul, 1) := by decide +kernel
theorem dX12_way_45 : decode cX12_way 45 = .ok (.iload_n 2, 1) := by decide +kernel
theorem dX12_way_46 : decode cX12_way 46 = .ok (.iadd, 1) := by decide +kernel
theorem dX12_way_47 : decode cX12_way 47 = .ok (.iaload, 1) := by decide +kernel
theorem dX12_way_48 : decode cX12_way 48 = .ok (.istore 4, 2) := by decide +kernel
theorem dX12_way_50 : decode cX12_way 50 = .ok (.aload_n 0, 1) := by decide +kernel
theorem dX12_way_51 : decode cX12_way 51 = .ok (.getfield 24, 3) := by decide +kernel
theorem dX12_way_54 : decode cX12_way 54 = .ok (.bipush 12, 2) := by decide +kernel
theorem dX12_way_56 : decode cX12_way 56 = .ok (.iload_n 1, 1) := by decide +kernel
theorem dX12_way_57 : decode cX12_way 57 = .ok (.imul, 1) := by decide +kernel
theorem dX12_way_58 : decode cX12_way 58 = .ok (.iload_n 2, 1) := by decide +kernel
theorem dX12_way_59 : decode cX12_way 59 = .ok (.iadd, 1) := by decide +kernel
theorem dX12_way_60 : decode cX12_way 60 = .ok (.iload_n 3, 1) := by decide +kernel
theorem dX12_way_61 : decode cX12_way 61 = .ok (.iastore, 1) := by decide +kernel
theorem dX12_way_62 : decode cX12_way 62 = .ok (.aload_n 0, 1) := by decide +kernel
theorem dX12_way_63 : decode cX12_way 63 = .ok (.getfield 24, 3) := by decide +kernel
theorem dX12_way_66 : decode cX12_way 66 = .ok (.bipush 12, 2) := by decide +kernel
theorem dX12_way_68 : decode cX12_way 68 = .ok (.iload_n 2, 1) := by decide +kernel
theorem dX12_way_69 : decode cX12_way 69 = .ok (.imul, 1) := by decide +kernel
theorem dX12_way_70 : decode cX12_way 70 = .ok (.iload_n 1, 1) := by decide +kernel
theorem dX12_way_71 : decode cX12_way 71 = .ok (.iadd, 1) := by decide +kernel
theorem dX12_way_72 : decode cX12_way 72 = .ok (.iload_n 3, 1) := by decide +kernel
theorem dX12_way_73 : decode cX12_way 73 = .ok (.iastore, 1) := by decide +kernel
theorem dX12_way_74 : decode cX12_way 74 = .ok (.aload_n 0, 1) := by decide +kernel
theorem dX12_way_75 : decode cX12_way 75 = .ok (.invokevirtual 135, 3) := by decide +kernel
theorem dX12_way_78 : decode cX12_way 78 = .ok (.iload 4, 2) := by decide +kernel
theorem dX12_way_80 : decode cX12_way 80 = .ok (.ireturn, 1) := by decide +kernel
theorem dX12_far_0 : decode cX12_far 0 = .ok (.iload_n 1, 1) := by decide +kernel
theorem dX12_far_1 : decode cX12_far 1 = .ok (.invokestatic 192, 3) := by decide +kernel
theorem dX12_far_4 : decode cX12_far 4 = .ok (.ifCond .eq 10, 3) := by decide +kernel
theorem dX12_far_7 : decode cX12_far 7 = .ok (.iload_n 2, 1) := by decide +kernel
theorem dX12_far_8 : decode cX12_far 8 = .ok (.invokestatic 192, 3) := by decide +kernel
theorem dX12_far_11 : decode cX12_far 11 = .ok (.ifCond .ne 6, 3) := by decide +kernel
theorem dX12_far_14 : decode cX12_far 14 = .ok (.bipush (-2), 2) := by decide +kernel
theorem dX12_far_16 : decode cX12_far 16 = .ok (.ireturn, 1) := by decide +kernel
theorem dX12_far_17 : decode cX12_far 17 = .ok (.aload_n 0, 1) := by decide +kernel
theorem dX12_far_18 : decode cX12_far 18 = .ok (.getfield 27, 3) := by decide +kernel
theorem dX12_far_21 : decode cX12_far 21 = .ok (.bipush 12, 2) := by decide +kernel
theorem dX12_far_23 : decode cX12_far 23 = .ok (.iload_n 1, 1) := by decide +kernel
theorem dX12_far_24 : decode cX12_far 24 = .ok (.imul, 1) := by decide +kernel
theorem dX12_far_25 : decode cX12_far 25 = .ok (.iload_n 2, 1) := by decide +kernel
theorem dX12_far_26 : decode cX12_far 26 = .ok (.iadd, 1) := by decide +kernel
theorem dX12_far_27 : decode cX12_far 27 = .ok (.iaload, 1) := by decide +kernel
theorem dX12_far_28 : decode cX12_far 28 = .ok (.istore_n 3, 1) := by decide +kernel
theorem dX12_far_29 : decode cX12_far 29 = .ok (.iload_n 3, 1) := by decide +kernel
theorem dX12_far_30 : decode cX12_far 30 = .ok (.ldc 198, 2) := by decide +kernel
theorem dX12_far_32 : decode cX12_far 32 = .ok (.if_icmp .lt 7, 3) := by decide +kernel
theorem dX12_far_35 : decode cX12_far 35 = .ok (.iconst (-1), 1) := by decide +kernel
theorem dX12_far_36 : decode cX12_far 36 = .ok (.goto 4, 3) := by decide +kernel
theorem dX12_far_39 : decode cX12_far 39 = .ok (.iload_n 3, 1) := by decide +kernel
theorem dX12_far_40 : decode cX12_far 40 = .ok (.ireturn, 1) := by decide +kernel
theorem dX12_least_0 : decode cX12_least 0 = .ok (.iconst 0, 1) := by decide +kernel
theorem dX12_least_1 : decode cX12_least 1 = .ok (.istore_n 1, 1) := by decide +kernel
theorem dX12_least_2 : decode cX12_least 2 = .ok (.iload_n 0, 1) := by decide +kernel
theorem dX12_least_3 : decode cX12_least 3 = .ok (.iload_n 1, 1) := by decide +kernel
theorem dX12_least_4 : decode cX12_least 4 = .ok (.ishr, 1) := by decide +kernel
theorem dX12_least_5 : decode cX12_least 5 = .ok (.iconst 1, 1) := by decide +kernel
theorem dX12_least_6 : decode cX12_least 6 = .ok (.iand, 1) := by decide +kernel
theorem dX12_least_7 : decode cX12_least 7 = .ok (.ifCond .ne 9, 3) := by decide +kernel
theorem dX12_least_10 : decode cX12_least 10 = .ok (.iinc 1 1, 3) := by decide +kernel
theorem dX12_least_13 : decode cX12_least 13 = .ok (.goto (-11), 3) := by decide +kernel
theorem dX12_least_16 : decode cX12_least 16 = .ok (.iload_n 1, 1) := by decide +kernel
theorem dX12_least_17 : decode cX12_least 17 = .ok (.ireturn, 1) := by decide +kernel
theorem dX12_farOf_0 : decode cX12_farOf 0 = .ok (.aload_n 0, 1) := by decide +kernel
theorem dX12_farOf_1 : decode cX12_farOf 1 = .ok (.getfield 27, 3) := by decide +kernel
theorem dX12_farOf_4 : decode cX12_farOf 4 = .ok (.bipush 12, 2) := by decide +kernel
theorem dX12_farOf_6 : decode cX12_farOf 6 = .ok (.aload_n 0, 1) := by decide +kernel
theorem dX12_farOf_7 : decode cX12_farOf 7 = .ok (.getfield 30, 3) := by decide +kernel
theorem dX12_farOf_10 : decode cX12_farOf 10 = .ok (.iload_n 1, 1) := by decide +kernel
theorem dX12_farOf_11 : decode cX12_farOf 11 = .ok (.iaload, 1) := by decide +kernel
theorem dX12_farOf_12 : decode cX12_farOf 12 = .ok (.imul, 1) := by decide +kernel
theorem dX12_farOf_13 : decode cX12_farOf 13 = .ok (.aload_n 0, 1) := by decide +kernel
theorem dX12_farOf_14 : decode cX12_farOf 14 = .ok (.getfield 30, 3) := by decide +kernel
theorem dX12_farOf_17 : decode cX12_farOf 17 = .ok (.iload_n 2, 1) := by decide +kernel
theorem dX12_farOf_18 : decode cX12_farOf 18 = .ok (.iaload, 1) := by decide +kernel
theorem dX12_farOf_19 : decode cX12_farOf 19 = .ok (.iadd, 1) := by decide +kernel
theorem dX12_farOf_20 : decode cX12_farOf 20 = .ok (.iaload, 1) := by decide +kernel
theorem dX12_farOf_21 : decode cX12_farOf 21 = .ok (.ireturn, 1) := by decide +kernel
theorem dX12_makeLengths_0 : decode cX12_makeLengths 0 = .ok (.iconst 1, 1) := by decide +kernel
theorem dX12_makeLengths_1 : decode cX12_makeLengths 1 = .ok (.istore_n 1, 1) := by decide +kernel
theorem dX12_makeLengths_2 : decode cX12_makeLengths 2 = .ok (.iload_n 1, 1) := by decide +kernel
theorem dX12_makeLengths_3 : decode cX12_makeLengths 3 = .ok (.iconst 1, 1) := by decide +kernel
theorem dX12_makeLengths_4 : decode cX12_makeLengths 4 = .ok (.aload_n 0, 1) := by decide +kernel
theorem dX12_makeLengths_5 : decode cX12_makeLengths 5 = .ok (.getfield 199, 3) := by decide +kernel
theorem dX12_makeLengths_8 : decode cX12_makeLengths 8 = .ok (.ishl, 1) := by decide +kernel
theorem dX12_makeLengths_9 : decode cX12_makeLengths 9 = .ok (.if_icmp .ge 274, 3) := by decide +kernel
theorem dX12_makeLengths_12 : decode cX12_makeLengths 12 = .ok (.iload_n 1, 1) := by decide +kernel
theorem dX12_makeLengths_13 : decode cX12_makeLengths 13 = .ok (.invokestatic 202, 3) := by decide +kernel
theorem dX12_makeLengths_16 : decode cX12_makeLengths 16 = .ok (.istore_n 2, 1) := by decide +kernel
theorem dX12_makeLengths_17 : decode cX12_makeLengths 17 = .ok (.ldc 198, 2) := by decide +kernel
theorem dX12_makeLengths_19 : decode cX12_makeLengths 19 = .ok (.istore_n 3, 1) := by decide +kernel
theorem dX12_makeLengths_20 : decode cX12_makeLengths 20 = .ok (.ldc 198, 2) := by decide +kernel
theorem dX12_makeLengths_22 : decode cX12_makeLengths 22 = .ok (.istore 4, 2) := by decide +kernel
theorem dX12_makeLengths_24 : decode cX12_makeLengths 24 = .ok (.iconst 0, 1) := by decide +kernel
theorem dX12_makeLengths_25 : decode cX12_makeLengths 25 = .ok (.istore 5, 2) := by decide +kernel
theorem dX12_makeLengths_27 : decode cX12_makeLengths 27 = .ok (.iload 5, 2) := by decide +kernel
theorem dX12_makeLengths_29 : decode cX12_makeLengths 29 = .ok (.aload_n 0, 1) := by decide +kernel
theorem dX12_makeLengths_30 : decode cX12_makeLengths 30 = .ok (.getfield 199, 3) := by decide +kernel
theorem dX12_makeLengths_33 : decode cX12_makeLengths 33 = .ok (.if_icmp .ge 226, 3) := by decide +kernel
theorem dX12_makeLengths_36 : decode cX12_makeLengths 36 = .ok (.iload_n 1, 1) := by decide +kernel
theorem dX12_makeLengths_37 : decode cX12_makeLengths 37 = .ok (.iload 5, 2) := by decide +kernel
theorem dX12_makeLengths_39 : decode cX12_makeLengths 39 = .ok (.ishr, 1) := by decide +kernel
theorem dX12_makeLengths_40 : decode cX12_makeLengths 40 = .ok (.iconst 1, 1) := by decide +kernel
theorem dX12_makeLengths_41 : decode cX12_makeLengths 41 = .ok (.iand, 1) := by decide +kernel
theorem dX12_makeLengths_42 : decode cX12_makeLengths 42 = .ok (.ifCond .ne 6, 3) := by decide +kernel
theorem dX12_makeLengths_45 : decode cX12_makeLengths 45 = .ok (.goto 208, 3) := by decide +kernel
theorem dX12_makeLengths_48 : decode cX12_makeLengths 48 = .ok (.aload_n 0, 1) := by decide +kernel
theorem dX12_makeLengths_49 : decode cX12_makeLengths 49 = .ok (.getfield 21, 3) := by decide +kernel
theorem dX12_makeLengths_52 : decode cX12_makeLengths 52 = .ok (.aload_n 0, 1) := by decide +kernel
theorem dX12_makeLengths_53 : decode cX12_makeLengths 53 = .ok (.getfield 30, 3) := by decide +kernel
theorem dX12_makeLengths_56 : decode cX12_makeLengths 56 = .ok (.iload 5, 2) := by decide +kernel
theorem dX12_makeLengths_58 : decode cX12_makeLengths 58 = .ok (.iaload, 1) := by decide +kernel
theorem dX12_makeLengths_59 : decode cX12_makeLengths 59 = .ok (.iaload, 1) := by decide +kernel
theorem dX12_makeLengths_60 : decode cX12_makeLengths 60 = .ok (.iload 4, 2) := by decide +kernel
theorem dX12_makeLengths_62 : decode cX12_makeLengths 62 = .ok (.if_icmp .ge 18, 3) := by decide +kernel
theorem dX12_makeLengths_65 : decode cX12_makeLengths 65 = .ok (.aload_n 0, 1) := by decide +kernel
theorem dX12_makeLengths_66 : decode cX12_makeLengths 66 = .ok (.getfield 21, 3) := by decide +kernel
theorem dX12_makeLengths_69 : decode cX12_makeLengths 69 = .ok (.aload_n 0, 1) := by decide +kernel
theorem dX12_makeLengths_70 : decode cX12_makeLengths 70 = .ok (.getfield 30, 3) := by decide +kernel
theorem dX12_makeLengths_73 : decode cX12_makeLengths 73 = .ok (.iload 5, 2) := by decide +kernel
theorem dX12_makeLengths_75 : decode cX12_makeLengths 75 = .ok (.iaload, 1) := by decide +kernel
theorem dX12_makeLengths_76 : decode cX12_makeLengths 76 = .ok (.iaload, 1) := by decide +kernel
theorem dX12_makeLengths_77 : decode cX12_makeLengths 77 = .ok (.goto 5, 3) := by decide +kernel
theorem dX12_makeLengths_80 : decode cX12_makeLengths 80 = .ok (.iload 4, 2) := by decide +kernel
theorem dX12_makeLengths_82 : decode cX12_makeLengths 82 = .ok (.istore 4, 2) := by decide +kernel
theorem dX12_makeLengths_84 : decode cX12_makeLengths 84 = .ok (.iload_n 1, 1) := by decide +kernel
theorem dX12_makeLengths_85 : decode cX12_makeLengths 85 = .ok (.iconst 1, 1) := by decide +kernel
theorem dX12_makeLengths_86 : decode cX12_makeLengths 86 = .ok (.iload 5, 2) := by decide +kernel
theorem dX12_makeLengths_88 : decode cX12_makeLengths 88 = .ok (.ishl, 1) := by decide +kernel
theorem dX12_makeLengths_89 : decode cX12_makeLengths 89 = .ok (.iconst (-1), 1) := by decide +kernel
theorem dX12_makeLengths_90 : decode cX12_makeLengths 90 = .ok (.ixor, 1) := by decide +kernel
theorem dX12_makeLengths_91 : decode cX12_makeLengths 91 = .ok (.iand, 1) := by decide +kernel
theorem dX12_makeLengths_92 : decode cX12_makeLengths 92 = .ok (.istore 6, 2) := by decide +kernel
theorem dX12_makeLengths_94 : decode cX12_makeLengths 94 = .ok (.iload_n 1, 1) := by decide +kernel
theorem dX12_makeLengths_95 : decode cX12_makeLengths 95 = .ok (.iconst 1, 1) := by decide +kernel
theorem dX12_makeLengths_96 : decode cX12_makeLengths 96 = .ok (.iload 5, 2) := by decide +kernel
theorem dX12_makeLengths_98 : decode cX12_makeLengths 98 = .ok (.ishl, 1) := by decide +kernel
theorem dX12_makeLengths_99 : decode cX12_makeLengths 99 = .ok (.if_icmp .ne 7, 3) := by decide +kernel
theorem dX12_makeLengths_102 : decode cX12_makeLengths 102 = .ok (.iconst 0, 1) := by decide +kernel
theorem dX12_makeLengths_103 : decode cX12_makeLengths 103 = .ok (.goto 5, 3) := by decide +kernel
theorem dX12_makeLengths_106 : decode cX12_makeLengths 106 = .ok (.ldc 198, 2) := by decide +kernel
theorem dX12_makeLengths_108 : decode cX12_makeLengths 108 = .ok (.istore 7, 2) := by decide +kernel
theorem dX12_makeLengths_110 : decode cX12_makeLengths 110 = .ok (.iload 5, 2) := by decide +kernel
theorem dX12_makeLengths_112 : decode cX12_makeLengths 112 = .ok (.iload_n 2, 1) := by decide +kernel
theorem dX12_makeLengths_113 : decode cX12_makeLengths 113 = .ok (.if_icmp .eq 97, 3) := by decide +kernel
theorem dX12_makeLengths_116 : decode cX12_makeLengths 116 = .ok (.iconst 0, 1) := by decide +kernel
theorem dX12_makeLengths_117 : decode cX12_makeLengths 117 = .ok (.istore 8, 2) := by decide +kernel
theorem dX12_makeLengths_119 : decode cX12_makeLengths 119 = .ok (.iload 8, 2) := by decide +kernel
theorem dX12_makeLengths_121 : decode cX12_makeLengths 121 = .ok (.aload_n 0, 1) := by decide +kernel
theorem dX12_makeLengths_122 : decode cX12_makeLengths 122 = .ok (.getfield 199, 3) := by decide +kernel
theorem dX12_makeLengths_125 : decode cX12_makeLengths 125 = .ok (.if_icmp .ge 85, 3) := by decide +kernel
theorem dX12_makeLengths_128 : decode cX12_makeLengths 128 = .ok (.iload 6, 2) := by decide +kernel
theorem dX12_makeLengths_130 : decode cX12_makeLengths 130 = .ok (.iload 8, 2) := by decide +kernel
theorem dX12_makeLengths_132 : decode cX12_makeLengths 132 = .ok (.ishr, 1) := by decide +kernel
theorem dX12_makeLengths_133 : decode cX12_makeLengths 133 = .ok (.iconst 1, 1) := by decide +kernel
theorem dX12_makeLengths_134 : decode cX12_makeLengths 134 = .ok (.iand, 1) := by decide +kernel
theorem dX12_makeLengths_135 : decode cX12_makeLengths 135 = .ok (.iconst 1, 1) := by decide +kernel
theorem dX12_makeLengths_136 : decode cX12_makeLengths 136 = .ok (.if_icmp .ne 68, 3) := by decide +kernel
theorem dX12_makeLengths_139 : decode cX12_makeLengths 139 = .ok (.iload 8, 2) := by decide +kernel
theorem dX12_makeLengths_141 : decode cX12_makeLengths 141 = .ok (.iload_n 2, 1) := by decide +kernel
theorem dX12_makeLengths_142 : decode cX12_makeLengths 142 = .ok (.if_icmp .ne 11, 3) := by decide +kernel
theorem dX12_makeLengths_145 : decode cX12_makeLengths 145 = .ok (.iload 6, 2) := by decide +kernel
theorem dX12_makeLengths_147 : decode cX12_makeLengths 147 = .ok (.iconst 1, 1) := by decide +kernel
theorem dX12_makeLengths_148 : decode cX12_makeLengths 148 = .ok (.iload_n 2, 1) := by decide +kernel
theorem dX12_makeLengths_149 : decode cX12_makeLengths 149 = .ok (.ishl, 1) := by decide +kernel
theorem dX12_makeLengths_150 : decode cX12_makeLengths 150 = .ok (.if_icmp .ne 54, 3) := by decide +kernel
theorem dX12_makeLengths_153 : decode cX12_makeLengths 153 = .ok (.aload_n 0, 1) := by decide +kernel
theorem dX12_makeLengths_154 : decode cX12_makeLengths 154 = .ok (.getfield 33, 3) := by decide +kernel
theorem dX12_makeLengths_157 : decode cX12_makeLengths 157 = .ok (.bipush 10, 2) := by decide +kernel
theorem dX12_makeLengths_159 : decode cX12_makeLengths 159 = .ok (.iload 6, 2) := by decide +kernel
theorem dX12_makeLengths_161 : decode cX12_makeLengths 161 = .ok (.imul, 1) := by decide +kernel
theorem dX12_makeLengths_162 : decode cX12_makeLengths 162 = .ok (.iload 8, 2) := by decide +kernel
theorem dX12_makeLengths_164 : decode cX12_makeLengths 164 = .ok (.iadd, 1) := by decide +kernel
theorem dX12_makeLengths_165 : decode cX12_makeLengths 165 = .ok (.iaload, 1) := by decide +kernel
theorem dX12_makeLengths_166 : decode cX12_makeLengths 166 = .ok (.aload_n 0, 1) := by decide +kernel
theorem dX12_makeLengths_167 : decode cX12_makeLengths 167 = .ok (.iload 8, 2) := by decide +kernel
theorem dX12_makeLengths_169 : decode cX12_makeLengths 169 = .ok (.iload 5, 2) := by decide +kernel
theorem dX12_makeLengths_171 : decode cX12_makeLengths 171 = .ok (.invokevirtual 205, 3) := by decide +kernel
theorem dX12_makeLengths_174 : decode cX12_makeLengths 174 = .ok (.iadd, 1) := by decide +kernel
theorem dX12_makeLengths_175 : decode cX12_makeLengths 175 = .ok (.iload 7, 2) := by decide +kernel
theorem dX12_makeLengths_177 : decode cX12_makeLengths 177 = .ok (.if_icmp .ge 27, 3) := by decide +kernel
theorem dX12_makeLengths_180 : decode cX12_makeLengths 180 = .ok (.aload_n 0, 1) := by decide +kernel
theorem dX12_makeLengths_181 : decode cX12_makeLengths 181 = .ok (.getfield 33, 3) := by decide +kernel
theorem dX12_makeLengths_184 : decode cX12_makeLengths 184 = .ok (.bipush 10, 2) := by decide +kernel
theorem dX12_makeLengths_186 : decode cX12_makeLengths 186 = .ok (.iload 6, 2) := by decide +kernel
theorem dX12_makeLengths_188 : decode cX12_makeLengths 188 = .ok (.imul, 1) := by decide +kernel
theorem dX12_makeLengths_189 : decode cX12_makeLengths 189 = .ok (.iload 8, 2) := by decide +kernel
theorem dX12_makeLengths_191 : decode cX12_makeLengths 191 = .ok (.iadd, 1) := by decide +kernel
theorem dX12_makeLengths_192 : decode cX12_makeLengths 192 = .ok (.iaload, 1) := by decide +kernel
theorem dX12_makeLengths_193 : decode cX12_makeLengths 193 = .ok (.aload_n 0, 1) := by decide +kernel
theorem dX12_makeLengths_194 : decode cX12_makeLengths 194 = .ok (.iload 8, 2) := by decide +kernel
theorem dX12_makeLengths_196 : decode cX12_makeLengths 196 = .ok (.iload 5, 2) := by decide +kernel
theorem dX12_makeLengths_198 : decode cX12_makeLengths 198 = .ok (.invokevirtual 205, 3) := by decide +kernel
theorem dX12_makeLengths_201 : decode cX12_makeLengths 201 = .ok (.iadd, 1) := by decide +kernel
theorem dX12_makeLengths_202 : decode cX12_makeLengths 202 = .ok (.istore 7, 2) := by decide +kernel
theorem dX12_makeLengths_204 : decode cX12_makeLengths 204 = .ok (.iinc 8 1, 3) := by decide +kernel
theorem dX12_makeLengths_207 : decode cX12_makeLengths 207 = .ok (.goto (-88), 3) := by decide +kernel
theorem dX12_makeLengths_210 : decode cX12_makeLengths 210 = .ok (.aload_n 0, 1) := by decide +kernel
theorem dX12_makeLengths_211 : decode cX12_makeLengths 211 = .ok (.getfield 33, 3) := by decide +kernel
theorem dX12_makeLengths_214 : decode cX12_makeLengths 214 = .ok (.bipush 10, 2) := by decide +kernel
theorem dX12_makeLengths_216 : decode cX12_makeLengths 216 = .ok (.iload_n 1, 1) := by decide +kernel
theorem dX12_makeLengths_217 : decode cX12_makeLengths 217 = .ok (.imul, 1) := by decide +kernel
theorem dX12_makeLengths_218 : decode cX12_makeLengths 218 = .ok (.iload 5, 2) := by decide +kernel
theorem dX12_makeLengths_220 : decode cX12_makeLengths 220 = .ok (.iadd, 1) := by decide +kernel
theorem dX12_makeLengths_221 : decode cX12_makeLengths 221 = .ok (.iload 7, 2) := by decide +kernel
theorem dX12_makeLengths_223 : decode cX12_makeLengths 223 = .ok (.iastore, 1) := by decide +kernel
theorem dX12_makeLengths_224 : decode cX12_makeLengths 224 = .ok (.iload 7, 2) := by decide +kernel
theorem dX12_makeLengths_226 : decode cX12_makeLengths 226 = .ok (.aload_n 0, 1) := by decide +kernel
theorem dX12_makeLengths_227 : decode cX12_makeLengths 227 = .ok (.iload 5, 2) := by decide +kernel
theorem dX12_makeLengths_229 : decode cX12_makeLengths 229 = .ok (.iload_n 2, 1) := by decide +kernel
theorem dX12_makeLengths_230 : decode cX12_makeLengths 230 = .ok (.invokevirtual 205, 3) := by decide +kernel
theorem dX12_makeLengths_233 : decode cX12_makeLengths 233 = .ok (.iadd, 1) := by decide +kernel
theorem dX12_makeLengths_234 : decode cX12_makeLengths 234 = .ok (.iload_n 3, 1) := by decide +kernel
theorem dX12_makeLengths_235 : decode cX12_makeLengths 235 = .ok (.if_icmp .ge 16, 3) := by decide +kernel
theorem dX12_makeLengths_238 : decode cX12_makeLengths 238 = .ok (.iload 7, 2) := by decide +kernel
theorem dX12_makeLengths_240 : decode cX12_makeLengths 240 = .ok (.aload_n 0, 1) := by decide +kernel
theorem dX12_makeLengths_241 : decode cX12_makeLengths 241 = .ok (.iload 5, 2) := by decide +kernel
theorem dX12_makeLengths_243 : decode cX12_makeLengths 243 = .ok (.iload_n 2, 1) := by decide +kernel
theorem dX12_makeLengths_244 : decode cX12_makeLengths 244 = .ok (.invokevirtual 205, 3) := by decide +kernel
theorem dX12_makeLengths_247 : decode cX12_makeLengths 247 = .ok (.iadd, 1) := by decide +kernel
theorem dX12_makeLengths_248 : decode cX12_makeLengths 248 = .ok (.goto 4, 3) := by decide +kernel
theorem dX12_makeLengths_251 : decode cX12_makeLengths 251 = .ok (.iload_n 3, 1) := by decide +kernel
theorem dX12_makeLengths_252 : decode cX12_makeLengths 252 = .ok (.istore_n 3, 1) := by decide +kernel
theorem dX12_makeLengths_253 : decode cX12_makeLengths 253 = .ok (.iinc 5 1, 3) := by decide +kernel
theorem dX12_makeLengths_256 : decode cX12_makeLengths 256 = .ok (.goto (-229), 3) := by decide +kernel
theorem dX12_makeLengths_259 : decode cX12_makeLengths 259 = .ok (.aload_n 0, 1) := by decide +kernel
theorem dX12_makeLengths_260 : decode cX12_makeLengths 260 = .ok (.getfield 36, 3) := by decide +kernel
theorem dX12_makeLengths_263 : decode cX12_makeLengths 263 = .ok (.iload_n 1, 1) := by decide +kernel
theorem dX12_makeLengths_264 : decode cX12_makeLengths 264 = .ok (.iload_n 3, 1) := by decide +kernel
theorem dX12_makeLengths_265 : decode cX12_makeLengths 265 = .ok (.iload 4, 2) := by decide +kernel
theorem dX12_makeLengths_267 : decode cX12_makeLengths 267 = .ok (.if_icmp .le 8, 3) := by decide +kernel
theorem dX12_makeLengths_270 : decode cX12_makeLengths 270 = .ok (.ldc 198, 2) := by decide +kernel
theorem dX12_makeLengths_272 : decode cX12_makeLengths 272 = .ok (.goto 4, 3) := by decide +kernel
theorem dX12_makeLengths_275 : decode cX12_makeLengths 275 = .ok (.iload_n 3, 1) := by decide +kernel
theorem dX12_makeLengths_276 : decode cX12_makeLengths 276 = .ok (.iastore, 1) := by decide +kernel
theorem dX12_makeLengths_277 : decode cX12_makeLengths 277 = .ok (.iinc 1 1, 3) := by decide +kernel
theorem dX12_makeLengths_280 : decode cX12_makeLengths 280 = .ok (.goto (-278), 3) := by decide +kernel
theorem dX12_makeLengths_283 : decode cX12_makeLengths 283 = .ok (.return_, 1) := by decide +kernel
theorem dX12_give_0 : decode cX12_give 0 = .ok (.iload_n 2, 1) := by decide +kernel
theorem dX12_give_1 : decode cX12_give 1 = .ok (.aload_n 0, 1) := by decide +kernel
theorem dX12_give_2 : decode cX12_give 2 = .ok (.getfield 208, 3) := by decide +kernel
theorem dX12_give_5 : decode cX12_give 5 = .ok (.if_icmp .le 4, 3) := by decide +kernel
theorem dX12_give_8 : decode cX12_give 8 = .ok (.return_, 1) := by decide +kernel
theorem dX12_give_9 : decode cX12_give 9 = .ok (.iload_n 1, 1) := by decide +kernel
theorem dX12_give_10 : decode cX12_give 10 = .ok (.aload_n 0, 1) := by decide +kernel
theorem dX12_give_11 : decode cX12_give 11 = .ok (.getfield 199, 3) := by decide +kernel
theorem dX12_give_14 : decode cX12_give 14 = .ok (.if_icmp .ge 86, 3) := by decide +kernel
theorem dX12_give_17 : decode cX12_give 17 = .ok (.iconst 0, 1) := by decide +kernel
theorem dX12_give_18 : decode cX12_give 18 = .ok (.istore_n 3, 1) := by decide +kernel
theorem dX12_give_19 : decode cX12_give 19 = .ok (.iload_n 3, 1) := by decide +kernel
theorem dX12_give_20 : decode cX12_give 20 = .ok (.iload_n 2, 1) := by decide +kernel
theorem dX12_give_21 : decode cX12_give 21 = .ok (.if_icmp .gt 78, 3) := by decide +kernel
theorem dX12_give_24 : decode cX12_give 24 = .ok (.iload_n 3, 1) := by decide +kernel
theorem dX12_give_25 : decode cX12_give 25 = .ok (.bipush 10, 2) := by decide +kernel
theorem dX12_give_27 : decode cX12_give 27 = .ok (.if_icmp .ge 72, 3) := by decide +kernel
theorem dX12_give_30 : decode cX12_give 30 = .ok (.aload_n 0, 1) := by decide +kernel
theorem dX12_give_31 : decode cX12_give 31 = .ok (.getfield 39, 3) := by decide +kernel
theorem dX12_give_34 : decode cX12_give 34 = .ok (.iload_n 1, 1) := by decide +kernel
theorem dX12_give_35 : decode cX12_give 35 = .ok (.iload_n 3, 1) := by decide +kernel
theorem dX12_give_36 : decode cX12_give 36 = .ok (.iastore, 1) := by decide +kernel
theorem dX12_give_37 : decode cX12_give 37 = .ok (.iload_n 3, 1) := by decide +kernel
theorem dX12_give_38 : decode cX12_give 38 = .ok (.iload_n 2, 1) := by decide +kernel
theorem dX12_give_39 : decode cX12_give 39 = .ok (.if_icmp .ge 12, 3) := by decide +kernel
theorem dX12_give_42 : decode cX12_give 42 = .ok (.aload_n 0, 1) := by decide +kernel
theorem dX12_give_43 : decode cX12_give 43 = .ok (.getfield 45, 3) := by decide +kernel
theorem dX12_give_46 : decode cX12_give 46 = .ok (.iload_n 3, 1) := by decide +kernel
theorem dX12_give_47 : decode cX12_give 47 = .ok (.iaload, 1) := by decide +kernel
theorem dX12_give_48 : decode cX12_give 48 = .ok (.goto 4, 3) := by decide +kernel
theorem dX12_give_51 : decode cX12_give 51 = .ok (.iconst 0, 1) := by decide +kernel
theorem dX12_give_52 : decode cX12_give 52 = .ok (.istore 4, 2) := by decide +kernel
theorem dX12_give_54 : decode cX12_give 54 = .ok (.aload_n 0, 1) := by decide +kernel
theorem dX12_give_55 : decode cX12_give 55 = .ok (.getfield 45, 3) := by decide +kernel
theorem dX12_give_58 : decode cX12_give 58 = .ok (.iload_n 3, 1) := by decide +kernel
theorem dX12_give_59 : decode cX12_give 59 = .ok (.iload 4, 2) := by decide +kernel
theorem dX12_give_61 : decode cX12_give 61 = .ok (.iconst 1, 1) := by decide +kernel
theorem dX12_give_62 : decode cX12_give 62 = .ok (.iload_n 1, 1) := by decide +kernel
theorem dX12_give_63 : decode cX12_give 63 = .ok (.ishl, 1) := by decide +kernel
theorem dX12_give_64 : decode cX12_give 64 = .ok (.ior, 1) := by decide +kernel
theorem dX12_give_65 : decode cX12_give 65 = .ok (.iastore, 1) := by decide +kernel
theorem dX12_give_66 : decode cX12_give 66 = .ok (.aload_n 0, 1) := by decide +kernel
theorem dX12_give_67 : decode cX12_give 67 = .ok (.iload_n 1, 1) := by decide +kernel
theorem dX12_give_68 : decode cX12_give 68 = .ok (.iconst 1, 1) := by decide +kernel
theorem dX12_give_69 : decode cX12_give 69 = .ok (.iadd, 1) := by decide +kernel
theorem dX12_give_70 : decode cX12_give 70 = .ok (.iload_n 3, 1) := by decide +kernel
theorem dX12_give_71 : decode cX12_give 71 = .ok (.iload_n 2, 1) := by decide +kernel
theorem dX12_give_72 : decode cX12_give 72 = .ok (.if_icmp .ne 9, 3) := by decide +kernel
theorem dX12_give_75 : decode cX12_give 75 = .ok (.iload_n 2, 1) := by decide +kernel
theorem dX12_give_76 : decode cX12_give 76 = .ok (.iconst 1, 1) := by decide +kernel
theorem dX12_give_77 : decode cX12_give 77 = .ok (.iadd, 1) := by decide +kernel
theorem dX12_give_78 : decode cX12_give 78 = .ok (.goto 4, 3) := by decide +kernel
theorem dX12_give_81 : decode cX12_give 81 = .ok (.iload_n 2, 1) := by decide +kernel
theorem dX12_give_82 : decode cX12_give 82 = .ok (.invokevirtual 211, 3) := by decide +kernel
theorem dX12_give_85 : decode cX12_give 85 = .ok (.aload_n 0, 1) := by decide +kernel
theorem dX12_give_86 : decode cX12_give 86 = .ok (.getfield 45, 3) := by decide +kernel
theorem dX12_give_89 : decode cX12_give 89 = .ok (.iload_n 3, 1) := by decide +kernel
theorem dX12_give_90 : decode cX12_give 90 = .ok (.iload 4, 2) := by decide +kernel
theorem dX12_give_92 : decode cX12_give 92 = .ok (.iastore, 1) := by decide +kernel
theorem dX12_give_93 : decode cX12_give 93 = .ok (.iinc 3 1, 3) := by decide +kernel
theorem dX12_give_96 : decode cX12_give 96 = .ok (.goto (-77), 3) := by decide +kernel
theorem dX12_give_99 : decode cX12_give 99 = .ok (.return_, 1) := by decide +kernel
theorem dX12_give_100 : decode cX12_give 100 = .ok (.iconst 0, 1) := by decide +kernel
theorem dX12_give_101 : decode cX12_give 101 = .ok (.istore_n 3, 1) := by decide +kernel
theorem dX12_give_102 : decode cX12_give 102 = .ok (.iconst 0, 1) := by decide +kernel
theorem dX12_give_103 : decode cX12_give 103 = .ok (.istore 4, 2) := by decide +kernel
theorem dX12_give_105 : decode cX12_give 105 = .ok (.iload 4, 2) := by decide +kernel
theorem dX12_give_107 : decode cX12_give 107 = .ok (.iload_n 2, 1) := by decide +kernel
theorem dX12_give_108 : decode cX12_give 108 = .ok (.if_icmp .ge 42, 3) := by decide +kernel
theorem dX12_give_111 : decode cX12_give 111 = .ok (.aload_n 0, 1) := by decide +kernel
theorem dX12_give_112 : decode cX12_give 112 = .ok (.getfield 36, 3) := by decide +kernel
theorem dX12_give_115 : decode cX12_give 115 = .ok (.aload_n 0, 1) := by decide +kernel
theorem dX12_give_116 : decode cX12_give 116 = .ok (.getfield 45, 3) := by decide +kernel
theorem dX12_give_119 : decode cX12_give 119 = .ok (.iload 4, 2) := by decide +kernel
theorem dX12_give_121 : decode cX12_give 121 = .ok (.iaload, 1) := by decide +kernel
theorem dX12_give_122 : decode cX12_give 122 = .ok (.iaload, 1) := by decide +kernel
theorem dX12_give_123 : decode cX12_give 123 = .ok (.ldc 198, 2) := by decide +kernel
theorem dX12_give_125 : decode cX12_give 125 = .ok (.if_icmp .lt 4, 3) := by decide +kernel
theorem dX12_give_128 : decode cX12_give 128 = .ok (.return_, 1) := by decide +kernel
theorem dX12_give_129 : decode cX12_give 129 = .ok (.iload_n 3, 1) := by decide +kernel
theorem dX12_give_130 : decode cX12_give 130 = .ok (.aload_n 0, 1) := by decide +kernel
theorem dX12_give_131 : decode cX12_give 131 = .ok (.getfield 36, 3) := by decide +kernel
theorem dX12_give_134 : decode cX12_give 134 = .ok (.aload_n 0, 1) := by decide +kernel
theorem dX12_give_135 : decode cX12_give 135 = .ok (.getfield 45, 3) := by decide +kernel
theorem dX12_give_138 : decode cX12_give 138 = .ok (.iload 4, 2) := by decide +kernel
theorem dX12_give_140 : decode cX12_give 140 = .ok (.iaload, 1) := by decide +kernel
theorem dX12_give_141 : decode cX12_give 141 = .ok (.iaload, 1) := by decide +kernel
theorem dX12_give_142 : decode cX12_give 142 = .ok (.iadd, 1) := by decide +kernel
theorem dX12_give_143 : decode cX12_give 143 = .ok (.istore_n 3, 1) := by decide +kernel
theorem dX12_give_144 : decode cX12_give 144 = .ok (.iinc 4 1, 3) := by decide +kernel
theorem dX12_give_147 : decode cX12_give 147 = .ok (.goto (-42), 3) := by decide +kernel
theorem dX12_give_150 : decode cX12_give 150 = .ok (.iload_n 2, 1) := by decide +kernel
theorem dX12_give_151 : decode cX12_give 151 = .ok (.aload_n 0, 1) := by decide +kernel
theorem dX12_give_152 : decode cX12_give 152 = .ok (.getfield 208, 3) := by decide +kernel
theorem dX12_give_155 : decode cX12_give 155 = .ok (.if_icmp .ne 12, 3) := by decide +kernel
theorem dX12_give_158 : decode cX12_give 158 = .ok (.iload_n 3, 1) := by decide +kernel
theorem dX12_give_159 : decode cX12_give 159 = .ok (.aload_n 0, 1) := by decide +kernel
theorem dX12_give_160 : decode cX12_give 160 = .ok (.getfield 215, 3) := by decide +kernel
theorem dX12_give_163 : decode cX12_give 163 = .ok (.if_icmp .lt 4, 3) := by decide +kernel
theorem dX12_give_166 : decode cX12_give 166 = .ok (.return_, 1) := by decide +kernel
theorem dX12_give_167 : decode cX12_give 167 = .ok (.aload_n 0, 1) := by decide +kernel
theorem dX12_give_168 : decode cX12_give 168 = .ok (.iload_n 2, 1) := by decide +kernel
theorem dX12_give_169 : decode cX12_give 169 = .ok (.putfield 208, 3) := by decide +kernel
theorem dX12_give_172 : decode cX12_give 172 = .ok (.aload_n 0, 1) := by decide +kernel
theorem dX12_give_173 : decode cX12_give 173 = .ok (.iload_n 3, 1) := by decide +kernel
theorem dX12_give_174 : decode cX12_give 174 = .ok (.putfield 215, 3) := by decide +kernel
theorem dX12_give_177 : decode cX12_give 177 = .ok (.iconst 0, 1) := by decide +kernel
theorem dX12_give_178 : decode cX12_give 178 = .ok (.istore 4, 2) := by decide +kernel
theorem dX12_give_180 : decode cX12_give 180 = .ok (.iload 4, 2) := by decide +kernel
theorem dX12_give_182 : decode cX12_give 182 = .ok (.aload_n 0, 1) := by decide +kernel
theorem dX12_give_183 : decode cX12_give 183 = .ok (.getfield 199, 3) := by decide +kernel
theorem dX12_give_186 : decode cX12_give 186 = .ok (.if_icmp .ge 23, 3) := by decide +kernel
theorem dX12_give_189 : decode cX12_give 189 = .ok (.aload_n 0, 1) := by decide +kernel
theorem dX12_give_190 : decode cX12_give 190 = .ok (.getfield 42, 3) := by decide +kernel
theorem dX12_give_193 : decode cX12_give 193 = .ok (.iload 4, 2) := by decide +kernel
theorem dX12_give_195 : decode cX12_give 195 = .ok (.aload_n 0, 1) := by decide +kernel
theorem dX12_give_196 : decode cX12_give 196 = .ok (.getfield 39, 3) := by decide +kernel
theorem dX12_give_199 : decode cX12_give 199 = .ok (.iload 4, 2) := by decide +kernel
theorem dX12_give_201 : decode cX12_give 201 = .ok (.iaload, 1) := by decide +kernel
theorem dX12_give_202 : decode cX12_give 202 = .ok (.iastore, 1) := by decide +kernel
theorem dX12_give_203 : decode cX12_give 203 = .ok (.iinc 4 1, 3) := by decide +kernel
theorem dX12_give_206 : decode cX12_give 206 = .ok (.goto (-26), 3) := by decide +kernel
theorem dX12_give_209 : decode cX12_give 209 = .ok (.return_, 1) := by decide +kernel
theorem dX12_rounds_0 : decode cX12_rounds 0 = .ok (.iload_n 1, 1) := by decide +kernel
theorem dX12_rounds_1 : decode cX12_rounds 1 = .ok (.iconst 1, 1) := by decide +kernel
theorem dX12_rounds_2 : decode cX12_rounds 2 = .ok (.sipush 4095, 3) := by decide +kernel
theorem dX12_rounds_5 : decode cX12_rounds 5 = .ok (.invokestatic 188, 3) := by decide +kernel
theorem dX12_rounds_8 : decode cX12_rounds 8 = .ok (.ifCond .ne 6, 3) := by decide +kernel
theorem dX12_rounds_11 : decode cX12_rounds 11 = .ok (.bipush (-2), 2) := by decide +kernel
theorem dX12_rounds_13 : decode cX12_rounds 13 = .ok (.ireturn, 1) := by decide +kernel
theorem dX12_rounds_14 : decode cX12_rounds 14 = .ok (.iconst 0, 1) := by decide +kernel
theorem dX12_rounds_15 : decode cX12_rounds 15 = .ok (.istore_n 2, 1) := by decide +kernel
theorem dX12_rounds_16 : decode cX12_rounds 16 = .ok (.iconst 0, 1) := by decide +kernel
theorem dX12_rounds_17 : decode cX12_rounds 17 = .ok (.istore_n 3, 1) := by decide +kernel
theorem dX12_rounds_18 : decode cX12_rounds 18 = .ok (.iload_n 3, 1) := by decide +kernel
theorem dX12_rounds_19 : decode cX12_rounds 19 = .ok (.bipush 12, 2) := by decide +kernel
theorem dX12_rounds_21 : decode cX12_rounds 21 = .ok (.if_icmp .ge 17, 3) := by decide +kernel
theorem dX12_rounds_24 : decode cX12_rounds 24 = .ok (.iload_n 2, 1) := by decide +kernel
theorem dX12_rounds_25 : decode cX12_rounds 25 = .ok (.iload_n 1, 1) := by decide +kernel
theorem dX12_rounds_26 : decode cX12_rounds 26 = .ok (.iload_n 3, 1) := by decide +kernel
theorem dX12_rounds_27 : decode cX12_rounds 27 = .ok (.ishr, 1) := by decide +kernel
theorem dX12_rounds_28 : decode cX12_rounds 28 = .ok (.iconst 1, 1) := by decide +kernel
theorem dX12_rounds_29 : decode cX12_rounds 29 = .ok (.iand, 1) := by decide +kernel
theorem dX12_rounds_30 : decode cX12_rounds 30 = .ok (.iadd, 1) := by decide +kernel
theorem dX12_rounds_31 : decode cX12_rounds 31 = .ok (.istore_n 2, 1) := by decide +kernel
theorem dX12_rounds_32 : decode cX12_rounds 32 = .ok (.iinc 3 1, 3) := by decide +kernel
theorem dX12_rounds_35 : decode cX12_rounds 35 = .ok (.goto (-17), 3) := by decide +kernel
theorem dX12_rounds_38 : decode cX12_rounds 38 = .ok (.iload_n 2, 1) := by decide +kernel
theorem dX12_rounds_39 : decode cX12_rounds 39 = .ok (.bipush 10, 2) := by decide +kernel
theorem dX12_rounds_41 : decode cX12_rounds 41 = .ok (.if_icmp .le 6, 3) := by decide +kernel
theorem dX12_rounds_44 : decode cX12_rounds 44 = .ok (.bipush (-3), 2) := by decide +kernel
theorem dX12_rounds_46 : decode cX12_rounds 46 = .ok (.ireturn, 1) := by decide +kernel
theorem dX12_rounds_47 : decode cX12_rounds 47 = .ok (.aload_n 0, 1) := by decide +kernel
theorem dX12_rounds_48 : decode cX12_rounds 48 = .ok (.iconst 0, 1) := by decide +kernel
theorem dX12_rounds_49 : decode cX12_rounds 49 = .ok (.putfield 199, 3) := by decide +kernel
theorem dX12_rounds_52 : decode cX12_rounds 52 = .ok (.iconst 0, 1) := by decide +kernel
theorem dX12_rounds_53 : decode cX12_rounds 53 = .ok (.istore_n 3, 1) := by decide +kernel
theorem dX12_rounds_54 : decode cX12_rounds 54 = .ok (.iload_n 3, 1) := by decide +kernel
theorem dX12_rounds_55 : decode cX12_rounds 55 = .ok (.bipush 12, 2) := by decide +kernel
theorem dX12_rounds_57 : decode cX12_rounds 57 = .ok (.if_icmp .ge 47, 3) := by decide +kernel
theorem dX12_rounds_60 : decode cX12_rounds 60 = .ok (.aload_n 0, 1) := by decide +kernel
theorem dX12_rounds_61 : decode cX12_rounds 61 = .ok (.getfield 48, 3) := by decide +kernel
theorem dX12_rounds_64 : decode cX12_rounds 64 = .ok (.iload_n 3, 1) := by decide +kernel
theorem dX12_rounds_65 : decode cX12_rounds 65 = .ok (.iconst (-1), 1) := by decide +kernel
theorem dX12_rounds_66 : decode cX12_rounds 66 = .ok (.iastore, 1) := by decide +kernel
theorem dX12_rounds_67 : decode cX12_rounds 67 = .ok (.iload_n 1, 1) := by decide +kernel
theorem dX12_rounds_68 : decode cX12_rounds 68 = .ok (.iload_n 3, 1) := by decide +kernel
theorem dX12_rounds_69 : decode cX12_rounds 69 = .ok (.ishr, 1) := by decide +kernel
theorem dX12_rounds_70 : decode cX12_rounds 70 = .ok (.iconst 1, 1) := by decide +kernel
theorem dX12_rounds_71 : decode cX12_rounds 71 = .ok (.iand, 1) := by decide +kernel
theorem dX12_rounds_72 : decode cX12_rounds 72 = .ok (.ifCond .ne 6, 3) := by decide +kernel
theorem dX12_rounds_75 : decode cX12_rounds 75 = .ok (.goto 23, 3) := by decide +kernel
theorem dX12_rounds_78 : decode cX12_rounds 78 = .ok (.aload_n 0, 1) := by decide +kernel
theorem dX12_rounds_79 : decode cX12_rounds 79 = .ok (.getfield 30, 3) := by decide +kernel
theorem dX12_rounds_82 : decode cX12_rounds 82 = .ok (.aload_n 0, 1) := by decide +kernel
theorem dX12_rounds_83 : decode cX12_rounds 83 = .ok (.getfield 199, 3) := by decide +kernel
theorem dX12_rounds_86 : decode cX12_rounds 86 = .ok (.iload_n 3, 1) := by decide +kernel
theorem dX12_rounds_87 : decode cX12_rounds 87 = .ok (.iastore, 1) := by decide +kernel
theorem dX12_rounds_88 : decode cX12_rounds 88 = .ok (.aload_n 0, 1) := by decide +kernel
theorem dX12_rounds_89 : decode cX12_rounds 89 = .ok (.dup, 1) := by decide +kernel
theorem dX12_rounds_90 : decode cX12_rounds 90 = .ok (.getfield 199, 3) := by decide +kernel
theorem dX12_rounds_93 : decode cX12_rounds 93 = .ok (.iconst 1, 1) := by decide +kernel
theorem dX12_rounds_94 : decode cX12_rounds 94 = .ok (.iadd, 1) := by decide +kernel
theorem dX12_rounds_95 : decode cX12_rounds 95 = .ok (.putfield 199, 3) := by decide +kernel
theorem dX12_rounds_98 : decode cX12_rounds 98 = .ok (.iinc 3 1, 3) := by decide +kernel
theorem dX12_rounds_101 : decode cX12_rounds 101 = .ok (.goto (-47), 3) := by decide +kernel
theorem dX12_rounds_104 : decode cX12_rounds 104 = .ok (.aload_n 0, 1) := by decide +kernel
theorem dX12_rounds_105 : decode cX12_rounds 105 = .ok (.invokevirtual 218, 3) := by decide +kernel
theorem dX12_rounds_108 : decode cX12_rounds 108 = .ok (.aload_n 0, 1) := by decide +kernel
theorem dX12_rounds_109 : decode cX12_rounds 109 = .ok (.bipush 11, 2) := by decide +kernel
theorem dX12_rounds_111 : decode cX12_rounds 111 = .ok (.putfield 208, 3) := by decide +kernel
theorem dX12_rounds_114 : decode cX12_rounds 114 = .ok (.aload_n 0, 1) := by decide +kernel
theorem dX12_rounds_115 : decode cX12_rounds 115 = .ok (.iconst 0, 1) := by decide +kernel
theorem dX12_rounds_116 : decode cX12_rounds 116 = .ok (.putfield 215, 3) := by decide +kernel
theorem dX12_rounds_119 : decode cX12_rounds 119 = .ok (.aload_n 0, 1) := by decide +kernel
theorem dX12_rounds_120 : decode cX12_rounds 120 = .ok (.iconst 0, 1) := by decide +kernel
theorem dX12_rounds_121 : decode cX12_rounds 121 = .ok (.iconst 0, 1) := by decide +kernel
theorem dX12_rounds_122 : decode cX12_rounds 122 = .ok (.invokevirtual 211, 3) := by decide +kernel
theorem dX12_rounds_125 : decode cX12_rounds 125 = .ok (.aload_n 0, 1) := by decide +kernel
theorem dX12_rounds_126 : decode cX12_rounds 126 = .ok (.aload_n 0, 1) := by decide +kernel
theorem dX12_rounds_127 : decode cX12_rounds 127 = .ok (.getfield 208, 3) := by decide +kernel
theorem dX12_rounds_130 : decode cX12_rounds 130 = .ok (.putfield 221, 3) := by decide +kernel
theorem dX12_rounds_133 : decode cX12_rounds 133 = .ok (.aload_n 0, 1) := by decide +kernel
theorem dX12_rounds_134 : decode cX12_rounds 134 = .ok (.aload_n 0, 1) := by decide +kernel
theorem dX12_rounds_135 : decode cX12_rounds 135 = .ok (.getfield 215, 3) := by decide +kernel
theorem dX12_rounds_138 : decode cX12_rounds 138 = .ok (.putfield 224, 3) := by decide +kernel
theorem dX12_rounds_141 : decode cX12_rounds 141 = .ok (.iconst 0, 1) := by decide +kernel
theorem dX12_rounds_142 : decode cX12_rounds 142 = .ok (.istore_n 3, 1) := by decide +kernel
theorem dX12_rounds_143 : decode cX12_rounds 143 = .ok (.iload_n 3, 1) := by decide +kernel
theorem dX12_rounds_144 : decode cX12_rounds 144 = .ok (.aload_n 0, 1) := by decide +kernel
theorem dX12_rounds_145 : decode cX12_rounds 145 = .ok (.getfield 221, 3) := by decide +kernel
theorem dX12_rounds_148 : decode cX12_rounds 148 = .ok (.if_icmp .ge 104, 3) := by decide +kernel
theorem dX12_rounds_151 : decode cX12_rounds 151 = .ok (.iconst 0, 1) := by decide +kernel
theorem dX12_rounds_152 : decode cX12_rounds 152 = .ok (.istore 4, 2) := by decide +kernel
theorem dX12_rounds_154 : decode cX12_rounds 154 = .ok (.aload_n 0, 1) := by decide +kernel
theorem dX12_rounds_155 : decode cX12_rounds 155 = .ok (.getfield 54, 3) := by decide +kernel
theorem dX12_rounds_158 : decode cX12_rounds 158 = .ok (.iload_n 3, 1) := by decide +kernel
theorem dX12_rounds_159 : decode cX12_rounds 159 = .ok (.iconst 0, 1) := by decide +kernel
theorem dX12_rounds_160 : decode cX12_rounds 160 = .ok (.iastore, 1) := by decide +kernel
theorem dX12_rounds_161 : decode cX12_rounds 161 = .ok (.iconst 0, 1) := by decide +kernel
theorem dX12_rounds_162 : decode cX12_rounds 162 = .ok (.istore 5, 2) := by decide +kernel
theorem dX12_rounds_164 : decode cX12_rounds 164 = .ok (.iload 5, 2) := by decide +kernel
theorem dX12_rounds_166 : decode cX12_rounds 166 = .ok (.aload_n 0, 1) := by decide +kernel
theorem dX12_rounds_167 : decode cX12_rounds 167 = .ok (.getfield 199, 3) := by decide +kernel
theorem dX12_rounds_170 : decode cX12_rounds 170 = .ok (.if_icmp .ge 63, 3) := by decide +kernel
theorem dX12_rounds_173 : decode cX12_rounds 173 = .ok (.aload_n 0, 1) := by decide +kernel
theorem dX12_rounds_174 : decode cX12_rounds 174 = .ok (.getfield 42, 3) := by decide +kernel
theorem dX12_rounds_177 : decode cX12_rounds 177 = .ok (.iload 5, 2) := by decide +kernel
theorem dX12_rounds_179 : decode cX12_rounds 179 = .ok (.iaload, 1) := by decide +kernel
theorem dX12_rounds_180 : decode cX12_rounds 180 = .ok (.iload_n 3, 1) := by decide +kernel
theorem dX12_rounds_181 : decode cX12_rounds 181 = .ok (.if_icmp .eq 6, 3) := by decide +kernel
theorem dX12_rounds_184 : decode cX12_rounds 184 = .ok (.goto 43, 3) := by decide +kernel
theorem dX12_rounds_187 : decode cX12_rounds 187 = .ok (.aload_n 0, 1) := by decide +kernel
theorem dX12_rounds_188 : decode cX12_rounds 188 = .ok (.getfield 48, 3) := by decide +kernel
theorem dX12_rounds_191 : decode cX12_rounds 191 = .ok (.aload_n 0, 1) := by decide +kernel
theorem dX12_rounds_192 : decode cX12_rounds 192 = .ok (.getfield 30, 3) := by decide +kernel
theorem dX12_rounds_195 : decode cX12_rounds 195 = .ok (.iload 5, 2) := by decide +kernel
theorem dX12_rounds_197 : decode cX12_rounds 197 = .ok (.iaload, 1) := by decide +kernel
theorem dX12_rounds_198 : decode cX12_rounds 198 = .ok (.iload_n 3, 1) := by decide +kernel
theorem dX12_rounds_199 : decode cX12_rounds 199 = .ok (.iastore, 1) := by decide +kernel
theorem dX12_rounds_200 : decode cX12_rounds 200 = .ok (.iload 4, 2) := by decide +kernel
theorem dX12_rounds_202 : decode cX12_rounds 202 = .ok (.iconst 1, 1) := by decide +kernel
theorem dX12_rounds_203 : decode cX12_rounds 203 = .ok (.iload 5, 2) := by decide +kernel
theorem dX12_rounds_205 : decode cX12_rounds 205 = .ok (.ishl, 1) := by decide +kernel
theorem dX12_rounds_206 : decode cX12_rounds 206 = .ok (.ior, 1) := by decide +kernel
theorem dX12_rounds_207 : decode cX12_rounds 207 = .ok (.istore 4, 2) := by decide +kernel
theorem dX12_rounds_209 : decode cX12_rounds 209 = .ok (.aload_n 0, 1) := by decide +kernel
theorem dX12_rounds_210 : decode cX12_rounds 210 = .ok (.getfield 54, 3) := by decide +kernel
theorem dX12_rounds_213 : decode cX12_rounds 213 = .ok (.iload_n 3, 1) := by decide +kernel
theorem dX12_rounds_214 : decode cX12_rounds 214 = .ok (.dup2, 1) := by decide +kernel
theorem dX12_rounds_215 : decode cX12_rounds 215 = .ok (.iaload, 1) := by decide +kernel
theorem dX12_rounds_216 : decode cX12_rounds 216 = .ok (.iconst 1, 1) := by decide +kernel
theorem dX12_rounds_217 : decode cX12_rounds 217 = .ok (.aload_n 0, 1) := by decide +kernel
theorem dX12_rounds_218 : decode cX12_rounds 218 = .ok (.getfield 30, 3) := by decide +kernel
theorem dX12_rounds_221 : decode cX12_rounds 221 = .ok (.iload 5, 2) := by decide +kernel
theorem dX12_rounds_223 : decode cX12_rounds 223 = .ok (.iaload, 1) := by decide +kernel
theorem dX12_rounds_224 : decode cX12_rounds 224 = .ok (.ishl, 1) := by decide +kernel
theorem dX12_rounds_225 : decode cX12_rounds 225 = .ok (.ior, 1) := by decide +kernel
theorem dX12_rounds_226 : decode cX12_rounds 226 = .ok (.iastore, 1) := by decide +kernel
theorem dX12_rounds_227 : decode cX12_rounds 227 = .ok (.iinc 5 1, 3) := by decide +kernel
theorem dX12_rounds_230 : decode cX12_rounds 230 = .ok (.goto (-66), 3) := by decide +kernel
theorem dX12_rounds_233 : decode cX12_rounds 233 = .ok (.aload_n 0, 1) := by decide +kernel
theorem dX12_rounds_234 : decode cX12_rounds 234 = .ok (.getfield 51, 3) := by decide +kernel
theorem dX12_rounds_237 : decode cX12_rounds 237 = .ok (.iload_n 3, 1) := by decide +kernel
theorem dX12_rounds_238 : decode cX12_rounds 238 = .ok (.aload_n 0, 1) := by decide +kernel
theorem dX12_rounds_239 : decode cX12_rounds 239 = .ok (.getfield 36, 3) := by decide +kernel
theorem dX12_rounds_242 : decode cX12_rounds 242 = .ok (.iload 4, 2) := by decide +kernel
theorem dX12_rounds_244 : decode cX12_rounds 244 = .ok (.iaload, 1) := by decide +kernel
theorem dX12_rounds_245 : decode cX12_rounds 245 = .ok (.iastore, 1) := by decide +kernel
theorem dX12_rounds_246 : decode cX12_rounds 246 = .ok (.iinc 3 1, 3) := by decide +kernel
theorem dX12_rounds_249 : decode cX12_rounds 249 = .ok (.goto (-106), 3) := by decide +kernel
theorem dX12_rounds_252 : decode cX12_rounds 252 = .ok (.aload_n 0, 1) := by decide +kernel
theorem dX12_rounds_253 : decode cX12_rounds 253 = .ok (.iconst 1, 1) := by decide +kernel
theorem dX12_rounds_254 : decode cX12_rounds 254 = .ok (.putfield 227, 3) := by decide +kernel
theorem dX12_rounds_257 : decode cX12_rounds 257 = .ok (.aload_n 0, 1) := by decide +kernel
theorem dX12_rounds_258 : decode cX12_rounds 258 = .ok (.getfield 221, 3) := by decide +kernel
theorem dX12_rounds_261 : decode cX12_rounds 261 = .ok (.ireturn, 1) := by decide +kernel
theorem dX12_round_0 : decode cX12_round 0 = .ok (.aload_n 0, 1) := by decide +kernel
theorem dX12_round_1 : decode cX12_round 1 = .ok (.getfield 227, 3) := by decide +kernel
theorem dX12_round_4 : decode cX12_round 4 = .ok (.ifCond .ne 6, 3) := by decide +kernel
theorem dX12_round_7 : decode cX12_round 7 = .ok (.bipush (-9), 2) := by decide +kernel
theorem dX12_round_9 : decode cX12_round 9 = .ok (.ireturn, 1) := by decide +kernel
theorem dX12_round_10 : decode cX12_round 10 = .ok (.iload_n 1, 1) := by decide +kernel
theorem dX12_round_11 : decode cX12_round 11 = .ok (.ifCond .ne 8, 3) := by decide +kernel
theorem dX12_round_14 : decode cX12_round 14 = .ok (.aload_n 0, 1) := by decide +kernel
theorem dX12_round_15 : decode cX12_round 15 = .ok (.getfield 224, 3) := by decide +kernel
theorem dX12_round_18 : decode cX12_round 18 = .ok (.ireturn, 1) := by decide +kernel
theorem dX12_round_19 : decode cX12_round 19 = .ok (.iload_n 1, 1) := by decide +kernel
theorem dX12_round_20 : decode cX12_round 20 = .ok (.bipush 10, 2) := by decide +kernel
theorem dX12_round_22 : decode cX12_round 22 = .ok (.bipush 21, 2) := by decide +kernel
theorem dX12_round_24 : decode cX12_round 24 = .ok (.invokestatic 188, 3) := by decide +kernel
theorem dX12_round_27 : decode cX12_round 27 = .ok (.ifCond .eq 13, 3) := by decide +kernel
theorem dX12_round_30 : decode cX12_round 30 = .ok (.aload_n 0, 1) := by decide +kernel
theorem dX12_round_31 : decode cX12_round 31 = .ok (.getfield 48, 3) := by decide +kernel
theorem dX12_round_34 : decode cX12_round 34 = .ok (.iload_n 1, 1) := by decide +kernel
theorem dX12_round_35 : decode cX12_round 35 = .ok (.bipush 10, 2) := by decide +kernel
theorem dX12_round_37 : decode cX12_round 37 = .ok (.isub, 1) := by decide +kernel
theorem dX12_round_38 : decode cX12_round 38 = .ok (.iaload, 1) := by decide +kernel
theorem dX12_round_39 : decode cX12_round 39 = .ok (.ireturn, 1) := by decide +kernel
theorem dX12_round_40 : decode cX12_round 40 = .ok (.iload_n 1, 1) := by decide +kernel
theorem dX12_round_41 : decode cX12_round 41 = .ok (.bipush 30, 2) := by decide +kernel
theorem dX12_round_43 : decode cX12_round 43 = .ok (.bipush 29, 2) := by decide +kernel
theorem dX12_round_45 : decode cX12_round 45 = .ok (.aload_n 0, 1) := by decide +kernel
theorem dX12_round_46 : decode cX12_round 46 = .ok (.getfield 221, 3) := by decide +kernel
theorem dX12_round_49 : decode cX12_round 49 = .ok (.iadd, 1) := by decide +kernel
theorem dX12_round_50 : decode cX12_round 50 = .ok (.invokestatic 188, 3) := by decide +kernel
theorem dX12_round_53 : decode cX12_round 53 = .ok (.ifCond .eq 13, 3) := by decide +kernel
theorem dX12_round_56 : decode cX12_round 56 = .ok (.aload_n 0, 1) := by decide +kernel
theorem dX12_round_57 : decode cX12_round 57 = .ok (.getfield 51, 3) := by decide +kernel
theorem dX12_round_60 : decode cX12_round 60 = .ok (.iload_n 1, 1) := by decide +kernel
theorem dX12_round_61 : decode cX12_round 61 = .ok (.bipush 30, 2) := by decide +kernel
theorem dX12_round_63 : decode cX12_round 63 = .ok (.isub, 1) := by decide +kernel
theorem dX12_round_64 : decode cX12_round 64 = .ok (.iaload, 1) := by decide +kernel
theorem dX12_round_65 : decode cX12_round 65 = .ok (.ireturn, 1) := by decide +kernel
theorem dX12_round_66 : decode cX12_round 66 = .ok (.iload_n 1, 1) := by decide +kernel
theorem dX12_round_67 : decode cX12_round 67 = .ok (.bipush 50, 2) := by decide +kernel
theorem dX12_round_69 : decode cX12_round 69 = .ok (.bipush 49, 2) := by decide +kernel
theorem dX12_round_71 : decode cX12_round 71 = .ok (.aload_n 0, 1) := by decide +kernel
theorem dX12_round_72 : decode cX12_round 72 = .ok (.getfield 221, 3) := by decide +kernel
theorem dX12_round_75 : decode cX12_round 75 = .ok (.iadd, 1) := by decide +kernel
theorem dX12_round_76 : decode cX12_round 76 = .ok (.invokestatic 188, 3) := by decide +kernel
theorem dX12_round_79 : decode cX12_round 79 = .ok (.ifCond .eq 15, 3) := by decide +kernel
theorem dX12_round_82 : decode cX12_round 82 = .ok (.aload_n 0, 1) := by decide +kernel
theorem dX12_round_83 : decode cX12_round 83 = .ok (.getfield 54, 3) := by decide +kernel
theorem dX12_round_86 : decode cX12_round 86 = .ok (.iload_n 1, 1) := by decide +kernel
theorem dX12_round_87 : decode cX12_round 87 = .ok (.bipush 50, 2) := by decide +kernel
theorem dX12_round_89 : decode cX12_round 89 = .ok (.isub, 1) := by decide +kernel
theorem dX12_round_90 : decode cX12_round 90 = .ok (.iaload, 1) := by decide +kernel
theorem dX12_round_91 : decode cX12_round 91 = .ok (.goto 5, 3) := by decide +kernel
theorem dX12_round_94 : decode cX12_round 94 = .ok (.bipush (-9), 2) := by decide +kernel
theorem dX12_round_96 : decode cX12_round 96 = .ok (.ireturn, 1) := by decide +kernel
theorem dX12_cry_0 : decode cX12_cry 0 = .ok (.iload_n 1, 1) := by decide +kernel
theorem dX12_cry_1 : decode cX12_cry 1 = .ok (.invokestatic 192, 3) := by decide +kernel
theorem dX12_cry_4 : decode cX12_cry 4 = .ok (.ifCond .eq 14, 3) := by decide +kernel
theorem dX12_cry_7 : decode cX12_cry 7 = .ok (.iload_n 2, 1) := by decide +kernel
theorem dX12_cry_8 : decode cX12_cry 8 = .ok (.iconst 0, 1) := by decide +kernel
theorem dX12_cry_9 : decode cX12_cry 9 = .ok (.sipush 999, 3) := by decide +kernel
theorem dX12_cry_12 : decode cX12_cry 12 = .ok (.invokestatic 188, 3) := by decide +kernel
theorem dX12_cry_15 : decode cX12_cry 15 = .ok (.ifCond .ne 6, 3) := by decide +kernel
theorem dX12_cry_18 : decode cX12_cry 18 = .ok (.bipush (-2), 2) := by decide +kernel
theorem dX12_cry_20 : decode cX12_cry 20 = .ok (.ireturn, 1) := by decide +kernel
theorem dX12_cry_21 : decode cX12_cry 21 = .ok (.iconst 0, 1) := by decide +kernel
theorem dX12_cry_22 : decode cX12_cry 22 = .ok (.istore_n 3, 1) := by decide +kernel
theorem dX12_cry_23 : decode cX12_cry 23 = .ok (.iconst 0, 1) := by decide +kernel
theorem dX12_cry_24 : decode cX12_cry 24 = .ok (.istore 4, 2) := by decide +kernel
theorem dX12_cry_26 : decode cX12_cry 26 = .ok (.iload 4, 2) := by decide +kernel
theorem dX12_cry_28 : decode cX12_cry 28 = .ok (.bipush 12, 2) := by decide +kernel
theorem dX12_cry_30 : decode cX12_cry 30 = .ok (.if_icmp .ge 32, 3) := by decide +kernel
theorem dX12_cry_33 : decode cX12_cry 33 = .ok (.aload_n 0, 1) := by decide +kernel
theorem dX12_cry_34 : decode cX12_cry 34 = .ok (.getfield 27, 3) := by decide +kernel
theorem dX12_cry_37 : decode cX12_cry 37 = .ok (.bipush 12, 2) := by decide +kernel
theorem dX12_cry_39 : decode cX12_cry 39 = .ok (.iload_n 1, 1) := by decide +kernel
theorem dX12_cry_40 : decode cX12_cry 40 = .ok (.imul, 1) := by decide +kernel
theorem dX12_cry_41 : decode cX12_cry 41 = .ok (.iload 4, 2) := by decide +kernel
theorem dX12_cry_43 : decode cX12_cry 43 = .ok (.iadd, 1) := by decide +kernel
theorem dX12_cry_44 : decode cX12_cry 44 = .ok (.iaload, 1) := by decide +kernel
theorem dX12_cry_45 : decode cX12_cry 45 = .ok (.iload_n 2, 1) := by decide +kernel
theorem dX12_cry_46 : decode cX12_cry 46 = .ok (.if_icmp .gt 10, 3) := by decide +kernel
theorem dX12_cry_49 : decode cX12_cry 49 = .ok (.iload_n 3, 1) := by decide +kernel
theorem dX12_cry_50 : decode cX12_cry 50 = .ok (.iconst 1, 1) := by decide +kernel
theorem dX12_cry_51 : decode cX12_cry 51 = .ok (.iload 4, 2) := by decide +kernel
theorem dX12_cry_53 : decode cX12_cry 53 = .ok (.ishl, 1) := by decide +kernel
theorem dX12_cry_54 : decode cX12_cry 54 = .ok (.ior, 1) := by decide +kernel
theorem dX12_cry_55 : decode cX12_cry 55 = .ok (.istore_n 3, 1) := by decide +kernel
theorem dX12_cry_56 : decode cX12_cry 56 = .ok (.iinc 4 1, 3) := by decide +kernel
theorem dX12_cry_59 : decode cX12_cry 59 = .ok (.goto (-33), 3) := by decide +kernel
theorem dX12_cry_62 : decode cX12_cry 62 = .ok (.iload_n 3, 1) := by decide +kernel
theorem dX12_cry_63 : decode cX12_cry 63 = .ok (.ireturn, 1) := by decide +kernel
theorem dX12_plain_0 : decode cX12_plain 0 = .ok (.iload_n 0, 1) := by decide +kernel
theorem dX12_plain_1 : decode cX12_plain 1 = .ok (.ifCond .ne 8, 3) := by decide +kernel
theorem dX12_plain_4 : decode cX12_plain 4 = .ok (.bipush 21, 2) := by decide +kernel
theorem dX12_plain_6 : decode cX12_plain 6 = .ok (.goto 58, 3) := by decide +kernel
theorem dX12_plain_9 : decode cX12_plain 9 = .ok (.iload_n 0, 1) := by decide +kernel
theorem dX12_plain_10 : decode cX12_plain 10 = .ok (.iconst 1, 1) := by decide +kernel
theorem dX12_plain_11 : decode cX12_plain 11 = .ok (.if_icmp .ne 8, 3) := by decide +kernel
theorem dX12_plain_14 : decode cX12_plain 14 = .ok (.bipush 60, 2) := by decide +kernel
theorem dX12_plain_16 : decode cX12_plain 16 = .ok (.goto 48, 3) := by decide +kernel
theorem dX12_plain_19 : decode cX12_plain 19 = .ok (.iload_n 0, 1) := by decide +kernel
theorem dX12_plain_20 : decode cX12_plain 20 = .ok (.iconst 2, 1) := by decide +kernel
theorem dX12_plain_21 : decode cX12_plain 21 = .ok (.if_icmp .ne 8, 3) := by decide +kernel
theorem dX12_plain_24 : decode cX12_plain 24 = .ok (.bipush 7, 2) := by decide +kernel
theorem dX12_plain_26 : decode cX12_plain 26 = .ok (.goto 38, 3) := by decide +kernel
theorem dX12_plain_29 : decode cX12_plain 29 = .ok (.iload_n 0, 1) := by decide +kernel
theorem dX12_plain_30 : decode cX12_plain 30 = .ok (.iconst 3, 1) := by decide +kernel
theorem dX12_plain_31 : decode cX12_plain 31 = .ok (.if_icmp .ne 8, 3) := by decide +kernel
theorem dX12_plain_34 : decode cX12_plain 34 = .ok (.bipush 100, 2) := by decide +kernel
theorem dX12_plain_36 : decode cX12_plain 36 = .ok (.goto 28, 3) := by decide +kernel
theorem dX12_plain_39 : decode cX12_plain 39 = .ok (.iload_n 0, 1) := by decide +kernel
theorem dX12_plain_40 : decode cX12_plain 40 = .ok (.iconst 4, 1) := by decide +kernel
theorem dX12_plain_41 : decode cX12_plain 41 = .ok (.if_icmp .eq 8, 3) := by decide +kernel
theorem dX12_plain_44 : decode cX12_plain 44 = .ok (.iload_n 0, 1) := by decide +kernel
theorem dX12_plain_45 : decode cX12_plain 45 = .ok (.iconst 5, 1) := by decide +kernel
theorem dX12_plain_46 : decode cX12_plain 46 = .ok (.if_icmp .ne 7, 3) := by decide +kernel
theorem dX12_plain_49 : decode cX12_plain 49 = .ok (.iconst (-1), 1) := by decide +kernel
theorem dX12_plain_50 : decode cX12_plain 50 = .ok (.goto 14, 3) := by decide +kernel
theorem dX12_plain_53 : decode cX12_plain 53 = .ok (.iload_n 0, 1) := by decide +kernel
theorem dX12_plain_54 : decode cX12_plain 54 = .ok (.bipush 6, 2) := by decide +kernel
theorem dX12_plain_56 : decode cX12_plain 56 = .ok (.if_icmp .ne 7, 3) := by decide +kernel
theorem dX12_plain_59 : decode cX12_plain 59 = .ok (.iconst 0, 1) := by decide +kernel
theorem dX12_plain_60 : decode cX12_plain 60 = .ok (.goto 4, 3) := by decide +kernel
theorem dX12_plain_63 : decode cX12_plain 63 = .ok (.iconst 4, 1) := by decide +kernel
theorem dX12_plain_64 : decode cX12_plain 64 = .ok (.ireturn, 1) := by decide +kernel
theorem dX12_number_0 : decode cX12_number 0 = .ok (.aload_n 0, 1) := by decide +kernel
theorem dX12_number_1 : decode cX12_number 1 = .ok (.getfield 165, 3) := by decide +kernel
theorem dX12_number_4 : decode cX12_number 4 = .ok (.iconst 2, 1) := by decide +kernel
theorem dX12_number_5 : decode cX12_number 5 = .ok (.if_icmp .eq 9, 3) := by decide +kernel
theorem dX12_number_8 : decode cX12_number 8 = .ok (.aload_n 0, 1) := by decide +kernel
theorem dX12_number_9 : decode cX12_number 9 = .ok (.iconst 1, 1) := by decide +kernel
theorem dX12_number_10 : decode cX12_number 10 = .ok (.invokevirtual 231, 3) := by decide +kernel
theorem dX12_number_13 : decode cX12_number 13 = .ok (.ireturn, 1) := by decide +kernel
theorem dX12_number_14 : decode cX12_number 14 = .ok (.aload_n 0, 1) := by decide +kernel
theorem dX12_number_15 : decode cX12_number 15 = .ok (.getfield 182, 3) := by decide +kernel
theorem dX12_number_18 : decode cX12_number 18 = .ok (.iload_n 2, 1) := by decide +kernel
theorem dX12_number_19 : decode cX12_number 19 = .ok (.iload_n 3, 1) := by decide +kernel
theorem dX12_number_20 : decode cX12_number 20 = .ok (.invokestatic 188, 3) := by decide +kernel
theorem dX12_number_23 : decode cX12_number 23 = .ok (.ifCond .ne 9, 3) := by decide +kernel
theorem dX12_number_26 : decode cX12_number 26 = .ok (.aload_n 0, 1) := by decide +kernel
theorem dX12_number_27 : decode cX12_number 27 = .ok (.iconst 2, 1) := by decide +kernel
theorem dX12_number_28 : decode cX12_number 28 = .ok (.invokevirtual 231, 3) := by decide +kernel
theorem dX12_number_31 : decode cX12_number 31 = .ok (.ireturn, 1) := by decide +kernel
theorem dX12_number_32 : decode cX12_number 32 = .ok (.aload_n 0, 1) := by decide +kernel
theorem dX12_number_33 : decode cX12_number 33 = .ok (.getfield 57, 3) := by decide +kernel
