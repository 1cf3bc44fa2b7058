theorem d_M_put_74 : decode M_M_put.2.1 74 = .ok (.putfield 96, 3) := by decide +kernel
theorem d_M_put_77 : decode M_M_put.2.1 77 = .ok (.iload_n 3, 1) := by decide +kernel
theorem d_M_put_78 : decode M_M_put.2.1 78 = .ok (.ireturn, 1) := by decide +kernel
theorem d_M_rebuild_0 : decode M_M_rebuild.2.1 0 = .ok (.iload_n 1, 1) := by decide +kernel
theorem d_M_rebuild_1 : decode M_M_rebuild.2.1 1 = .ok (.invokestatic 72, 3) := by decide +kernel
theorem d_M_rebuild_4 : decode M_M_rebuild.2.1 4 = .ok (.ifCond .ne 6, 3) := by decide +kernel
theorem d_M_rebuild_7 : decode M_M_rebuild.2.1 7 = .ok (.bipush (-2), 2) := by decide +kernel
theorem d_M_rebuild_9 : decode M_M_rebuild.2.1 9 = .ok (.ireturn, 1) := by decide +kernel
theorem d_M_rebuild_10 : decode M_M_rebuild.2.1 10 = .ok (.aload_n 0, 1) := by decide +kernel
theorem d_M_rebuild_11 : decode M_M_rebuild.2.1 11 = .ok (.getfield 17, 3) := by decide +kernel
theorem d_M_rebuild_14 : decode M_M_rebuild.2.1 14 = .ok (.iload_n 1, 1) := by decide +kernel
theorem d_M_rebuild_15 : decode M_M_rebuild.2.1 15 = .ok (.baload, 1) := by decide +kernel
theorem d_M_rebuild_16 : decode M_M_rebuild.2.1 16 = .ok (.ifCond .eq 6, 3) := by decide +kernel
theorem d_M_rebuild_19 : decode M_M_rebuild.2.1 19 = .ok (.bipush (-3), 2) := by decide +kernel
theorem d_M_rebuild_21 : decode M_M_rebuild.2.1 21 = .ok (.ireturn, 1) := by decide +kernel
theorem d_M_rebuild_22 : decode M_M_rebuild.2.1 22 = .ok (.iload_n 2, 1) := by decide +kernel
theorem d_M_rebuild_23 : decode M_M_rebuild.2.1 23 = .ok (.iconst 1, 1) := by decide +kernel
theorem d_M_rebuild_24 : decode M_M_rebuild.2.1 24 = .ok (.iload_n 1, 1) := by decide +kernel
theorem d_M_rebuild_25 : decode M_M_rebuild.2.1 25 = .ok (.ishl, 1) := by decide +kernel
theorem d_M_rebuild_26 : decode M_M_rebuild.2.1 26 = .ok (.iconst (-1), 1) := by decide +kernel
theorem d_M_rebuild_27 : decode M_M_rebuild.2.1 27 = .ok (.ixor, 1) := by decide +kernel
theorem d_M_rebuild_28 : decode M_M_rebuild.2.1 28 = .ok (.iand, 1) := by decide +kernel
theorem d_M_rebuild_29 : decode M_M_rebuild.2.1 29 = .ok (.istore_n 3, 1) := by decide +kernel
theorem d_M_rebuild_30 : decode M_M_rebuild.2.1 30 = .ok (.aload_n 0, 1) := by decide +kernel
theorem d_M_rebuild_31 : decode M_M_rebuild.2.1 31 = .ok (.iload_n 1, 1) := by decide +kernel
theorem d_M_rebuild_32 : decode M_M_rebuild.2.1 32 = .ok (.invokevirtual 131, 3) := by decide +kernel
theorem d_M_rebuild_35 : decode M_M_rebuild.2.1 35 = .ok (.istore 4, 2) := by decide +kernel
theorem d_M_rebuild_37 : decode M_M_rebuild.2.1 37 = .ok (.iconst 0, 1) := by decide +kernel
theorem d_M_rebuild_38 : decode M_M_rebuild.2.1 38 = .ok (.istore 5, 2) := by decide +kernel
theorem d_M_rebuild_40 : decode M_M_rebuild.2.1 40 = .ok (.iconst 0, 1) := by decide +kernel
theorem d_M_rebuild_41 : decode M_M_rebuild.2.1 41 = .ok (.istore 6, 2) := by decide +kernel
theorem d_M_rebuild_43 : decode M_M_rebuild.2.1 43 = .ok (.iload 6, 2) := by decide +kernel
theorem d_M_rebuild_45 : decode M_M_rebuild.2.1 45 = .ok (.bipush 6, 2) := by decide +kernel
theorem d_M_rebuild_47 : decode M_M_rebuild.2.1 47 = .ok (.if_icmp .ge 124, 3) := by decide +kernel
theorem d_M_rebuild_50 : decode M_M_rebuild.2.1 50 = .ok (.aload_n 0, 1) := by decide +kernel
theorem d_M_rebuild_51 : decode M_M_rebuild.2.1 51 = .ok (.iload_n 1, 1) := by decide +kernel
theorem d_M_rebuild_52 : decode M_M_rebuild.2.1 52 = .ok (.iload 6, 2) := by decide +kernel
theorem d_M_rebuild_54 : decode M_M_rebuild.2.1 54 = .ok (.invokevirtual 162, 3) := by decide +kernel
theorem d_M_rebuild_57 : decode M_M_rebuild.2.1 57 = .ok (.ifCond .eq 108, 3) := by decide +kernel
theorem d_M_rebuild_60 : decode M_M_rebuild.2.1 60 = .ok (.aload_n 0, 1) := by decide +kernel
theorem d_M_rebuild_61 : decode M_M_rebuild.2.1 61 = .ok (.iload 6, 2) := by decide +kernel
theorem d_M_rebuild_63 : decode M_M_rebuild.2.1 63 = .ok (.invokevirtual 140, 3) := by decide +kernel
theorem d_M_rebuild_66 : decode M_M_rebuild.2.1 66 = .ok (.istore 7, 2) := by decide +kernel
theorem d_M_rebuild_68 : decode M_M_rebuild.2.1 68 = .ok (.aload_n 0, 1) := by decide +kernel
theorem d_M_rebuild_69 : decode M_M_rebuild.2.1 69 = .ok (.iload 6, 2) := by decide +kernel
theorem d_M_rebuild_71 : decode M_M_rebuild.2.1 71 = .ok (.iload 7, 2) := by decide +kernel
theorem d_M_rebuild_73 : decode M_M_rebuild.2.1 73 = .ok (.invokevirtual 146, 3) := by decide +kernel
theorem d_M_rebuild_76 : decode M_M_rebuild.2.1 76 = .ok (.istore 8, 2) := by decide +kernel
theorem d_M_rebuild_78 : decode M_M_rebuild.2.1 78 = .ok (.iload 8, 2) := by decide +kernel
theorem d_M_rebuild_80 : decode M_M_rebuild.2.1 80 = .ok (.ifCond .le 22, 3) := by decide +kernel
theorem d_M_rebuild_83 : decode M_M_rebuild.2.1 83 = .ok (.aload_n 0, 1) := by decide +kernel
theorem d_M_rebuild_84 : decode M_M_rebuild.2.1 84 = .ok (.iload 6, 2) := by decide +kernel
theorem d_M_rebuild_86 : decode M_M_rebuild.2.1 86 = .ok (.iload 7, 2) := by decide +kernel
theorem d_M_rebuild_88 : decode M_M_rebuild.2.1 88 = .ok (.iload_n 3, 1) := by decide +kernel
theorem d_M_rebuild_89 : decode M_M_rebuild.2.1 89 = .ok (.bipush 8, 2) := by decide +kernel
theorem d_M_rebuild_91 : decode M_M_rebuild.2.1 91 = .ok (.invokevirtual 143, 3) := by decide +kernel
theorem d_M_rebuild_94 : decode M_M_rebuild.2.1 94 = .ok (.bipush 8, 2) := by decide +kernel
theorem d_M_rebuild_96 : decode M_M_rebuild.2.1 96 = .ok (.if_icmp .ge 6, 3) := by decide +kernel
theorem d_M_rebuild_99 : decode M_M_rebuild.2.1 99 = .ok (.bipush (-4), 2) := by decide +kernel
theorem d_M_rebuild_101 : decode M_M_rebuild.2.1 101 = .ok (.ireturn, 1) := by decide +kernel
theorem d_M_rebuild_102 : decode M_M_rebuild.2.1 102 = .ok (.iload_n 1, 1) := by decide +kernel
theorem d_M_rebuild_103 : decode M_M_rebuild.2.1 103 = .ok (.iload 6, 2) := by decide +kernel
theorem d_M_rebuild_105 : decode M_M_rebuild.2.1 105 = .ok (.iconst 0, 1) := by decide +kernel
theorem d_M_rebuild_106 : decode M_M_rebuild.2.1 106 = .ok (.invokestatic 79, 3) := by decide +kernel
theorem d_M_rebuild_109 : decode M_M_rebuild.2.1 109 = .ok (.istore 9, 2) := by decide +kernel
theorem d_M_rebuild_111 : decode M_M_rebuild.2.1 111 = .ok (.iload 4, 2) := by decide +kernel
theorem d_M_rebuild_113 : decode M_M_rebuild.2.1 113 = .ok (.iload 8, 2) := by decide +kernel
theorem d_M_rebuild_115 : decode M_M_rebuild.2.1 115 = .ok (.invokestatic 83, 3) := by decide +kernel
theorem d_M_rebuild_118 : decode M_M_rebuild.2.1 118 = .ok (.aload_n 0, 1) := by decide +kernel
theorem d_M_rebuild_119 : decode M_M_rebuild.2.1 119 = .ok (.getfield 30, 3) := by decide +kernel
theorem d_M_rebuild_122 : decode M_M_rebuild.2.1 122 = .ok (.iload 9, 2) := by decide +kernel
theorem d_M_rebuild_124 : decode M_M_rebuild.2.1 124 = .ok (.baload, 1) := by decide +kernel
theorem d_M_rebuild_125 : decode M_M_rebuild.2.1 125 = .ok (.ifCond .eq 16, 3) := by decide +kernel
theorem d_M_rebuild_128 : decode M_M_rebuild.2.1 128 = .ok (.aload_n 0, 1) := by decide +kernel
theorem d_M_rebuild_129 : decode M_M_rebuild.2.1 129 = .ok (.getfield 36, 3) := by decide +kernel
theorem d_M_rebuild_132 : decode M_M_rebuild.2.1 132 = .ok (.iload 9, 2) := by decide +kernel
theorem d_M_rebuild_134 : decode M_M_rebuild.2.1 134 = .ok (.iaload, 1) := by decide +kernel
theorem d_M_rebuild_135 : decode M_M_rebuild.2.1 135 = .ok (.invokestatic 83, 3) := by decide +kernel
theorem d_M_rebuild_138 : decode M_M_rebuild.2.1 138 = .ok (.goto 4, 3) := by decide +kernel
theorem d_M_rebuild_141 : decode M_M_rebuild.2.1 141 = .ok (.iconst 0, 1) := by decide +kernel
theorem d_M_rebuild_142 : decode M_M_rebuild.2.1 142 = .ok (.isub, 1) := by decide +kernel
theorem d_M_rebuild_143 : decode M_M_rebuild.2.1 143 = .ok (.iadd, 1) := by decide +kernel
theorem d_M_rebuild_144 : decode M_M_rebuild.2.1 144 = .ok (.istore 4, 2) := by decide +kernel
theorem d_M_rebuild_146 : decode M_M_rebuild.2.1 146 = .ok (.iload 5, 2) := by decide +kernel
theorem d_M_rebuild_148 : decode M_M_rebuild.2.1 148 = .ok (.ifCond .ne 10, 3) := by decide +kernel
theorem d_M_rebuild_151 : decode M_M_rebuild.2.1 151 = .ok (.iload 4, 2) := by decide +kernel
theorem d_M_rebuild_153 : decode M_M_rebuild.2.1 153 = .ok (.bipush 40, 2) := by decide +kernel
theorem d_M_rebuild_155 : decode M_M_rebuild.2.1 155 = .ok (.if_icmp .le 7, 3) := by decide +kernel
theorem d_M_rebuild_158 : decode M_M_rebuild.2.1 158 = .ok (.iconst 1, 1) := by decide +kernel
theorem d_M_rebuild_159 : decode M_M_rebuild.2.1 159 = .ok (.goto 4, 3) := by decide +kernel
theorem d_M_rebuild_162 : decode M_M_rebuild.2.1 162 = .ok (.iconst 0, 1) := by decide +kernel
theorem d_M_rebuild_163 : decode M_M_rebuild.2.1 163 = .ok (.istore 5, 2) := by decide +kernel
theorem d_M_rebuild_165 : decode M_M_rebuild.2.1 165 = .ok (.iinc 6 1, 3) := by decide +kernel
theorem d_M_rebuild_168 : decode M_M_rebuild.2.1 168 = .ok (.goto (-125), 3) := by decide +kernel
theorem d_M_rebuild_171 : decode M_M_rebuild.2.1 171 = .ok (.iload 5, 2) := by decide +kernel
theorem d_M_rebuild_173 : decode M_M_rebuild.2.1 173 = .ok (.ifCond .eq 6, 3) := by decide +kernel
theorem d_M_rebuild_176 : decode M_M_rebuild.2.1 176 = .ok (.bipush (-5), 2) := by decide +kernel
theorem d_M_rebuild_178 : decode M_M_rebuild.2.1 178 = .ok (.ireturn, 1) := by decide +kernel
theorem d_M_rebuild_179 : decode M_M_rebuild.2.1 179 = .ok (.iconst 0, 1) := by decide +kernel
theorem d_M_rebuild_180 : decode M_M_rebuild.2.1 180 = .ok (.istore 6, 2) := by decide +kernel
theorem d_M_rebuild_182 : decode M_M_rebuild.2.1 182 = .ok (.iconst 0, 1) := by decide +kernel
theorem d_M_rebuild_183 : decode M_M_rebuild.2.1 183 = .ok (.istore 7, 2) := by decide +kernel
theorem d_M_rebuild_185 : decode M_M_rebuild.2.1 185 = .ok (.iload 7, 2) := by decide +kernel
theorem d_M_rebuild_187 : decode M_M_rebuild.2.1 187 = .ok (.bipush 6, 2) := by decide +kernel
theorem d_M_rebuild_189 : decode M_M_rebuild.2.1 189 = .ok (.if_icmp .ge 32, 3) := by decide +kernel
theorem d_M_rebuild_192 : decode M_M_rebuild.2.1 192 = .ok (.aload_n 0, 1) := by decide +kernel
theorem d_M_rebuild_193 : decode M_M_rebuild.2.1 193 = .ok (.iload_n 1, 1) := by decide +kernel
theorem d_M_rebuild_194 : decode M_M_rebuild.2.1 194 = .ok (.iload 7, 2) := by decide +kernel
theorem d_M_rebuild_196 : decode M_M_rebuild.2.1 196 = .ok (.invokevirtual 162, 3) := by decide +kernel
theorem d_M_rebuild_199 : decode M_M_rebuild.2.1 199 = .ok (.ifCond .eq 16, 3) := by decide +kernel
theorem d_M_rebuild_202 : decode M_M_rebuild.2.1 202 = .ok (.iload 6, 2) := by decide +kernel
theorem d_M_rebuild_204 : decode M_M_rebuild.2.1 204 = .ok (.aload_n 0, 1) := by decide +kernel
theorem d_M_rebuild_205 : decode M_M_rebuild.2.1 205 = .ok (.iload_n 1, 1) := by decide +kernel
theorem d_M_rebuild_206 : decode M_M_rebuild.2.1 206 = .ok (.iload 7, 2) := by decide +kernel
theorem d_M_rebuild_208 : decode M_M_rebuild.2.1 208 = .ok (.iload_n 3, 1) := by decide +kernel
theorem d_M_rebuild_209 : decode M_M_rebuild.2.1 209 = .ok (.invokevirtual 166, 3) := by decide +kernel
theorem d_M_rebuild_212 : decode M_M_rebuild.2.1 212 = .ok (.iadd, 1) := by decide +kernel
theorem d_M_rebuild_213 : decode M_M_rebuild.2.1 213 = .ok (.istore 6, 2) := by decide +kernel
theorem d_M_rebuild_215 : decode M_M_rebuild.2.1 215 = .ok (.iinc 7 1, 3) := by decide +kernel
theorem d_M_rebuild_218 : decode M_M_rebuild.2.1 218 = .ok (.goto (-33), 3) := by decide +kernel
theorem d_M_rebuild_221 : decode M_M_rebuild.2.1 221 = .ok (.aload_n 0, 1) := by decide +kernel
theorem d_M_rebuild_222 : decode M_M_rebuild.2.1 222 = .ok (.dup, 1) := by decide +kernel
theorem d_M_rebuild_223 : decode M_M_rebuild.2.1 223 = .ok (.getfield 169, 3) := by decide +kernel
theorem d_M_rebuild_226 : decode M_M_rebuild.2.1 226 = .ok (.iload 6, 2) := by decide +kernel
theorem d_M_rebuild_228 : decode M_M_rebuild.2.1 228 = .ok (.iadd, 1) := by decide +kernel
theorem d_M_rebuild_229 : decode M_M_rebuild.2.1 229 = .ok (.putfield 169, 3) := by decide +kernel
theorem d_M_rebuild_232 : decode M_M_rebuild.2.1 232 = .ok (.iload 6, 2) := by decide +kernel
theorem d_M_rebuild_234 : decode M_M_rebuild.2.1 234 = .ok (.ireturn, 1) := by decide +kernel
theorem d_M_rebuilds_0 : decode M_M_rebuilds.2.1 0 = .ok (.aload_n 0, 1) := by decide +kernel
theorem d_M_rebuilds_1 : decode M_M_rebuilds.2.1 1 = .ok (.iload_n 2, 1) := by decide +kernel
theorem d_M_rebuilds_2 : decode M_M_rebuilds.2.1 2 = .ok (.invokevirtual 140, 3) := by decide +kernel
theorem d_M_rebuilds_5 : decode M_M_rebuilds.2.1 5 = .ok (.istore 4, 2) := by decide +kernel
theorem d_M_rebuilds_7 : decode M_M_rebuilds.2.1 7 = .ok (.aload_n 0, 1) := by decide +kernel
theorem d_M_rebuilds_8 : decode M_M_rebuilds.2.1 8 = .ok (.iload_n 2, 1) := by decide +kernel
theorem d_M_rebuilds_9 : decode M_M_rebuilds.2.1 9 = .ok (.iload 4, 2) := by decide +kernel
theorem d_M_rebuilds_11 : decode M_M_rebuilds.2.1 11 = .ok (.invokevirtual 146, 3) := by decide +kernel
theorem d_M_rebuilds_14 : decode M_M_rebuilds.2.1 14 = .ok (.istore 5, 2) := by decide +kernel
theorem d_M_rebuilds_16 : decode M_M_rebuilds.2.1 16 = .ok (.aload_n 0, 1) := by decide +kernel
theorem d_M_rebuilds_17 : decode M_M_rebuilds.2.1 17 = .ok (.iload_n 1, 1) := by decide +kernel
theorem d_M_rebuilds_18 : decode M_M_rebuilds.2.1 18 = .ok (.iload_n 2, 1) := by decide +kernel
theorem d_M_rebuilds_19 : decode M_M_rebuilds.2.1 19 = .ok (.iconst 0, 1) := by decide +kernel
theorem d_M_rebuilds_20 : decode M_M_rebuilds.2.1 20 = .ok (.invokevirtual 89, 3) := by decide +kernel
theorem d_M_rebuilds_23 : decode M_M_rebuilds.2.1 23 = .ok (.aload_n 0, 1) := by decide +kernel
theorem d_M_rebuilds_24 : decode M_M_rebuilds.2.1 24 = .ok (.iload_n 1, 1) := by decide +kernel
theorem d_M_rebuilds_25 : decode M_M_rebuilds.2.1 25 = .ok (.iload_n 2, 1) := by decide +kernel
theorem d_M_rebuilds_26 : decode M_M_rebuilds.2.1 26 = .ok (.iconst 0, 1) := by decide +kernel
theorem d_M_rebuilds_27 : decode M_M_rebuilds.2.1 27 = .ok (.iload 4, 2) := by decide +kernel
theorem d_M_rebuilds_29 : decode M_M_rebuilds.2.1 29 = .ok (.iload 5, 2) := by decide +kernel
theorem d_M_rebuilds_31 : decode M_M_rebuilds.2.1 31 = .ok (.invokevirtual 111, 3) := by decide +kernel
theorem d_M_rebuilds_34 : decode M_M_rebuilds.2.1 34 = .ok (.iload 5, 2) := by decide +kernel
theorem d_M_rebuilds_36 : decode M_M_rebuilds.2.1 36 = .ok (.ifCond .ne 5, 3) := by decide +kernel
theorem d_M_rebuilds_39 : decode M_M_rebuilds.2.1 39 = .ok (.iconst 0, 1) := by decide +kernel
theorem d_M_rebuilds_40 : decode M_M_rebuilds.2.1 40 = .ok (.ireturn, 1) := by decide +kernel
theorem d_M_rebuilds_41 : decode M_M_rebuilds.2.1 41 = .ok (.aload_n 0, 1) := by decide +kernel
theorem d_M_rebuilds_42 : decode M_M_rebuilds.2.1 42 = .ok (.iload_n 2, 1) := by decide +kernel
theorem d_M_rebuilds_43 : decode M_M_rebuilds.2.1 43 = .ok (.iload 4, 2) := by decide +kernel
theorem d_M_rebuilds_45 : decode M_M_rebuilds.2.1 45 = .ok (.iload_n 3, 1) := by decide +kernel
theorem d_M_rebuilds_46 : decode M_M_rebuilds.2.1 46 = .ok (.invokevirtual 155, 3) := by decide +kernel
theorem d_M_rebuilds_49 : decode M_M_rebuilds.2.1 49 = .ok (.iload_n 1, 1) := by decide +kernel
theorem d_M_rebuilds_50 : decode M_M_rebuilds.2.1 50 = .ok (.iload_n 2, 1) := by decide +kernel
theorem d_M_rebuilds_51 : decode M_M_rebuilds.2.1 51 = .ok (.iconst 0, 1) := by decide +kernel
theorem d_M_rebuilds_52 : decode M_M_rebuilds.2.1 52 = .ok (.invokestatic 79, 3) := by decide +kernel
theorem d_M_rebuilds_55 : decode M_M_rebuilds.2.1 55 = .ok (.istore 6, 2) := by decide +kernel
theorem d_M_rebuilds_57 : decode M_M_rebuilds.2.1 57 = .ok (.iconst 0, 1) := by decide +kernel
theorem d_M_rebuilds_58 : decode M_M_rebuilds.2.1 58 = .ok (.istore 7, 2) := by decide +kernel
theorem d_M_rebuilds_60 : decode M_M_rebuilds.2.1 60 = .ok (.iload 7, 2) := by decide +kernel
theorem d_M_rebuilds_62 : decode M_M_rebuilds.2.1 62 = .ok (.iload 5, 2) := by decide +kernel
theorem d_M_rebuilds_64 : decode M_M_rebuilds.2.1 64 = .ok (.invokestatic 83, 3) := by decide +kernel
theorem d_M_rebuilds_67 : decode M_M_rebuilds.2.1 67 = .ok (.if_icmp .ge 173, 3) := by decide +kernel
theorem d_M_rebuilds_70 : decode M_M_rebuilds.2.1 70 = .ok (.iconst 0, 1) := by decide +kernel
theorem d_M_rebuilds_71 : decode M_M_rebuilds.2.1 71 = .ok (.istore 8, 2) := by decide +kernel
theorem d_M_rebuilds_73 : decode M_M_rebuilds.2.1 73 = .ok (.iload 8, 2) := by decide +kernel
theorem d_M_rebuilds_75 : decode M_M_rebuilds.2.1 75 = .ok (.bipush 8, 2) := by decide +kernel
theorem d_M_rebuilds_77 : decode M_M_rebuilds.2.1 77 = .ok (.if_icmp .ge 105, 3) := by decide +kernel
theorem d_M_rebuilds_80 : decode M_M_rebuilds.2.1 80 = .ok (.iconst 0, 1) := by decide +kernel
theorem d_M_rebuilds_81 : decode M_M_rebuilds.2.1 81 = .ok (.istore 9, 2) := by decide +kernel
theorem d_M_rebuilds_83 : decode M_M_rebuilds.2.1 83 = .ok (.iload 9, 2) := by decide +kernel
theorem d_M_rebuilds_85 : decode M_M_rebuilds.2.1 85 = .ok (.bipush 8, 2) := by decide +kernel
theorem d_M_rebuilds_87 : decode M_M_rebuilds.2.1 87 = .ok (.if_icmp .ge 34, 3) := by decide +kernel
theorem d_M_rebuilds_90 : decode M_M_rebuilds.2.1 90 = .ok (.aload_n 0, 1) := by decide +kernel
theorem d_M_rebuilds_91 : decode M_M_rebuilds.2.1 91 = .ok (.getfield 51, 3) := by decide +kernel
theorem d_M_rebuilds_94 : decode M_M_rebuilds.2.1 94 = .ok (.bipush 16, 2) := by decide +kernel
theorem d_M_rebuilds_96 : decode M_M_rebuilds.2.1 96 = .ok (.iload 8, 2) := by decide +kernel
theorem d_M_rebuilds_98 : decode M_M_rebuilds.2.1 98 = .ok (.imul, 1) := by decide +kernel
theorem d_M_rebuilds_99 : decode M_M_rebuilds.2.1 99 = .ok (.iload 9, 2) := by decide +kernel
theorem d_M_rebuilds_101 : decode M_M_rebuilds.2.1 101 = .ok (.iadd, 1) := by decide +kernel
theorem d_M_rebuilds_102 : decode M_M_rebuilds.2.1 102 = .ok (.aload_n 0, 1) := by decide +kernel
theorem d_M_rebuilds_103 : decode M_M_rebuilds.2.1 103 = .ok (.getfield 54, 3) := by decide +kernel
theorem d_M_rebuilds_106 : decode M_M_rebuilds.2.1 106 = .ok (.iload 8, 2) := by decide +kernel
theorem d_M_rebuilds_108 : decode M_M_rebuilds.2.1 108 = .ok (.iaload, 1) := by decide +kernel
theorem d_M_rebuilds_109 : decode M_M_rebuilds.2.1 109 = .ok (.iload 9, 2) := by decide +kernel
theorem d_M_rebuilds_111 : decode M_M_rebuilds.2.1 111 = .ok (.invokestatic 76, 3) := by decide +kernel
theorem d_M_rebuilds_114 : decode M_M_rebuilds.2.1 114 = .ok (.iastore, 1) := by decide +kernel
theorem d_M_rebuilds_115 : decode M_M_rebuilds.2.1 115 = .ok (.iinc 9 1, 3) := by decide +kernel
theorem d_M_rebuilds_118 : decode M_M_rebuilds.2.1 118 = .ok (.goto (-35), 3) := by decide +kernel
theorem d_M_rebuilds_121 : decode M_M_rebuilds.2.1 121 = .ok (.aload_n 0, 1) := by decide +kernel
theorem d_M_rebuilds_122 : decode M_M_rebuilds.2.1 122 = .ok (.getfield 51, 3) := by decide +kernel
theorem d_M_rebuilds_125 : decode M_M_rebuilds.2.1 125 = .ok (.bipush 16, 2) := by decide +kernel
theorem d_M_rebuilds_127 : decode M_M_rebuilds.2.1 127 = .ok (.iload 8, 2) := by decide +kernel
theorem d_M_rebuilds_129 : decode M_M_rebuilds.2.1 129 = .ok (.imul, 1) := by decide +kernel
theorem d_M_rebuilds_130 : decode M_M_rebuilds.2.1 130 = .ok (.bipush 8, 2) := by decide +kernel
theorem d_M_rebuilds_132 : decode M_M_rebuilds.2.1 132 = .ok (.iadd, 1) := by decide +kernel
theorem d_M_rebuilds_133 : decode M_M_rebuilds.2.1 133 = .ok (.aload_n 0, 1) := by decide +kernel
theorem d_M_rebuilds_134 : decode M_M_rebuilds.2.1 134 = .ok (.aload_n 0, 1) := by decide +kernel
theorem d_M_rebuilds_135 : decode M_M_rebuilds.2.1 135 = .ok (.getfield 54, 3) := by decide +kernel
theorem d_M_rebuilds_138 : decode M_M_rebuilds.2.1 138 = .ok (.iload 8, 2) := by decide +kernel
theorem d_M_rebuilds_140 : decode M_M_rebuilds.2.1 140 = .ok (.iaload, 1) := by decide +kernel
theorem d_M_rebuilds_141 : decode M_M_rebuilds.2.1 141 = .ok (.iload_n 1, 1) := by decide +kernel
theorem d_M_rebuilds_142 : decode M_M_rebuilds.2.1 142 = .ok (.aload_n 0, 1) := by decide +kernel
theorem d_M_rebuilds_143 : decode M_M_rebuilds.2.1 143 = .ok (.getfield 54, 3) := by decide +kernel
theorem d_M_rebuilds_146 : decode M_M_rebuilds.2.1 146 = .ok (.iload 8, 2) := by decide +kernel
theorem d_M_rebuilds_148 : decode M_M_rebuilds.2.1 148 = .ok (.iaload, 1) := by decide +kernel
theorem d_M_rebuilds_149 : decode M_M_rebuilds.2.1 149 = .ok (.iload_n 2, 1) := by decide +kernel
theorem d_M_rebuilds_150 : decode M_M_rebuilds.2.1 150 = .ok (.iconst 0, 1) := by decide +kernel
theorem d_M_rebuilds_151 : decode M_M_rebuilds.2.1 151 = .ok (.invokestatic 79, 3) := by decide +kernel
theorem d_M_rebuilds_154 : decode M_M_rebuilds.2.1 154 = .ok (.iload 7, 2) := by decide +kernel
theorem d_M_rebuilds_156 : decode M_M_rebuilds.2.1 156 = .ok (.invokevirtual 159, 3) := by decide +kernel
theorem d_M_rebuilds_159 : decode M_M_rebuilds.2.1 159 = .ok (.iastore, 1) := by decide +kernel
theorem d_M_rebuilds_160 : decode M_M_rebuilds.2.1 160 = .ok (.aload_n 0, 1) := by decide +kernel
theorem d_M_rebuilds_161 : decode M_M_rebuilds.2.1 161 = .ok (.getfield 21, 3) := by decide +kernel
theorem d_M_rebuilds_164 : decode M_M_rebuilds.2.1 164 = .ok (.aload_n 0, 1) := by decide +kernel
theorem d_M_rebuilds_165 : decode M_M_rebuilds.2.1 165 = .ok (.getfield 54, 3) := by decide +kernel
theorem d_M_rebuilds_168 : decode M_M_rebuilds.2.1 168 = .ok (.iload 8, 2) := by decide +kernel
theorem d_M_rebuilds_170 : decode M_M_rebuilds.2.1 170 = .ok (.iaload, 1) := by decide +kernel
theorem d_M_rebuilds_171 : decode M_M_rebuilds.2.1 171 = .ok (.dup2, 1) := by decide +kernel
theorem d_M_rebuilds_172 : decode M_M_rebuilds.2.1 172 = .ok (.iaload, 1) := by decide +kernel
theorem d_M_rebuilds_173 : decode M_M_rebuilds.2.1 173 = .ok (.iconst 1, 1) := by decide +kernel
theorem d_M_rebuilds_174 : decode M_M_rebuilds.2.1 174 = .ok (.iadd, 1) := by decide +kernel
theorem d_M_rebuilds_175 : decode M_M_rebuilds.2.1 175 = .ok (.iastore, 1) := by decide +kernel
theorem d_M_rebuilds_176 : decode M_M_rebuilds.2.1 176 = .ok (.iinc 8 1, 3) := by decide +kernel
theorem d_M_rebuilds_179 : decode M_M_rebuilds.2.1 179 = .ok (.goto (-106), 3) := by decide +kernel
theorem d_M_rebuilds_182 : decode M_M_rebuilds.2.1 182 = .ok (.aload_n 0, 1) := by decide +kernel
theorem d_M_rebuilds_183 : decode M_M_rebuilds.2.1 183 = .ok (.bipush 8, 2) := by decide +kernel
theorem d_M_rebuilds_185 : decode M_M_rebuilds.2.1 185 = .ok (.iconst 1, 1) := by decide +kernel
theorem d_M_rebuilds_186 : decode M_M_rebuilds.2.1 186 = .ok (.invokevirtual 137, 3) := by decide +kernel
theorem d_M_rebuilds_189 : decode M_M_rebuilds.2.1 189 = .ok (.iconst 0, 1) := by decide +kernel
theorem d_M_rebuilds_190 : decode M_M_rebuilds.2.1 190 = .ok (.istore 8, 2) := by decide +kernel
theorem d_M_rebuilds_192 : decode M_M_rebuilds.2.1 192 = .ok (.iload 8, 2) := by decide +kernel
theorem d_M_rebuilds_194 : decode M_M_rebuilds.2.1 194 = .ok (.bipush 8, 2) := by decide +kernel
theorem d_M_rebuilds_196 : decode M_M_rebuilds.2.1 196 = .ok (.if_icmp .ge 38, 3) := by decide +kernel
theorem d_M_rebuilds_199 : decode M_M_rebuilds.2.1 199 = .ok (.aload_n 0, 1) := by decide +kernel
theorem d_M_rebuilds_200 : decode M_M_rebuilds.2.1 200 = .ok (.getfield 27, 3) := by decide +kernel
theorem d_M_rebuilds_203 : decode M_M_rebuilds.2.1 203 = .ok (.aload_n 0, 1) := by decide +kernel
theorem d_M_rebuilds_204 : decode M_M_rebuilds.2.1 204 = .ok (.iload_n 1, 1) := by decide +kernel
theorem d_M_rebuilds_205 : decode M_M_rebuilds.2.1 205 = .ok (.iload 6, 2) := by decide +kernel
theorem d_M_rebuilds_207 : decode M_M_rebuilds.2.1 207 = .ok (.iload 7, 2) := by decide +kernel
theorem d_M_rebuilds_209 : decode M_M_rebuilds.2.1 209 = .ok (.iload 8, 2) := by decide +kernel
theorem d_M_rebuilds_211 : decode M_M_rebuilds.2.1 211 = .ok (.invokevirtual 103, 3) := by decide +kernel
theorem d_M_rebuilds_214 : decode M_M_rebuilds.2.1 214 = .ok (.aload_n 0, 1) := by decide +kernel
theorem d_M_rebuilds_215 : decode M_M_rebuilds.2.1 215 = .ok (.getfield 51, 3) := by decide +kernel
theorem d_M_rebuilds_218 : decode M_M_rebuilds.2.1 218 = .ok (.bipush 16, 2) := by decide +kernel
theorem d_M_rebuilds_220 : decode M_M_rebuilds.2.1 220 = .ok (.iload 8, 2) := by decide +kernel
theorem d_M_rebuilds_222 : decode M_M_rebuilds.2.1 222 = .ok (.imul, 1) := by decide +kernel
theorem d_M_rebuilds_223 : decode M_M_rebuilds.2.1 223 = .ok (.bipush 8, 2) := by decide +kernel
theorem d_M_rebuilds_225 : decode M_M_rebuilds.2.1 225 = .ok (.iadd, 1) := by decide +kernel
theorem d_M_rebuilds_226 : decode M_M_rebuilds.2.1 226 = .ok (.iaload, 1) := by decide +kernel
theorem d_M_rebuilds_227 : decode M_M_rebuilds.2.1 227 = .ok (.iastore, 1) := by decide +kernel
theorem d_M_rebuilds_228 : decode M_M_rebuilds.2.1 228 = .ok (.iinc 8 1, 3) := by decide +kernel
theorem d_M_rebuilds_231 : decode M_M_rebuilds.2.1 231 = .ok (.goto (-39), 3) := by decide +kernel
theorem d_M_rebuilds_234 : decode M_M_rebuilds.2.1 234 = .ok (.iinc 7 1, 3) := by decide +kernel
theorem d_M_rebuilds_237 : decode M_M_rebuilds.2.1 237 = .ok (.goto (-177), 3) := by decide +kernel
theorem d_M_rebuilds_240 : decode M_M_rebuilds.2.1 240 = .ok (.bipush 8, 2) := by decide +kernel
theorem d_M_rebuilds_242 : decode M_M_rebuilds.2.1 242 = .ok (.iload 5, 2) := by decide +kernel
theorem d_M_rebuilds_244 : decode M_M_rebuilds.2.1 244 = .ok (.invokestatic 83, 3) := by decide +kernel
theorem d_M_rebuilds_247 : decode M_M_rebuilds.2.1 247 = .ok (.imul, 1) := by decide +kernel
theorem d_M_rebuilds_248 : decode M_M_rebuilds.2.1 248 = .ok (.ireturn, 1) := by decide +kernel
theorem d_M_record_0 : decode M_M_record.2.1 0 = .ok (.iload_n 1, 1) := by decide +kernel
theorem d_M_record_1 : decode M_M_record.2.1 1 = .ok (.invokestatic 72, 3) := by decide +kernel
theorem d_M_record_4 : decode M_M_record.2.1 4 = .ok (.ifCond .eq 19, 3) := by decide +kernel
theorem d_M_record_7 : decode M_M_record.2.1 7 = .ok (.iload_n 2, 1) := by decide +kernel
theorem d_M_record_8 : decode M_M_record.2.1 8 = .ok (.invokestatic 125, 3) := by decide +kernel
theorem d_M_record_11 : decode M_M_record.2.1 11 = .ok (.ifCond .eq 12, 3) := by decide +kernel
theorem d_M_record_14 : decode M_M_record.2.1 14 = .ok (.iload_n 3, 1) := by decide +kernel
theorem d_M_record_15 : decode M_M_record.2.1 15 = .ok (.iconst 0, 1) := by decide +kernel
theorem d_M_record_16 : decode M_M_record.2.1 16 = .ok (.iconst 5, 1) := by decide +kernel
theorem d_M_record_17 : decode M_M_record.2.1 17 = .ok (.invokestatic 60, 3) := by decide +kernel
theorem d_M_record_20 : decode M_M_record.2.1 20 = .ok (.ifCond .ne 6, 3) := by decide +kernel
theorem d_M_record_23 : decode M_M_record.2.1 23 = .ok (.bipush (-2), 2) := by decide +kernel
theorem d_M_record_25 : decode M_M_record.2.1 25 = .ok (.ireturn, 1) := by decide +kernel
theorem d_M_record_26 : decode M_M_record.2.1 26 = .ok (.iload_n 1, 1) := by decide +kernel
theorem d_M_record_27 : decode M_M_record.2.1 27 = .ok (.iload_n 2, 1) := by decide +kernel
theorem d_M_record_28 : decode M_M_record.2.1 28 = .ok (.iload_n 3, 1) := by decide +kernel
theorem d_M_record_29 : decode M_M_record.2.1 29 = .ok (.iconst 2, 1) := by decide +kernel
theorem d_M_record_30 : decode M_M_record.2.1 30 = .ok (.if_icmp .le 7, 3) := by decide +kernel
theorem d_M_record_33 : decode M_M_record.2.1 33 = .ok (.iconst 1, 1) := by decide +kernel
theorem d_M_record_34 : decode M_M_record.2.1 34 = .ok (.goto 4, 3) := by decide +kernel
theorem d_M_record_37 : decode M_M_record.2.1 37 = .ok (.iconst 0, 1) := by decide +kernel
theorem d_M_record_38 : decode M_M_record.2.1 38 = .ok (.invokestatic 79, 3) := by decide +kernel
theorem d_M_record_41 : decode M_M_record.2.1 41 = .ok (.istore 4, 2) := by decide +kernel
theorem d_M_record_43 : decode M_M_record.2.1 43 = .ok (.iload_n 3, 1) := by decide +kernel
theorem d_M_record_44 : decode M_M_record.2.1 44 = .ok (.iconst 3, 1) := by decide +kernel
theorem d_M_record_45 : decode M_M_record.2.1 45 = .ok (.irem, 1) := by decide +kernel
theorem d_M_record_46 : decode M_M_record.2.1 46 = .ok (.istore 5, 2) := by decide +kernel
theorem d_M_record_48 : decode M_M_record.2.1 48 = .ok (.aload_n 0, 1) := by decide +kernel
theorem d_M_record_49 : decode M_M_record.2.1 49 = .ok (.getfield 30, 3) := by decide +kernel
theorem d_M_record_52 : decode M_M_record.2.1 52 = .ok (.iload 4, 2) := by decide +kernel
theorem d_M_record_54 : decode M_M_record.2.1 54 = .ok (.baload, 1) := by decide +kernel
theorem d_M_record_55 : decode M_M_record.2.1 55 = .ok (.ifCond .ne 7, 3) := by decide +kernel
theorem d_M_record_58 : decode M_M_record.2.1 58 = .ok (.iconst (-1), 1) := by decide +kernel
theorem d_M_record_59 : decode M_M_record.2.1 59 = .ok (.goto 44, 3) := by decide +kernel
theorem d_M_record_62 : decode M_M_record.2.1 62 = .ok (.iload 5, 2) := by decide +kernel
theorem d_M_record_64 : decode M_M_record.2.1 64 = .ok (.ifCond .ne 13, 3) := by decide +kernel
theorem d_M_record_67 : decode M_M_record.2.1 67 = .ok (.aload_n 0, 1) := by decide +kernel
theorem d_M_record_68 : decode M_M_record.2.1 68 = .ok (.getfield 33, 3) := by decide +kernel
theorem d_M_record_71 : decode M_M_record.2.1 71 = .ok (.iload 4, 2) := by decide +kernel
theorem d_M_record_73 : decode M_M_record.2.1 73 = .ok (.iaload, 1) := by decide +kernel
theorem d_M_record_74 : decode M_M_record.2.1 74 = .ok (.goto 29, 3) := by decide +kernel
theorem d_M_record_77 : decode M_M_record.2.1 77 = .ok (.iload 5, 2) := by decide +kernel
theorem d_M_record_79 : decode M_M_record.2.1 79 = .ok (.iconst 1, 1) := by decide +kernel
theorem d_M_record_80 : decode M_M_record.2.1 80 = .ok (.if_icmp .ne 13, 3) := by decide +kernel
theorem d_M_record_83 : decode M_M_record.2.1 83 = .ok (.aload_n 0, 1) := by decide +kernel
theorem d_M_record_84 : decode M_M_record.2.1 84 = .ok (.getfield 36, 3) := by decide +kernel
theorem d_M_record_87 : decode M_M_record.2.1 87 = .ok (.iload 4, 2) := by decide +kernel
theorem d_M_record_89 : decode M_M_record.2.1 89 = .ok (.iaload, 1) := by decide +kernel
theorem d_M_record_90 : decode M_M_record.2.1 90 = .ok (.goto 13, 3) := by decide +kernel
theorem d_M_record_93 : decode M_M_record.2.1 93 = .ok (.aload_n 0, 1) := by decide +kernel
theorem d_M_record_94 : decode M_M_record.2.1 94 = .ok (.getfield 36, 3) := by decide +kernel
theorem d_M_record_97 : decode M_M_record.2.1 97 = .ok (.iload 4, 2) := by decide +kernel
theorem d_M_record_99 : decode M_M_record.2.1 99 = .ok (.iaload, 1) := by decide +kernel
theorem d_M_record_100 : decode M_M_record.2.1 100 = .ok (.invokestatic 83, 3) := by decide +kernel
theorem d_M_record_103 : decode M_M_record.2.1 103 = .ok (.ireturn, 1) := by decide +kernel
theorem d_M_refused_0 : decode M_M_refused.2.1 0 = .ok (.iload_n 1, 1) := by decide +kernel
theorem d_M_refused_1 : decode M_M_refused.2.1 1 = .ok (.invokestatic 125, 3) := by decide +kernel
theorem d_M_refused_4 : decode M_M_refused.2.1 4 = .ok (.ifCond .ne 8, 3) := by decide +kernel
theorem d_M_refused_7 : decode M_M_refused.2.1 7 = .ok (.bipush (-2), 2) := by decide +kernel
theorem d_M_refused_9 : decode M_M_refused.2.1 9 = .ok (.goto 32, 3) := by decide +kernel
theorem d_M_refused_12 : decode M_M_refused.2.1 12 = .ok (.aload_n 0, 1) := by decide +kernel
theorem d_M_refused_13 : decode M_M_refused.2.1 13 = .ok (.getfield 45, 3) := by decide +kernel
theorem d_M_refused_16 : decode M_M_refused.2.1 16 = .ok (.iload_n 1, 1) := by decide +kernel
theorem d_M_refused_17 : decode M_M_refused.2.1 17 = .ok (.baload, 1) := by decide +kernel
theorem d_M_refused_18 : decode M_M_refused.2.1 18 = .ok (.ifCond .eq 8, 3) := by decide +kernel
theorem d_M_refused_21 : decode M_M_refused.2.1 21 = .ok (.bipush (-3), 2) := by decide +kernel
theorem d_M_refused_23 : decode M_M_refused.2.1 23 = .ok (.goto 18, 3) := by decide +kernel
theorem d_M_refused_26 : decode M_M_refused.2.1 26 = .ok (.aload_n 0, 1) := by decide +kernel
theorem d_M_refused_27 : decode M_M_refused.2.1 27 = .ok (.invokevirtual 107, 3) := by decide +kernel
theorem d_M_refused_30 : decode M_M_refused.2.1 30 = .ok (.bipush 9, 2) := by decide +kernel
theorem d_M_refused_32 : decode M_M_refused.2.1 32 = .ok (.if_icmp .ge 8, 3) := by decide +kernel
theorem d_M_refused_35 : decode M_M_refused.2.1 35 = .ok (.bipush (-4), 2) := by decide +kernel
theorem d_M_refused_37 : decode M_M_refused.2.1 37 = .ok (.goto 4, 3) := by decide +kernel
theorem d_M_refused_40 : decode M_M_refused.2.1 40 = .ok (.iconst 0, 1) := by decide +kernel
theorem d_M_refused_41 : decode M_M_refused.2.1 41 = .ok (.ireturn, 1) := by decide +kernel
theorem d_M_remove_0 : decode M_M_remove.2.1 0 = .ok (.aload_n 0, 1) := by decide +kernel
theorem d_M_remove_1 : decode M_M_remove.2.1 1 = .ok (.iload_n 1, 1) := by decide +kernel
theorem d_M_remove_2 : decode M_M_remove.2.1 2 = .ok (.invokevirtual 128, 3) := by decide +kernel
theorem d_M_remove_5 : decode M_M_remove.2.1 5 = .ok (.istore_n 2, 1) := by decide +kernel
theorem d_M_remove_6 : decode M_M_remove.2.1 6 = .ok (.iload_n 2, 1) := by decide +kernel
theorem d_M_remove_7 : decode M_M_remove.2.1 7 = .ok (.ifCond .eq 5, 3) := by decide +kernel
theorem d_M_remove_10 : decode M_M_remove.2.1 10 = .ok (.iload_n 2, 1) := by decide +kernel
theorem d_M_remove_11 : decode M_M_remove.2.1 11 = .ok (.ireturn, 1) := by decide +kernel
theorem d_M_remove_12 : decode M_M_remove.2.1 12 = .ok (.aload_n 0, 1) := by decide +kernel
theorem d_M_remove_13 : decode M_M_remove.2.1 13 = .ok (.getfield 96, 3) := by decide +kernel
theorem d_M_remove_16 : decode M_M_remove.2.1 16 = .ok (.istore_n 3, 1) := by decide +kernel
theorem d_M_remove_17 : decode M_M_remove.2.1 17 = .ok (.aload_n 0, 1) := by decide +kernel
theorem d_M_remove_18 : decode M_M_remove.2.1 18 = .ok (.iconst 0, 1) := by decide +kernel
theorem d_M_remove_19 : decode M_M_remove.2.1 19 = .ok (.putfield 96, 3) := by decide +kernel
theorem d_M_remove_22 : decode M_M_remove.2.1 22 = .ok (.aload_n 0, 1) := by decide +kernel
theorem d_M_remove_23 : decode M_M_remove.2.1 23 = .ok (.iload_n 1, 1) := by decide +kernel
theorem d_M_remove_24 : decode M_M_remove.2.1 24 = .ok (.invokevirtual 134, 3) := by decide +kernel
theorem d_M_remove_27 : decode M_M_remove.2.1 27 = .ok (.istore 4, 2) := by decide +kernel
theorem d_M_remove_29 : decode M_M_remove.2.1 29 = .ok (.aload_n 0, 1) := by decide +kernel
theorem d_M_remove_30 : decode M_M_remove.2.1 30 = .ok (.iload_n 3, 1) := by decide +kernel
theorem d_M_remove_31 : decode M_M_remove.2.1 31 = .ok (.putfield 96, 3) := by decide +kernel
theorem d_M_remove_34 : decode M_M_remove.2.1 34 = .ok (.iload 4, 2) := by decide +kernel
theorem d_M_remove_36 : decode M_M_remove.2.1 36 = .ok (.ireturn, 1) := by decide +kernel
theorem d_M_row_0 : decode M_M_row.2.1 0 = .ok (.iconst 1, 1) := by decide +kernel
theorem d_M_row_1 : decode M_M_row.2.1 1 = .ok (.istore_n 2, 1) := by decide +kernel
theorem d_M_row_2 : decode M_M_row.2.1 2 = .ok (.iconst 0, 1) := by decide +kernel
theorem d_M_row_3 : decode M_M_row.2.1 3 = .ok (.istore_n 3, 1) := by decide +kernel
theorem d_M_row_4 : decode M_M_row.2.1 4 = .ok (.iload_n 3, 1) := by decide +kernel
theorem d_M_row_5 : decode M_M_row.2.1 5 = .ok (.iload_n 1, 1) := by decide +kernel
theorem d_M_row_6 : decode M_M_row.2.1 6 = .ok (.if_icmp .ge 17, 3) := by decide +kernel
theorem d_M_row_9 : decode M_M_row.2.1 9 = .ok (.iload_n 2, 1) := by decide +kernel
theorem d_M_row_10 : decode M_M_row.2.1 10 = .ok (.iload_n 0, 1) := by decide +kernel
theorem d_M_row_11 : decode M_M_row.2.1 11 = .ok (.iconst 1, 1) := by decide +kernel
theorem d_M_row_12 : decode M_M_row.2.1 12 = .ok (.iadd, 1) := by decide +kernel
theorem d_M_row_13 : decode M_M_row.2.1 13 = .ok (.invokestatic 64, 3) := by decide +kernel
theorem d_M_row_16 : decode M_M_row.2.1 16 = .ok (.istore_n 2, 1) := by decide +kernel
theorem d_M_row_17 : decode M_M_row.2.1 17 = .ok (.iinc 3 1, 3) := by decide +kernel
theorem d_M_row_20 : decode M_M_row.2.1 20 = .ok (.goto (-16), 3) := by decide +kernel
theorem d_M_row_23 : decode M_M_row.2.1 23 = .ok (.iload_n 2, 1) := by decide +kernel
theorem d_M_row_24 : decode M_M_row.2.1 24 = .ok (.ireturn, 1) := by decide +kernel
theorem d_M_rowAt_0 : decode M_M_rowAt.2.1 0 = .ok (.iload_n 1, 1) := by decide +kernel
theorem d_M_rowAt_1 : decode M_M_rowAt.2.1 1 = .ok (.invokestatic 72, 3) := by decide +kernel
theorem d_M_rowAt_4 : decode M_M_rowAt.2.1 4 = .ok (.ifCond .eq 21, 3) := by decide +kernel
theorem d_M_rowAt_7 : decode M_M_rowAt.2.1 7 = .ok (.iload_n 2, 1) := by decide +kernel
theorem d_M_rowAt_8 : decode M_M_rowAt.2.1 8 = .ok (.iconst 0, 1) := by decide +kernel
theorem d_M_rowAt_9 : decode M_M_rowAt.2.1 9 = .ok (.bipush 7, 2) := by decide +kernel
theorem d_M_rowAt_11 : decode M_M_rowAt.2.1 11 = .ok (.invokestatic 60, 3) := by decide +kernel
theorem d_M_rowAt_14 : decode M_M_rowAt.2.1 14 = .ok (.ifCond .eq 11, 3) := by decide +kernel
theorem d_M_rowAt_17 : decode M_M_rowAt.2.1 17 = .ok (.iload_n 1, 1) := by decide +kernel
theorem d_M_rowAt_18 : decode M_M_rowAt.2.1 18 = .ok (.iload_n 2, 1) := by decide +kernel
theorem d_M_rowAt_19 : decode M_M_rowAt.2.1 19 = .ok (.invokestatic 76, 3) := by decide +kernel
theorem d_M_rowAt_22 : decode M_M_rowAt.2.1 22 = .ok (.goto 5, 3) := by decide +kernel
theorem d_M_rowAt_25 : decode M_M_rowAt.2.1 25 = .ok (.bipush (-2), 2) := by decide +kernel
theorem d_M_rowAt_27 : decode M_M_rowAt.2.1 27 = .ok (.ireturn, 1) := by decide +kernel
theorem d_M_sent_0 : decode M_M_sent.2.1 0 = .ok (.iload_n 1, 1) := by decide +kernel
theorem d_M_sent_1 : decode M_M_sent.2.1 1 = .ok (.invokestatic 72, 3) := by decide +kernel
theorem d_M_sent_4 : decode M_M_sent.2.1 4 = .ok (.ifCond .eq 12, 3) := by decide +kernel
theorem d_M_sent_7 : decode M_M_sent.2.1 7 = .ok (.aload_n 0, 1) := by decide +kernel
theorem d_M_sent_8 : decode M_M_sent.2.1 8 = .ok (.getfield 21, 3) := by decide +kernel
theorem d_M_sent_11 : decode M_M_sent.2.1 11 = .ok (.iload_n 1, 1) := by decide +kernel
theorem d_M_sent_12 : decode M_M_sent.2.1 12 = .ok (.iaload, 1) := by decide +kernel
theorem d_M_sent_13 : decode M_M_sent.2.1 13 = .ok (.goto 5, 3) := by decide +kernel
theorem d_M_sent_16 : decode M_M_sent.2.1 16 = .ok (.bipush (-2), 2) := by decide +kernel
theorem d_M_sent_18 : decode M_M_sent.2.1 18 = .ok (.ireturn, 1) := by decide +kernel
theorem d_M_settle_0 : decode M_M_settle.2.1 0 = .ok (.iload_n 1, 1) := by decide +kernel
theorem d_M_settle_1 : decode M_M_settle.2.1 1 = .ok (.invokestatic 125, 3) := by decide +kernel
theorem d_M_settle_4 : decode M_M_settle.2.1 4 = .ok (.ifCond .ne 6, 3) := by decide +kernel
theorem d_M_settle_7 : decode M_M_settle.2.1 7 = .ok (.bipush (-2), 2) := by decide +kernel
theorem d_M_settle_9 : decode M_M_settle.2.1 9 = .ok (.ireturn, 1) := by decide +kernel
theorem d_M_settle_10 : decode M_M_settle.2.1 10 = .ok (.aload_n 0, 1) := by decide +kernel
theorem d_M_settle_11 : decode M_M_settle.2.1 11 = .ok (.getfield 45, 3) := by decide +kernel
theorem d_M_settle_14 : decode M_M_settle.2.1 14 = .ok (.iload_n 1, 1) := by decide +kernel
theorem d_M_settle_15 : decode M_M_settle.2.1 15 = .ok (.baload, 1) := by decide +kernel
theorem d_M_settle_16 : decode M_M_settle.2.1 16 = .ok (.ifCond .ne 6, 3) := by decide +kernel
theorem d_M_settle_19 : decode M_M_settle.2.1 19 = .ok (.bipush (-3), 2) := by decide +kernel
theorem d_M_settle_21 : decode M_M_settle.2.1 21 = .ok (.ireturn, 1) := by decide +kernel
theorem d_M_settle_22 : decode M_M_settle.2.1 22 = .ok (.aload_n 0, 1) := by decide +kernel
theorem d_M_settle_23 : decode M_M_settle.2.1 23 = .ok (.getfield 45, 3) := by decide +kernel
theorem d_M_settle_26 : decode M_M_settle.2.1 26 = .ok (.iload_n 1, 1) := by decide +kernel
theorem d_M_settle_27 : decode M_M_settle.2.1 27 = .ok (.iconst 0, 1) := by decide +kernel
theorem d_M_settle_28 : decode M_M_settle.2.1 28 = .ok (.bastore, 1) := by decide +kernel
theorem d_M_settle_29 : decode M_M_settle.2.1 29 = .ok (.iconst 0, 1) := by decide +kernel
theorem d_M_settle_30 : decode M_M_settle.2.1 30 = .ok (.istore_n 2, 1) := by decide +kernel
theorem d_M_settle_31 : decode M_M_settle.2.1 31 = .ok (.iconst 0, 1) := by decide +kernel
theorem d_M_settle_32 : decode M_M_settle.2.1 32 = .ok (.istore_n 3, 1) := by decide +kernel
theorem d_M_settle_33 : decode M_M_settle.2.1 33 = .ok (.iload_n 3, 1) := by decide +kernel
theorem d_M_settle_34 : decode M_M_settle.2.1 34 = .ok (.bipush 12, 2) := by decide +kernel
theorem d_M_settle_36 : decode M_M_settle.2.1 36 = .ok (.if_icmp .ge 53, 3) := by decide +kernel
theorem d_M_settle_39 : decode M_M_settle.2.1 39 = .ok (.iload_n 3, 1) := by decide +kernel
theorem d_M_settle_40 : decode M_M_settle.2.1 40 = .ok (.iload_n 1, 1) := by decide +kernel
theorem d_M_settle_41 : decode M_M_settle.2.1 41 = .ok (.iconst 0, 1) := by decide +kernel
theorem d_M_settle_42 : decode M_M_settle.2.1 42 = .ok (.invokestatic 79, 3) := by decide +kernel
theorem d_M_settle_45 : decode M_M_settle.2.1 45 = .ok (.istore 4, 2) := by decide +kernel
theorem d_M_settle_47 : decode M_M_settle.2.1 47 = .ok (.iload_n 2, 1) := by decide +kernel
theorem d_M_settle_48 : decode M_M_settle.2.1 48 = .ok (.ifCond .ne 29, 3) := by decide +kernel
theorem d_M_settle_51 : decode M_M_settle.2.1 51 = .ok (.aload_n 0, 1) := by decide +kernel
theorem d_M_settle_52 : decode M_M_settle.2.1 52 = .ok (.getfield 30, 3) := by decide +kernel
theorem d_M_settle_55 : decode M_M_settle.2.1 55 = .ok (.iload 4, 2) := by decide +kernel
theorem d_M_settle_57 : decode M_M_settle.2.1 57 = .ok (.baload, 1) := by decide +kernel
theorem d_M_settle_58 : decode M_M_settle.2.1 58 = .ok (.ifCond .eq 23, 3) := by decide +kernel
theorem d_M_settle_61 : decode M_M_settle.2.1 61 = .ok (.aload_n 0, 1) := by decide +kernel
theorem d_M_settle_62 : decode M_M_settle.2.1 62 = .ok (.getfield 33, 3) := by decide +kernel
theorem d_M_settle_65 : decode M_M_settle.2.1 65 = .ok (.iload 4, 2) := by decide +kernel
theorem d_M_settle_67 : decode M_M_settle.2.1 67 = .ok (.iaload, 1) := by decide +kernel
theorem d_M_settle_68 : decode M_M_settle.2.1 68 = .ok (.aload_n 0, 1) := by decide +kernel
theorem d_M_settle_69 : decode M_M_settle.2.1 69 = .ok (.getfield 42, 3) := by decide +kernel
theorem d_M_settle_72 : decode M_M_settle.2.1 72 = .ok (.iload_n 1, 1) := by decide +kernel
theorem d_M_settle_73 : decode M_M_settle.2.1 73 = .ok (.iaload, 1) := by decide +kernel
theorem d_M_settle_74 : decode M_M_settle.2.1 74 = .ok (.if_icmp .ne 7, 3) := by decide +kernel
theorem d_M_settle_77 : decode M_M_settle.2.1 77 = .ok (.iconst 1, 1) := by decide +kernel
theorem d_M_settle_78 : decode M_M_settle.2.1 78 = .ok (.goto 4, 3) := by decide +kernel
theorem d_M_settle_81 : decode M_M_settle.2.1 81 = .ok (.iconst 0, 1) := by decide +kernel
theorem d_M_settle_82 : decode M_M_settle.2.1 82 = .ok (.istore_n 2, 1) := by decide +kernel
theorem d_M_settle_83 : decode M_M_settle.2.1 83 = .ok (.iinc 3 1, 3) := by decide +kernel
theorem d_M_settle_86 : decode M_M_settle.2.1 86 = .ok (.goto (-53), 3) := by decide +kernel
theorem d_M_settle_89 : decode M_M_settle.2.1 89 = .ok (.iconst 0, 1) := by decide +kernel
theorem d_M_settle_90 : decode M_M_settle.2.1 90 = .ok (.istore_n 3, 1) := by decide +kernel
theorem d_M_settle_91 : decode M_M_settle.2.1 91 = .ok (.iload_n 3, 1) := by decide +kernel
theorem d_M_settle_92 : decode M_M_settle.2.1 92 = .ok (.bipush 12, 2) := by decide +kernel
theorem d_M_settle_94 : decode M_M_settle.2.1 94 = .ok (.if_icmp .ge 72, 3) := by decide +kernel
theorem d_M_settle_97 : decode M_M_settle.2.1 97 = .ok (.iload_n 3, 1) := by decide +kernel
theorem d_M_settle_98 : decode M_M_settle.2.1 98 = .ok (.iload_n 1, 1) := by decide +kernel
theorem d_M_settle_99 : decode M_M_settle.2.1 99 = .ok (.iconst 1, 1) := by decide +kernel
theorem d_M_settle_100 : decode M_M_settle.2.1 100 = .ok (.invokestatic 79, 3) := by decide +kernel
theorem d_M_settle_103 : decode M_M_settle.2.1 103 = .ok (.istore 4, 2) := by decide +kernel
theorem d_M_settle_105 : decode M_M_settle.2.1 105 = .ok (.aload_n 0, 1) := by decide +kernel
theorem d_M_settle_106 : decode M_M_settle.2.1 106 = .ok (.getfield 17, 3) := by decide +kernel
theorem d_M_settle_109 : decode M_M_settle.2.1 109 = .ok (.iload_n 3, 1) := by decide +kernel
theorem d_M_settle_110 : decode M_M_settle.2.1 110 = .ok (.baload, 1) := by decide +kernel
theorem d_M_settle_111 : decode M_M_settle.2.1 111 = .ok (.ifCond .ne 49, 3) := by decide +kernel
theorem d_M_settle_114 : decode M_M_settle.2.1 114 = .ok (.aload_n 0, 1) := by decide +kernel
theorem d_M_settle_115 : decode M_M_settle.2.1 115 = .ok (.getfield 30, 3) := by decide +kernel
theorem d_M_settle_118 : decode M_M_settle.2.1 118 = .ok (.iload 4, 2) := by decide +kernel
theorem d_M_settle_120 : decode M_M_settle.2.1 120 = .ok (.baload, 1) := by decide +kernel
theorem d_M_settle_121 : decode M_M_settle.2.1 121 = .ok (.ifCond .eq 39, 3) := by decide +kernel
theorem d_M_settle_124 : decode M_M_settle.2.1 124 = .ok (.aload_n 0, 1) := by decide +kernel
theorem d_M_settle_125 : decode M_M_settle.2.1 125 = .ok (.getfield 33, 3) := by decide +kernel
theorem d_M_settle_128 : decode M_M_settle.2.1 128 = .ok (.iload 4, 2) := by decide +kernel
theorem d_M_settle_130 : decode M_M_settle.2.1 130 = .ok (.iaload, 1) := by decide +kernel
theorem d_M_settle_131 : decode M_M_settle.2.1 131 = .ok (.aload_n 0, 1) := by decide +kernel
theorem d_M_settle_132 : decode M_M_settle.2.1 132 = .ok (.getfield 42, 3) := by decide +kernel
theorem d_M_settle_135 : decode M_M_settle.2.1 135 = .ok (.iload_n 1, 1) := by decide +kernel
theorem d_M_settle_136 : decode M_M_settle.2.1 136 = .ok (.iaload, 1) := by decide +kernel
theorem d_M_settle_137 : decode M_M_settle.2.1 137 = .ok (.if_icmp .ne 23, 3) := by decide +kernel
theorem d_M_settle_140 : decode M_M_settle.2.1 140 = .ok (.iload_n 2, 1) := by decide +kernel
theorem d_M_settle_141 : decode M_M_settle.2.1 141 = .ok (.ifCond .eq 12, 3) := by decide +kernel
theorem d_M_settle_144 : decode M_M_settle.2.1 144 = .ok (.aload_n 0, 1) := by decide +kernel
theorem d_M_settle_145 : decode M_M_settle.2.1 145 = .ok (.iload_n 3, 1) := by decide +kernel
theorem d_M_settle_146 : decode M_M_settle.2.1 146 = .ok (.iload_n 1, 1) := by decide +kernel
theorem d_M_settle_147 : decode M_M_settle.2.1 147 = .ok (.invokevirtual 119, 3) := by decide +kernel
theorem d_M_settle_150 : decode M_M_settle.2.1 150 = .ok (.goto 10, 3) := by decide +kernel
theorem d_M_settle_153 : decode M_M_settle.2.1 153 = .ok (.aload_n 0, 1) := by decide +kernel
theorem d_M_settle_154 : decode M_M_settle.2.1 154 = .ok (.iload_n 3, 1) := by decide +kernel
theorem d_M_settle_155 : decode M_M_settle.2.1 155 = .ok (.iload_n 1, 1) := by decide +kernel
theorem d_M_settle_156 : decode M_M_settle.2.1 156 = .ok (.iconst 1, 1) := by decide +kernel
theorem d_M_settle_157 : decode M_M_settle.2.1 157 = .ok (.invokevirtual 89, 3) := by decide +kernel
theorem d_M_settle_160 : decode M_M_settle.2.1 160 = .ok (.iinc 3 1, 3) := by decide +kernel
theorem d_M_settle_163 : decode M_M_settle.2.1 163 = .ok (.goto (-72), 3) := by decide +kernel
theorem d_M_settle_166 : decode M_M_settle.2.1 166 = .ok (.iload_n 2, 1) := by decide +kernel
theorem d_M_settle_167 : decode M_M_settle.2.1 167 = .ok (.ifCond .eq 7, 3) := by decide +kernel
theorem d_M_settle_170 : decode M_M_settle.2.1 170 = .ok (.iconst 1, 1) := by decide +kernel
theorem d_M_settle_171 : decode M_M_settle.2.1 171 = .ok (.goto 4, 3) := by decide +kernel
theorem d_M_settle_174 : decode M_M_settle.2.1 174 = .ok (.iconst 0, 1) := by decide +kernel
theorem d_M_settle_175 : decode M_M_settle.2.1 175 = .ok (.ireturn, 1) := by decide +kernel
theorem d_M_shares_0 : decode M_M_shares.2.1 0 = .ok (.iload_n 1, 1) := by decide +kernel
theorem d_M_shares_1 : decode M_M_shares.2.1 1 = .ok (.iload_n 2, 1) := by decide +kernel
theorem d_M_shares_2 : decode M_M_shares.2.1 2 = .ok (.iconst 1, 1) := by decide +kernel
theorem d_M_shares_3 : decode M_M_shares.2.1 3 = .ok (.invokestatic 79, 3) := by decide +kernel
theorem d_M_shares_6 : decode M_M_shares.2.1 6 = .ok (.istore_n 3, 1) := by decide +kernel
theorem d_M_shares_7 : decode M_M_shares.2.1 7 = .ok (.iconst 0, 1) := by decide +kernel
theorem d_M_shares_8 : decode M_M_shares.2.1 8 = .ok (.istore 4, 2) := by decide +kernel
theorem d_M_shares_10 : decode M_M_shares.2.1 10 = .ok (.iload 4, 2) := by decide +kernel
theorem d_M_shares_12 : decode M_M_shares.2.1 12 = .ok (.aload_n 0, 1) := by decide +kernel
theorem d_M_shares_13 : decode M_M_shares.2.1 13 = .ok (.getfield 36, 3) := by decide +kernel
theorem d_M_shares_16 : decode M_M_shares.2.1 16 = .ok (.iload_n 3, 1) := by decide +kernel
theorem d_M_shares_17 : decode M_M_shares.2.1 17 = .ok (.iaload, 1) := by decide +kernel
theorem d_M_shares_18 : decode M_M_shares.2.1 18 = .ok (.invokestatic 83, 3) := by decide +kernel
theorem d_M_shares_21 : decode M_M_shares.2.1 21 = .ok (.if_icmp .ge 85, 3) := by decide +kernel
theorem d_M_shares_24 : decode M_M_shares.2.1 24 = .ok (.iconst 0, 1) := by decide +kernel
theorem d_M_shares_25 : decode M_M_shares.2.1 25 = .ok (.istore 5, 2) := by decide +kernel
theorem d_M_shares_27 : decode M_M_shares.2.1 27 = .ok (.iload 5, 2) := by decide +kernel
theorem d_M_shares_29 : decode M_M_shares.2.1 29 = .ok (.bipush 8, 2) := by decide +kernel
theorem d_M_shares_31 : decode M_M_shares.2.1 31 = .ok (.if_icmp .ge 69, 3) := by decide +kernel
theorem d_M_shares_34 : decode M_M_shares.2.1 34 = .ok (.iconst 0, 1) := by decide +kernel
theorem d_M_shares_35 : decode M_M_shares.2.1 35 = .ok (.istore 6, 2) := by decide +kernel
theorem d_M_shares_37 : decode M_M_shares.2.1 37 = .ok (.iconst 0, 1) := by decide +kernel
theorem d_M_shares_38 : decode M_M_shares.2.1 38 = .ok (.istore 7, 2) := by decide +kernel
theorem d_M_shares_40 : decode M_M_shares.2.1 40 = .ok (.iload 7, 2) := by decide +kernel
theorem d_M_shares_42 : decode M_M_shares.2.1 42 = .ok (.bipush 8, 2) := by decide +kernel
theorem d_M_shares_44 : decode M_M_shares.2.1 44 = .ok (.if_icmp .ge 33, 3) := by decide +kernel
theorem d_M_shares_47 : decode M_M_shares.2.1 47 = .ok (.iload 6, 2) := by decide +kernel
theorem d_M_shares_49 : decode M_M_shares.2.1 49 = .ok (.iload_n 1, 1) := by decide +kernel
theorem d_M_shares_50 : decode M_M_shares.2.1 50 = .ok (.iload 7, 2) := by decide +kernel
theorem d_M_shares_52 : decode M_M_shares.2.1 52 = .ok (.invokestatic 76, 3) := by decide +kernel
theorem d_M_shares_55 : decode M_M_shares.2.1 55 = .ok (.aload_n 0, 1) := by decide +kernel
theorem d_M_shares_56 : decode M_M_shares.2.1 56 = .ok (.iload 4, 2) := by decide +kernel
theorem d_M_shares_58 : decode M_M_shares.2.1 58 = .ok (.iload 7, 2) := by decide +kernel
theorem d_M_shares_60 : decode M_M_shares.2.1 60 = .ok (.iload 5, 2) := by decide +kernel
theorem d_M_shares_62 : decode M_M_shares.2.1 62 = .ok (.invokevirtual 99, 3) := by decide +kernel
theorem d_M_shares_65 : decode M_M_shares.2.1 65 = .ok (.invokestatic 64, 3) := by decide +kernel
theorem d_M_shares_68 : decode M_M_shares.2.1 68 = .ok (.ixor, 1) := by decide +kernel
theorem d_M_shares_69 : decode M_M_shares.2.1 69 = .ok (.istore 6, 2) := by decide +kernel
theorem d_M_shares_71 : decode M_M_shares.2.1 71 = .ok (.iinc 7 1, 3) := by decide +kernel
theorem d_M_shares_74 : decode M_M_shares.2.1 74 = .ok (.goto (-34), 3) := by decide +kernel
theorem d_M_shares_77 : decode M_M_shares.2.1 77 = .ok (.aload_n 0, 1) := by decide +kernel
theorem d_M_shares_78 : decode M_M_shares.2.1 78 = .ok (.getfield 27, 3) := by decide +kernel
theorem d_M_shares_81 : decode M_M_shares.2.1 81 = .ok (.aload_n 0, 1) := by decide +kernel
theorem d_M_shares_82 : decode M_M_shares.2.1 82 = .ok (.iload_n 1, 1) := by decide +kernel
theorem d_M_shares_83 : decode M_M_shares.2.1 83 = .ok (.iload_n 3, 1) := by decide +kernel
theorem d_M_shares_84 : decode M_M_shares.2.1 84 = .ok (.iload 4, 2) := by decide +kernel
theorem d_M_shares_86 : decode M_M_shares.2.1 86 = .ok (.iload 5, 2) := by decide +kernel
theorem d_M_shares_88 : decode M_M_shares.2.1 88 = .ok (.invokevirtual 103, 3) := by decide +kernel
theorem d_M_shares_91 : decode M_M_shares.2.1 91 = .ok (.iload 6, 2) := by decide +kernel
theorem d_M_shares_93 : decode M_M_shares.2.1 93 = .ok (.iastore, 1) := by decide +kernel
theorem d_M_shares_94 : decode M_M_shares.2.1 94 = .ok (.iinc 5 1, 3) := by decide +kernel
theorem d_M_shares_97 : decode M_M_shares.2.1 97 = .ok (.goto (-70), 3) := by decide +kernel
theorem d_M_shares_100 : decode M_M_shares.2.1 100 = .ok (.iinc 4 1, 3) := by decide +kernel
theorem d_M_shares_103 : decode M_M_shares.2.1 103 = .ok (.goto (-93), 3) := by decide +kernel
theorem d_M_shares_106 : decode M_M_shares.2.1 106 = .ok (.return_, 1) := by decide +kernel
theorem d_M_sizeOf_0 : decode M_M_sizeOf.2.1 0 = .ok (.iconst 0, 1) := by decide +kernel
theorem d_M_sizeOf_1 : decode M_M_sizeOf.2.1 1 = .ok (.istore_n 3, 1) := by decide +kernel
theorem d_M_sizeOf_2 : decode M_M_sizeOf.2.1 2 = .ok (.aload_n 0, 1) := by decide +kernel
theorem d_M_sizeOf_3 : decode M_M_sizeOf.2.1 3 = .ok (.iload_n 3, 1) := by decide +kernel
theorem d_M_sizeOf_4 : decode M_M_sizeOf.2.1 4 = .ok (.iload_n 1, 1) := by decide +kernel
theorem d_M_sizeOf_5 : decode M_M_sizeOf.2.1 5 = .ok (.iload_n 2, 1) := by decide +kernel
theorem d_M_sizeOf_6 : decode M_M_sizeOf.2.1 6 = .ok (.invokevirtual 93, 3) := by decide +kernel
theorem d_M_sizeOf_9 : decode M_M_sizeOf.2.1 9 = .ok (.ifCond .ne 9, 3) := by decide +kernel
theorem d_M_sizeOf_12 : decode M_M_sizeOf.2.1 12 = .ok (.iinc 3 1, 3) := by decide +kernel
theorem d_M_sizeOf_15 : decode M_M_sizeOf.2.1 15 = .ok (.goto (-13), 3) := by decide +kernel
theorem d_M_sizeOf_18 : decode M_M_sizeOf.2.1 18 = .ok (.aload_n 0, 1) := by decide +kernel
theorem d_M_sizeOf_19 : decode M_M_sizeOf.2.1 19 = .ok (.getfield 36, 3) := by decide +kernel
theorem d_M_sizeOf_22 : decode M_M_sizeOf.2.1 22 = .ok (.iload_n 3, 1) := by decide +kernel
theorem d_M_sizeOf_23 : decode M_M_sizeOf.2.1 23 = .ok (.iload_n 1, 1) := by decide +kernel
theorem d_M_sizeOf_24 : decode M_M_sizeOf.2.1 24 = .ok (.iconst 0, 1) := by decide +kernel
theorem d_M_sizeOf_25 : decode M_M_sizeOf.2.1 25 = .ok (.invokestatic 79, 3) := by decide +kernel
theorem d_M_sizeOf_28 : decode M_M_sizeOf.2.1 28 = .ok (.iaload, 1) := by decide +kernel
theorem d_M_sizeOf_29 : decode M_M_sizeOf.2.1 29 = .ok (.ireturn, 1) := by decide +kernel
theorem d_M_solve_0 : decode M_M_solve.2.1 0 = .ok (.iconst 0, 1) := by decide +kernel
theorem d_M_solve_1 : decode M_M_solve.2.1 1 = .ok (.istore_n 3, 1) := by decide +kernel
theorem d_M_solve_2 : decode M_M_solve.2.1 2 = .ok (.iload_n 3, 1) := by decide +kernel
theorem d_M_solve_3 : decode M_M_solve.2.1 3 = .ok (.iload_n 1, 1) := by decide +kernel
theorem d_M_solve_4 : decode M_M_solve.2.1 4 = .ok (.if_icmp .ge 220, 3) := by decide +kernel
theorem d_M_solve_7 : decode M_M_solve.2.1 7 = .ok (.iload_n 3, 1) := by decide +kernel
theorem d_M_solve_8 : decode M_M_solve.2.1 8 = .ok (.istore 4, 2) := by decide +kernel
theorem d_M_solve_10 : decode M_M_solve.2.1 10 = .ok (.aload_n 0, 1) := by decide +kernel
theorem d_M_solve_11 : decode M_M_solve.2.1 11 = .ok (.getfield 51, 3) := by decide +kernel
theorem d_M_solve_14 : decode M_M_solve.2.1 14 = .ok (.bipush 16, 2) := by decide +kernel
theorem d_M_solve_16 : decode M_M_solve.2.1 16 = .ok (.iload 4, 2) := by decide +kernel
theorem d_M_solve_18 : decode M_M_solve.2.1 18 = .ok (.imul, 1) := by decide +kernel
theorem d_M_solve_19 : decode M_M_solve.2.1 19 = .ok (.iload_n 3, 1) := by decide +kernel
theorem d_M_solve_20 : decode M_M_solve.2.1 20 = .ok (.iadd, 1) := by decide +kernel
theorem d_M_solve_21 : decode M_M_solve.2.1 21 = .ok (.iaload, 1) := by decide +kernel
theorem d_M_solve_22 : decode M_M_solve.2.1 22 = .ok (.ifCond .ne 9, 3) := by decide +kernel
theorem d_M_solve_25 : decode M_M_solve.2.1 25 = .ok (.iinc 4 1, 3) := by decide +kernel
theorem d_M_solve_28 : decode M_M_solve.2.1 28 = .ok (.goto (-18), 3) := by decide +kernel
theorem d_M_solve_31 : decode M_M_solve.2.1 31 = .ok (.aload_n 0, 1) := by decide +kernel
theorem d_M_solve_32 : decode M_M_solve.2.1 32 = .ok (.getfield 51, 3) := by decide +kernel
theorem d_M_solve_35 : decode M_M_solve.2.1 35 = .ok (.bipush 16, 2) := by decide +kernel
theorem d_M_solve_37 : decode M_M_solve.2.1 37 = .ok (.iload 4, 2) := by decide +kernel
theorem d_M_solve_39 : decode M_M_solve.2.1 39 = .ok (.imul, 1) := by decide +kernel
theorem d_M_solve_40 : decode M_M_solve.2.1 40 = .ok (.iload_n 3, 1) := by decide +kernel
theorem d_M_solve_41 : decode M_M_solve.2.1 41 = .ok (.iadd, 1) := by decide +kernel
theorem d_M_solve_42 : decode M_M_solve.2.1 42 = .ok (.iaload, 1) := by decide +kernel
theorem d_M_solve_43 : decode M_M_solve.2.1 43 = .ok (.invokestatic 68, 3) := by decide +kernel
theorem d_M_solve_46 : decode M_M_solve.2.1 46 = .ok (.istore 5, 2) := by decide +kernel
theorem d_M_solve_48 : decode M_M_solve.2.1 48 = .ok (.iconst 0, 1) := by decide +kernel
theorem d_M_solve_49 : decode M_M_solve.2.1 49 = .ok (.istore 6, 2) := by decide +kernel
theorem d_M_solve_51 : decode M_M_solve.2.1 51 = .ok (.iload 6, 2) := by decide +kernel
theorem d_M_solve_53 : decode M_M_solve.2.1 53 = .ok (.iload_n 1, 1) := by decide +kernel
theorem d_M_solve_54 : decode M_M_solve.2.1 54 = .ok (.iload_n 2, 1) := by decide +kernel
theorem d_M_solve_55 : decode M_M_solve.2.1 55 = .ok (.iadd, 1) := by decide +kernel
theorem d_M_solve_56 : decode M_M_solve.2.1 56 = .ok (.if_icmp .ge 68, 3) := by decide +kernel
theorem d_M_solve_59 : decode M_M_solve.2.1 59 = .ok (.aload_n 0, 1) := by decide +kernel
theorem d_M_solve_60 : decode M_M_solve.2.1 60 = .ok (.getfield 51, 3) := by decide +kernel
theorem d_M_solve_63 : decode M_M_solve.2.1 63 = .ok (.bipush 16, 2) := by decide +kernel
theorem d_M_solve_65 : decode M_M_solve.2.1 65 = .ok (.iload 4, 2) := by decide +kernel
theorem d_M_solve_67 : decode M_M_solve.2.1 67 = .ok (.imul, 1) := by decide +kernel
theorem d_M_solve_68 : decode M_M_solve.2.1 68 = .ok (.iload 6, 2) := by decide +kernel
theorem d_M_solve_70 : decode M_M_solve.2.1 70 = .ok (.iadd, 1) := by decide +kernel
theorem d_M_solve_71 : decode M_M_solve.2.1 71 = .ok (.iaload, 1) := by decide +kernel
theorem d_M_solve_72 : decode M_M_solve.2.1 72 = .ok (.iload 5, 2) := by decide +kernel
theorem d_M_solve_74 : decode M_M_solve.2.1 74 = .ok (.invokestatic 64, 3) := by decide +kernel
theorem d_M_solve_77 : decode M_M_solve.2.1 77 = .ok (.istore 7, 2) := by decide +kernel
theorem d_M_solve_79 : decode M_M_solve.2.1 79 = .ok (.aload_n 0, 1) := by decide +kernel
theorem d_M_solve_80 : decode M_M_solve.2.1 80 = .ok (.getfield 51, 3) := by decide +kernel
theorem d_M_solve_83 : decode M_M_solve.2.1 83 = .ok (.bipush 16, 2) := by decide +kernel
theorem d_M_solve_85 : decode M_M_solve.2.1 85 = .ok (.iload 4, 2) := by decide +kernel
theorem d_M_solve_87 : decode M_M_solve.2.1 87 = .ok (.imul, 1) := by decide +kernel
theorem d_M_solve_88 : decode M_M_solve.2.1 88 = .ok (.iload 6, 2) := by decide +kernel
theorem d_M_solve_90 : decode M_M_solve.2.1 90 = .ok (.iadd, 1) := by decide +kernel
theorem d_M_solve_91 : decode M_M_solve.2.1 91 = .ok (.aload_n 0, 1) := by decide +kernel
theorem d_M_solve_92 : decode M_M_solve.2.1 92 = .ok (.getfield 51, 3) := by decide +kernel
theorem d_M_solve_95 : decode M_M_solve.2.1 95 = .ok (.bipush 16, 2) := by decide +kernel
theorem d_M_solve_97 : decode M_M_solve.2.1 97 = .ok (.iload_n 3, 1) := by decide +kernel
theorem d_M_solve_98 : decode M_M_solve.2.1 98 = .ok (.imul, 1) := by decide +kernel
theorem d_M_solve_99 : decode M_M_solve.2.1 99 = .ok (.iload 6, 2) := by decide +kernel
theorem d_M_solve_101 : decode M_M_solve.2.1 101 = .ok (.iadd, 1) := by decide +kernel
theorem d_M_solve_102 : decode M_M_solve.2.1 102 = .ok (.iaload, 1) := by decide +kernel
theorem d_M_solve_103 : decode M_M_solve.2.1 103 = .ok (.iastore, 1) := by decide +kernel
theorem d_M_solve_104 : decode M_M_solve.2.1 104 = .ok (.aload_n 0, 1) := by decide +kernel
theorem d_M_solve_105 : decode M_M_solve.2.1 105 = .ok (.getfield 51, 3) := by decide +kernel
theorem d_M_solve_108 : decode M_M_solve.2.1 108 = .ok (.bipush 16, 2) := by decide +kernel
theorem d_M_solve_110 : decode M_M_solve.2.1 110 = .ok (.iload_n 3, 1) := by decide +kernel
theorem d_M_solve_111 : decode M_M_solve.2.1 111 = .ok (.imul, 1) := by decide +kernel
theorem d_M_solve_112 : decode M_M_solve.2.1 112 = .ok (.iload 6, 2) := by decide +kernel
theorem d_M_solve_114 : decode M_M_solve.2.1 114 = .ok (.iadd, 1) := by decide +kernel
theorem d_M_solve_115 : decode M_M_solve.2.1 115 = .ok (.iload 7, 2) := by decide +kernel
theorem d_M_solve_117 : decode M_M_solve.2.1 117 = .ok (.iastore, 1) := by decide +kernel
theorem d_M_solve_118 : decode M_M_solve.2.1 118 = .ok (.iinc 6 1, 3) := by decide +kernel
theorem d_M_solve_121 : decode M_M_solve.2.1 121 = .ok (.goto (-70), 3) := by decide +kernel
theorem d_M_solve_124 : decode M_M_solve.2.1 124 = .ok (.iconst 0, 1) := by decide +kernel
theorem d_M_solve_125 : decode M_M_solve.2.1 125 = .ok (.istore 6, 2) := by decide +kernel
theorem d_M_solve_127 : decode M_M_solve.2.1 127 = .ok (.iload 6, 2) := by decide +kernel
theorem d_M_solve_129 : decode M_M_solve.2.1 129 = .ok (.iload_n 1, 1) := by decide +kernel
theorem d_M_solve_130 : decode M_M_solve.2.1 130 = .ok (.if_icmp .ge 88, 3) := by decide +kernel
theorem d_M_solve_133 : decode M_M_solve.2.1 133 = .ok (.iload 6, 2) := by decide +kernel
theorem d_M_solve_135 : decode M_M_solve.2.1 135 = .ok (.iload_n 3, 1) := by decide +kernel
theorem d_M_solve_136 : decode M_M_solve.2.1 136 = .ok (.if_icmp .ne 7, 3) := by decide +kernel
theorem d_M_solve_139 : decode M_M_solve.2.1 139 = .ok (.iconst 0, 1) := by decide +kernel
theorem d_M_solve_140 : decode M_M_solve.2.1 140 = .ok (.goto 15, 3) := by decide +kernel
theorem d_M_solve_143 : decode M_M_solve.2.1 143 = .ok (.aload_n 0, 1) := by decide +kernel
theorem d_M_solve_144 : decode M_M_solve.2.1 144 = .ok (.getfield 51, 3) := by decide +kernel
theorem d_M_solve_147 : decode M_M_solve.2.1 147 = .ok (.bipush 16, 2) := by decide +kernel
theorem d_M_solve_149 : decode M_M_solve.2.1 149 = .ok (.iload 6, 2) := by decide +kernel
theorem d_M_solve_151 : decode M_M_solve.2.1 151 = .ok (.imul, 1) := by decide +kernel
theorem d_M_solve_152 : decode M_M_solve.2.1 152 = .ok (.iload_n 3, 1) := by decide +kernel
theorem d_M_solve_153 : decode M_M_solve.2.1 153 = .ok (.iadd, 1) := by decide +kernel
theorem d_M_solve_154 : decode M_M_solve.2.1 154 = .ok (.iaload, 1) := by decide +kernel
theorem d_M_solve_155 : decode M_M_solve.2.1 155 = .ok (.istore 7, 2) := by decide +kernel
theorem d_M_solve_157 : decode M_M_solve.2.1 157 = .ok (.iconst 0, 1) := by decide +kernel
theorem d_M_solve_158 : decode M_M_solve.2.1 158 = .ok (.istore 8, 2) := by decide +kernel
theorem d_M_solve_160 : decode M_M_solve.2.1 160 = .ok (.iload 8, 2) := by decide +kernel
theorem d_M_solve_162 : decode M_M_solve.2.1 162 = .ok (.iload_n 1, 1) := by decide +kernel
theorem d_M_solve_163 : decode M_M_solve.2.1 163 = .ok (.iload_n 2, 1) := by decide +kernel
theorem d_M_solve_164 : decode M_M_solve.2.1 164 = .ok (.iadd, 1) := by decide +kernel
theorem d_M_solve_165 : decode M_M_solve.2.1 165 = .ok (.if_icmp .ge 47, 3) := by decide +kernel
theorem d_M_solve_168 : decode M_M_solve.2.1 168 = .ok (.iload 7, 2) := by decide +kernel
theorem d_M_solve_170 : decode M_M_solve.2.1 170 = .ok (.ifCond .eq 42, 3) := by decide +kernel
theorem d_M_solve_173 : decode M_M_solve.2.1 173 = .ok (.aload_n 0, 1) := by decide +kernel
theorem d_M_solve_174 : decode M_M_solve.2.1 174 = .ok (.getfield 51, 3) := by decide +kernel
theorem d_M_solve_177 : decode M_M_solve.2.1 177 = .ok (.bipush 16, 2) := by decide +kernel
theorem d_M_solve_179 : decode M_M_solve.2.1 179 = .ok (.iload 6, 2) := by decide +kernel
theorem d_M_solve_181 : decode M_M_solve.2.1 181 = .ok (.imul, 1) := by decide +kernel
theorem d_M_solve_182 : decode M_M_solve.2.1 182 = .ok (.iload 8, 2) := by decide +kernel
theorem d_M_solve_184 : decode M_M_solve.2.1 184 = .ok (.iadd, 1) := by decide +kernel
theorem d_M_solve_185 : decode M_M_solve.2.1 185 = .ok (.dup2, 1) := by decide +kernel
theorem d_M_solve_186 : decode M_M_solve.2.1 186 = .ok (.iaload, 1) := by decide +kernel
theorem d_M_solve_187 : decode M_M_solve.2.1 187 = .ok (.iload 7, 2) := by decide +kernel
theorem d_M_solve_189 : decode M_M_solve.2.1 189 = .ok (.aload_n 0, 1) := by decide +kernel
theorem d_M_solve_190 : decode M_M_solve.2.1 190 = .ok (.getfield 51, 3) := by decide +kernel
theorem d_M_solve_193 : decode M_M_solve.2.1 193 = .ok (.bipush 16, 2) := by decide +kernel
theorem d_M_solve_195 : decode M_M_solve.2.1 195 = .ok (.iload_n 3, 1) := by decide +kernel
theorem d_M_solve_196 : decode M_M_solve.2.1 196 = .ok (.imul, 1) := by decide +kernel
theorem d_M_solve_197 : decode M_M_solve.2.1 197 = .ok (.iload 8, 2) := by decide +kernel
theorem d_M_solve_199 : decode M_M_solve.2.1 199 = .ok (.iadd, 1) := by decide +kernel
theorem d_M_solve_200 : decode M_M_solve.2.1 200 = .ok (.iaload, 1) := by decide +kernel
theorem d_M_solve_201 : decode M_M_solve.2.1 201 = .ok (.invokestatic 64, 3) := by decide +kernel
theorem d_M_solve_204 : decode M_M_solve.2.1 204 = .ok (.ixor, 1) := by decide +kernel
theorem d_M_solve_205 : decode M_M_solve.2.1 205 = .ok (.iastore, 1) := by decide +kernel
theorem d_M_solve_206 : decode M_M_solve.2.1 206 = .ok (.iinc 8 1, 3) := by decide +kernel
theorem d_M_solve_209 : decode M_M_solve.2.1 209 = .ok (.goto (-49), 3) := by decide +kernel
theorem d_M_solve_212 : decode M_M_solve.2.1 212 = .ok (.iinc 6 1, 3) := by decide +kernel
theorem d_M_solve_215 : decode M_M_solve.2.1 215 = .ok (.goto (-88), 3) := by decide +kernel
theorem d_M_solve_218 : decode M_M_solve.2.1 218 = .ok (.iinc 3 1, 3) := by decide +kernel
theorem d_M_solve_221 : decode M_M_solve.2.1 221 = .ok (.goto (-219), 3) := by decide +kernel
theorem d_M_solve_224 : decode M_M_solve.2.1 224 = .ok (.return_, 1) := by decide +kernel
theorem d_M_stripes_0 : decode M_M_stripes.2.1 0 = .ok (.iload_n 0, 1) := by decide +kernel
theorem d_M_stripes_1 : decode M_M_stripes.2.1 1 = .ok (.bipush 30, 2) := by decide +kernel
theorem d_M_stripes_3 : decode M_M_stripes.2.1 3 = .ok (.iadd, 1) := by decide +kernel
theorem d_M_stripes_4 : decode M_M_stripes.2.1 4 = .ok (.iconst 1, 1) := by decide +kernel
theorem d_M_stripes_5 : decode M_M_stripes.2.1 5 = .ok (.isub, 1) := by decide +kernel
theorem d_M_stripes_6 : decode M_M_stripes.2.1 6 = .ok (.bipush 30, 2) := by decide +kernel
theorem d_M_stripes_8 : decode M_M_stripes.2.1 8 = .ok (.idiv, 1) := by decide +kernel
theorem d_M_stripes_9 : decode M_M_stripes.2.1 9 = .ok (.ireturn, 1) := by decide +kernel
theorem d_M_symbol_0 : decode M_M_symbol.2.1 0 = .ok (.iload_n 1, 1) := by decide +kernel
theorem d_M_symbol_1 : decode M_M_symbol.2.1 1 = .ok (.invokestatic 72, 3) := by decide +kernel
theorem d_M_symbol_4 : decode M_M_symbol.2.1 4 = .ok (.ifCond .eq 17, 3) := by decide +kernel
theorem d_M_symbol_7 : decode M_M_symbol.2.1 7 = .ok (.iload_n 2, 1) := by decide +kernel
theorem d_M_symbol_8 : decode M_M_symbol.2.1 8 = .ok (.invokestatic 72, 3) := by decide +kernel
theorem d_M_symbol_11 : decode M_M_symbol.2.1 11 = .ok (.ifCond .eq 10, 3) := by decide +kernel
theorem d_M_symbol_14 : decode M_M_symbol.2.1 14 = .ok (.iload_n 3, 1) := by decide +kernel
theorem d_M_symbol_15 : decode M_M_symbol.2.1 15 = .ok (.invokestatic 125, 3) := by decide +kernel
theorem d_M_symbol_18 : decode M_M_symbol.2.1 18 = .ok (.ifCond .ne 6, 3) := by decide +kernel
theorem d_M_symbol_21 : decode M_M_symbol.2.1 21 = .ok (.bipush (-2), 2) := by decide +kernel
theorem d_M_symbol_23 : decode M_M_symbol.2.1 23 = .ok (.ireturn, 1) := by decide +kernel
theorem d_M_symbol_24 : decode M_M_symbol.2.1 24 = .ok (.iload_n 1, 1) := by decide +kernel
theorem d_M_symbol_25 : decode M_M_symbol.2.1 25 = .ok (.iload_n 3, 1) := by decide +kernel
theorem d_M_symbol_26 : decode M_M_symbol.2.1 26 = .ok (.iconst 0, 1) := by decide +kernel
theorem d_M_symbol_27 : decode M_M_symbol.2.1 27 = .ok (.invokestatic 79, 3) := by decide +kernel
theorem d_M_symbol_30 : decode M_M_symbol.2.1 30 = .ok (.istore 5, 2) := by decide +kernel
theorem d_M_symbol_32 : decode M_M_symbol.2.1 32 = .ok (.aload_n 0, 1) := by decide +kernel
theorem d_M_symbol_33 : decode M_M_symbol.2.1 33 = .ok (.getfield 30, 3) := by decide +kernel
theorem d_M_symbol_36 : decode M_M_symbol.2.1 36 = .ok (.iload 5, 2) := by decide +kernel
theorem d_M_symbol_38 : decode M_M_symbol.2.1 38 = .ok (.baload, 1) := by decide +kernel
theorem d_M_symbol_39 : decode M_M_symbol.2.1 39 = .ok (.ifCond .eq 37, 3) := by decide +kernel
theorem d_M_symbol_42 : decode M_M_symbol.2.1 42 = .ok (.iload 4, 2) := by decide +kernel
theorem d_M_symbol_44 : decode M_M_symbol.2.1 44 = .ok (.iconst 0, 1) := by decide +kernel
theorem d_M_symbol_45 : decode M_M_symbol.2.1 45 = .ok (.aload_n 0, 1) := by decide +kernel
theorem d_M_symbol_46 : decode M_M_symbol.2.1 46 = .ok (.getfield 36, 3) := by decide +kernel
theorem d_M_symbol_49 : decode M_M_symbol.2.1 49 = .ok (.iload 5, 2) := by decide +kernel
theorem d_M_symbol_51 : decode M_M_symbol.2.1 51 = .ok (.iaload, 1) := by decide +kernel
theorem d_M_symbol_52 : decode M_M_symbol.2.1 52 = .ok (.invokestatic 83, 3) := by decide +kernel
theorem d_M_symbol_55 : decode M_M_symbol.2.1 55 = .ok (.iconst 1, 1) := by decide +kernel
theorem d_M_symbol_56 : decode M_M_symbol.2.1 56 = .ok (.isub, 1) := by decide +kernel
theorem d_M_symbol_57 : decode M_M_symbol.2.1 57 = .ok (.invokestatic 60, 3) := by decide +kernel
theorem d_M_symbol_60 : decode M_M_symbol.2.1 60 = .ok (.ifCond .eq 16, 3) := by decide +kernel
theorem d_M_symbol_63 : decode M_M_symbol.2.1 63 = .ok (.aload_n 0, 1) := by decide +kernel
theorem d_M_symbol_64 : decode M_M_symbol.2.1 64 = .ok (.iload_n 1, 1) := by decide +kernel
theorem d_M_symbol_65 : decode M_M_symbol.2.1 65 = .ok (.iload_n 2, 1) := by decide +kernel
theorem d_M_symbol_66 : decode M_M_symbol.2.1 66 = .ok (.iload 5, 2) := by decide +kernel
theorem d_M_symbol_68 : decode M_M_symbol.2.1 68 = .ok (.iload 4, 2) := by decide +kernel
theorem d_M_symbol_70 : decode M_M_symbol.2.1 70 = .ok (.invokevirtual 159, 3) := by decide +kernel
theorem d_M_symbol_73 : decode M_M_symbol.2.1 73 = .ok (.goto 4, 3) := by decide +kernel
theorem d_M_symbol_76 : decode M_M_symbol.2.1 76 = .ok (.iconst (-1), 1) := by decide +kernel
theorem d_M_symbol_77 : decode M_M_symbol.2.1 77 = .ok (.ireturn, 1) := by decide +kernel
theorem d_M_symbolOf_0 : decode M_M_symbolOf.2.1 0 = .ok (.iconst 0, 1) := by decide +kernel
theorem d_M_symbolOf_1 : decode M_M_symbolOf.2.1 1 = .ok (.istore 5, 2) := by decide +kernel
theorem d_M_symbolOf_3 : decode M_M_symbolOf.2.1 3 = .ok (.iconst 0, 1) := by decide +kernel
theorem d_M_symbolOf_4 : decode M_M_symbolOf.2.1 4 = .ok (.istore 6, 2) := by decide +kernel
theorem d_M_symbolOf_6 : decode M_M_symbolOf.2.1 6 = .ok (.iload 6, 2) := by decide +kernel
theorem d_M_symbolOf_8 : decode M_M_symbolOf.2.1 8 = .ok (.bipush 8, 2) := by decide +kernel
theorem d_M_symbolOf_10 : decode M_M_symbolOf.2.1 10 = .ok (.if_icmp .ge 38, 3) := by decide +kernel
theorem d_M_symbolOf_13 : decode M_M_symbolOf.2.1 13 = .ok (.iload 5, 2) := by decide +kernel
theorem d_M_symbolOf_15 : decode M_M_symbolOf.2.1 15 = .ok (.aload_n 0, 1) := by decide +kernel
theorem d_M_symbolOf_16 : decode M_M_symbolOf.2.1 16 = .ok (.getfield 27, 3) := by decide +kernel
theorem d_M_symbolOf_19 : decode M_M_symbolOf.2.1 19 = .ok (.aload_n 0, 1) := by decide +kernel
theorem d_M_symbolOf_20 : decode M_M_symbolOf.2.1 20 = .ok (.iload_n 1, 1) := by decide +kernel
theorem d_M_symbolOf_21 : decode M_M_symbolOf.2.1 21 = .ok (.iload_n 3, 1) := by decide +kernel
theorem d_M_symbolOf_22 : decode M_M_symbolOf.2.1 22 = .ok (.iload 4, 2) := by decide +kernel
theorem d_M_symbolOf_24 : decode M_M_symbolOf.2.1 24 = .ok (.iload 6, 2) := by decide +kernel
theorem d_M_symbolOf_26 : decode M_M_symbolOf.2.1 26 = .ok (.invokevirtual 103, 3) := by decide +kernel
theorem d_M_symbolOf_29 : decode M_M_symbolOf.2.1 29 = .ok (.iaload, 1) := by decide +kernel
theorem d_M_symbolOf_30 : decode M_M_symbolOf.2.1 30 = .ok (.iload_n 2, 1) := by decide +kernel
theorem d_M_symbolOf_31 : decode M_M_symbolOf.2.1 31 = .ok (.iload 6, 2) := by decide +kernel
theorem d_M_symbolOf_33 : decode M_M_symbolOf.2.1 33 = .ok (.invokestatic 76, 3) := by decide +kernel
theorem d_M_symbolOf_36 : decode M_M_symbolOf.2.1 36 = .ok (.invokestatic 64, 3) := by decide +kernel
theorem d_M_symbolOf_39 : decode M_M_symbolOf.2.1 39 = .ok (.ixor, 1) := by decide +kernel
theorem d_M_symbolOf_40 : decode M_M_symbolOf.2.1 40 = .ok (.istore 5, 2) := by decide +kernel
theorem d_M_symbolOf_42 : decode M_M_symbolOf.2.1 42 = .ok (.iinc 6 1, 3) := by decide +kernel
theorem d_M_symbolOf_45 : decode M_M_symbolOf.2.1 45 = .ok (.goto (-39), 3) := by decide +kernel
theorem d_M_symbolOf_48 : decode M_M_symbolOf.2.1 48 = .ok (.iload 5, 2) := by decide +kernel
theorem d_M_symbolOf_50 : decode M_M_symbolOf.2.1 50 = .ok (.ireturn, 1) := by decide +kernel
theorem d_M_takes_0 : decode M_M_takes.2.1 0 = .ok (.iload_n 1, 1) := by decide +kernel
theorem d_M_takes_1 : decode M_M_takes.2.1 1 = .ok (.iload_n 2, 1) := by decide +kernel
theorem d_M_takes_2 : decode M_M_takes.2.1 2 = .ok (.iload_n 3, 1) := by decide +kernel
theorem d_M_takes_3 : decode M_M_takes.2.1 3 = .ok (.invokestatic 79, 3) := by decide +kernel
theorem d_M_takes_6 : decode M_M_takes.2.1 6 = .ok (.istore 6, 2) := by decide +kernel
theorem d_M_takes_8 : decode M_M_takes.2.1 8 = .ok (.aload_n 0, 1) := by decide +kernel
theorem d_M_takes_9 : decode M_M_takes.2.1 9 = .ok (.getfield 30, 3) := by decide +kernel
theorem d_M_takes_12 : decode M_M_takes.2.1 12 = .ok (.iload 6, 2) := by decide +kernel
theorem d_M_takes_14 : decode M_M_takes.2.1 14 = .ok (.iconst 1, 1) := by decide +kernel
theorem d_M_takes_15 : decode M_M_takes.2.1 15 = .ok (.bastore, 1) := by decide +kernel
theorem d_M_takes_16 : decode M_M_takes.2.1 16 = .ok (.aload_n 0, 1) := by decide +kernel
theorem d_M_takes_17 : decode M_M_takes.2.1 17 = .ok (.getfield 33, 3) := by decide +kernel
theorem d_M_takes_20 : decode M_M_takes.2.1 20 = .ok (.iload 6, 2) := by decide +kernel
theorem d_M_takes_22 : decode M_M_takes.2.1 22 = .ok (.iload 4, 2) := by decide +kernel
theorem d_M_takes_24 : decode M_M_takes.2.1 24 = .ok (.iastore, 1) := by decide +kernel
theorem d_M_takes_25 : decode M_M_takes.2.1 25 = .ok (.aload_n 0, 1) := by decide +kernel
theorem d_M_takes_26 : decode M_M_takes.2.1 26 = .ok (.getfield 36, 3) := by decide +kernel
theorem d_M_takes_29 : decode M_M_takes.2.1 29 = .ok (.iload 6, 2) := by decide +kernel
theorem d_M_takes_31 : decode M_M_takes.2.1 31 = .ok (.iload 5, 2) := by decide +kernel
theorem d_M_takes_33 : decode M_M_takes.2.1 33 = .ok (.iastore, 1) := by decide +kernel
theorem d_M_takes_34 : decode M_M_takes.2.1 34 = .ok (.iconst 0, 1) := by decide +kernel
theorem d_M_takes_35 : decode M_M_takes.2.1 35 = .ok (.istore 7, 2) := by decide +kernel
theorem d_M_takes_37 : decode M_M_takes.2.1 37 = .ok (.iload 7, 2) := by decide +kernel
theorem d_M_takes_39 : decode M_M_takes.2.1 39 = .ok (.iload 5, 2) := by decide +kernel
theorem d_M_takes_41 : decode M_M_takes.2.1 41 = .ok (.invokestatic 83, 3) := by decide +kernel
theorem d_M_takes_44 : decode M_M_takes.2.1 44 = .ok (.if_icmp .ge 44, 3) := by decide +kernel
theorem d_M_takes_47 : decode M_M_takes.2.1 47 = .ok (.aload_n 0, 1) := by decide +kernel
theorem d_M_takes_48 : decode M_M_takes.2.1 48 = .ok (.iload_n 1, 1) := by decide +kernel
theorem d_M_takes_49 : decode M_M_takes.2.1 49 = .ok (.invokevirtual 86, 3) := by decide +kernel
theorem d_M_takes_52 : decode M_M_takes.2.1 52 = .ok (.istore 8, 2) := by decide +kernel
theorem d_M_takes_54 : decode M_M_takes.2.1 54 = .ok (.aload_n 0, 1) := by decide +kernel
theorem d_M_takes_55 : decode M_M_takes.2.1 55 = .ok (.getfield 24, 3) := by decide +kernel
theorem d_M_takes_58 : decode M_M_takes.2.1 58 = .ok (.bipush 40, 2) := by decide +kernel
theorem d_M_takes_60 : decode M_M_takes.2.1 60 = .ok (.iload_n 1, 1) := by decide +kernel
theorem d_M_takes_61 : decode M_M_takes.2.1 61 = .ok (.imul, 1) := by decide +kernel
theorem d_M_takes_62 : decode M_M_takes.2.1 62 = .ok (.iload 8, 2) := by decide +kernel
theorem d_M_takes_64 : decode M_M_takes.2.1 64 = .ok (.iadd, 1) := by decide +kernel
theorem d_M_takes_65 : decode M_M_takes.2.1 65 = .ok (.iconst 1, 1) := by decide +kernel
theorem d_M_takes_66 : decode M_M_takes.2.1 66 = .ok (.bastore, 1) := by decide +kernel
theorem d_M_takes_67 : decode M_M_takes.2.1 67 = .ok (.aload_n 0, 1) := by decide +kernel
theorem d_M_takes_68 : decode M_M_takes.2.1 68 = .ok (.getfield 39, 3) := by decide +kernel
theorem d_M_takes_71 : decode M_M_takes.2.1 71 = .ok (.bipush 8, 2) := by decide +kernel
theorem d_M_takes_73 : decode M_M_takes.2.1 73 = .ok (.iload 6, 2) := by decide +kernel
theorem d_M_takes_75 : decode M_M_takes.2.1 75 = .ok (.imul, 1) := by decide +kernel
theorem d_M_takes_76 : decode M_M_takes.2.1 76 = .ok (.iload 7, 2) := by decide +kernel
theorem d_M_takes_78 : decode M_M_takes.2.1 78 = .ok (.iadd, 1) := by decide +kernel
theorem d_M_takes_79 : decode M_M_takes.2.1 79 = .ok (.iload 8, 2) := by decide +kernel
theorem d_M_takes_81 : decode M_M_takes.2.1 81 = .ok (.iastore, 1) := by decide +kernel
theorem d_M_takes_82 : decode M_M_takes.2.1 82 = .ok (.iinc 7 1, 3) := by decide +kernel
theorem d_M_takes_85 : decode M_M_takes.2.1 85 = .ok (.goto (-48), 3) := by decide +kernel
theorem d_M_takes_88 : decode M_M_takes.2.1 88 = .ok (.return_, 1) := by decide +kernel
theorem d_M_times_0 : decode M_M_times.2.1 0 = .ok (.iload_n 1, 1) := by decide +kernel
theorem d_M_times_1 : decode M_M_times.2.1 1 = .ok (.iconst 0, 1) := by decide +kernel
theorem d_M_times_2 : decode M_M_times.2.1 2 = .ok (.sipush 255, 3) := by decide +kernel
theorem d_M_times_5 : decode M_M_times.2.1 5 = .ok (.invokestatic 60, 3) := by decide +kernel
theorem d_M_times_8 : decode M_M_times.2.1 8 = .ok (.ifCond .eq 22, 3) := by decide +kernel
theorem d_M_times_11 : decode M_M_times.2.1 11 = .ok (.iload_n 2, 1) := by decide +kernel
theorem d_M_times_12 : decode M_M_times.2.1 12 = .ok (.iconst 0, 1) := by decide +kernel
theorem d_M_times_13 : decode M_M_times.2.1 13 = .ok (.sipush 255, 3) := by decide +kernel
theorem d_M_times_16 : decode M_M_times.2.1 16 = .ok (.invokestatic 60, 3) := by decide +kernel
theorem d_M_times_19 : decode M_M_times.2.1 19 = .ok (.ifCond .eq 11, 3) := by decide +kernel
theorem d_M_times_22 : decode M_M_times.2.1 22 = .ok (.iload_n 1, 1) := by decide +kernel
theorem d_M_times_23 : decode M_M_times.2.1 23 = .ok (.iload_n 2, 1) := by decide +kernel
theorem d_M_times_24 : decode M_M_times.2.1 24 = .ok (.invokestatic 64, 3) := by decide +kernel
theorem d_M_times_27 : decode M_M_times.2.1 27 = .ok (.goto 5, 3) := by decide +kernel
theorem d_M_times_30 : decode M_M_times.2.1 30 = .ok (.bipush (-2), 2) := by decide +kernel
theorem d_M_times_32 : decode M_M_times.2.1 32 = .ok (.ireturn, 1) := by decide +kernel
theorem d_M_usedBy_0 : decode M_M_usedBy.2.1 0 = .ok (.iconst 0, 1) := by decide +kernel
theorem d_M_usedBy_1 : decode M_M_usedBy.2.1 1 = .ok (.istore_n 2, 1) := by decide +kernel
theorem d_M_usedBy_2 : decode M_M_usedBy.2.1 2 = .ok (.iconst 0, 1) := by decide +kernel
theorem d_M_usedBy_3 : decode M_M_usedBy.2.1 3 = .ok (.istore_n 3, 1) := by decide +kernel
theorem d_M_usedBy_4 : decode M_M_usedBy.2.1 4 = .ok (.iload_n 3, 1) := by decide +kernel
theorem d_M_usedBy_5 : decode M_M_usedBy.2.1 5 = .ok (.bipush 40, 2) := by decide +kernel
theorem d_M_usedBy_7 : decode M_M_usedBy.2.1 7 = .ok (.if_icmp .ge 31, 3) := by decide +kernel
theorem d_M_usedBy_10 : decode M_M_usedBy.2.1 10 = .ok (.iload_n 2, 1) := by decide +kernel
theorem d_M_usedBy_11 : decode M_M_usedBy.2.1 11 = .ok (.aload_n 0, 1) := by decide +kernel
theorem d_M_usedBy_12 : decode M_M_usedBy.2.1 12 = .ok (.getfield 24, 3) := by decide +kernel
theorem d_M_usedBy_15 : decode M_M_usedBy.2.1 15 = .ok (.bipush 40, 2) := by decide +kernel
theorem d_M_usedBy_17 : decode M_M_usedBy.2.1 17 = .ok (.iload_n 1, 1) := by decide +kernel
theorem d_M_usedBy_18 : decode M_M_usedBy.2.1 18 = .ok (.imul, 1) := by decide +kernel
theorem d_M_usedBy_19 : decode M_M_usedBy.2.1 19 = .ok (.iload_n 3, 1) := by decide +kernel
theorem d_M_usedBy_20 : decode M_M_usedBy.2.1 20 = .ok (.iadd, 1) := by decide +kernel
theorem d_M_usedBy_21 : decode M_M_usedBy.2.1 21 = .ok (.baload, 1) := by decide +kernel
theorem d_M_usedBy_22 : decode M_M_usedBy.2.1 22 = .ok (.ifCond .eq 7, 3) := by decide +kernel
theorem d_M_usedBy_25 : decode M_M_usedBy.2.1 25 = .ok (.iconst 1, 1) := by decide +kernel
theorem d_M_usedBy_26 : decode M_M_usedBy.2.1 26 = .ok (.goto 4, 3) := by decide +kernel
theorem d_M_usedBy_29 : decode M_M_usedBy.2.1 29 = .ok (.iconst 0, 1) := by decide +kernel
theorem d_M_usedBy_30 : decode M_M_usedBy.2.1 30 = .ok (.iadd, 1) := by decide +kernel
theorem d_M_usedBy_31 : decode M_M_usedBy.2.1 31 = .ok (.istore_n 2, 1) := by decide +kernel
theorem d_M_usedBy_32 : decode M_M_usedBy.2.1 32 = .ok (.iinc 3 1, 3) := by decide +kernel
theorem d_M_usedBy_35 : decode M_M_usedBy.2.1 35 = .ok (.goto (-31), 3) := by decide +kernel
theorem d_M_usedBy_38 : decode M_M_usedBy.2.1 38 = .ok (.iload_n 2, 1) := by decide +kernel
theorem d_M_usedBy_39 : decode M_M_usedBy.2.1 39 = .ok (.ireturn, 1) := by decide +kernel
theorem d_M_version_0 : decode M_M_version.2.1 0 = .ok (.iload_n 1, 1) := by decide +kernel
theorem d_M_version_1 : decode M_M_version.2.1 1 = .ok (.invokestatic 125, 3) := by decide +kernel
theorem d_M_version_4 : decode M_M_version.2.1 4 = .ok (.ifCond .eq 11, 3) := by decide +kernel
theorem d_M_version_7 : decode M_M_version.2.1 7 = .ok (.aload_n 0, 1) := by decide +kernel
theorem d_M_version_8 : decode M_M_version.2.1 8 = .ok (.iload_n 1, 1) := by decide +kernel
theorem d_M_version_9 : decode M_M_version.2.1 9 = .ok (.invokevirtual 140, 3) := by decide +kernel
theorem d_M_version_12 : decode M_M_version.2.1 12 = .ok (.goto 5, 3) := by decide +kernel
theorem d_M_version_15 : decode M_M_version.2.1 15 = .ok (.bipush (-2), 2) := by decide +kernel
theorem d_M_version_17 : decode M_M_version.2.1 17 = .ok (.ireturn, 1) := by decide +kernel
theorem d_M_wants_0 : decode M_M_wants.2.1 0 = .ok (.aload_n 0, 1) := by decide +kernel
theorem d_M_wants_1 : decode M_M_wants.2.1 1 = .ok (.iload_n 2, 1) := by decide +kernel
theorem d_M_wants_2 : decode M_M_wants.2.1 2 = .ok (.invokevirtual 140, 3) := by decide +kernel
theorem d_M_wants_5 : decode M_M_wants.2.1 5 = .ok (.istore_n 3, 1) := by decide +kernel
theorem d_M_wants_6 : decode M_M_wants.2.1 6 = .ok (.aload_n 0, 1) := by decide +kernel
theorem d_M_wants_7 : decode M_M_wants.2.1 7 = .ok (.getfield 45, 3) := by decide +kernel
theorem d_M_wants_10 : decode M_M_wants.2.1 10 = .ok (.iload_n 2, 1) := by decide +kernel
theorem d_M_wants_11 : decode M_M_wants.2.1 11 = .ok (.baload, 1) := by decide +kernel
theorem d_M_wants_12 : decode M_M_wants.2.1 12 = .ok (.ifCond .ne 21, 3) := by decide +kernel
theorem d_M_wants_15 : decode M_M_wants.2.1 15 = .ok (.iload_n 3, 1) := by decide +kernel
theorem d_M_wants_16 : decode M_M_wants.2.1 16 = .ok (.ifCond .le 17, 3) := by decide +kernel
theorem d_M_wants_19 : decode M_M_wants.2.1 19 = .ok (.aload_n 0, 1) := by decide +kernel
theorem d_M_wants_20 : decode M_M_wants.2.1 20 = .ok (.iload_n 1, 1) := by decide +kernel
theorem d_M_wants_21 : decode M_M_wants.2.1 21 = .ok (.iload_n 2, 1) := by decide +kernel
theorem d_M_wants_22 : decode M_M_wants.2.1 22 = .ok (.iload_n 3, 1) := by decide +kernel
theorem d_M_wants_23 : decode M_M_wants.2.1 23 = .ok (.invokevirtual 93, 3) := by decide +kernel
theorem d_M_wants_26 : decode M_M_wants.2.1 26 = .ok (.ifCond .ne 7, 3) := by decide +kernel
theorem d_M_wants_29 : decode M_M_wants.2.1 29 = .ok (.iconst 1, 1) := by decide +kernel
theorem d_M_wants_30 : decode M_M_wants.2.1 30 = .ok (.goto 4, 3) := by decide +kernel
theorem d_M_wants_33 : decode M_M_wants.2.1 33 = .ok (.iconst 0, 1) := by decide +kernel
theorem d_M_wants_34 : decode M_M_wants.2.1 34 = .ok (.ireturn, 1) := by decide +kernel
theorem d_M_wipe_0 : decode M_M_wipe.2.1 0 = .ok (.iload_n 1, 1) := by decide +kernel
theorem d_M_wipe_1 : decode M_M_wipe.2.1 1 = .ok (.invokestatic 72, 3) := by decide +kernel
theorem d_M_wipe_4 : decode M_M_wipe.2.1 4 = .ok (.ifCond .ne 6, 3) := by decide +kernel
theorem d_M_wipe_7 : decode M_M_wipe.2.1 7 = .ok (.bipush (-2), 2) := by decide +kernel
theorem d_M_wipe_9 : decode M_M_wipe.2.1 9 = .ok (.ireturn, 1) := by decide +kernel
theorem d_M_wipe_10 : decode M_M_wipe.2.1 10 = .ok (.aload_n 0, 1) := by decide +kernel
theorem d_M_wipe_11 : decode M_M_wipe.2.1 11 = .ok (.iload_n 1, 1) := by decide +kernel
theorem d_M_wipe_12 : decode M_M_wipe.2.1 12 = .ok (.invokevirtual 131, 3) := by decide +kernel
theorem d_M_wipe_15 : decode M_M_wipe.2.1 15 = .ok (.istore_n 2, 1) := by decide +kernel
theorem d_M_wipe_16 : decode M_M_wipe.2.1 16 = .ok (.iconst 0, 1) := by decide +kernel
theorem d_M_wipe_17 : decode M_M_wipe.2.1 17 = .ok (.istore_n 3, 1) := by decide +kernel
theorem d_M_wipe_18 : decode M_M_wipe.2.1 18 = .ok (.iload_n 3, 1) := by decide +kernel
theorem d_M_wipe_19 : decode M_M_wipe.2.1 19 = .ok (.bipush 6, 2) := by decide +kernel
theorem d_M_wipe_21 : decode M_M_wipe.2.1 21 = .ok (.if_icmp .ge 23, 3) := by decide +kernel
theorem d_M_wipe_24 : decode M_M_wipe.2.1 24 = .ok (.aload_n 0, 1) := by decide +kernel
theorem d_M_wipe_25 : decode M_M_wipe.2.1 25 = .ok (.iload_n 1, 1) := by decide +kernel
theorem d_M_wipe_26 : decode M_M_wipe.2.1 26 = .ok (.iload_n 3, 1) := by decide +kernel
theorem d_M_wipe_27 : decode M_M_wipe.2.1 27 = .ok (.iconst 0, 1) := by decide +kernel
theorem d_M_wipe_28 : decode M_M_wipe.2.1 28 = .ok (.invokevirtual 89, 3) := by decide +kernel
theorem d_M_wipe_31 : decode M_M_wipe.2.1 31 = .ok (.aload_n 0, 1) := by decide +kernel
theorem d_M_wipe_32 : decode M_M_wipe.2.1 32 = .ok (.iload_n 1, 1) := by decide +kernel
theorem d_M_wipe_33 : decode M_M_wipe.2.1 33 = .ok (.iload_n 3, 1) := by decide +kernel
theorem d_M_wipe_34 : decode M_M_wipe.2.1 34 = .ok (.iconst 1, 1) := by decide +kernel
theorem d_M_wipe_35 : decode M_M_wipe.2.1 35 = .ok (.invokevirtual 89, 3) := by decide +kernel
theorem d_M_wipe_38 : decode M_M_wipe.2.1 38 = .ok (.iinc 3 1, 3) := by decide +kernel
theorem d_M_wipe_41 : decode M_M_wipe.2.1 41 = .ok (.goto (-23), 3) := by decide +kernel
theorem d_M_wipe_44 : decode M_M_wipe.2.1 44 = .ok (.aload_n 0, 1) := by decide +kernel
theorem d_M_wipe_45 : decode M_M_wipe.2.1 45 = .ok (.getfield 17, 3) := by decide +kernel
theorem d_M_wipe_48 : decode M_M_wipe.2.1 48 = .ok (.iload_n 1, 1) := by decide +kernel
theorem d_M_wipe_49 : decode M_M_wipe.2.1 49 = .ok (.iconst 0, 1) := by decide +kernel
theorem d_M_wipe_50 : decode M_M_wipe.2.1 50 = .ok (.bastore, 1) := by decide +kernel
theorem d_M_wipe_51 : decode M_M_wipe.2.1 51 = .ok (.iload_n 2, 1) := by decide +kernel
theorem d_M_wipe_52 : decode M_M_wipe.2.1 52 = .ok (.ireturn, 1) := by decide +kernel
theorem d_N_byteAt_0 : decode M_N_byteAt.2.1 0 = .ok (.iload_n 1, 1) := by decide +kernel
theorem d_N_byteAt_1 : decode M_N_byteAt.2.1 1 = .ok (.ifCond .lt 28, 3) := by decide +kernel
theorem d_N_byteAt_4 : decode M_N_byteAt.2.1 4 = .ok (.iload_n 1, 1) := by decide +kernel
theorem d_N_byteAt_5 : decode M_N_byteAt.2.1 5 = .ok (.bipush 40, 2) := by decide +kernel
theorem d_N_byteAt_7 : decode M_N_byteAt.2.1 7 = .ok (.if_icmp .ge 22, 3) := by decide +kernel
theorem d_N_byteAt_10 : decode M_N_byteAt.2.1 10 = .ok (.iload_n 2, 1) := by decide +kernel
theorem d_N_byteAt_11 : decode M_N_byteAt.2.1 11 = .ok (.ifCond .lt 18, 3) := by decide +kernel
theorem d_N_byteAt_14 : decode M_N_byteAt.2.1 14 = .ok (.iload_n 2, 1) := by decide +kernel
theorem d_N_byteAt_15 : decode M_N_byteAt.2.1 15 = .ok (.bipush 8, 2) := by decide +kernel
theorem d_N_byteAt_17 : decode M_N_byteAt.2.1 17 = .ok (.if_icmp .ge 12, 3) := by decide +kernel
theorem d_N_byteAt_20 : decode M_N_byteAt.2.1 20 = .ok (.aload_n 0, 1) := by decide +kernel
theorem d_N_byteAt_21 : decode M_N_byteAt.2.1 21 = .ok (.getfield 15, 3) := by decide +kernel
theorem d_N_byteAt_24 : decode M_N_byteAt.2.1 24 = .ok (.iload_n 1, 1) := by decide +kernel
theorem d_N_byteAt_25 : decode M_N_byteAt.2.1 25 = .ok (.baload, 1) := by decide +kernel
theorem d_N_byteAt_26 : decode M_N_byteAt.2.1 26 = .ok (.ifCond .ne 5, 3) := by decide +kernel
theorem d_N_byteAt_29 : decode M_N_byteAt.2.1 29 = .ok (.iconst (-1), 1) := by decide +kernel
theorem d_N_byteAt_30 : decode M_N_byteAt.2.1 30 = .ok (.ireturn, 1) := by decide +kernel
theorem d_N_byteAt_31 : decode M_N_byteAt.2.1 31 = .ok (.aload_n 0, 1) := by decide +kernel
theorem d_N_byteAt_32 : decode M_N_byteAt.2.1 32 = .ok (.getfield 9, 3) := by decide +kernel
theorem d_N_byteAt_35 : decode M_N_byteAt.2.1 35 = .ok (.iload_n 1, 1) := by decide +kernel
theorem d_N_byteAt_36 : decode M_N_byteAt.2.1 36 = .ok (.bipush 8, 2) := by decide +kernel
theorem d_N_byteAt_38 : decode M_N_byteAt.2.1 38 = .ok (.imul, 1) := by decide +kernel
theorem d_N_byteAt_39 : decode M_N_byteAt.2.1 39 = .ok (.iload_n 2, 1) := by decide +kernel
theorem d_N_byteAt_40 : decode M_N_byteAt.2.1 40 = .ok (.iadd, 1) := by decide +kernel
theorem d_N_byteAt_41 : decode M_N_byteAt.2.1 41 = .ok (.iaload, 1) := by decide +kernel
theorem d_N_byteAt_42 : decode M_N_byteAt.2.1 42 = .ok (.ireturn, 1) := by decide +kernel
theorem d_N_flip_0 : decode M_N_flip.2.1 0 = .ok (.aload_n 0, 1) := by decide +kernel
theorem d_N_flip_1 : decode M_N_flip.2.1 1 = .ok (.getfield 21, 3) := by decide +kernel
theorem d_N_flip_4 : decode M_N_flip.2.1 4 = .ok (.iload_n 1, 1) := by decide +kernel
theorem d_N_flip_5 : decode M_N_flip.2.1 5 = .ok (.aaload, 1) := by decide +kernel
theorem d_N_flip_6 : decode M_N_flip.2.1 6 = .ok (.astore_n 2, 1) := by decide +kernel
theorem d_N_flip_7 : decode M_N_flip.2.1 7 = .ok (.aload_n 0, 1) := by decide +kernel
theorem d_N_flip_8 : decode M_N_flip.2.1 8 = .ok (.aload_n 2, 1) := by decide +kernel
theorem d_N_flip_9 : decode M_N_flip.2.1 9 = .ok (.invokevirtual 66, 3) := by decide +kernel
theorem d_N_flip_12 : decode M_N_flip.2.1 12 = .ok (.aload_n 0, 1) := by decide +kernel
theorem d_N_flip_13 : decode M_N_flip.2.1 13 = .ok (.getfield 21, 3) := by decide +kernel
theorem d_N_flip_16 : decode M_N_flip.2.1 16 = .ok (.iload_n 1, 1) := by decide +kernel
theorem d_N_flip_17 : decode M_N_flip.2.1 17 = .ok (.aload_n 0, 1) := by decide +kernel
theorem d_N_flip_18 : decode M_N_flip.2.1 18 = .ok (.getfield 25, 3) := by decide +kernel
theorem d_N_flip_21 : decode M_N_flip.2.1 21 = .ok (.iload_n 1, 1) := by decide +kernel
theorem d_N_flip_22 : decode M_N_flip.2.1 22 = .ok (.aaload, 1) := by decide +kernel
theorem d_N_flip_23 : decode M_N_flip.2.1 23 = .ok (.aastore, 1) := by decide +kernel
theorem d_N_flip_24 : decode M_N_flip.2.1 24 = .ok (.aload_n 0, 1) := by decide +kernel
theorem d_N_flip_25 : decode M_N_flip.2.1 25 = .ok (.getfield 25, 3) := by decide +kernel
theorem d_N_flip_28 : decode M_N_flip.2.1 28 = .ok (.iload_n 1, 1) := by decide +kernel
theorem d_N_flip_29 : decode M_N_flip.2.1 29 = .ok (.aload_n 2, 1) := by decide +kernel
theorem d_N_flip_30 : decode M_N_flip.2.1 30 = .ok (.aastore, 1) := by decide +kernel
theorem d_N_flip_31 : decode M_N_flip.2.1 31 = .ok (.return_, 1) := by decide +kernel
theorem d_N_freeBlocks_0 : decode M_N_freeBlocks.2.1 0 = .ok (.iconst 0, 1) := by decide +kernel
theorem d_N_freeBlocks_1 : decode M_N_freeBlocks.2.1 1 = .ok (.istore_n 1, 1) := by decide +kernel
theorem d_N_freeBlocks_2 : decode M_N_freeBlocks.2.1 2 = .ok (.iconst 0, 1) := by decide +kernel
theorem d_N_freeBlocks_3 : decode M_N_freeBlocks.2.1 3 = .ok (.istore_n 2, 1) := by decide +kernel
theorem d_N_freeBlocks_4 : decode M_N_freeBlocks.2.1 4 = .ok (.iload_n 2, 1) := by decide +kernel
theorem d_N_freeBlocks_5 : decode M_N_freeBlocks.2.1 5 = .ok (.bipush 40, 2) := by decide +kernel
theorem d_N_freeBlocks_7 : decode M_N_freeBlocks.2.1 7 = .ok (.if_icmp .ge 21, 3) := by decide +kernel
theorem d_N_freeBlocks_10 : decode M_N_freeBlocks.2.1 10 = .ok (.aload_n 0, 1) := by decide +kernel
theorem d_N_freeBlocks_11 : decode M_N_freeBlocks.2.1 11 = .ok (.getfield 15, 3) := by decide +kernel
theorem d_N_freeBlocks_14 : decode M_N_freeBlocks.2.1 14 = .ok (.iload_n 2, 1) := by decide +kernel
theorem d_N_freeBlocks_15 : decode M_N_freeBlocks.2.1 15 = .ok (.baload, 1) := by decide +kernel
theorem d_N_freeBlocks_16 : decode M_N_freeBlocks.2.1 16 = .ok (.ifCond .ne 6, 3) := by decide +kernel
theorem d_N_freeBlocks_19 : decode M_N_freeBlocks.2.1 19 = .ok (.iinc 1 1, 3) := by decide +kernel
theorem d_N_freeBlocks_22 : decode M_N_freeBlocks.2.1 22 = .ok (.iinc 2 1, 3) := by decide +kernel
theorem d_N_freeBlocks_25 : decode M_N_freeBlocks.2.1 25 = .ok (.goto (-21), 3) := by decide +kernel
theorem d_N_freeBlocks_28 : decode M_N_freeBlocks.2.1 28 = .ok (.iload_n 1, 1) := by decide +kernel
theorem d_N_freeBlocks_29 : decode M_N_freeBlocks.2.1 29 = .ok (.ireturn, 1) := by decide +kernel
theorem d_N_giveUp_0 : decode M_N_giveUp.2.1 0 = .ok (.iconst 0, 1) := by decide +kernel
theorem d_N_giveUp_1 : decode M_N_giveUp.2.1 1 = .ok (.istore_n 2, 1) := by decide +kernel
theorem d_N_giveUp_2 : decode M_N_giveUp.2.1 2 = .ok (.iload_n 2, 1) := by decide +kernel
theorem d_N_giveUp_3 : decode M_N_giveUp.2.1 3 = .ok (.aload_n 1, 1) := by decide +kernel
theorem d_N_giveUp_4 : decode M_N_giveUp.2.1 4 = .ok (.getfield 53, 3) := by decide +kernel
theorem d_N_giveUp_7 : decode M_N_giveUp.2.1 7 = .ok (.if_icmp .ge 32, 3) := by decide +kernel
theorem d_N_giveUp_10 : decode M_N_giveUp.2.1 10 = .ok (.aload_n 1, 1) := by decide +kernel
theorem d_N_giveUp_11 : decode M_N_giveUp.2.1 11 = .ok (.iload_n 2, 1) := by decide +kernel
theorem d_N_giveUp_12 : decode M_N_giveUp.2.1 12 = .ok (.invokevirtual 63, 3) := by decide +kernel
theorem d_N_giveUp_15 : decode M_N_giveUp.2.1 15 = .ok (.istore_n 3, 1) := by decide +kernel
theorem d_N_giveUp_16 : decode M_N_giveUp.2.1 16 = .ok (.iload_n 3, 1) := by decide +kernel
theorem d_N_giveUp_17 : decode M_N_giveUp.2.1 17 = .ok (.ifCond .lt 16, 3) := by decide +kernel
theorem d_N_giveUp_20 : decode M_N_giveUp.2.1 20 = .ok (.iload_n 3, 1) := by decide +kernel
theorem d_N_giveUp_21 : decode M_N_giveUp.2.1 21 = .ok (.bipush 40, 2) := by decide +kernel
theorem d_N_giveUp_23 : decode M_N_giveUp.2.1 23 = .ok (.if_icmp .ge 10, 3) := by decide +kernel
theorem d_N_giveUp_26 : decode M_N_giveUp.2.1 26 = .ok (.aload_n 0, 1) := by decide +kernel
theorem d_N_giveUp_27 : decode M_N_giveUp.2.1 27 = .ok (.getfield 15, 3) := by decide +kernel
theorem d_N_giveUp_30 : decode M_N_giveUp.2.1 30 = .ok (.iload_n 3, 1) := by decide +kernel
theorem d_N_giveUp_31 : decode M_N_giveUp.2.1 31 = .ok (.iconst 0, 1) := by decide +kernel
theorem d_N_giveUp_32 : decode M_N_giveUp.2.1 32 = .ok (.bastore, 1) := by decide +kernel
theorem d_N_giveUp_33 : decode M_N_giveUp.2.1 33 = .ok (.iinc 2 1, 3) := by decide +kernel
theorem d_N_giveUp_36 : decode M_N_giveUp.2.1 36 = .ok (.goto (-34), 3) := by decide +kernel
theorem d_N_giveUp_39 : decode M_N_giveUp.2.1 39 = .ok (.aload_n 1, 1) := by decide +kernel
theorem d_N_giveUp_40 : decode M_N_giveUp.2.1 40 = .ok (.iconst 0, 1) := by decide +kernel
theorem d_N_giveUp_41 : decode M_N_giveUp.2.1 41 = .ok (.putfield 37, 3) := by decide +kernel
theorem d_N_giveUp_44 : decode M_N_giveUp.2.1 44 = .ok (.aload_n 1, 1) := by decide +kernel
theorem d_N_giveUp_45 : decode M_N_giveUp.2.1 45 = .ok (.iconst 0, 1) := by decide +kernel
theorem d_N_giveUp_46 : decode M_N_giveUp.2.1 46 = .ok (.putfield 40, 3) := by decide +kernel
theorem d_N_giveUp_49 : decode M_N_giveUp.2.1 49 = .ok (.aload_n 1, 1) := by decide +kernel
theorem d_N_giveUp_50 : decode M_N_giveUp.2.1 50 = .ok (.iconst 0, 1) := by decide +kernel
theorem d_N_giveUp_51 : decode M_N_giveUp.2.1 51 = .ok (.putfield 53, 3) := by decide +kernel
theorem d_N_giveUp_54 : decode M_N_giveUp.2.1 54 = .ok (.return_, 1) := by decide +kernel
theorem d_N_giveUpAll_0 : decode M_N_giveUpAll.2.1 0 = .ok (.aload_n 0, 1) := by decide +kernel
theorem d_N_giveUpAll_1 : decode M_N_giveUpAll.2.1 1 = .ok (.invokevirtual 70, 3) := by decide +kernel
theorem d_N_giveUpAll_4 : decode M_N_giveUpAll.2.1 4 = .ok (.pop, 1) := by decide +kernel
theorem d_N_giveUpAll_5 : decode M_N_giveUpAll.2.1 5 = .ok (.iconst 0, 1) := by decide +kernel
theorem d_N_giveUpAll_6 : decode M_N_giveUpAll.2.1 6 = .ok (.istore_n 1, 1) := by decide +kernel
theorem d_N_giveUpAll_7 : decode M_N_giveUpAll.2.1 7 = .ok (.iload_n 1, 1) := by decide +kernel
theorem d_N_giveUpAll_8 : decode M_N_giveUpAll.2.1 8 = .ok (.bipush 6, 2) := by decide +kernel
theorem d_N_giveUpAll_10 : decode M_N_giveUpAll.2.1 10 = .ok (.if_icmp .ge 19, 3) := by decide +kernel
theorem d_N_giveUpAll_13 : decode M_N_giveUpAll.2.1 13 = .ok (.aload_n 0, 1) := by decide +kernel
theorem d_N_giveUpAll_14 : decode M_N_giveUpAll.2.1 14 = .ok (.aload_n 0, 1) := by decide +kernel
theorem d_N_giveUpAll_15 : decode M_N_giveUpAll.2.1 15 = .ok (.getfield 21, 3) := by decide +kernel
theorem d_N_giveUpAll_18 : decode M_N_giveUpAll.2.1 18 = .ok (.iload_n 1, 1) := by decide +kernel
theorem d_N_giveUpAll_19 : decode M_N_giveUpAll.2.1 19 = .ok (.aaload, 1) := by decide +kernel
theorem d_N_giveUpAll_20 : decode M_N_giveUpAll.2.1 20 = .ok (.invokevirtual 66, 3) := by decide +kernel
theorem d_N_giveUpAll_23 : decode M_N_giveUpAll.2.1 23 = .ok (.iinc 1 1, 3) := by decide +kernel
theorem d_N_giveUpAll_26 : decode M_N_giveUpAll.2.1 26 = .ok (.goto (-19), 3) := by decide +kernel
theorem d_N_giveUpAll_29 : decode M_N_giveUpAll.2.1 29 = .ok (.return_, 1) := by decide +kernel
theorem d_N_giveUpShadows_0 : decode M_N_giveUpShadows.2.1 0 = .ok (.iconst 0, 1) := by decide +kernel
theorem d_N_giveUpShadows_1 : decode M_N_giveUpShadows.2.1 1 = .ok (.istore_n 1, 1) := by decide +kernel
theorem d_N_giveUpShadows_2 : decode M_N_giveUpShadows.2.1 2 = .ok (.iconst 0, 1) := by decide +kernel
theorem d_N_giveUpShadows_3 : decode M_N_giveUpShadows.2.1 3 = .ok (.istore_n 2, 1) := by decide +kernel
theorem d_N_giveUpShadows_4 : decode M_N_giveUpShadows.2.1 4 = .ok (.iload_n 2, 1) := by decide +kernel
theorem d_N_giveUpShadows_5 : decode M_N_giveUpShadows.2.1 5 = .ok (.bipush 6, 2) := by decide +kernel
theorem d_N_giveUpShadows_7 : decode M_N_giveUpShadows.2.1 7 = .ok (.if_icmp .ge 34, 3) := by decide +kernel
theorem d_N_giveUpShadows_10 : decode M_N_giveUpShadows.2.1 10 = .ok (.aload_n 0, 1) := by decide +kernel
theorem d_N_giveUpShadows_11 : decode M_N_giveUpShadows.2.1 11 = .ok (.getfield 25, 3) := by decide +kernel
theorem d_N_giveUpShadows_14 : decode M_N_giveUpShadows.2.1 14 = .ok (.iload_n 2, 1) := by decide +kernel
theorem d_N_giveUpShadows_15 : decode M_N_giveUpShadows.2.1 15 = .ok (.aaload, 1) := by decide +kernel
theorem d_N_giveUpShadows_16 : decode M_N_giveUpShadows.2.1 16 = .ok (.getfield 37, 3) := by decide +kernel
theorem d_N_giveUpShadows_19 : decode M_N_giveUpShadows.2.1 19 = .ok (.ifCond .le 6, 3) := by decide +kernel
theorem d_N_giveUpShadows_22 : decode M_N_giveUpShadows.2.1 22 = .ok (.iinc 1 1, 3) := by decide +kernel
theorem d_N_giveUpShadows_25 : decode M_N_giveUpShadows.2.1 25 = .ok (.aload_n 0, 1) := by decide +kernel
theorem d_N_giveUpShadows_26 : decode M_N_giveUpShadows.2.1 26 = .ok (.aload_n 0, 1) := by decide +kernel
theorem d_N_giveUpShadows_27 : decode M_N_giveUpShadows.2.1 27 = .ok (.getfield 25, 3) := by decide +kernel
theorem d_N_giveUpShadows_30 : decode M_N_giveUpShadows.2.1 30 = .ok (.iload_n 2, 1) := by decide +kernel
theorem d_N_giveUpShadows_31 : decode M_N_giveUpShadows.2.1 31 = .ok (.aaload, 1) := by decide +kernel
theorem d_N_giveUpShadows_32 : decode M_N_giveUpShadows.2.1 32 = .ok (.invokevirtual 66, 3) := by decide +kernel
theorem d_N_giveUpShadows_35 : decode M_N_giveUpShadows.2.1 35 = .ok (.iinc 2 1, 3) := by decide +kernel
theorem d_N_giveUpShadows_38 : decode M_N_giveUpShadows.2.1 38 = .ok (.goto (-34), 3) := by decide +kernel
theorem d_N_giveUpShadows_41 : decode M_N_giveUpShadows.2.1 41 = .ok (.iload_n 1, 1) := by decide +kernel
theorem d_N_giveUpShadows_42 : decode M_N_giveUpShadows.2.1 42 = .ok (.ireturn, 1) := by decide +kernel
theorem d_N_init_0 : decode M_N_init.2.1 0 = .ok (.aload_n 0, 1) := by decide +kernel
theorem d_N_init_1 : decode M_N_init.2.1 1 = .ok (.invokespecial 3, 3) := by decide +kernel
theorem d_N_init_4 : decode M_N_init.2.1 4 = .ok (.aload_n 0, 1) := by decide +kernel
theorem d_N_init_5 : decode M_N_init.2.1 5 = .ok (.sipush 320, 3) := by decide +kernel
theorem d_N_init_8 : decode M_N_init.2.1 8 = .ok (.newarray .int, 2) := by decide +kernel
theorem d_N_init_10 : decode M_N_init.2.1 10 = .ok (.putfield 9, 3) := by decide +kernel
theorem d_N_init_13 : decode M_N_init.2.1 13 = .ok (.aload_n 0, 1) := by decide +kernel
theorem d_N_init_14 : decode M_N_init.2.1 14 = .ok (.bipush 40, 2) := by decide +kernel
theorem d_N_init_16 : decode M_N_init.2.1 16 = .ok (.newarray .boolean, 2) := by decide +kernel
theorem d_N_init_18 : decode M_N_init.2.1 18 = .ok (.putfield 15, 3) := by decide +kernel
theorem d_N_init_21 : decode M_N_init.2.1 21 = .ok (.aload_n 0, 1) := by decide +kernel
theorem d_N_init_22 : decode M_N_init.2.1 22 = .ok (.bipush 6, 2) := by decide +kernel
theorem d_N_init_24 : decode M_N_init.2.1 24 = .ok (.anewarray 19, 3) := by decide +kernel
theorem d_N_init_27 : decode M_N_init.2.1 27 = .ok (.putfield 21, 3) := by decide +kernel
theorem d_N_init_30 : decode M_N_init.2.1 30 = .ok (.aload_n 0, 1) := by decide +kernel
theorem d_N_init_31 : decode M_N_init.2.1 31 = .ok (.bipush 6, 2) := by decide +kernel
theorem d_N_init_33 : decode M_N_init.2.1 33 = .ok (.anewarray 19, 3) := by decide +kernel
theorem d_N_init_36 : decode M_N_init.2.1 36 = .ok (.putfield 25, 3) := by decide +kernel
theorem d_N_init_39 : decode M_N_init.2.1 39 = .ok (.aload_n 0, 1) := by decide +kernel
theorem d_N_init_40 : decode M_N_init.2.1 40 = .ok (.iconst 1, 1) := by decide +kernel
theorem d_N_init_41 : decode M_N_init.2.1 41 = .ok (.putfield 28, 3) := by decide +kernel
theorem d_N_init_44 : decode M_N_init.2.1 44 = .ok (.aload_n 0, 1) := by decide +kernel
theorem d_N_init_45 : decode M_N_init.2.1 45 = .ok (.iconst 0, 1) := by decide +kernel
theorem d_N_init_46 : decode M_N_init.2.1 46 = .ok (.putfield 32, 3) := by decide +kernel
theorem d_N_init_49 : decode M_N_init.2.1 49 = .ok (.iconst 0, 1) := by decide +kernel
theorem d_N_init_50 : decode M_N_init.2.1 50 = .ok (.istore_n 1, 1) := by decide +kernel
theorem d_N_init_51 : decode M_N_init.2.1 51 = .ok (.iload_n 1, 1) := by decide +kernel
theorem d_N_init_52 : decode M_N_init.2.1 52 = .ok (.bipush 6, 2) := by decide +kernel
theorem d_N_init_54 : decode M_N_init.2.1 54 = .ok (.if_icmp .ge 35, 3) := by decide +kernel
theorem d_N_init_57 : decode M_N_init.2.1 57 = .ok (.aload_n 0, 1) := by decide +kernel
theorem d_N_init_58 : decode M_N_init.2.1 58 = .ok (.getfield 21, 3) := by decide +kernel
theorem d_N_init_61 : decode M_N_init.2.1 61 = .ok (.iload_n 1, 1) := by decide +kernel
theorem d_N_init_62 : decode M_N_init.2.1 62 = .ok (.new 19, 3) := by decide +kernel
theorem d_N_init_65 : decode M_N_init.2.1 65 = .ok (.dup, 1) := by decide +kernel
theorem d_N_init_66 : decode M_N_init.2.1 66 = .ok (.invokespecial 36, 3) := by decide +kernel
theorem d_N_init_69 : decode M_N_init.2.1 69 = .ok (.aastore, 1) := by decide +kernel
theorem d_N_init_70 : decode M_N_init.2.1 70 = .ok (.aload_n 0, 1) := by decide +kernel
theorem d_N_init_71 : decode M_N_init.2.1 71 = .ok (.getfield 25, 3) := by decide +kernel
theorem d_N_init_74 : decode M_N_init.2.1 74 = .ok (.iload_n 1, 1) := by decide +kernel
theorem d_N_init_75 : decode M_N_init.2.1 75 = .ok (.new 19, 3) := by decide +kernel
theorem d_N_init_78 : decode M_N_init.2.1 78 = .ok (.dup, 1) := by decide +kernel
theorem d_N_init_79 : decode M_N_init.2.1 79 = .ok (.invokespecial 36, 3) := by decide +kernel
theorem d_N_init_82 : decode M_N_init.2.1 82 = .ok (.aastore, 1) := by decide +kernel
theorem d_N_init_83 : decode M_N_init.2.1 83 = .ok (.iinc 1 1, 3) := by decide +kernel
theorem d_N_init_86 : decode M_N_init.2.1 86 = .ok (.goto (-35), 3) := by decide +kernel
theorem d_N_init_89 : decode M_N_init.2.1 89 = .ok (.return_, 1) := by decide +kernel
theorem d_N_read_0 : decode M_N_read.2.1 0 = .ok (.iconst 0, 1) := by decide +kernel
theorem d_N_read_1 : decode M_N_read.2.1 1 = .ok (.istore_n 3, 1) := by decide +kernel
theorem d_N_read_2 : decode M_N_read.2.1 2 = .ok (.iload_n 3, 1) := by decide +kernel
theorem d_N_read_3 : decode M_N_read.2.1 3 = .ok (.bipush 8, 2) := by decide +kernel
theorem d_N_read_5 : decode M_N_read.2.1 5 = .ok (.if_icmp .ge 24, 3) := by decide +kernel
theorem d_N_read_8 : decode M_N_read.2.1 8 = .ok (.iload_n 3, 1) := by decide +kernel
theorem d_N_read_9 : decode M_N_read.2.1 9 = .ok (.aload_n 2, 1) := by decide +kernel
theorem d_N_read_10 : decode M_N_read.2.1 10 = .ok (.arraylength, 1) := by decide +kernel
theorem d_N_read_11 : decode M_N_read.2.1 11 = .ok (.if_icmp .ge 18, 3) := by decide +kernel
theorem d_N_read_14 : decode M_N_read.2.1 14 = .ok (.aload_n 2, 1) := by decide +kernel
theorem d_N_read_15 : decode M_N_read.2.1 15 = .ok (.iload_n 3, 1) := by decide +kernel
theorem d_N_read_16 : decode M_N_read.2.1 16 = .ok (.aload_n 0, 1) := by decide +kernel
theorem d_N_read_17 : decode M_N_read.2.1 17 = .ok (.iload_n 1, 1) := by decide +kernel
theorem d_N_read_18 : decode M_N_read.2.1 18 = .ok (.iload_n 3, 1) := by decide +kernel
theorem d_N_read_19 : decode M_N_read.2.1 19 = .ok (.invokevirtual 73, 3) := by decide +kernel
theorem d_N_read_22 : decode M_N_read.2.1 22 = .ok (.iastore, 1) := by decide +kernel
theorem d_N_read_23 : decode M_N_read.2.1 23 = .ok (.iinc 3 1, 3) := by decide +kernel
theorem d_N_read_26 : decode M_N_read.2.1 26 = .ok (.goto (-24), 3) := by decide +kernel
theorem d_N_read_29 : decode M_N_read.2.1 29 = .ok (.return_, 1) := by decide +kernel
theorem d_N_take_0 : decode M_N_take.2.1 0 = .ok (.aload_n 1, 1) := by decide +kernel
theorem d_N_take_1 : decode M_N_take.2.1 1 = .ok (.iload_n 2, 1) := by decide +kernel
theorem d_N_take_2 : decode M_N_take.2.1 2 = .ok (.putfield 37, 3) := by decide +kernel
theorem d_N_take_5 : decode M_N_take.2.1 5 = .ok (.aload_n 1, 1) := by decide +kernel
theorem d_N_take_6 : decode M_N_take.2.1 6 = .ok (.iload_n 3, 1) := by decide +kernel
theorem d_N_take_7 : decode M_N_take.2.1 7 = .ok (.putfield 40, 3) := by decide +kernel
theorem d_N_take_10 : decode M_N_take.2.1 10 = .ok (.aload_n 1, 1) := by decide +kernel
theorem d_N_take_11 : decode M_N_take.2.1 11 = .ok (.iload_n 3, 1) := by decide +kernel
theorem d_N_take_12 : decode M_N_take.2.1 12 = .ok (.invokestatic 43, 3) := by decide +kernel
theorem d_N_take_15 : decode M_N_take.2.1 15 = .ok (.bipush 8, 2) := by decide +kernel
theorem d_N_take_17 : decode M_N_take.2.1 17 = .ok (.invokestatic 47, 3) := by decide +kernel
theorem d_N_take_20 : decode M_N_take.2.1 20 = .ok (.putfield 53, 3) := by decide +kernel
theorem d_N_take_23 : decode M_N_take.2.1 23 = .ok (.iconst 0, 1) := by decide +kernel
theorem d_N_take_24 : decode M_N_take.2.1 24 = .ok (.istore 4, 2) := by decide +kernel
theorem d_N_take_26 : decode M_N_take.2.1 26 = .ok (.iload 4, 2) := by decide +kernel
theorem d_N_take_28 : decode M_N_take.2.1 28 = .ok (.aload_n 1, 1) := by decide +kernel
theorem d_N_take_29 : decode M_N_take.2.1 29 = .ok (.getfield 53, 3) := by decide +kernel
theorem d_N_take_32 : decode M_N_take.2.1 32 = .ok (.if_icmp .ge 20, 3) := by decide +kernel
theorem d_N_take_35 : decode M_N_take.2.1 35 = .ok (.aload_n 1, 1) := by decide +kernel
theorem d_N_take_36 : decode M_N_take.2.1 36 = .ok (.getfield 56, 3) := by decide +kernel
theorem d_N_take_39 : decode M_N_take.2.1 39 = .ok (.iload 4, 2) := by decide +kernel
theorem d_N_take_41 : decode M_N_take.2.1 41 = .ok (.aload_n 0, 1) := by decide +kernel
theorem d_N_take_42 : decode M_N_take.2.1 42 = .ok (.invokevirtual 59, 3) := by decide +kernel
theorem d_N_take_45 : decode M_N_take.2.1 45 = .ok (.iastore, 1) := by decide +kernel
theorem d_N_take_46 : decode M_N_take.2.1 46 = .ok (.iinc 4 1, 3) := by decide +kernel
theorem d_N_take_49 : decode M_N_take.2.1 49 = .ok (.goto (-23), 3) := by decide +kernel
theorem d_N_take_52 : decode M_N_take.2.1 52 = .ok (.return_, 1) := by decide +kernel
theorem d_N_takeLeastFree_0 : decode M_N_takeLeastFree.2.1 0 = .ok (.iconst 0, 1) := by decide +kernel
theorem d_N_takeLeastFree_1 : decode M_N_takeLeastFree.2.1 1 = .ok (.istore_n 1, 1) := by decide +kernel
theorem d_N_takeLeastFree_2 : decode M_N_takeLeastFree.2.1 2 = .ok (.iload_n 1, 1) := by decide +kernel
theorem d_N_takeLeastFree_3 : decode M_N_takeLeastFree.2.1 3 = .ok (.bipush 40, 2) := by decide +kernel
theorem d_N_takeLeastFree_5 : decode M_N_takeLeastFree.2.1 5 = .ok (.if_icmp .ge 27, 3) := by decide +kernel
theorem d_N_takeLeastFree_8 : decode M_N_takeLeastFree.2.1 8 = .ok (.aload_n 0, 1) := by decide +kernel
theorem d_N_takeLeastFree_9 : decode M_N_takeLeastFree.2.1 9 = .ok (.getfield 15, 3) := by decide +kernel
theorem d_N_takeLeastFree_12 : decode M_N_takeLeastFree.2.1 12 = .ok (.iload_n 1, 1) := by decide +kernel
theorem d_N_takeLeastFree_13 : decode M_N_takeLeastFree.2.1 13 = .ok (.baload, 1) := by decide +kernel
theorem d_N_takeLeastFree_14 : decode M_N_takeLeastFree.2.1 14 = .ok (.ifCond .ne 12, 3) := by decide +kernel
theorem d_N_takeLeastFree_17 : decode M_N_takeLeastFree.2.1 17 = .ok (.aload_n 0, 1) := by decide +kernel
theorem d_N_takeLeastFree_18 : decode M_N_takeLeastFree.2.1 18 = .ok (.getfield 15, 3) := by decide +kernel
theorem d_N_takeLeastFree_21 : decode M_N_takeLeastFree.2.1 21 = .ok (.iload_n 1, 1) := by decide +kernel
theorem d_N_takeLeastFree_22 : decode M_N_takeLeastFree.2.1 22 = .ok (.iconst 1, 1) := by decide +kernel
theorem d_N_takeLeastFree_23 : decode M_N_takeLeastFree.2.1 23 = .ok (.bastore, 1) := by decide +kernel
theorem d_N_takeLeastFree_24 : decode M_N_takeLeastFree.2.1 24 = .ok (.iload_n 1, 1) := by decide +kernel
theorem d_N_takeLeastFree_25 : decode M_N_takeLeastFree.2.1 25 = .ok (.ireturn, 1) := by decide +kernel
theorem d_N_takeLeastFree_26 : decode M_N_takeLeastFree.2.1 26 = .ok (.iinc 1 1, 3) := by decide +kernel
theorem d_N_takeLeastFree_29 : decode M_N_takeLeastFree.2.1 29 = .ok (.goto (-27), 3) := by decide +kernel
theorem d_N_takeLeastFree_32 : decode M_N_takeLeastFree.2.1 32 = .ok (.iconst (-1), 1) := by decide +kernel
theorem d_N_takeLeastFree_33 : decode M_N_takeLeastFree.2.1 33 = .ok (.ireturn, 1) := by decide +kernel
theorem d_N_write_0 : decode M_N_write.2.1 0 = .ok (.iload_n 1, 1) := by decide +kernel
theorem d_N_write_1 : decode M_N_write.2.1 1 = .ok (.ifCond .lt 9, 3) := by decide +kernel
theorem d_N_write_4 : decode M_N_write.2.1 4 = .ok (.iload_n 1, 1) := by decide +kernel
theorem d_N_write_5 : decode M_N_write.2.1 5 = .ok (.bipush 40, 2) := by decide +kernel
theorem d_N_write_7 : decode M_N_write.2.1 7 = .ok (.if_icmp .lt 4, 3) := by decide +kernel
theorem d_N_write_10 : decode M_N_write.2.1 10 = .ok (.return_, 1) := by decide +kernel
theorem d_N_write_11 : decode M_N_write.2.1 11 = .ok (.iconst 0, 1) := by decide +kernel
theorem d_N_write_12 : decode M_N_write.2.1 12 = .ok (.istore_n 3, 1) := by decide +kernel
theorem d_N_write_13 : decode M_N_write.2.1 13 = .ok (.iload_n 3, 1) := by decide +kernel
theorem d_N_write_14 : decode M_N_write.2.1 14 = .ok (.bipush 8, 2) := by decide +kernel
theorem d_N_write_16 : decode M_N_write.2.1 16 = .ok (.if_icmp .ge 29, 3) := by decide +kernel
theorem d_N_write_19 : decode M_N_write.2.1 19 = .ok (.iload_n 3, 1) := by decide +kernel
theorem d_N_write_20 : decode M_N_write.2.1 20 = .ok (.aload_n 2, 1) := by decide +kernel
theorem d_N_write_21 : decode M_N_write.2.1 21 = .ok (.arraylength, 1) := by decide +kernel
theorem d_N_write_22 : decode M_N_write.2.1 22 = .ok (.if_icmp .ge 23, 3) := by decide +kernel
theorem d_N_write_25 : decode M_N_write.2.1 25 = .ok (.aload_n 0, 1) := by decide +kernel
theorem d_N_write_26 : decode M_N_write.2.1 26 = .ok (.getfield 9, 3) := by decide +kernel
theorem d_N_write_29 : decode M_N_write.2.1 29 = .ok (.iload_n 1, 1) := by decide +kernel
theorem d_N_write_30 : decode M_N_write.2.1 30 = .ok (.bipush 8, 2) := by decide +kernel
theorem d_N_write_32 : decode M_N_write.2.1 32 = .ok (.imul, 1) := by decide +kernel
theorem d_N_write_33 : decode M_N_write.2.1 33 = .ok (.iload_n 3, 1) := by decide +kernel
theorem d_N_write_34 : decode M_N_write.2.1 34 = .ok (.iadd, 1) := by decide +kernel
theorem d_N_write_35 : decode M_N_write.2.1 35 = .ok (.aload_n 2, 1) := by decide +kernel
theorem d_N_write_36 : decode M_N_write.2.1 36 = .ok (.iload_n 3, 1) := by decide +kernel
theorem d_N_write_37 : decode M_N_write.2.1 37 = .ok (.iaload, 1) := by decide +kernel
theorem d_N_write_38 : decode M_N_write.2.1 38 = .ok (.iastore, 1) := by decide +kernel
theorem d_N_write_39 : decode M_N_write.2.1 39 = .ok (.iinc 3 1, 3) := by decide +kernel
theorem d_N_write_42 : decode M_N_write.2.1 42 = .ok (.goto (-29), 3) := by decide +kernel
theorem d_N_write_45 : decode M_N_write.2.1 45 = .ok (.return_, 1) := by decide +kernel
theorem d_S_back_0 : decode M_S_back.2.1 0 = .ok (.iload_n 1, 1) := by decide +kernel
theorem d_S_back_1 : decode M_S_back.2.1 1 = .ok (.invokestatic 76, 3) := by decide +kernel
theorem d_S_back_4 : decode M_S_back.2.1 4 = .ok (.ifCond .ne 6, 3) := by decide +kernel
theorem d_S_back_7 : decode M_S_back.2.1 7 = .ok (.bipush (-2), 2) := by decide +kernel
theorem d_S_back_9 : decode M_S_back.2.1 9 = .ok (.ireturn, 1) := by decide +kernel
theorem d_S_back_10 : decode M_S_back.2.1 10 = .ok (.aload_n 0, 1) := by decide +kernel
theorem d_S_back_11 : decode M_S_back.2.1 11 = .ok (.getfield 18, 3) := by decide +kernel
theorem d_S_back_14 : decode M_S_back.2.1 14 = .ok (.iload_n 1, 1) := by decide +kernel
theorem d_S_back_15 : decode M_S_back.2.1 15 = .ok (.aaload, 1) := by decide +kernel
theorem d_S_back_16 : decode M_S_back.2.1 16 = .ok (.getfield 103, 3) := by decide +kernel
theorem d_S_back_19 : decode M_S_back.2.1 19 = .ok (.ifCond .eq 6, 3) := by decide +kernel
theorem d_S_back_22 : decode M_S_back.2.1 22 = .ok (.bipush (-3), 2) := by decide +kernel
theorem d_S_back_24 : decode M_S_back.2.1 24 = .ok (.ireturn, 1) := by decide +kernel
theorem d_S_back_25 : decode M_S_back.2.1 25 = .ok (.aload_n 0, 1) := by decide +kernel
theorem d_S_back_26 : decode M_S_back.2.1 26 = .ok (.getfield 18, 3) := by decide +kernel
theorem d_S_back_29 : decode M_S_back.2.1 29 = .ok (.iload_n 1, 1) := by decide +kernel
theorem d_S_back_30 : decode M_S_back.2.1 30 = .ok (.aaload, 1) := by decide +kernel
theorem d_S_back_31 : decode M_S_back.2.1 31 = .ok (.iconst 1, 1) := by decide +kernel
theorem d_S_back_32 : decode M_S_back.2.1 32 = .ok (.putfield 103, 3) := by decide +kernel
theorem d_S_back_35 : decode M_S_back.2.1 35 = .ok (.aload_n 0, 1) := by decide +kernel
theorem d_S_back_36 : decode M_S_back.2.1 36 = .ok (.getfield 18, 3) := by decide +kernel
theorem d_S_back_39 : decode M_S_back.2.1 39 = .ok (.iload_n 1, 1) := by decide +kernel
theorem d_S_back_40 : decode M_S_back.2.1 40 = .ok (.aaload, 1) := by decide +kernel
theorem d_S_back_41 : decode M_S_back.2.1 41 = .ok (.invokevirtual 137, 3) := by decide +kernel
theorem d_S_back_44 : decode M_S_back.2.1 44 = .ok (.ireturn, 1) := by decide +kernel
theorem d_S_begin_0 : decode M_S_begin.2.1 0 = .ok (.aload_n 0, 1) := by decide +kernel
theorem d_S_begin_1 : decode M_S_begin.2.1 1 = .ok (.getfield 22, 3) := by decide +kernel
theorem d_S_begin_4 : decode M_S_begin.2.1 4 = .ok (.iload_n 1, 1) := by decide +kernel
theorem d_S_begin_5 : decode M_S_begin.2.1 5 = .ok (.dup2, 1) := by decide +kernel
theorem d_S_begin_6 : decode M_S_begin.2.1 6 = .ok (.iaload, 1) := by decide +kernel
theorem d_S_begin_7 : decode M_S_begin.2.1 7 = .ok (.iconst 1, 1) := by decide +kernel
theorem d_S_begin_8 : decode M_S_begin.2.1 8 = .ok (.iadd, 1) := by decide +kernel
theorem d_S_begin_9 : decode M_S_begin.2.1 9 = .ok (.iastore, 1) := by decide +kernel
theorem d_S_begin_10 : decode M_S_begin.2.1 10 = .ok (.aload_n 0, 1) := by decide +kernel
theorem d_S_begin_11 : decode M_S_begin.2.1 11 = .ok (.invokevirtual 85, 3) := by decide +kernel
theorem d_S_begin_14 : decode M_S_begin.2.1 14 = .ok (.istore_n 3, 1) := by decide +kernel
theorem d_S_begin_15 : decode M_S_begin.2.1 15 = .ok (.iconst 2, 1) := by decide +kernel
theorem d_S_begin_16 : decode M_S_begin.2.1 16 = .ok (.iload_n 3, 1) := by decide +kernel
theorem d_S_begin_17 : decode M_S_begin.2.1 17 = .ok (.imul, 1) := by decide +kernel
theorem d_S_begin_18 : decode M_S_begin.2.1 18 = .ok (.istore 4, 2) := by decide +kernel
theorem d_S_begin_20 : decode M_S_begin.2.1 20 = .ok (.aload_n 0, 1) := by decide +kernel
theorem d_S_begin_21 : decode M_S_begin.2.1 21 = .ok (.getfield 43, 3) := by decide +kernel
theorem d_S_begin_24 : decode M_S_begin.2.1 24 = .ok (.iconst (-1), 1) := by decide +kernel
theorem d_S_begin_25 : decode M_S_begin.2.1 25 = .ok (.if_icmp .eq 16, 3) := by decide +kernel
theorem d_S_begin_28 : decode M_S_begin.2.1 28 = .ok (.aload_n 0, 1) := by decide +kernel
theorem d_S_begin_29 : decode M_S_begin.2.1 29 = .ok (.getfield 43, 3) := by decide +kernel
theorem d_S_begin_32 : decode M_S_begin.2.1 32 = .ok (.iload 4, 2) := by decide +kernel
theorem d_S_begin_34 : decode M_S_begin.2.1 34 = .ok (.if_icmp .ge 7, 3) := by decide +kernel
theorem d_S_begin_37 : decode M_S_begin.2.1 37 = .ok (.iconst 1, 1) := by decide +kernel
theorem d_S_begin_38 : decode M_S_begin.2.1 38 = .ok (.goto 4, 3) := by decide +kernel
theorem d_S_begin_41 : decode M_S_begin.2.1 41 = .ok (.iconst 0, 1) := by decide +kernel
theorem d_S_begin_42 : decode M_S_begin.2.1 42 = .ok (.istore 5, 2) := by decide +kernel
theorem d_S_begin_44 : decode M_S_begin.2.1 44 = .ok (.iload 5, 2) := by decide +kernel
theorem d_S_begin_46 : decode M_S_begin.2.1 46 = .ok (.ifCond .eq 10, 3) := by decide +kernel
theorem d_S_begin_49 : decode M_S_begin.2.1 49 = .ok (.aload_n 0, 1) := by decide +kernel
theorem d_S_begin_50 : decode M_S_begin.2.1 50 = .ok (.getfield 43, 3) := by decide +kernel
theorem d_S_begin_53 : decode M_S_begin.2.1 53 = .ok (.goto 5, 3) := by decide +kernel
theorem d_S_begin_56 : decode M_S_begin.2.1 56 = .ok (.iload 4, 2) := by decide +kernel
theorem d_S_begin_58 : decode M_S_begin.2.1 58 = .ok (.istore 6, 2) := by decide +kernel
theorem d_S_begin_60 : decode M_S_begin.2.1 60 = .ok (.aload_n 0, 1) := by decide +kernel
theorem d_S_begin_61 : decode M_S_begin.2.1 61 = .ok (.iconst (-1), 1) := by decide +kernel
theorem d_S_begin_62 : decode M_S_begin.2.1 62 = .ok (.putfield 43, 3) := by decide +kernel
theorem d_S_begin_65 : decode M_S_begin.2.1 65 = .ok (.aload_n 0, 1) := by decide +kernel
theorem d_S_begin_66 : decode M_S_begin.2.1 66 = .ok (.dup, 1) := by decide +kernel
theorem d_S_begin_67 : decode M_S_begin.2.1 67 = .ok (.getfield 46, 3) := by decide +kernel
theorem d_S_begin_70 : decode M_S_begin.2.1 70 = .ok (.iload 6, 2) := by decide +kernel
theorem d_S_begin_72 : decode M_S_begin.2.1 72 = .ok (.iadd, 1) := by decide +kernel
theorem d_S_begin_73 : decode M_S_begin.2.1 73 = .ok (.putfield 46, 3) := by decide +kernel
theorem d_S_begin_76 : decode M_S_begin.2.1 76 = .ok (.aload_n 0, 1) := by decide +kernel
theorem d_S_begin_77 : decode M_S_begin.2.1 77 = .ok (.iload_n 1, 1) := by decide +kernel
theorem d_S_begin_78 : decode M_S_begin.2.1 78 = .ok (.iload_n 2, 1) := by decide +kernel
theorem d_S_begin_79 : decode M_S_begin.2.1 79 = .ok (.iload 6, 2) := by decide +kernel
theorem d_S_begin_81 : decode M_S_begin.2.1 81 = .ok (.iload_n 3, 1) := by decide +kernel
theorem d_S_begin_82 : decode M_S_begin.2.1 82 = .ok (.invokestatic 193, 3) := by decide +kernel
theorem d_S_begin_85 : decode M_S_begin.2.1 85 = .ok (.invokevirtual 207, 3) := by decide +kernel
theorem d_S_begin_88 : decode M_S_begin.2.1 88 = .ok (.aload_n 0, 1) := by decide +kernel
theorem d_S_begin_89 : decode M_S_begin.2.1 89 = .ok (.iload_n 1, 1) := by decide +kernel
theorem d_S_begin_90 : decode M_S_begin.2.1 90 = .ok (.iload 6, 2) := by decide +kernel
theorem d_S_begin_92 : decode M_S_begin.2.1 92 = .ok (.iload_n 3, 1) := by decide +kernel
theorem d_S_begin_93 : decode M_S_begin.2.1 93 = .ok (.isub, 1) := by decide +kernel
theorem d_S_begin_94 : decode M_S_begin.2.1 94 = .ok (.invokevirtual 210, 3) := by decide +kernel
theorem d_S_begin_97 : decode M_S_begin.2.1 97 = .ok (.aload_n 0, 1) := by decide +kernel
theorem d_S_begin_98 : decode M_S_begin.2.1 98 = .ok (.getfield 26, 3) := by decide +kernel
theorem d_S_begin_101 : decode M_S_begin.2.1 101 = .ok (.iload_n 1, 1) := by decide +kernel
theorem d_S_begin_102 : decode M_S_begin.2.1 102 = .ok (.iload 5, 2) := by decide +kernel
theorem d_S_begin_104 : decode M_S_begin.2.1 104 = .ok (.bastore, 1) := by decide +kernel
theorem d_S_begin_105 : decode M_S_begin.2.1 105 = .ok (.iload 5, 2) := by decide +kernel
theorem d_S_begin_107 : decode M_S_begin.2.1 107 = .ok (.ifCond .eq 7, 3) := by decide +kernel
theorem d_S_begin_110 : decode M_S_begin.2.1 110 = .ok (.iconst 0, 1) := by decide +kernel
theorem d_S_begin_111 : decode M_S_begin.2.1 111 = .ok (.goto 9, 3) := by decide +kernel
theorem d_S_begin_114 : decode M_S_begin.2.1 114 = .ok (.aload_n 0, 1) := by decide +kernel
theorem d_S_begin_115 : decode M_S_begin.2.1 115 = .ok (.getfield 22, 3) := by decide +kernel
theorem d_S_begin_118 : decode M_S_begin.2.1 118 = .ok (.iload_n 1, 1) := by decide +kernel
theorem d_S_begin_119 : decode M_S_begin.2.1 119 = .ok (.iaload, 1) := by decide +kernel
theorem d_S_begin_120 : decode M_S_begin.2.1 120 = .ok (.ireturn, 1) := by decide +kernel
theorem d_S_block_0 : decode M_S_block.2.1 0 = .ok (.iload_n 1, 1) := by decide +kernel
theorem d_S_block_1 : decode M_S_block.2.1 1 = .ok (.invokestatic 76, 3) := by decide +kernel
theorem d_S_block_4 : decode M_S_block.2.1 4 = .ok (.ifCond .eq 10, 3) := by decide +kernel
theorem d_S_block_7 : decode M_S_block.2.1 7 = .ok (.iload_n 2, 1) := by decide +kernel
theorem d_S_block_8 : decode M_S_block.2.1 8 = .ok (.invokestatic 82, 3) := by decide +kernel
theorem d_S_block_11 : decode M_S_block.2.1 11 = .ok (.ifCond .ne 6, 3) := by decide +kernel
theorem d_S_block_14 : decode M_S_block.2.1 14 = .ok (.bipush (-2), 2) := by decide +kernel
theorem d_S_block_16 : decode M_S_block.2.1 16 = .ok (.ireturn, 1) := by decide +kernel
theorem d_S_block_17 : decode M_S_block.2.1 17 = .ok (.iload 4, 2) := by decide +kernel
theorem d_S_block_19 : decode M_S_block.2.1 19 = .ok (.ifCond .eq 21, 3) := by decide +kernel
theorem d_S_block_22 : decode M_S_block.2.1 22 = .ok (.aload_n 0, 1) := by decide +kernel
theorem d_S_block_23 : decode M_S_block.2.1 23 = .ok (.getfield 18, 3) := by decide +kernel
theorem d_S_block_26 : decode M_S_block.2.1 26 = .ok (.iload_n 1, 1) := by decide +kernel
theorem d_S_block_27 : decode M_S_block.2.1 27 = .ok (.aaload, 1) := by decide +kernel
theorem d_S_block_28 : decode M_S_block.2.1 28 = .ok (.getfield 107, 3) := by decide +kernel
theorem d_S_block_31 : decode M_S_block.2.1 31 = .ok (.iload_n 2, 1) := by decide +kernel
theorem d_S_block_32 : decode M_S_block.2.1 32 = .ok (.aaload, 1) := by decide +kernel
theorem d_S_block_33 : decode M_S_block.2.1 33 = .ok (.iload_n 3, 1) := by decide +kernel
theorem d_S_block_34 : decode M_S_block.2.1 34 = .ok (.invokevirtual 170, 3) := by decide +kernel
theorem d_S_block_37 : decode M_S_block.2.1 37 = .ok (.goto 18, 3) := by decide +kernel
theorem d_S_block_40 : decode M_S_block.2.1 40 = .ok (.aload_n 0, 1) := by decide +kernel
theorem d_S_block_41 : decode M_S_block.2.1 41 = .ok (.getfield 18, 3) := by decide +kernel
theorem d_S_block_44 : decode M_S_block.2.1 44 = .ok (.iload_n 1, 1) := by decide +kernel
theorem d_S_block_45 : decode M_S_block.2.1 45 = .ok (.aaload, 1) := by decide +kernel
theorem d_S_block_46 : decode M_S_block.2.1 46 = .ok (.getfield 173, 3) := by decide +kernel
theorem d_S_block_49 : decode M_S_block.2.1 49 = .ok (.iload_n 2, 1) := by decide +kernel
theorem d_S_block_50 : decode M_S_block.2.1 50 = .ok (.aaload, 1) := by decide +kernel
theorem d_S_block_51 : decode M_S_block.2.1 51 = .ok (.iload_n 3, 1) := by decide +kernel
theorem d_S_block_52 : decode M_S_block.2.1 52 = .ok (.invokevirtual 170, 3) := by decide +kernel
theorem d_S_block_55 : decode M_S_block.2.1 55 = .ok (.ireturn, 1) := by decide +kernel
theorem d_S_byteOf_0 : decode M_S_byteOf.2.1 0 = .ok (.iload_n 1, 1) := by decide +kernel
theorem d_S_byteOf_1 : decode M_S_byteOf.2.1 1 = .ok (.invokestatic 76, 3) := by decide +kernel
theorem d_S_byteOf_4 : decode M_S_byteOf.2.1 4 = .ok (.ifCond .eq 23, 3) := by decide +kernel
theorem d_S_byteOf_7 : decode M_S_byteOf.2.1 7 = .ok (.iload_n 2, 1) := by decide +kernel
theorem d_S_byteOf_8 : decode M_S_byteOf.2.1 8 = .ok (.ifCond .lt 19, 3) := by decide +kernel
theorem d_S_byteOf_11 : decode M_S_byteOf.2.1 11 = .ok (.iload_n 2, 1) := by decide +kernel
theorem d_S_byteOf_12 : decode M_S_byteOf.2.1 12 = .ok (.bipush 40, 2) := by decide +kernel
theorem d_S_byteOf_14 : decode M_S_byteOf.2.1 14 = .ok (.if_icmp .ge 13, 3) := by decide +kernel
theorem d_S_byteOf_17 : decode M_S_byteOf.2.1 17 = .ok (.iload_n 3, 1) := by decide +kernel
theorem d_S_byteOf_18 : decode M_S_byteOf.2.1 18 = .ok (.ifCond .lt 9, 3) := by decide +kernel
theorem d_S_byteOf_21 : decode M_S_byteOf.2.1 21 = .ok (.iload_n 3, 1) := by decide +kernel
theorem d_S_byteOf_22 : decode M_S_byteOf.2.1 22 = .ok (.bipush 8, 2) := by decide +kernel
theorem d_S_byteOf_24 : decode M_S_byteOf.2.1 24 = .ok (.if_icmp .lt 6, 3) := by decide +kernel
theorem d_S_byteOf_27 : decode M_S_byteOf.2.1 27 = .ok (.bipush (-2), 2) := by decide +kernel
theorem d_S_byteOf_29 : decode M_S_byteOf.2.1 29 = .ok (.ireturn, 1) := by decide +kernel
theorem d_S_byteOf_30 : decode M_S_byteOf.2.1 30 = .ok (.aload_n 0, 1) := by decide +kernel
theorem d_S_byteOf_31 : decode M_S_byteOf.2.1 31 = .ok (.getfield 18, 3) := by decide +kernel
theorem d_S_byteOf_34 : decode M_S_byteOf.2.1 34 = .ok (.iload_n 1, 1) := by decide +kernel
theorem d_S_byteOf_35 : decode M_S_byteOf.2.1 35 = .ok (.aaload, 1) := by decide +kernel
theorem d_S_byteOf_36 : decode M_S_byteOf.2.1 36 = .ok (.iload_n 2, 1) := by decide +kernel
theorem d_S_byteOf_37 : decode M_S_byteOf.2.1 37 = .ok (.iload_n 3, 1) := by decide +kernel
theorem d_S_byteOf_38 : decode M_S_byteOf.2.1 38 = .ok (.invokevirtual 176, 3) := by decide +kernel
theorem d_S_byteOf_41 : decode M_S_byteOf.2.1 41 = .ok (.ireturn, 1) := by decide +kernel
theorem d_S_chooseLeastNumbers_0 : decode M_S_chooseLeastNumbers.2.1 0 = .ok (.aload_n 0, 1) := by decide +kernel
theorem d_S_chooseLeastNumbers_1 : decode M_S_chooseLeastNumbers.2.1 1 = .ok (.iload_n 1, 1) := by decide +kernel
theorem d_S_chooseLeastNumbers_2 : decode M_S_chooseLeastNumbers.2.1 2 = .ok (.invokevirtual 134, 3) := by decide +kernel
theorem d_S_chooseLeastNumbers_5 : decode M_S_chooseLeastNumbers.2.1 5 = .ok (.istore_n 3, 1) := by decide +kernel
theorem d_S_chooseLeastNumbers_6 : decode M_S_chooseLeastNumbers.2.1 6 = .ok (.iconst 0, 1) := by decide +kernel
theorem d_S_chooseLeastNumbers_7 : decode M_S_chooseLeastNumbers.2.1 7 = .ok (.istore 4, 2) := by decide +kernel
theorem d_S_chooseLeastNumbers_9 : decode M_S_chooseLeastNumbers.2.1 9 = .ok (.iconst 0, 1) := by decide +kernel
theorem d_S_chooseLeastNumbers_10 : decode M_S_chooseLeastNumbers.2.1 10 = .ok (.istore 5, 2) := by decide +kernel
theorem d_S_chooseLeastNumbers_12 : decode M_S_chooseLeastNumbers.2.1 12 = .ok (.iload 5, 2) := by decide +kernel
theorem d_S_chooseLeastNumbers_14 : decode M_S_chooseLeastNumbers.2.1 14 = .ok (.bipush 12, 2) := by decide +kernel
theorem d_S_chooseLeastNumbers_16 : decode M_S_chooseLeastNumbers.2.1 16 = .ok (.if_icmp .ge 47, 3) := by decide +kernel
theorem d_S_chooseLeastNumbers_19 : decode M_S_chooseLeastNumbers.2.1 19 = .ok (.iload 4, 2) := by decide +kernel
theorem d_S_chooseLeastNumbers_21 : decode M_S_chooseLeastNumbers.2.1 21 = .ok (.iconst 5, 1) := by decide +kernel
theorem d_S_chooseLeastNumbers_22 : decode M_S_chooseLeastNumbers.2.1 22 = .ok (.if_icmp .ge 41, 3) := by decide +kernel
theorem d_S_chooseLeastNumbers_25 : decode M_S_chooseLeastNumbers.2.1 25 = .ok (.iload_n 2, 1) := by decide +kernel
theorem d_S_chooseLeastNumbers_26 : decode M_S_chooseLeastNumbers.2.1 26 = .ok (.iload 5, 2) := by decide +kernel
theorem d_S_chooseLeastNumbers_28 : decode M_S_chooseLeastNumbers.2.1 28 = .ok (.invokestatic 231, 3) := by decide +kernel
theorem d_S_chooseLeastNumbers_31 : decode M_S_chooseLeastNumbers.2.1 31 = .ok (.ifCond .eq 26, 3) := by decide +kernel
theorem d_S_chooseLeastNumbers_34 : decode M_S_chooseLeastNumbers.2.1 34 = .ok (.aload_n 0, 1) := by decide +kernel
theorem d_S_chooseLeastNumbers_35 : decode M_S_chooseLeastNumbers.2.1 35 = .ok (.iload 5, 2) := by decide +kernel
theorem d_S_chooseLeastNumbers_37 : decode M_S_chooseLeastNumbers.2.1 37 = .ok (.iload_n 1, 1) := by decide +kernel
theorem d_S_chooseLeastNumbers_38 : decode M_S_chooseLeastNumbers.2.1 38 = .ok (.iload_n 3, 1) := by decide +kernel
theorem d_S_chooseLeastNumbers_39 : decode M_S_chooseLeastNumbers.2.1 39 = .ok (.invokevirtual 159, 3) := by decide +kernel
theorem d_S_chooseLeastNumbers_42 : decode M_S_chooseLeastNumbers.2.1 42 = .ok (.ifCond .eq 15, 3) := by decide +kernel
theorem d_S_chooseLeastNumbers_45 : decode M_S_chooseLeastNumbers.2.1 45 = .ok (.aload_n 0, 1) := by decide +kernel
theorem d_S_chooseLeastNumbers_46 : decode M_S_chooseLeastNumbers.2.1 46 = .ok (.getfield 52, 3) := by decide +kernel
theorem d_S_chooseLeastNumbers_49 : decode M_S_chooseLeastNumbers.2.1 49 = .ok (.iload 4, 2) := by decide +kernel
theorem d_S_chooseLeastNumbers_51 : decode M_S_chooseLeastNumbers.2.1 51 = .ok (.iload 5, 2) := by decide +kernel
theorem d_S_chooseLeastNumbers_53 : decode M_S_chooseLeastNumbers.2.1 53 = .ok (.iastore, 1) := by decide +kernel
theorem d_S_chooseLeastNumbers_54 : decode M_S_chooseLeastNumbers.2.1 54 = .ok (.iinc 4 1, 3) := by decide +kernel
theorem d_S_chooseLeastNumbers_57 : decode M_S_chooseLeastNumbers.2.1 57 = .ok (.iinc 5 1, 3) := by decide +kernel
theorem d_S_chooseLeastNumbers_60 : decode M_S_chooseLeastNumbers.2.1 60 = .ok (.goto (-48), 3) := by decide +kernel
theorem d_S_chooseLeastNumbers_63 : decode M_S_chooseLeastNumbers.2.1 63 = .ok (.iload 4, 2) := by decide +kernel
theorem d_S_chooseLeastNumbers_65 : decode M_S_chooseLeastNumbers.2.1 65 = .ok (.ireturn, 1) := by decide +kernel
theorem d_S_chooseLeastSent_0 : decode M_S_chooseLeastSent.2.1 0 = .ok (.aload_n 0, 1) := by decide +kernel
theorem d_S_chooseLeastSent_1 : decode M_S_chooseLeastSent.2.1 1 = .ok (.iload_n 2, 1) := by decide +kernel
theorem d_S_chooseLeastSent_2 : decode M_S_chooseLeastSent.2.1 2 = .ok (.invokevirtual 134, 3) := by decide +kernel
theorem d_S_chooseLeastSent_5 : decode M_S_chooseLeastSent.2.1 5 = .ok (.istore 4, 2) := by decide +kernel
theorem d_S_chooseLeastSent_7 : decode M_S_chooseLeastSent.2.1 7 = .ok (.iload_n 3, 1) := by decide +kernel
theorem d_S_chooseLeastSent_8 : decode M_S_chooseLeastSent.2.1 8 = .ok (.istore 5, 2) := by decide +kernel
theorem d_S_chooseLeastSent_10 : decode M_S_chooseLeastSent.2.1 10 = .ok (.iconst 0, 1) := by decide +kernel
theorem d_S_chooseLeastSent_11 : decode M_S_chooseLeastSent.2.1 11 = .ok (.istore 6, 2) := by decide +kernel
theorem d_S_chooseLeastSent_13 : decode M_S_chooseLeastSent.2.1 13 = .ok (.iload 6, 2) := by decide +kernel
theorem d_S_chooseLeastSent_15 : decode M_S_chooseLeastSent.2.1 15 = .ok (.bipush 8, 2) := by decide +kernel
theorem d_S_chooseLeastSent_17 : decode M_S_chooseLeastSent.2.1 17 = .ok (.if_icmp .ge 118, 3) := by decide +kernel
theorem d_S_chooseLeastSent_20 : decode M_S_chooseLeastSent.2.1 20 = .ok (.iconst (-1), 1) := by decide +kernel
theorem d_S_chooseLeastSent_21 : decode M_S_chooseLeastSent.2.1 21 = .ok (.istore 7, 2) := by decide +kernel
theorem d_S_chooseLeastSent_23 : decode M_S_chooseLeastSent.2.1 23 = .ok (.iconst 0, 1) := by decide +kernel
theorem d_S_chooseLeastSent_24 : decode M_S_chooseLeastSent.2.1 24 = .ok (.istore 8, 2) := by decide +kernel
theorem d_S_chooseLeastSent_26 : decode M_S_chooseLeastSent.2.1 26 = .ok (.iload 8, 2) := by decide +kernel
theorem d_S_chooseLeastSent_28 : decode M_S_chooseLeastSent.2.1 28 = .ok (.bipush 12, 2) := by decide +kernel
theorem d_S_chooseLeastSent_30 : decode M_S_chooseLeastSent.2.1 30 = .ok (.if_icmp .ge 70, 3) := by decide +kernel
theorem d_S_chooseLeastSent_33 : decode M_S_chooseLeastSent.2.1 33 = .ok (.iload 8, 2) := by decide +kernel
theorem d_S_chooseLeastSent_35 : decode M_S_chooseLeastSent.2.1 35 = .ok (.iload_n 1, 1) := by decide +kernel
theorem d_S_chooseLeastSent_36 : decode M_S_chooseLeastSent.2.1 36 = .ok (.if_icmp .eq 58, 3) := by decide +kernel
theorem d_S_chooseLeastSent_39 : decode M_S_chooseLeastSent.2.1 39 = .ok (.iload 5, 2) := by decide +kernel
theorem d_S_chooseLeastSent_41 : decode M_S_chooseLeastSent.2.1 41 = .ok (.iload 8, 2) := by decide +kernel
theorem d_S_chooseLeastSent_43 : decode M_S_chooseLeastSent.2.1 43 = .ok (.invokestatic 231, 3) := by decide +kernel
theorem d_S_chooseLeastSent_46 : decode M_S_chooseLeastSent.2.1 46 = .ok (.ifCond .eq 48, 3) := by decide +kernel
theorem d_S_chooseLeastSent_49 : decode M_S_chooseLeastSent.2.1 49 = .ok (.aload_n 0, 1) := by decide +kernel
theorem d_S_chooseLeastSent_50 : decode M_S_chooseLeastSent.2.1 50 = .ok (.iload 8, 2) := by decide +kernel
theorem d_S_chooseLeastSent_52 : decode M_S_chooseLeastSent.2.1 52 = .ok (.iload_n 2, 1) := by decide +kernel
theorem d_S_chooseLeastSent_53 : decode M_S_chooseLeastSent.2.1 53 = .ok (.iload 4, 2) := by decide +kernel
theorem d_S_chooseLeastSent_55 : decode M_S_chooseLeastSent.2.1 55 = .ok (.invokevirtual 159, 3) := by decide +kernel
theorem d_S_chooseLeastSent_58 : decode M_S_chooseLeastSent.2.1 58 = .ok (.ifCond .eq 36, 3) := by decide +kernel
theorem d_S_chooseLeastSent_61 : decode M_S_chooseLeastSent.2.1 61 = .ok (.iload 7, 2) := by decide +kernel
theorem d_S_chooseLeastSent_63 : decode M_S_chooseLeastSent.2.1 63 = .ok (.iconst (-1), 1) := by decide +kernel
theorem d_S_chooseLeastSent_64 : decode M_S_chooseLeastSent.2.1 64 = .ok (.if_icmp .eq 26, 3) := by decide +kernel
theorem d_S_chooseLeastSent_67 : decode M_S_chooseLeastSent.2.1 67 = .ok (.aload_n 0, 1) := by decide +kernel
theorem d_S_chooseLeastSent_68 : decode M_S_chooseLeastSent.2.1 68 = .ok (.getfield 18, 3) := by decide +kernel
theorem d_S_chooseLeastSent_71 : decode M_S_chooseLeastSent.2.1 71 = .ok (.iload 8, 2) := by decide +kernel
theorem d_S_chooseLeastSent_73 : decode M_S_chooseLeastSent.2.1 73 = .ok (.aaload, 1) := by decide +kernel
theorem d_S_chooseLeastSent_74 : decode M_S_chooseLeastSent.2.1 74 = .ok (.getfield 163, 3) := by decide +kernel
theorem d_S_chooseLeastSent_77 : decode M_S_chooseLeastSent.2.1 77 = .ok (.aload_n 0, 1) := by decide +kernel
theorem d_S_chooseLeastSent_78 : decode M_S_chooseLeastSent.2.1 78 = .ok (.getfield 18, 3) := by decide +kernel
theorem d_S_chooseLeastSent_81 : decode M_S_chooseLeastSent.2.1 81 = .ok (.iload 7, 2) := by decide +kernel
theorem d_S_chooseLeastSent_83 : decode M_S_chooseLeastSent.2.1 83 = .ok (.aaload, 1) := by decide +kernel
theorem d_S_chooseLeastSent_84 : decode M_S_chooseLeastSent.2.1 84 = .ok (.getfield 163, 3) := by decide +kernel
theorem d_S_chooseLeastSent_87 : decode M_S_chooseLeastSent.2.1 87 = .ok (.if_icmp .ge 7, 3) := by decide +kernel
theorem d_S_chooseLeastSent_90 : decode M_S_chooseLeastSent.2.1 90 = .ok (.iload 8, 2) := by decide +kernel
theorem d_S_chooseLeastSent_92 : decode M_S_chooseLeastSent.2.1 92 = .ok (.istore 7, 2) := by decide +kernel
theorem d_S_chooseLeastSent_94 : decode M_S_chooseLeastSent.2.1 94 = .ok (.iinc 8 1, 3) := by decide +kernel
theorem d_S_chooseLeastSent_97 : decode M_S_chooseLeastSent.2.1 97 = .ok (.goto (-71), 3) := by decide +kernel
theorem d_S_chooseLeastSent_100 : decode M_S_chooseLeastSent.2.1 100 = .ok (.iload 7, 2) := by decide +kernel
theorem d_S_chooseLeastSent_102 : decode M_S_chooseLeastSent.2.1 102 = .ok (.iconst (-1), 1) := by decide +kernel
theorem d_S_chooseLeastSent_103 : decode M_S_chooseLeastSent.2.1 103 = .ok (.if_icmp .ne 6, 3) := by decide +kernel
theorem d_S_chooseLeastSent_106 : decode M_S_chooseLeastSent.2.1 106 = .ok (.iload 6, 2) := by decide +kernel
theorem d_S_chooseLeastSent_108 : decode M_S_chooseLeastSent.2.1 108 = .ok (.ireturn, 1) := by decide +kernel
theorem d_S_chooseLeastSent_109 : decode M_S_chooseLeastSent.2.1 109 = .ok (.aload_n 0, 1) := by decide +kernel
theorem d_S_chooseLeastSent_110 : decode M_S_chooseLeastSent.2.1 110 = .ok (.getfield 52, 3) := by decide +kernel
theorem d_S_chooseLeastSent_113 : decode M_S_chooseLeastSent.2.1 113 = .ok (.iload 6, 2) := by decide +kernel
theorem d_S_chooseLeastSent_115 : decode M_S_chooseLeastSent.2.1 115 = .ok (.iload 7, 2) := by decide +kernel
theorem d_S_chooseLeastSent_117 : decode M_S_chooseLeastSent.2.1 117 = .ok (.iastore, 1) := by decide +kernel
theorem d_S_chooseLeastSent_118 : decode M_S_chooseLeastSent.2.1 118 = .ok (.iload 5, 2) := by decide +kernel
theorem d_S_chooseLeastSent_120 : decode M_S_chooseLeastSent.2.1 120 = .ok (.iconst 1, 1) := by decide +kernel
theorem d_S_chooseLeastSent_121 : decode M_S_chooseLeastSent.2.1 121 = .ok (.iload 7, 2) := by decide +kernel
theorem d_S_chooseLeastSent_123 : decode M_S_chooseLeastSent.2.1 123 = .ok (.ishl, 1) := by decide +kernel
theorem d_S_chooseLeastSent_124 : decode M_S_chooseLeastSent.2.1 124 = .ok (.iconst (-1), 1) := by decide +kernel
theorem d_S_chooseLeastSent_125 : decode M_S_chooseLeastSent.2.1 125 = .ok (.ixor, 1) := by decide +kernel
theorem d_S_chooseLeastSent_126 : decode M_S_chooseLeastSent.2.1 126 = .ok (.iand, 1) := by decide +kernel
theorem d_S_chooseLeastSent_127 : decode M_S_chooseLeastSent.2.1 127 = .ok (.istore 5, 2) := by decide +kernel
theorem d_S_chooseLeastSent_129 : decode M_S_chooseLeastSent.2.1 129 = .ok (.iinc 6 1, 3) := by decide +kernel
theorem d_S_chooseLeastSent_132 : decode M_S_chooseLeastSent.2.1 132 = .ok (.goto (-119), 3) := by decide +kernel
theorem d_S_chooseLeastSent_135 : decode M_S_chooseLeastSent.2.1 135 = .ok (.iload 6, 2) := by decide +kernel
theorem d_S_chooseLeastSent_137 : decode M_S_chooseLeastSent.2.1 137 = .ok (.ireturn, 1) := by decide +kernel
theorem d_S_clear_0 : decode M_S_clear.2.1 0 = .ok (.iconst 0, 1) := by decide +kernel
theorem d_S_clear_1 : decode M_S_clear.2.1 1 = .ok (.istore_n 1, 1) := by decide +kernel
theorem d_S_clear_2 : decode M_S_clear.2.1 2 = .ok (.iconst 0, 1) := by decide +kernel
theorem d_S_clear_3 : decode M_S_clear.2.1 3 = .ok (.istore_n 2, 1) := by decide +kernel
theorem d_S_clear_4 : decode M_S_clear.2.1 4 = .ok (.iload_n 2, 1) := by decide +kernel
theorem d_S_clear_5 : decode M_S_clear.2.1 5 = .ok (.bipush 6, 2) := by decide +kernel
theorem d_S_clear_7 : decode M_S_clear.2.1 7 = .ok (.if_icmp .ge 20, 3) := by decide +kernel
theorem d_S_clear_10 : decode M_S_clear.2.1 10 = .ok (.aload_n 0, 1) := by decide +kernel
theorem d_S_clear_11 : decode M_S_clear.2.1 11 = .ok (.iload_n 2, 1) := by decide +kernel
theorem d_S_clear_12 : decode M_S_clear.2.1 12 = .ok (.invokevirtual 134, 3) := by decide +kernel
theorem d_S_clear_15 : decode M_S_clear.2.1 15 = .ok (.ifCond .le 6, 3) := by decide +kernel
theorem d_S_clear_18 : decode M_S_clear.2.1 18 = .ok (.iinc 1 1, 3) := by decide +kernel
theorem d_S_clear_21 : decode M_S_clear.2.1 21 = .ok (.iinc 2 1, 3) := by decide +kernel
theorem d_S_clear_24 : decode M_S_clear.2.1 24 = .ok (.goto (-20), 3) := by decide +kernel
theorem d_S_clear_27 : decode M_S_clear.2.1 27 = .ok (.iconst 0, 1) := by decide +kernel
theorem d_S_clear_28 : decode M_S_clear.2.1 28 = .ok (.istore_n 2, 1) := by decide +kernel
theorem d_S_clear_29 : decode M_S_clear.2.1 29 = .ok (.iload_n 2, 1) := by decide +kernel
theorem d_S_clear_30 : decode M_S_clear.2.1 30 = .ok (.bipush 12, 2) := by decide +kernel
theorem d_S_clear_32 : decode M_S_clear.2.1 32 = .ok (.if_icmp .ge 38, 3) := by decide +kernel
theorem d_S_clear_35 : decode M_S_clear.2.1 35 = .ok (.aload_n 0, 1) := by decide +kernel
theorem d_S_clear_36 : decode M_S_clear.2.1 36 = .ok (.getfield 18, 3) := by decide +kernel
theorem d_S_clear_39 : decode M_S_clear.2.1 39 = .ok (.iload_n 2, 1) := by decide +kernel
theorem d_S_clear_40 : decode M_S_clear.2.1 40 = .ok (.aaload, 1) := by decide +kernel
theorem d_S_clear_41 : decode M_S_clear.2.1 41 = .ok (.invokevirtual 143, 3) := by decide +kernel
theorem d_S_clear_44 : decode M_S_clear.2.1 44 = .ok (.aload_n 0, 1) := by decide +kernel
theorem d_S_clear_45 : decode M_S_clear.2.1 45 = .ok (.getfield 18, 3) := by decide +kernel
theorem d_S_clear_48 : decode M_S_clear.2.1 48 = .ok (.iload_n 2, 1) := by decide +kernel
theorem d_S_clear_49 : decode M_S_clear.2.1 49 = .ok (.aaload, 1) := by decide +kernel
theorem d_S_clear_50 : decode M_S_clear.2.1 50 = .ok (.iconst 1, 1) := by decide +kernel
theorem d_S_clear_51 : decode M_S_clear.2.1 51 = .ok (.putfield 103, 3) := by decide +kernel
theorem d_S_clear_54 : decode M_S_clear.2.1 54 = .ok (.aload_n 0, 1) := by decide +kernel
theorem d_S_clear_55 : decode M_S_clear.2.1 55 = .ok (.getfield 18, 3) := by decide +kernel
theorem d_S_clear_58 : decode M_S_clear.2.1 58 = .ok (.iload_n 2, 1) := by decide +kernel
theorem d_S_clear_59 : decode M_S_clear.2.1 59 = .ok (.aaload, 1) := by decide +kernel
theorem d_S_clear_60 : decode M_S_clear.2.1 60 = .ok (.iconst 0, 1) := by decide +kernel
theorem d_S_clear_61 : decode M_S_clear.2.1 61 = .ok (.putfield 163, 3) := by decide +kernel
theorem d_S_clear_64 : decode M_S_clear.2.1 64 = .ok (.iinc 2 1, 3) := by decide +kernel
theorem d_S_clear_67 : decode M_S_clear.2.1 67 = .ok (.goto (-38), 3) := by decide +kernel
theorem d_S_clear_70 : decode M_S_clear.2.1 70 = .ok (.iconst 0, 1) := by decide +kernel
theorem d_S_clear_71 : decode M_S_clear.2.1 71 = .ok (.istore_n 2, 1) := by decide +kernel
theorem d_S_clear_72 : decode M_S_clear.2.1 72 = .ok (.iload_n 2, 1) := by decide +kernel
theorem d_S_clear_73 : decode M_S_clear.2.1 73 = .ok (.bipush 6, 2) := by decide +kernel
theorem d_S_clear_75 : decode M_S_clear.2.1 75 = .ok (.if_icmp .ge 23, 3) := by decide +kernel
theorem d_S_clear_78 : decode M_S_clear.2.1 78 = .ok (.aload_n 0, 1) := by decide +kernel
theorem d_S_clear_79 : decode M_S_clear.2.1 79 = .ok (.getfield 22, 3) := by decide +kernel
theorem d_S_clear_82 : decode M_S_clear.2.1 82 = .ok (.iload_n 2, 1) := by decide +kernel
theorem d_S_clear_83 : decode M_S_clear.2.1 83 = .ok (.iconst 0, 1) := by decide +kernel
theorem d_S_clear_84 : decode M_S_clear.2.1 84 = .ok (.iastore, 1) := by decide +kernel
theorem d_S_clear_85 : decode M_S_clear.2.1 85 = .ok (.aload_n 0, 1) := by decide +kernel
theorem d_S_clear_86 : decode M_S_clear.2.1 86 = .ok (.getfield 26, 3) := by decide +kernel
theorem d_S_clear_89 : decode M_S_clear.2.1 89 = .ok (.iload_n 2, 1) := by decide +kernel
theorem d_S_clear_90 : decode M_S_clear.2.1 90 = .ok (.iconst 0, 1) := by decide +kernel
theorem d_S_clear_91 : decode M_S_clear.2.1 91 = .ok (.bastore, 1) := by decide +kernel
theorem d_S_clear_92 : decode M_S_clear.2.1 92 = .ok (.iinc 2 1, 3) := by decide +kernel
theorem d_S_clear_95 : decode M_S_clear.2.1 95 = .ok (.goto (-23), 3) := by decide +kernel
theorem d_S_clear_98 : decode M_S_clear.2.1 98 = .ok (.aload_n 0, 1) := by decide +kernel
theorem d_S_clear_99 : decode M_S_clear.2.1 99 = .ok (.iconst 0, 1) := by decide +kernel
theorem d_S_clear_100 : decode M_S_clear.2.1 100 = .ok (.putfield 33, 3) := by decide +kernel
theorem d_S_clear_103 : decode M_S_clear.2.1 103 = .ok (.aload_n 0, 1) := by decide +kernel
theorem d_S_clear_104 : decode M_S_clear.2.1 104 = .ok (.iconst (-1), 1) := by decide +kernel
theorem d_S_clear_105 : decode M_S_clear.2.1 105 = .ok (.putfield 43, 3) := by decide +kernel
theorem d_S_clear_108 : decode M_S_clear.2.1 108 = .ok (.iload_n 1, 1) := by decide +kernel
theorem d_S_clear_109 : decode M_S_clear.2.1 109 = .ok (.ireturn, 1) := by decide +kernel
theorem d_S_count_0 : decode M_S_count.2.1 0 = .ok (.iload_n 1, 1) := by decide +kernel
theorem d_S_count_1 : decode M_S_count.2.1 1 = .ok (.tableswitch 69 0 5 #[39, 44, 49, 54, 59, 64], 39) := by decide +kernel
theorem d_S_count_40 : decode M_S_count.2.1 40 = .ok (.aload_n 0, 1) := by decide +kernel
theorem d_S_count_41 : decode M_S_count.2.1 41 = .ok (.invokevirtual 85, 3) := by decide +kernel
theorem d_S_count_44 : decode M_S_count.2.1 44 = .ok (.ireturn, 1) := by decide +kernel
theorem d_S_count_45 : decode M_S_count.2.1 45 = .ok (.aload_n 0, 1) := by decide +kernel
theorem d_S_count_46 : decode M_S_count.2.1 46 = .ok (.getfield 33, 3) := by decide +kernel
theorem d_S_count_49 : decode M_S_count.2.1 49 = .ok (.ireturn, 1) := by decide +kernel
theorem d_S_count_50 : decode M_S_count.2.1 50 = .ok (.aload_n 0, 1) := by decide +kernel
theorem d_S_count_51 : decode M_S_count.2.1 51 = .ok (.getfield 46, 3) := by decide +kernel
theorem d_S_count_54 : decode M_S_count.2.1 54 = .ok (.ireturn, 1) := by decide +kernel
theorem d_S_count_55 : decode M_S_count.2.1 55 = .ok (.aload_n 0, 1) := by decide +kernel
theorem d_S_count_56 : decode M_S_count.2.1 56 = .ok (.getfield 49, 3) := by decide +kernel
theorem d_S_count_59 : decode M_S_count.2.1 59 = .ok (.ireturn, 1) := by decide +kernel
theorem d_S_count_60 : decode M_S_count.2.1 60 = .ok (.aload_n 0, 1) := by decide +kernel
theorem d_S_count_61 : decode M_S_count.2.1 61 = .ok (.invokevirtual 182, 3) := by decide +kernel
theorem d_S_count_64 : decode M_S_count.2.1 64 = .ok (.ireturn, 1) := by decide +kernel
theorem d_S_count_65 : decode M_S_count.2.1 65 = .ok (.aload_n 0, 1) := by decide +kernel
theorem d_S_count_66 : decode M_S_count.2.1 66 = .ok (.getfield 43, 3) := by decide +kernel
theorem d_S_count_69 : decode M_S_count.2.1 69 = .ok (.ireturn, 1) := by decide +kernel
theorem d_S_count_70 : decode M_S_count.2.1 70 = .ok (.bipush (-2), 2) := by decide +kernel
theorem d_S_count_72 : decode M_S_count.2.1 72 = .ok (.ireturn, 1) := by decide +kernel
theorem d_S_cut_0 : decode M_S_cut.2.1 0 = .ok (.iload_n 1, 1) := by decide +kernel
theorem d_S_cut_1 : decode M_S_cut.2.1 1 = .ok (.ifCond .lt 9, 3) := by decide +kernel
theorem d_S_cut_4 : decode M_S_cut.2.1 4 = .ok (.iload_n 1, 1) := by decide +kernel
theorem d_S_cut_5 : decode M_S_cut.2.1 5 = .ok (.bipush 24, 2) := by decide +kernel
theorem d_S_cut_7 : decode M_S_cut.2.1 7 = .ok (.if_icmp .lt 6, 3) := by decide +kernel
theorem d_S_cut_10 : decode M_S_cut.2.1 10 = .ok (.bipush (-2), 2) := by decide +kernel
theorem d_S_cut_12 : decode M_S_cut.2.1 12 = .ok (.ireturn, 1) := by decide +kernel
theorem d_S_cut_13 : decode M_S_cut.2.1 13 = .ok (.aload_n 0, 1) := by decide +kernel
theorem d_S_cut_14 : decode M_S_cut.2.1 14 = .ok (.iload_n 1, 1) := by decide +kernel
theorem d_S_cut_15 : decode M_S_cut.2.1 15 = .ok (.putfield 43, 3) := by decide +kernel
theorem d_S_cut_18 : decode M_S_cut.2.1 18 = .ok (.iconst 1, 1) := by decide +kernel
theorem d_S_cut_19 : decode M_S_cut.2.1 19 = .ok (.ireturn, 1) := by decide +kernel
theorem d_S_decode_0 : decode M_S_decode.2.1 0 = .ok (.aload_n 0, 1) := by decide +kernel
theorem d_S_decode_1 : decode M_S_decode.2.1 1 = .ok (.getfield 10, 3) := by decide +kernel
theorem d_S_decode_4 : decode M_S_decode.2.1 4 = .ok (.aload_n 0, 1) := by decide +kernel
theorem d_S_decode_5 : decode M_S_decode.2.1 5 = .ok (.getfield 52, 3) := by decide +kernel
theorem d_S_decode_8 : decode M_S_decode.2.1 8 = .ok (.iconst 5, 1) := by decide +kernel
theorem d_S_decode_9 : decode M_S_decode.2.1 9 = .ok (.invokevirtual 234, 3) := by decide +kernel
theorem d_S_decode_12 : decode M_S_decode.2.1 12 = .ok (.iconst 0, 1) := by decide +kernel
theorem d_S_decode_13 : decode M_S_decode.2.1 13 = .ok (.istore_n 3, 1) := by decide +kernel
theorem d_S_decode_14 : decode M_S_decode.2.1 14 = .ok (.iload_n 3, 1) := by decide +kernel
theorem d_S_decode_15 : decode M_S_decode.2.1 15 = .ok (.iload_n 2, 1) := by decide +kernel
theorem d_S_decode_16 : decode M_S_decode.2.1 16 = .ok (.invokestatic 92, 3) := by decide +kernel
theorem d_S_decode_19 : decode M_S_decode.2.1 19 = .ok (.if_icmp .ge 98, 3) := by decide +kernel
theorem d_S_decode_22 : decode M_S_decode.2.1 22 = .ok (.iconst 0, 1) := by decide +kernel
theorem d_S_decode_23 : decode M_S_decode.2.1 23 = .ok (.istore 4, 2) := by decide +kernel
theorem d_S_decode_25 : decode M_S_decode.2.1 25 = .ok (.iload 4, 2) := by decide +kernel
theorem d_S_decode_27 : decode M_S_decode.2.1 27 = .ok (.iconst 5, 1) := by decide +kernel
theorem d_S_decode_28 : decode M_S_decode.2.1 28 = .ok (.if_icmp .ge 56, 3) := by decide +kernel
theorem d_S_decode_31 : decode M_S_decode.2.1 31 = .ok (.aload_n 0, 1) := by decide +kernel
theorem d_S_decode_32 : decode M_S_decode.2.1 32 = .ok (.getfield 18, 3) := by decide +kernel
theorem d_S_decode_35 : decode M_S_decode.2.1 35 = .ok (.aload_n 0, 1) := by decide +kernel
theorem d_S_decode_36 : decode M_S_decode.2.1 36 = .ok (.getfield 52, 3) := by decide +kernel
theorem d_S_decode_39 : decode M_S_decode.2.1 39 = .ok (.iload 4, 2) := by decide +kernel
theorem d_S_decode_41 : decode M_S_decode.2.1 41 = .ok (.iaload, 1) := by decide +kernel
theorem d_S_decode_42 : decode M_S_decode.2.1 42 = .ok (.aaload, 1) := by decide +kernel
theorem d_S_decode_43 : decode M_S_decode.2.1 43 = .ok (.astore 5, 2) := by decide +kernel
theorem d_S_decode_45 : decode M_S_decode.2.1 45 = .ok (.aload 5, 2) := by decide +kernel
theorem d_S_decode_47 : decode M_S_decode.2.1 47 = .ok (.aload 5, 2) := by decide +kernel
theorem d_S_decode_49 : decode M_S_decode.2.1 49 = .ok (.getfield 173, 3) := by decide +kernel
theorem d_S_decode_52 : decode M_S_decode.2.1 52 = .ok (.iload_n 1, 1) := by decide +kernel
theorem d_S_decode_53 : decode M_S_decode.2.1 53 = .ok (.aaload, 1) := by decide +kernel
theorem d_S_decode_54 : decode M_S_decode.2.1 54 = .ok (.iload_n 3, 1) := by decide +kernel
theorem d_S_decode_55 : decode M_S_decode.2.1 55 = .ok (.invokevirtual 170, 3) := by decide +kernel
theorem d_S_decode_58 : decode M_S_decode.2.1 58 = .ok (.aload_n 0, 1) := by decide +kernel
theorem d_S_decode_59 : decode M_S_decode.2.1 59 = .ok (.getfield 55, 3) := by decide +kernel
theorem d_S_decode_62 : decode M_S_decode.2.1 62 = .ok (.invokevirtual 238, 3) := by decide +kernel
theorem d_S_decode_65 : decode M_S_decode.2.1 65 = .ok (.aload_n 0, 1) := by decide +kernel
theorem d_S_decode_66 : decode M_S_decode.2.1 66 = .ok (.getfield 10, 3) := by decide +kernel
theorem d_S_decode_69 : decode M_S_decode.2.1 69 = .ok (.iload 4, 2) := by decide +kernel
theorem d_S_decode_71 : decode M_S_decode.2.1 71 = .ok (.aload_n 0, 1) := by decide +kernel
theorem d_S_decode_72 : decode M_S_decode.2.1 72 = .ok (.getfield 55, 3) := by decide +kernel
theorem d_S_decode_75 : decode M_S_decode.2.1 75 = .ok (.invokevirtual 241, 3) := by decide +kernel
theorem d_S_decode_78 : decode M_S_decode.2.1 78 = .ok (.iinc 4 1, 3) := by decide +kernel
theorem d_S_decode_81 : decode M_S_decode.2.1 81 = .ok (.goto (-56), 3) := by decide +kernel
theorem d_S_decode_84 : decode M_S_decode.2.1 84 = .ok (.aload_n 0, 1) := by decide +kernel
theorem d_S_decode_85 : decode M_S_decode.2.1 85 = .ok (.getfield 10, 3) := by decide +kernel
theorem d_S_decode_88 : decode M_S_decode.2.1 88 = .ok (.aload_n 0, 1) := by decide +kernel
theorem d_S_decode_89 : decode M_S_decode.2.1 89 = .ok (.getfield 52, 3) := by decide +kernel
theorem d_S_decode_92 : decode M_S_decode.2.1 92 = .ok (.invokevirtual 244, 3) := by decide +kernel
theorem d_S_decode_95 : decode M_S_decode.2.1 95 = .ok (.aload_n 0, 1) := by decide +kernel
theorem d_S_decode_96 : decode M_S_decode.2.1 96 = .ok (.getfield 10, 3) := by decide +kernel
theorem d_S_decode_99 : decode M_S_decode.2.1 99 = .ok (.aload_n 0, 1) := by decide +kernel
theorem d_S_decode_100 : decode M_S_decode.2.1 100 = .ok (.getfield 37, 3) := by decide +kernel
theorem d_S_decode_103 : decode M_S_decode.2.1 103 = .ok (.iload_n 3, 1) := by decide +kernel
theorem d_S_decode_104 : decode M_S_decode.2.1 104 = .ok (.bipush 30, 2) := by decide +kernel
theorem d_S_decode_106 : decode M_S_decode.2.1 106 = .ok (.imul, 1) := by decide +kernel
theorem d_S_decode_107 : decode M_S_decode.2.1 107 = .ok (.iload_n 2, 1) := by decide +kernel
theorem d_S_decode_108 : decode M_S_decode.2.1 108 = .ok (.invokevirtual 248, 3) := by decide +kernel
theorem d_S_decode_111 : decode M_S_decode.2.1 111 = .ok (.iinc 3 1, 3) := by decide +kernel
theorem d_S_decode_114 : decode M_S_decode.2.1 114 = .ok (.goto (-100), 3) := by decide +kernel
theorem d_S_decode_117 : decode M_S_decode.2.1 117 = .ok (.return_, 1) := by decide +kernel
theorem d_S_digest_0 : decode M_S_digest.2.1 0 = .ok (.ldc2_w 185, 3) := by decide +kernel
theorem d_S_digest_3 : decode M_S_digest.2.1 3 = .ok (.lstore_n 1, 1) := by decide +kernel
theorem d_S_digest_4 : decode M_S_digest.2.1 4 = .ok (.iconst 0, 1) := by decide +kernel
theorem d_S_digest_5 : decode M_S_digest.2.1 5 = .ok (.istore_n 3, 1) := by decide +kernel
theorem d_S_digest_6 : decode M_S_digest.2.1 6 = .ok (.iload_n 3, 1) := by decide +kernel
theorem d_S_digest_7 : decode M_S_digest.2.1 7 = .ok (.bipush 12, 2) := by decide +kernel
theorem d_S_digest_9 : decode M_S_digest.2.1 9 = .ok (.if_icmp .ge 89, 3) := by decide +kernel
theorem d_S_digest_12 : decode M_S_digest.2.1 12 = .ok (.aload_n 0, 1) := by decide +kernel
theorem d_S_digest_13 : decode M_S_digest.2.1 13 = .ok (.getfield 18, 3) := by decide +kernel
theorem d_S_digest_16 : decode M_S_digest.2.1 16 = .ok (.iload_n 3, 1) := by decide +kernel
theorem d_S_digest_17 : decode M_S_digest.2.1 17 = .ok (.aaload, 1) := by decide +kernel
theorem d_S_digest_18 : decode M_S_digest.2.1 18 = .ok (.astore 4, 2) := by decide +kernel
theorem d_S_digest_20 : decode M_S_digest.2.1 20 = .ok (.ldc2_w 187, 3) := by decide +kernel
theorem d_S_digest_23 : decode M_S_digest.2.1 23 = .ok (.lload_n 1, 1) := by decide +kernel
theorem d_S_digest_24 : decode M_S_digest.2.1 24 = .ok (.lmul, 1) := by decide +kernel
theorem d_S_digest_25 : decode M_S_digest.2.1 25 = .ok (.aload 4, 2) := by decide +kernel
theorem d_S_digest_27 : decode M_S_digest.2.1 27 = .ok (.getfield 103, 3) := by decide +kernel
theorem d_S_digest_30 : decode M_S_digest.2.1 30 = .ok (.ifCond .eq 7, 3) := by decide +kernel
theorem d_S_digest_33 : decode M_S_digest.2.1 33 = .ok (.iconst 1, 1) := by decide +kernel
theorem d_S_digest_34 : decode M_S_digest.2.1 34 = .ok (.goto 4, 3) := by decide +kernel
theorem d_S_digest_37 : decode M_S_digest.2.1 37 = .ok (.iconst 0, 1) := by decide +kernel
theorem d_S_digest_38 : decode M_S_digest.2.1 38 = .ok (.i2l, 1) := by decide +kernel
theorem d_S_digest_39 : decode M_S_digest.2.1 39 = .ok (.ladd, 1) := by decide +kernel
theorem d_S_digest_40 : decode M_S_digest.2.1 40 = .ok (.lstore_n 1, 1) := by decide +kernel
theorem d_S_digest_41 : decode M_S_digest.2.1 41 = .ok (.ldc2_w 187, 3) := by decide +kernel
theorem d_S_digest_44 : decode M_S_digest.2.1 44 = .ok (.lload_n 1, 1) := by decide +kernel
theorem d_S_digest_45 : decode M_S_digest.2.1 45 = .ok (.lmul, 1) := by decide +kernel
theorem d_S_digest_46 : decode M_S_digest.2.1 46 = .ok (.aload 4, 2) := by decide +kernel
theorem d_S_digest_48 : decode M_S_digest.2.1 48 = .ok (.getfield 163, 3) := by decide +kernel
theorem d_S_digest_51 : decode M_S_digest.2.1 51 = .ok (.i2l, 1) := by decide +kernel
theorem d_S_digest_52 : decode M_S_digest.2.1 52 = .ok (.ladd, 1) := by decide +kernel
theorem d_S_digest_53 : decode M_S_digest.2.1 53 = .ok (.lstore_n 1, 1) := by decide +kernel
theorem d_S_digest_54 : decode M_S_digest.2.1 54 = .ok (.ldc2_w 187, 3) := by decide +kernel
theorem d_S_digest_57 : decode M_S_digest.2.1 57 = .ok (.lload_n 1, 1) := by decide +kernel
theorem d_S_digest_58 : decode M_S_digest.2.1 58 = .ok (.lmul, 1) := by decide +kernel
theorem d_S_digest_59 : decode M_S_digest.2.1 59 = .ok (.aload 4, 2) := by decide +kernel
theorem d_S_digest_61 : decode M_S_digest.2.1 61 = .ok (.invokevirtual 140, 3) := by decide +kernel
theorem d_S_digest_64 : decode M_S_digest.2.1 64 = .ok (.i2l, 1) := by decide +kernel
theorem d_S_digest_65 : decode M_S_digest.2.1 65 = .ok (.ladd, 1) := by decide +kernel
theorem d_S_digest_66 : decode M_S_digest.2.1 66 = .ok (.lstore_n 1, 1) := by decide +kernel
theorem d_S_digest_67 : decode M_S_digest.2.1 67 = .ok (.iconst 0, 1) := by decide +kernel
theorem d_S_digest_68 : decode M_S_digest.2.1 68 = .ok (.istore 5, 2) := by decide +kernel
theorem d_S_digest_70 : decode M_S_digest.2.1 70 = .ok (.iload 5, 2) := by decide +kernel
theorem d_S_digest_72 : decode M_S_digest.2.1 72 = .ok (.bipush 6, 2) := by decide +kernel
theorem d_S_digest_74 : decode M_S_digest.2.1 74 = .ok (.if_icmp .ge 18, 3) := by decide +kernel
theorem d_S_digest_77 : decode M_S_digest.2.1 77 = .ok (.lload_n 1, 1) := by decide +kernel
theorem d_S_digest_78 : decode M_S_digest.2.1 78 = .ok (.aload 4, 2) := by decide +kernel
theorem d_S_digest_80 : decode M_S_digest.2.1 80 = .ok (.iload 5, 2) := by decide +kernel
theorem d_S_digest_82 : decode M_S_digest.2.1 82 = .ok (.invokestatic 189, 3) := by decide +kernel
theorem d_S_digest_85 : decode M_S_digest.2.1 85 = .ok (.lstore_n 1, 1) := by decide +kernel
theorem d_S_digest_86 : decode M_S_digest.2.1 86 = .ok (.iinc 5 1, 3) := by decide +kernel
theorem d_S_digest_89 : decode M_S_digest.2.1 89 = .ok (.goto (-19), 3) := by decide +kernel
theorem d_S_digest_92 : decode M_S_digest.2.1 92 = .ok (.iinc 3 1, 3) := by decide +kernel
theorem d_S_digest_95 : decode M_S_digest.2.1 95 = .ok (.goto (-89), 3) := by decide +kernel
theorem d_S_digest_98 : decode M_S_digest.2.1 98 = .ok (.lload_n 1, 1) := by decide +kernel
theorem d_S_digest_99 : decode M_S_digest.2.1 99 = .ok (.lreturn, 1) := by decide +kernel
theorem d_S_digestOfRecord_0 : decode M_S_digestOfRecord.2.1 0 = .ok (.lload_n 0, 1) := by decide +kernel
theorem d_S_digestOfRecord_1 : decode M_S_digestOfRecord.2.1 1 = .ok (.lstore 4, 2) := by decide +kernel
theorem d_S_digestOfRecord_3 : decode M_S_digestOfRecord.2.1 3 = .ok (.iconst 0, 1) := by decide +kernel
theorem d_S_digestOfRecord_4 : decode M_S_digestOfRecord.2.1 4 = .ok (.istore 6, 2) := by decide +kernel
theorem d_S_digestOfRecord_6 : decode M_S_digestOfRecord.2.1 6 = .ok (.iload 6, 2) := by decide +kernel
theorem d_S_digestOfRecord_8 : decode M_S_digestOfRecord.2.1 8 = .ok (.bipush 6, 2) := by decide +kernel
theorem d_S_digestOfRecord_10 : decode M_S_digestOfRecord.2.1 10 = .ok (.if_icmp .ge 26, 3) := by decide +kernel
theorem d_S_digestOfRecord_13 : decode M_S_digestOfRecord.2.1 13 = .ok (.ldc2_w 187, 3) := by decide +kernel
theorem d_S_digestOfRecord_16 : decode M_S_digestOfRecord.2.1 16 = .ok (.lload 4, 2) := by decide +kernel
theorem d_S_digestOfRecord_18 : decode M_S_digestOfRecord.2.1 18 = .ok (.lmul, 1) := by decide +kernel
theorem d_S_digestOfRecord_19 : decode M_S_digestOfRecord.2.1 19 = .ok (.aload_n 2, 1) := by decide +kernel
theorem d_S_digestOfRecord_20 : decode M_S_digestOfRecord.2.1 20 = .ok (.iload_n 3, 1) := by decide +kernel
theorem d_S_digestOfRecord_21 : decode M_S_digestOfRecord.2.1 21 = .ok (.iload 6, 2) := by decide +kernel
theorem d_S_digestOfRecord_23 : decode M_S_digestOfRecord.2.1 23 = .ok (.invokestatic 166, 3) := by decide +kernel
theorem d_S_digestOfRecord_26 : decode M_S_digestOfRecord.2.1 26 = .ok (.i2l, 1) := by decide +kernel
theorem d_S_digestOfRecord_27 : decode M_S_digestOfRecord.2.1 27 = .ok (.ladd, 1) := by decide +kernel
theorem d_S_digestOfRecord_28 : decode M_S_digestOfRecord.2.1 28 = .ok (.lstore 4, 2) := by decide +kernel
theorem d_S_digestOfRecord_30 : decode M_S_digestOfRecord.2.1 30 = .ok (.iinc 6 1, 3) := by decide +kernel
theorem d_S_digestOfRecord_33 : decode M_S_digestOfRecord.2.1 33 = .ok (.goto (-27), 3) := by decide +kernel
theorem d_S_digestOfRecord_36 : decode M_S_digestOfRecord.2.1 36 = .ok (.aload_n 2, 1) := by decide +kernel
theorem d_S_digestOfRecord_37 : decode M_S_digestOfRecord.2.1 37 = .ok (.getfield 173, 3) := by decide +kernel
theorem d_S_digestOfRecord_40 : decode M_S_digestOfRecord.2.1 40 = .ok (.iload_n 3, 1) := by decide +kernel
theorem d_S_digestOfRecord_41 : decode M_S_digestOfRecord.2.1 41 = .ok (.aaload, 1) := by decide +kernel
theorem d_S_digestOfRecord_42 : decode M_S_digestOfRecord.2.1 42 = .ok (.astore 6, 2) := by decide +kernel
theorem d_S_digestOfRecord_44 : decode M_S_digestOfRecord.2.1 44 = .ok (.iconst 0, 1) := by decide +kernel
theorem d_S_digestOfRecord_45 : decode M_S_digestOfRecord.2.1 45 = .ok (.istore 7, 2) := by decide +kernel
theorem d_S_digestOfRecord_47 : decode M_S_digestOfRecord.2.1 47 = .ok (.iload 7, 2) := by decide +kernel
theorem d_S_digestOfRecord_49 : decode M_S_digestOfRecord.2.1 49 = .ok (.aload 6, 2) := by decide +kernel
theorem d_S_digestOfRecord_51 : decode M_S_digestOfRecord.2.1 51 = .ok (.getfield 204, 3) := by decide +kernel
theorem d_S_digestOfRecord_54 : decode M_S_digestOfRecord.2.1 54 = .ok (.if_icmp .ge 52, 3) := by decide +kernel
theorem d_S_digestOfRecord_57 : decode M_S_digestOfRecord.2.1 57 = .ok (.aload 6, 2) := by decide +kernel
theorem d_S_digestOfRecord_59 : decode M_S_digestOfRecord.2.1 59 = .ok (.iload 7, 2) := by decide +kernel
theorem d_S_digestOfRecord_61 : decode M_S_digestOfRecord.2.1 61 = .ok (.invokevirtual 170, 3) := by decide +kernel
theorem d_S_digestOfRecord_64 : decode M_S_digestOfRecord.2.1 64 = .ok (.istore 8, 2) := by decide +kernel
theorem d_S_digestOfRecord_66 : decode M_S_digestOfRecord.2.1 66 = .ok (.iconst 0, 1) := by decide +kernel
theorem d_S_digestOfRecord_67 : decode M_S_digestOfRecord.2.1 67 = .ok (.istore 9, 2) := by decide +kernel
theorem d_S_digestOfRecord_69 : decode M_S_digestOfRecord.2.1 69 = .ok (.iload 9, 2) := by decide +kernel
theorem d_S_digestOfRecord_71 : decode M_S_digestOfRecord.2.1 71 = .ok (.bipush 8, 2) := by decide +kernel
theorem d_S_digestOfRecord_73 : decode M_S_digestOfRecord.2.1 73 = .ok (.if_icmp .ge 27, 3) := by decide +kernel
theorem d_S_digestOfRecord_76 : decode M_S_digestOfRecord.2.1 76 = .ok (.ldc2_w 187, 3) := by decide +kernel
theorem d_S_digestOfRecord_79 : decode M_S_digestOfRecord.2.1 79 = .ok (.lload 4, 2) := by decide +kernel
theorem d_S_digestOfRecord_81 : decode M_S_digestOfRecord.2.1 81 = .ok (.lmul, 1) := by decide +kernel
theorem d_S_digestOfRecord_82 : decode M_S_digestOfRecord.2.1 82 = .ok (.aload_n 2, 1) := by decide +kernel
theorem d_S_digestOfRecord_83 : decode M_S_digestOfRecord.2.1 83 = .ok (.iload 8, 2) := by decide +kernel
theorem d_S_digestOfRecord_85 : decode M_S_digestOfRecord.2.1 85 = .ok (.iload 9, 2) := by decide +kernel
theorem d_S_digestOfRecord_87 : decode M_S_digestOfRecord.2.1 87 = .ok (.invokevirtual 176, 3) := by decide +kernel
theorem d_S_digestOfRecord_90 : decode M_S_digestOfRecord.2.1 90 = .ok (.i2l, 1) := by decide +kernel
theorem d_S_digestOfRecord_91 : decode M_S_digestOfRecord.2.1 91 = .ok (.ladd, 1) := by decide +kernel
theorem d_S_digestOfRecord_92 : decode M_S_digestOfRecord.2.1 92 = .ok (.lstore 4, 2) := by decide +kernel
theorem d_S_digestOfRecord_94 : decode M_S_digestOfRecord.2.1 94 = .ok (.iinc 9 1, 3) := by decide +kernel
theorem d_S_digestOfRecord_97 : decode M_S_digestOfRecord.2.1 97 = .ok (.goto (-28), 3) := by decide +kernel
theorem d_S_digestOfRecord_100 : decode M_S_digestOfRecord.2.1 100 = .ok (.iinc 7 1, 3) := by decide +kernel
theorem d_S_digestOfRecord_103 : decode M_S_digestOfRecord.2.1 103 = .ok (.goto (-56), 3) := by decide +kernel
theorem d_S_digestOfRecord_106 : decode M_S_digestOfRecord.2.1 106 = .ok (.lload 4, 2) := by decide +kernel
theorem d_S_digestOfRecord_108 : decode M_S_digestOfRecord.2.1 108 = .ok (.lreturn, 1) := by decide +kernel
theorem d_S_fail_0 : decode M_S_fail.2.1 0 = .ok (.iload_n 1, 1) := by decide +kernel
theorem d_S_fail_1 : decode M_S_fail.2.1 1 = .ok (.invokestatic 76, 3) := by decide +kernel
theorem d_S_fail_4 : decode M_S_fail.2.1 4 = .ok (.ifCond .ne 6, 3) := by decide +kernel
theorem d_S_fail_7 : decode M_S_fail.2.1 7 = .ok (.bipush (-2), 2) := by decide +kernel
theorem d_S_fail_9 : decode M_S_fail.2.1 9 = .ok (.ireturn, 1) := by decide +kernel
theorem d_S_fail_10 : decode M_S_fail.2.1 10 = .ok (.aload_n 0, 1) := by decide +kernel
theorem d_S_fail_11 : decode M_S_fail.2.1 11 = .ok (.getfield 18, 3) := by decide +kernel
theorem d_S_fail_14 : decode M_S_fail.2.1 14 = .ok (.iload_n 1, 1) := by decide +kernel
theorem d_S_fail_15 : decode M_S_fail.2.1 15 = .ok (.aaload, 1) := by decide +kernel
theorem d_S_fail_16 : decode M_S_fail.2.1 16 = .ok (.getfield 103, 3) := by decide +kernel
theorem d_S_fail_19 : decode M_S_fail.2.1 19 = .ok (.ifCond .ne 6, 3) := by decide +kernel
theorem d_S_fail_22 : decode M_S_fail.2.1 22 = .ok (.bipush (-3), 2) := by decide +kernel
theorem d_S_fail_24 : decode M_S_fail.2.1 24 = .ok (.ireturn, 1) := by decide +kernel
theorem d_S_fail_25 : decode M_S_fail.2.1 25 = .ok (.aload_n 0, 1) := by decide +kernel
theorem d_S_fail_26 : decode M_S_fail.2.1 26 = .ok (.getfield 18, 3) := by decide +kernel
theorem d_S_fail_29 : decode M_S_fail.2.1 29 = .ok (.iload_n 1, 1) := by decide +kernel
theorem d_S_fail_30 : decode M_S_fail.2.1 30 = .ok (.aaload, 1) := by decide +kernel
theorem d_S_fail_31 : decode M_S_fail.2.1 31 = .ok (.iconst 0, 1) := by decide +kernel
theorem d_S_fail_32 : decode M_S_fail.2.1 32 = .ok (.putfield 103, 3) := by decide +kernel
theorem d_S_fail_35 : decode M_S_fail.2.1 35 = .ok (.iconst 1, 1) := by decide +kernel
theorem d_S_fail_36 : decode M_S_fail.2.1 36 = .ok (.ireturn, 1) := by decide +kernel
theorem d_S_feed_0 : decode M_S_feed.2.1 0 = .ok (.iload_n 3, 1) := by decide +kernel
theorem d_S_feed_1 : decode M_S_feed.2.1 1 = .ok (.iconst 1, 1) := by decide +kernel
theorem d_S_feed_2 : decode M_S_feed.2.1 2 = .ok (.if_icmp .lt 9, 3) := by decide +kernel
theorem d_S_feed_5 : decode M_S_feed.2.1 5 = .ok (.iload_n 3, 1) := by decide +kernel
theorem d_S_feed_6 : decode M_S_feed.2.1 6 = .ok (.bipush 8, 2) := by decide +kernel
theorem d_S_feed_8 : decode M_S_feed.2.1 8 = .ok (.if_icmp .le 6, 3) := by decide +kernel
theorem d_S_feed_11 : decode M_S_feed.2.1 11 = .ok (.bipush (-2), 2) := by decide +kernel
theorem d_S_feed_13 : decode M_S_feed.2.1 13 = .ok (.ireturn, 1) := by decide +kernel
theorem d_S_feed_14 : decode M_S_feed.2.1 14 = .ok (.aload_n 0, 1) := by decide +kernel
theorem d_S_feed_15 : decode M_S_feed.2.1 15 = .ok (.getfield 33, 3) := by decide +kernel
theorem d_S_feed_18 : decode M_S_feed.2.1 18 = .ok (.iload_n 3, 1) := by decide +kernel
theorem d_S_feed_19 : decode M_S_feed.2.1 19 = .ok (.iadd, 1) := by decide +kernel
theorem d_S_feed_20 : decode M_S_feed.2.1 20 = .ok (.sipush 240, 3) := by decide +kernel
theorem d_S_feed_23 : decode M_S_feed.2.1 23 = .ok (.if_icmp .le 6, 3) := by decide +kernel
theorem d_S_feed_26 : decode M_S_feed.2.1 26 = .ok (.bipush (-5), 2) := by decide +kernel
theorem d_S_feed_28 : decode M_S_feed.2.1 28 = .ok (.ireturn, 1) := by decide +kernel
theorem d_S_feed_29 : decode M_S_feed.2.1 29 = .ok (.iload_n 3, 1) := by decide +kernel
theorem d_S_feed_30 : decode M_S_feed.2.1 30 = .ok (.iconst 1, 1) := by decide +kernel
theorem d_S_feed_31 : decode M_S_feed.2.1 31 = .ok (.isub, 1) := by decide +kernel
theorem d_S_feed_32 : decode M_S_feed.2.1 32 = .ok (.istore 4, 2) := by decide +kernel
theorem d_S_feed_34 : decode M_S_feed.2.1 34 = .ok (.iload 4, 2) := by decide +kernel
theorem d_S_feed_36 : decode M_S_feed.2.1 36 = .ok (.ifCond .lt 40, 3) := by decide +kernel
theorem d_S_feed_39 : decode M_S_feed.2.1 39 = .ok (.aload_n 0, 1) := by decide +kernel
theorem d_S_feed_40 : decode M_S_feed.2.1 40 = .ok (.getfield 30, 3) := by decide +kernel
theorem d_S_feed_43 : decode M_S_feed.2.1 43 = .ok (.aload_n 0, 1) := by decide +kernel
theorem d_S_feed_44 : decode M_S_feed.2.1 44 = .ok (.getfield 33, 3) := by decide +kernel
theorem d_S_feed_47 : decode M_S_feed.2.1 47 = .ok (.lload_n 1, 1) := by decide +kernel
theorem d_S_feed_48 : decode M_S_feed.2.1 48 = .ok (.bipush 8, 2) := by decide +kernel
theorem d_S_feed_50 : decode M_S_feed.2.1 50 = .ok (.iload 4, 2) := by decide +kernel
theorem d_S_feed_52 : decode M_S_feed.2.1 52 = .ok (.imul, 1) := by decide +kernel
theorem d_S_feed_53 : decode M_S_feed.2.1 53 = .ok (.lshr, 1) := by decide +kernel
theorem d_S_feed_54 : decode M_S_feed.2.1 54 = .ok (.l2i, 1) := by decide +kernel
theorem d_S_feed_55 : decode M_S_feed.2.1 55 = .ok (.sipush 255, 3) := by decide +kernel
theorem d_S_feed_58 : decode M_S_feed.2.1 58 = .ok (.iand, 1) := by decide +kernel
theorem d_S_feed_59 : decode M_S_feed.2.1 59 = .ok (.iastore, 1) := by decide +kernel
theorem d_S_feed_60 : decode M_S_feed.2.1 60 = .ok (.aload_n 0, 1) := by decide +kernel
theorem d_S_feed_61 : decode M_S_feed.2.1 61 = .ok (.dup, 1) := by decide +kernel
theorem d_S_feed_62 : decode M_S_feed.2.1 62 = .ok (.getfield 33, 3) := by decide +kernel
theorem d_S_feed_65 : decode M_S_feed.2.1 65 = .ok (.iconst 1, 1) := by decide +kernel
theorem d_S_feed_66 : decode M_S_feed.2.1 66 = .ok (.iadd, 1) := by decide +kernel
theorem d_S_feed_67 : decode M_S_feed.2.1 67 = .ok (.putfield 33, 3) := by decide +kernel
theorem d_S_feed_70 : decode M_S_feed.2.1 70 = .ok (.iinc 4 (-1), 3) := by decide +kernel
theorem d_S_feed_73 : decode M_S_feed.2.1 73 = .ok (.goto (-39), 3) := by decide +kernel
theorem d_S_feed_76 : decode M_S_feed.2.1 76 = .ok (.aload_n 0, 1) := by decide +kernel
theorem d_S_feed_77 : decode M_S_feed.2.1 77 = .ok (.getfield 33, 3) := by decide +kernel
theorem d_S_feed_80 : decode M_S_feed.2.1 80 = .ok (.ireturn, 1) := by decide +kernel
theorem d_S_fillShadows_0 : decode M_S_fillShadows.2.1 0 = .ok (.iconst 0, 1) := by decide +kernel
theorem d_S_fillShadows_1 : decode M_S_fillShadows.2.1 1 = .ok (.istore_n 3, 1) := by decide +kernel
theorem d_S_fillShadows_2 : decode M_S_fillShadows.2.1 2 = .ok (.iload_n 3, 1) := by decide +kernel
theorem d_S_fillShadows_3 : decode M_S_fillShadows.2.1 3 = .ok (.bipush 12, 2) := by decide +kernel
theorem d_S_fillShadows_5 : decode M_S_fillShadows.2.1 5 = .ok (.if_icmp .ge 75, 3) := by decide +kernel
theorem d_S_fillShadows_8 : decode M_S_fillShadows.2.1 8 = .ok (.aload_n 0, 1) := by decide +kernel
theorem d_S_fillShadows_9 : decode M_S_fillShadows.2.1 9 = .ok (.getfield 18, 3) := by decide +kernel
theorem d_S_fillShadows_12 : decode M_S_fillShadows.2.1 12 = .ok (.iload_n 3, 1) := by decide +kernel
theorem d_S_fillShadows_13 : decode M_S_fillShadows.2.1 13 = .ok (.aaload, 1) := by decide +kernel
theorem d_S_fillShadows_14 : decode M_S_fillShadows.2.1 14 = .ok (.getfield 103, 3) := by decide +kernel
theorem d_S_fillShadows_17 : decode M_S_fillShadows.2.1 17 = .ok (.ifCond .eq 21, 3) := by decide +kernel
theorem d_S_fillShadows_20 : decode M_S_fillShadows.2.1 20 = .ok (.aload_n 0, 1) := by decide +kernel
theorem d_S_fillShadows_21 : decode M_S_fillShadows.2.1 21 = .ok (.getfield 18, 3) := by decide +kernel
theorem d_S_fillShadows_24 : decode M_S_fillShadows.2.1 24 = .ok (.iload_n 3, 1) := by decide +kernel
theorem d_S_fillShadows_25 : decode M_S_fillShadows.2.1 25 = .ok (.aaload, 1) := by decide +kernel
theorem d_S_fillShadows_26 : decode M_S_fillShadows.2.1 26 = .ok (.getfield 107, 3) := by decide +kernel
theorem d_S_fillShadows_29 : decode M_S_fillShadows.2.1 29 = .ok (.iload_n 1, 1) := by decide +kernel
theorem d_S_fillShadows_30 : decode M_S_fillShadows.2.1 30 = .ok (.aaload, 1) := by decide +kernel
theorem d_S_fillShadows_31 : decode M_S_fillShadows.2.1 31 = .ok (.iload_n 2, 1) := by decide +kernel
theorem d_S_fillShadows_32 : decode M_S_fillShadows.2.1 32 = .ok (.invokevirtual 170, 3) := by decide +kernel
theorem d_S_fillShadows_35 : decode M_S_fillShadows.2.1 35 = .ok (.goto 4, 3) := by decide +kernel
theorem d_S_fillShadows_38 : decode M_S_fillShadows.2.1 38 = .ok (.iconst (-1), 1) := by decide +kernel
theorem d_S_fillShadows_39 : decode M_S_fillShadows.2.1 39 = .ok (.istore 4, 2) := by decide +kernel
theorem d_S_fillShadows_41 : decode M_S_fillShadows.2.1 41 = .ok (.iload 4, 2) := by decide +kernel
theorem d_S_fillShadows_43 : decode M_S_fillShadows.2.1 43 = .ok (.iconst (-1), 1) := by decide +kernel
theorem d_S_fillShadows_44 : decode M_S_fillShadows.2.1 44 = .ok (.if_icmp .eq 30, 3) := by decide +kernel
theorem d_S_fillShadows_47 : decode M_S_fillShadows.2.1 47 = .ok (.aload_n 0, 1) := by decide +kernel
theorem d_S_fillShadows_48 : decode M_S_fillShadows.2.1 48 = .ok (.getfield 10, 3) := by decide +kernel
theorem d_S_fillShadows_51 : decode M_S_fillShadows.2.1 51 = .ok (.iload_n 3, 1) := by decide +kernel
theorem d_S_fillShadows_52 : decode M_S_fillShadows.2.1 52 = .ok (.aload_n 0, 1) := by decide +kernel
theorem d_S_fillShadows_53 : decode M_S_fillShadows.2.1 53 = .ok (.getfield 55, 3) := by decide +kernel
theorem d_S_fillShadows_56 : decode M_S_fillShadows.2.1 56 = .ok (.invokevirtual 224, 3) := by decide +kernel
theorem d_S_fillShadows_59 : decode M_S_fillShadows.2.1 59 = .ok (.aload_n 0, 1) := by decide +kernel
theorem d_S_fillShadows_60 : decode M_S_fillShadows.2.1 60 = .ok (.getfield 18, 3) := by decide +kernel
theorem d_S_fillShadows_63 : decode M_S_fillShadows.2.1 63 = .ok (.iload_n 3, 1) := by decide +kernel
theorem d_S_fillShadows_64 : decode M_S_fillShadows.2.1 64 = .ok (.aaload, 1) := by decide +kernel
theorem d_S_fillShadows_65 : decode M_S_fillShadows.2.1 65 = .ok (.iload 4, 2) := by decide +kernel
theorem d_S_fillShadows_67 : decode M_S_fillShadows.2.1 67 = .ok (.aload_n 0, 1) := by decide +kernel
theorem d_S_fillShadows_68 : decode M_S_fillShadows.2.1 68 = .ok (.getfield 55, 3) := by decide +kernel
theorem d_S_fillShadows_71 : decode M_S_fillShadows.2.1 71 = .ok (.invokevirtual 228, 3) := by decide +kernel
theorem d_S_fillShadows_74 : decode M_S_fillShadows.2.1 74 = .ok (.iinc 3 1, 3) := by decide +kernel
theorem d_S_fillShadows_77 : decode M_S_fillShadows.2.1 77 = .ok (.goto (-75), 3) := by decide +kernel
theorem d_S_fillShadows_80 : decode M_S_fillShadows.2.1 80 = .ok (.return_, 1) := by decide +kernel
theorem d_S_free_0 : decode M_S_free.2.1 0 = .ok (.iload_n 1, 1) := by decide +kernel
theorem d_S_free_1 : decode M_S_free.2.1 1 = .ok (.invokestatic 76, 3) := by decide +kernel
theorem d_S_free_4 : decode M_S_free.2.1 4 = .ok (.ifCond .eq 15, 3) := by decide +kernel
theorem d_S_free_7 : decode M_S_free.2.1 7 = .ok (.aload_n 0, 1) := by decide +kernel
theorem d_S_free_8 : decode M_S_free.2.1 8 = .ok (.getfield 18, 3) := by decide +kernel
theorem d_S_free_11 : decode M_S_free.2.1 11 = .ok (.iload_n 1, 1) := by decide +kernel
theorem d_S_free_12 : decode M_S_free.2.1 12 = .ok (.aaload, 1) := by decide +kernel
theorem d_S_free_13 : decode M_S_free.2.1 13 = .ok (.invokevirtual 140, 3) := by decide +kernel
theorem d_S_free_16 : decode M_S_free.2.1 16 = .ok (.goto 5, 3) := by decide +kernel
theorem d_S_free_19 : decode M_S_free.2.1 19 = .ok (.bipush (-2), 2) := by decide +kernel
theorem d_S_free_21 : decode M_S_free.2.1 21 = .ok (.ireturn, 1) := by decide +kernel
theorem d_S_fresh_0 : decode M_S_fresh.2.1 0 = .ok (.iload_n 1, 1) := by decide +kernel
theorem d_S_fresh_1 : decode M_S_fresh.2.1 1 = .ok (.invokestatic 76, 3) := by decide +kernel
theorem d_S_fresh_4 : decode M_S_fresh.2.1 4 = .ok (.ifCond .eq 10, 3) := by decide +kernel
theorem d_S_fresh_7 : decode M_S_fresh.2.1 7 = .ok (.iload_n 2, 1) := by decide +kernel
theorem d_S_fresh_8 : decode M_S_fresh.2.1 8 = .ok (.invokestatic 82, 3) := by decide +kernel
theorem d_S_fresh_11 : decode M_S_fresh.2.1 11 = .ok (.ifCond .ne 6, 3) := by decide +kernel
theorem d_S_fresh_14 : decode M_S_fresh.2.1 14 = .ok (.bipush (-2), 2) := by decide +kernel
theorem d_S_fresh_16 : decode M_S_fresh.2.1 16 = .ok (.ireturn, 1) := by decide +kernel
theorem d_S_fresh_17 : decode M_S_fresh.2.1 17 = .ok (.aload_n 0, 1) := by decide +kernel
theorem d_S_fresh_18 : decode M_S_fresh.2.1 18 = .ok (.iload_n 1, 1) := by decide +kernel
theorem d_S_fresh_19 : decode M_S_fresh.2.1 19 = .ok (.iload_n 2, 1) := by decide +kernel
theorem d_S_fresh_20 : decode M_S_fresh.2.1 20 = .ok (.aload_n 0, 1) := by decide +kernel
theorem d_S_fresh_21 : decode M_S_fresh.2.1 21 = .ok (.iload_n 2, 1) := by decide +kernel
theorem d_S_fresh_22 : decode M_S_fresh.2.1 22 = .ok (.invokevirtual 134, 3) := by decide +kernel
theorem d_S_fresh_25 : decode M_S_fresh.2.1 25 = .ok (.invokevirtual 159, 3) := by decide +kernel
theorem d_S_fresh_28 : decode M_S_fresh.2.1 28 = .ok (.ifCond .eq 7, 3) := by decide +kernel
theorem d_S_fresh_31 : decode M_S_fresh.2.1 31 = .ok (.iconst 1, 1) := by decide +kernel
theorem d_S_fresh_32 : decode M_S_fresh.2.1 32 = .ok (.goto 4, 3) := by decide +kernel
theorem d_S_fresh_35 : decode M_S_fresh.2.1 35 = .ok (.iconst 0, 1) := by decide +kernel
theorem d_S_fresh_36 : decode M_S_fresh.2.1 36 = .ok (.ireturn, 1) := by decide +kernel
theorem d_S_get_0 : decode M_S_get.2.1 0 = .ok (.iload_n 1, 1) := by decide +kernel
theorem d_S_get_1 : decode M_S_get.2.1 1 = .ok (.invokestatic 82, 3) := by decide +kernel
theorem d_S_get_4 : decode M_S_get.2.1 4 = .ok (.ifCond .ne 6, 3) := by decide +kernel
theorem d_S_get_7 : decode M_S_get.2.1 7 = .ok (.bipush (-2), 2) := by decide +kernel
theorem d_S_get_9 : decode M_S_get.2.1 9 = .ok (.ireturn, 1) := by decide +kernel
theorem d_S_get_10 : decode M_S_get.2.1 10 = .ok (.aload_n 0, 1) := by decide +kernel
theorem d_S_get_11 : decode M_S_get.2.1 11 = .ok (.getfield 26, 3) := by decide +kernel
theorem d_S_get_14 : decode M_S_get.2.1 14 = .ok (.iload_n 1, 1) := by decide +kernel
theorem d_S_get_15 : decode M_S_get.2.1 15 = .ok (.baload, 1) := by decide +kernel
theorem d_S_get_16 : decode M_S_get.2.1 16 = .ok (.ifCond .eq 6, 3) := by decide +kernel
theorem d_S_get_19 : decode M_S_get.2.1 19 = .ok (.bipush (-3), 2) := by decide +kernel
theorem d_S_get_21 : decode M_S_get.2.1 21 = .ok (.ireturn, 1) := by decide +kernel
theorem d_S_get_22 : decode M_S_get.2.1 22 = .ok (.aload_n 0, 1) := by decide +kernel
theorem d_S_get_23 : decode M_S_get.2.1 23 = .ok (.iload_n 1, 1) := by decide +kernel
theorem d_S_get_24 : decode M_S_get.2.1 24 = .ok (.iload_n 2, 1) := by decide +kernel
theorem d_S_get_25 : decode M_S_get.2.1 25 = .ok (.invokevirtual 124, 3) := by decide +kernel
theorem d_S_get_28 : decode M_S_get.2.1 28 = .ok (.iconst 5, 1) := by decide +kernel
theorem d_S_get_29 : decode M_S_get.2.1 29 = .ok (.if_icmp .ge 6, 3) := by decide +kernel
theorem d_S_get_32 : decode M_S_get.2.1 32 = .ok (.bipush (-4), 2) := by decide +kernel
theorem d_S_get_34 : decode M_S_get.2.1 34 = .ok (.ireturn, 1) := by decide +kernel
theorem d_S_get_35 : decode M_S_get.2.1 35 = .ok (.aload_n 0, 1) := by decide +kernel
theorem d_S_get_36 : decode M_S_get.2.1 36 = .ok (.iload_n 1, 1) := by decide +kernel
theorem d_S_get_37 : decode M_S_get.2.1 37 = .ok (.invokevirtual 127, 3) := by decide +kernel
theorem d_S_get_40 : decode M_S_get.2.1 40 = .ok (.istore_n 3, 1) := by decide +kernel
theorem d_S_get_41 : decode M_S_get.2.1 41 = .ok (.iload_n 3, 1) := by decide +kernel
theorem d_S_get_42 : decode M_S_get.2.1 42 = .ok (.ifCond .ne 6, 3) := by decide +kernel
theorem d_S_get_45 : decode M_S_get.2.1 45 = .ok (.bipush (-6), 2) := by decide +kernel
theorem d_S_get_47 : decode M_S_get.2.1 47 = .ok (.ireturn, 1) := by decide +kernel
theorem d_S_get_48 : decode M_S_get.2.1 48 = .ok (.aload_n 0, 1) := by decide +kernel
theorem d_S_get_49 : decode M_S_get.2.1 49 = .ok (.iload_n 1, 1) := by decide +kernel
theorem d_S_get_50 : decode M_S_get.2.1 50 = .ok (.iload_n 3, 1) := by decide +kernel
theorem d_S_get_51 : decode M_S_get.2.1 51 = .ok (.invokevirtual 130, 3) := by decide +kernel
theorem d_S_get_54 : decode M_S_get.2.1 54 = .ok (.aload_n 0, 1) := by decide +kernel
theorem d_S_get_55 : decode M_S_get.2.1 55 = .ok (.iload_n 3, 1) := by decide +kernel
theorem d_S_get_56 : decode M_S_get.2.1 56 = .ok (.putfield 40, 3) := by decide +kernel
theorem d_S_get_59 : decode M_S_get.2.1 59 = .ok (.iload_n 3, 1) := by decide +kernel
theorem d_S_get_60 : decode M_S_get.2.1 60 = .ok (.ireturn, 1) := by decide +kernel
theorem d_S_got_0 : decode M_S_got.2.1 0 = .ok (.iload_n 1, 1) := by decide +kernel
theorem d_S_got_1 : decode M_S_got.2.1 1 = .ok (.ifCond .lt 20, 3) := by decide +kernel
theorem d_S_got_4 : decode M_S_got.2.1 4 = .ok (.iload_n 1, 1) := by decide +kernel
theorem d_S_got_5 : decode M_S_got.2.1 5 = .ok (.aload_n 0, 1) := by decide +kernel
theorem d_S_got_6 : decode M_S_got.2.1 6 = .ok (.getfield 40, 3) := by decide +kernel
theorem d_S_got_9 : decode M_S_got.2.1 9 = .ok (.if_icmp .ge 12, 3) := by decide +kernel
theorem d_S_got_12 : decode M_S_got.2.1 12 = .ok (.aload_n 0, 1) := by decide +kernel
theorem d_S_got_13 : decode M_S_got.2.1 13 = .ok (.getfield 37, 3) := by decide +kernel
theorem d_S_got_16 : decode M_S_got.2.1 16 = .ok (.iload_n 1, 1) := by decide +kernel
theorem d_S_got_17 : decode M_S_got.2.1 17 = .ok (.iaload, 1) := by decide +kernel
theorem d_S_got_18 : decode M_S_got.2.1 18 = .ok (.goto 4, 3) := by decide +kernel
theorem d_S_got_21 : decode M_S_got.2.1 21 = .ok (.iconst (-1), 1) := by decide +kernel
theorem d_S_got_22 : decode M_S_got.2.1 22 = .ok (.ireturn, 1) := by decide +kernel
theorem d_S_init_0 : decode M_S_init.2.1 0 = .ok (.aload_n 0, 1) := by decide +kernel
theorem d_S_init_1 : decode M_S_init.2.1 1 = .ok (.invokespecial 1, 3) := by decide +kernel
theorem d_S_init_4 : decode M_S_init.2.1 4 = .ok (.aload_n 0, 1) := by decide +kernel
theorem d_S_init_5 : decode M_S_init.2.1 5 = .ok (.new 7, 3) := by decide +kernel
theorem d_S_init_8 : decode M_S_init.2.1 8 = .ok (.dup, 1) := by decide +kernel
theorem d_S_init_9 : decode M_S_init.2.1 9 = .ok (.invokespecial 9, 3) := by decide +kernel
theorem d_S_init_12 : decode M_S_init.2.1 12 = .ok (.putfield 10, 3) := by decide +kernel
theorem d_S_init_15 : decode M_S_init.2.1 15 = .ok (.aload_n 0, 1) := by decide +kernel
theorem d_S_init_16 : decode M_S_init.2.1 16 = .ok (.bipush 12, 2) := by decide +kernel
theorem d_S_init_18 : decode M_S_init.2.1 18 = .ok (.anewarray 16, 3) := by decide +kernel
theorem d_S_init_21 : decode M_S_init.2.1 21 = .ok (.putfield 18, 3) := by decide +kernel
theorem d_S_init_24 : decode M_S_init.2.1 24 = .ok (.aload_n 0, 1) := by decide +kernel
theorem d_S_init_25 : decode M_S_init.2.1 25 = .ok (.bipush 6, 2) := by decide +kernel
theorem d_S_init_27 : decode M_S_init.2.1 27 = .ok (.newarray .int, 2) := by decide +kernel
theorem d_S_init_29 : decode M_S_init.2.1 29 = .ok (.putfield 22, 3) := by decide +kernel
theorem d_S_init_32 : decode M_S_init.2.1 32 = .ok (.aload_n 0, 1) := by decide +kernel
theorem d_S_init_33 : decode M_S_init.2.1 33 = .ok (.bipush 6, 2) := by decide +kernel
theorem d_S_init_35 : decode M_S_init.2.1 35 = .ok (.newarray .boolean, 2) := by decide +kernel
theorem d_S_init_37 : decode M_S_init.2.1 37 = .ok (.putfield 26, 3) := by decide +kernel
theorem d_S_init_40 : decode M_S_init.2.1 40 = .ok (.aload_n 0, 1) := by decide +kernel
theorem d_S_init_41 : decode M_S_init.2.1 41 = .ok (.sipush 240, 3) := by decide +kernel
theorem d_S_init_44 : decode M_S_init.2.1 44 = .ok (.newarray .int, 2) := by decide +kernel
theorem d_S_init_46 : decode M_S_init.2.1 46 = .ok (.putfield 30, 3) := by decide +kernel
theorem d_S_init_49 : decode M_S_init.2.1 49 = .ok (.aload_n 0, 1) := by decide +kernel
theorem d_S_init_50 : decode M_S_init.2.1 50 = .ok (.iconst 0, 1) := by decide +kernel
theorem d_S_init_51 : decode M_S_init.2.1 51 = .ok (.putfield 33, 3) := by decide +kernel
theorem d_S_init_54 : decode M_S_init.2.1 54 = .ok (.aload_n 0, 1) := by decide +kernel
theorem d_S_init_55 : decode M_S_init.2.1 55 = .ok (.sipush 240, 3) := by decide +kernel
theorem d_S_init_58 : decode M_S_init.2.1 58 = .ok (.newarray .int, 2) := by decide +kernel
theorem d_S_init_60 : decode M_S_init.2.1 60 = .ok (.putfield 37, 3) := by decide +kernel
theorem d_S_init_63 : decode M_S_init.2.1 63 = .ok (.aload_n 0, 1) := by decide +kernel
theorem d_S_init_64 : decode M_S_init.2.1 64 = .ok (.iconst 0, 1) := by decide +kernel
theorem d_S_init_65 : decode M_S_init.2.1 65 = .ok (.putfield 40, 3) := by decide +kernel
theorem d_S_init_68 : decode M_S_init.2.1 68 = .ok (.aload_n 0, 1) := by decide +kernel
theorem d_S_init_69 : decode M_S_init.2.1 69 = .ok (.iconst (-1), 1) := by decide +kernel
theorem d_S_init_70 : decode M_S_init.2.1 70 = .ok (.putfield 43, 3) := by decide +kernel
theorem d_S_init_73 : decode M_S_init.2.1 73 = .ok (.aload_n 0, 1) := by decide +kernel
theorem d_S_init_74 : decode M_S_init.2.1 74 = .ok (.iconst 0, 1) := by decide +kernel
theorem d_S_init_75 : decode M_S_init.2.1 75 = .ok (.putfield 46, 3) := by decide +kernel
theorem d_S_init_78 : decode M_S_init.2.1 78 = .ok (.aload_n 0, 1) := by decide +kernel
theorem d_S_init_79 : decode M_S_init.2.1 79 = .ok (.iconst 0, 1) := by decide +kernel
theorem d_S_init_80 : decode M_S_init.2.1 80 = .ok (.putfield 49, 3) := by decide +kernel
theorem d_S_init_83 : decode M_S_init.2.1 83 = .ok (.aload_n 0, 1) := by decide +kernel
theorem d_S_init_84 : decode M_S_init.2.1 84 = .ok (.bipush 8, 2) := by decide +kernel
theorem d_S_init_86 : decode M_S_init.2.1 86 = .ok (.newarray .int, 2) := by decide +kernel
theorem d_S_init_88 : decode M_S_init.2.1 88 = .ok (.putfield 52, 3) := by decide +kernel
theorem d_S_init_91 : decode M_S_init.2.1 91 = .ok (.aload_n 0, 1) := by decide +kernel
theorem d_S_init_92 : decode M_S_init.2.1 92 = .ok (.bipush 8, 2) := by decide +kernel
theorem d_S_init_94 : decode M_S_init.2.1 94 = .ok (.newarray .int, 2) := by decide +kernel
theorem d_S_init_96 : decode M_S_init.2.1 96 = .ok (.putfield 55, 3) := by decide +kernel
theorem d_S_init_99 : decode M_S_init.2.1 99 = .ok (.iconst 0, 1) := by decide +kernel
theorem d_S_init_100 : decode M_S_init.2.1 100 = .ok (.istore_n 1, 1) := by decide +kernel
theorem d_S_init_101 : decode M_S_init.2.1 101 = .ok (.iload_n 1, 1) := by decide +kernel
theorem d_S_init_102 : decode M_S_init.2.1 102 = .ok (.bipush 12, 2) := by decide +kernel
theorem d_S_init_104 : decode M_S_init.2.1 104 = .ok (.if_icmp .ge 22, 3) := by decide +kernel
theorem d_S_init_107 : decode M_S_init.2.1 107 = .ok (.aload_n 0, 1) := by decide +kernel
theorem d_S_init_108 : decode M_S_init.2.1 108 = .ok (.getfield 18, 3) := by decide +kernel
theorem d_S_init_111 : decode M_S_init.2.1 111 = .ok (.iload_n 1, 1) := by decide +kernel
theorem d_S_init_112 : decode M_S_init.2.1 112 = .ok (.new 16, 3) := by decide +kernel
theorem d_S_init_115 : decode M_S_init.2.1 115 = .ok (.dup, 1) := by decide +kernel
theorem d_S_init_116 : decode M_S_init.2.1 116 = .ok (.invokespecial 58, 3) := by decide +kernel
theorem d_S_init_119 : decode M_S_init.2.1 119 = .ok (.aastore, 1) := by decide +kernel
theorem d_S_init_120 : decode M_S_init.2.1 120 = .ok (.iinc 1 1, 3) := by decide +kernel
theorem d_S_init_123 : decode M_S_init.2.1 123 = .ok (.goto (-22), 3) := by decide +kernel
theorem d_S_init_126 : decode M_S_init.2.1 126 = .ok (.return_, 1) := by decide +kernel
theorem d_S_isElement_0 : decode M_S_isElement.2.1 0 = .ok (.iload_n 0, 1) := by decide +kernel
theorem d_S_isElement_1 : decode M_S_isElement.2.1 1 = .ok (.ifCond .lt 14, 3) := by decide +kernel
theorem d_S_isElement_4 : decode M_S_isElement.2.1 4 = .ok (.iload_n 0, 1) := by decide +kernel
theorem d_S_isElement_5 : decode M_S_isElement.2.1 5 = .ok (.sipush 256, 3) := by decide +kernel
theorem d_S_isElement_8 : decode M_S_isElement.2.1 8 = .ok (.if_icmp .ge 7, 3) := by decide +kernel
theorem d_S_isElement_11 : decode M_S_isElement.2.1 11 = .ok (.iconst 1, 1) := by decide +kernel
theorem d_S_isElement_12 : decode M_S_isElement.2.1 12 = .ok (.goto 4, 3) := by decide +kernel
theorem d_S_isElement_15 : decode M_S_isElement.2.1 15 = .ok (.iconst 0, 1) := by decide +kernel
theorem d_S_isElement_16 : decode M_S_isElement.2.1 16 = .ok (.ireturn, 1) := by decide +kernel
theorem d_S_isFresh_0 : decode M_S_isFresh.2.1 0 = .ok (.iload_n 3, 1) := by decide +kernel
theorem d_S_isFresh_1 : decode M_S_isFresh.2.1 1 = .ok (.ifCond .le 37, 3) := by decide +kernel
theorem d_S_isFresh_4 : decode M_S_isFresh.2.1 4 = .ok (.aload_n 0, 1) := by decide +kernel
theorem d_S_isFresh_5 : decode M_S_isFresh.2.1 5 = .ok (.getfield 18, 3) := by decide +kernel
theorem d_S_isFresh_8 : decode M_S_isFresh.2.1 8 = .ok (.iload_n 1, 1) := by decide +kernel
theorem d_S_isFresh_9 : decode M_S_isFresh.2.1 9 = .ok (.aaload, 1) := by decide +kernel
theorem d_S_isFresh_10 : decode M_S_isFresh.2.1 10 = .ok (.getfield 103, 3) := by decide +kernel
theorem d_S_isFresh_13 : decode M_S_isFresh.2.1 13 = .ok (.ifCond .eq 25, 3) := by decide +kernel
theorem d_S_isFresh_16 : decode M_S_isFresh.2.1 16 = .ok (.aload_n 0, 1) := by decide +kernel
theorem d_S_isFresh_17 : decode M_S_isFresh.2.1 17 = .ok (.getfield 18, 3) := by decide +kernel
theorem d_S_isFresh_20 : decode M_S_isFresh.2.1 20 = .ok (.iload_n 1, 1) := by decide +kernel
theorem d_S_isFresh_21 : decode M_S_isFresh.2.1 21 = .ok (.aaload, 1) := by decide +kernel
theorem d_S_isFresh_22 : decode M_S_isFresh.2.1 22 = .ok (.getfield 173, 3) := by decide +kernel
theorem d_S_isFresh_25 : decode M_S_isFresh.2.1 25 = .ok (.iload_n 2, 1) := by decide +kernel
theorem d_S_isFresh_26 : decode M_S_isFresh.2.1 26 = .ok (.aaload, 1) := by decide +kernel
theorem d_S_isFresh_27 : decode M_S_isFresh.2.1 27 = .ok (.getfield 111, 3) := by decide +kernel
theorem d_S_isFresh_30 : decode M_S_isFresh.2.1 30 = .ok (.iload_n 3, 1) := by decide +kernel
theorem d_S_isFresh_31 : decode M_S_isFresh.2.1 31 = .ok (.if_icmp .ne 7, 3) := by decide +kernel
theorem d_S_isFresh_34 : decode M_S_isFresh.2.1 34 = .ok (.iconst 1, 1) := by decide +kernel
theorem d_S_isFresh_35 : decode M_S_isFresh.2.1 35 = .ok (.goto 4, 3) := by decide +kernel
theorem d_S_isFresh_38 : decode M_S_isFresh.2.1 38 = .ok (.iconst 0, 1) := by decide +kernel
theorem d_S_isFresh_39 : decode M_S_isFresh.2.1 39 = .ok (.ireturn, 1) := by decide +kernel
theorem d_S_isNode_0 : decode M_S_isNode.2.1 0 = .ok (.iload_n 0, 1) := by decide +kernel
theorem d_S_isNode_1 : decode M_S_isNode.2.1 1 = .ok (.ifCond .lt 13, 3) := by decide +kernel
theorem d_S_isNode_4 : decode M_S_isNode.2.1 4 = .ok (.iload_n 0, 1) := by decide +kernel
theorem d_S_isNode_5 : decode M_S_isNode.2.1 5 = .ok (.bipush 12, 2) := by decide +kernel
theorem d_S_isNode_7 : decode M_S_isNode.2.1 7 = .ok (.if_icmp .ge 7, 3) := by decide +kernel
theorem d_S_isNode_10 : decode M_S_isNode.2.1 10 = .ok (.iconst 1, 1) := by decide +kernel
theorem d_S_isNode_11 : decode M_S_isNode.2.1 11 = .ok (.goto 4, 3) := by decide +kernel
theorem d_S_isNode_14 : decode M_S_isNode.2.1 14 = .ok (.iconst 0, 1) := by decide +kernel
theorem d_S_isNode_15 : decode M_S_isNode.2.1 15 = .ok (.ireturn, 1) := by decide +kernel
theorem d_S_isObject_0 : decode M_S_isObject.2.1 0 = .ok (.iload_n 0, 1) := by decide +kernel
theorem d_S_isObject_1 : decode M_S_isObject.2.1 1 = .ok (.ifCond .lt 13, 3) := by decide +kernel
theorem d_S_isObject_4 : decode M_S_isObject.2.1 4 = .ok (.iload_n 0, 1) := by decide +kernel
theorem d_S_isObject_5 : decode M_S_isObject.2.1 5 = .ok (.bipush 6, 2) := by decide +kernel
theorem d_S_isObject_7 : decode M_S_isObject.2.1 7 = .ok (.if_icmp .ge 7, 3) := by decide +kernel
theorem d_S_isObject_10 : decode M_S_isObject.2.1 10 = .ok (.iconst 1, 1) := by decide +kernel
theorem d_S_isObject_11 : decode M_S_isObject.2.1 11 = .ok (.goto 4, 3) := by decide +kernel
theorem d_S_isObject_14 : decode M_S_isObject.2.1 14 = .ok (.iconst 0, 1) := by decide +kernel
theorem d_S_isObject_15 : decode M_S_isObject.2.1 15 = .ok (.ireturn, 1) := by decide +kernel
theorem d_S_isStale_0 : decode M_S_isStale.2.1 0 = .ok (.aload_n 0, 1) := by decide +kernel
theorem d_S_isStale_1 : decode M_S_isStale.2.1 1 = .ok (.iload_n 2, 1) := by decide +kernel
theorem d_S_isStale_2 : decode M_S_isStale.2.1 2 = .ok (.invokevirtual 134, 3) := by decide +kernel
theorem d_S_isStale_5 : decode M_S_isStale.2.1 5 = .ok (.istore_n 3, 1) := by decide +kernel
theorem d_S_isStale_6 : decode M_S_isStale.2.1 6 = .ok (.aload_n 0, 1) := by decide +kernel
theorem d_S_isStale_7 : decode M_S_isStale.2.1 7 = .ok (.getfield 26, 3) := by decide +kernel
theorem d_S_isStale_10 : decode M_S_isStale.2.1 10 = .ok (.iload_n 2, 1) := by decide +kernel
theorem d_S_isStale_11 : decode M_S_isStale.2.1 11 = .ok (.baload, 1) := by decide +kernel
theorem d_S_isStale_12 : decode M_S_isStale.2.1 12 = .ok (.ifCond .ne 21, 3) := by decide +kernel
theorem d_S_isStale_15 : decode M_S_isStale.2.1 15 = .ok (.iload_n 3, 1) := by decide +kernel
theorem d_S_isStale_16 : decode M_S_isStale.2.1 16 = .ok (.ifCond .le 17, 3) := by decide +kernel
theorem d_S_isStale_19 : decode M_S_isStale.2.1 19 = .ok (.aload_n 0, 1) := by decide +kernel
theorem d_S_isStale_20 : decode M_S_isStale.2.1 20 = .ok (.iload_n 1, 1) := by decide +kernel
theorem d_S_isStale_21 : decode M_S_isStale.2.1 21 = .ok (.iload_n 2, 1) := by decide +kernel
theorem d_S_isStale_22 : decode M_S_isStale.2.1 22 = .ok (.iload_n 3, 1) := by decide +kernel
theorem d_S_isStale_23 : decode M_S_isStale.2.1 23 = .ok (.invokevirtual 159, 3) := by decide +kernel
theorem d_S_isStale_26 : decode M_S_isStale.2.1 26 = .ok (.ifCond .ne 7, 3) := by decide +kernel
theorem d_S_isStale_29 : decode M_S_isStale.2.1 29 = .ok (.iconst 1, 1) := by decide +kernel
theorem d_S_isStale_30 : decode M_S_isStale.2.1 30 = .ok (.goto 4, 3) := by decide +kernel
theorem d_S_isStale_33 : decode M_S_isStale.2.1 33 = .ok (.iconst 0, 1) := by decide +kernel
theorem d_S_isStale_34 : decode M_S_isStale.2.1 34 = .ok (.ireturn, 1) := by decide +kernel
theorem d_S_isTold_0 : decode M_S_isTold.2.1 0 = .ok (.iload_n 0, 1) := by decide +kernel
theorem d_S_isTold_1 : decode M_S_isTold.2.1 1 = .ok (.iload_n 1, 1) := by decide +kernel
theorem d_S_isTold_2 : decode M_S_isTold.2.1 2 = .ok (.ishr, 1) := by decide +kernel
theorem d_S_isTold_3 : decode M_S_isTold.2.1 3 = .ok (.iconst 1, 1) := by decide +kernel
theorem d_S_isTold_4 : decode M_S_isTold.2.1 4 = .ok (.iand, 1) := by decide +kernel
theorem d_S_isTold_5 : decode M_S_isTold.2.1 5 = .ok (.iconst 1, 1) := by decide +kernel
theorem d_S_isTold_6 : decode M_S_isTold.2.1 6 = .ok (.if_icmp .ne 7, 3) := by decide +kernel
theorem d_S_isTold_9 : decode M_S_isTold.2.1 9 = .ok (.iconst 1, 1) := by decide +kernel
theorem d_S_isTold_10 : decode M_S_isTold.2.1 10 = .ok (.goto 4, 3) := by decide +kernel
theorem d_S_isTold_13 : decode M_S_isTold.2.1 13 = .ok (.iconst 0, 1) := by decide +kernel
theorem d_S_isTold_14 : decode M_S_isTold.2.1 14 = .ok (.ireturn, 1) := by decide +kernel
theorem d_S_lacksHelpers_0 : decode M_S_lacksHelpers.2.1 0 = .ok (.iconst 0, 1) := by decide +kernel
theorem d_S_lacksHelpers_1 : decode M_S_lacksHelpers.2.1 1 = .ok (.istore_n 3, 1) := by decide +kernel
theorem d_S_lacksHelpers_2 : decode M_S_lacksHelpers.2.1 2 = .ok (.iload_n 3, 1) := by decide +kernel
theorem d_S_lacksHelpers_3 : decode M_S_lacksHelpers.2.1 3 = .ok (.bipush 6, 2) := by decide +kernel
theorem d_S_lacksHelpers_5 : decode M_S_lacksHelpers.2.1 5 = .ok (.if_icmp .ge 40, 3) := by decide +kernel
theorem d_S_lacksHelpers_8 : decode M_S_lacksHelpers.2.1 8 = .ok (.aload_n 0, 1) := by decide +kernel
theorem d_S_lacksHelpers_9 : decode M_S_lacksHelpers.2.1 9 = .ok (.iload_n 1, 1) := by decide +kernel
theorem d_S_lacksHelpers_10 : decode M_S_lacksHelpers.2.1 10 = .ok (.iload_n 3, 1) := by decide +kernel
theorem d_S_lacksHelpers_11 : decode M_S_lacksHelpers.2.1 11 = .ok (.invokevirtual 152, 3) := by decide +kernel
theorem d_S_lacksHelpers_14 : decode M_S_lacksHelpers.2.1 14 = .ok (.ifCond .eq 25, 3) := by decide +kernel
theorem d_S_lacksHelpers_17 : decode M_S_lacksHelpers.2.1 17 = .ok (.aload_n 0, 1) := by decide +kernel
theorem d_S_lacksHelpers_18 : decode M_S_lacksHelpers.2.1 18 = .ok (.iload_n 3, 1) := by decide +kernel
theorem d_S_lacksHelpers_19 : decode M_S_lacksHelpers.2.1 19 = .ok (.invokevirtual 127, 3) := by decide +kernel
theorem d_S_lacksHelpers_22 : decode M_S_lacksHelpers.2.1 22 = .ok (.ifCond .le 17, 3) := by decide +kernel
theorem d_S_lacksHelpers_25 : decode M_S_lacksHelpers.2.1 25 = .ok (.aload_n 0, 1) := by decide +kernel
theorem d_S_lacksHelpers_26 : decode M_S_lacksHelpers.2.1 26 = .ok (.iload_n 1, 1) := by decide +kernel
theorem d_S_lacksHelpers_27 : decode M_S_lacksHelpers.2.1 27 = .ok (.iload_n 3, 1) := by decide +kernel
theorem d_S_lacksHelpers_28 : decode M_S_lacksHelpers.2.1 28 = .ok (.iload_n 2, 1) := by decide +kernel
theorem d_S_lacksHelpers_29 : decode M_S_lacksHelpers.2.1 29 = .ok (.invokevirtual 251, 3) := by decide +kernel
theorem d_S_lacksHelpers_32 : decode M_S_lacksHelpers.2.1 32 = .ok (.bipush 8, 2) := by decide +kernel
theorem d_S_lacksHelpers_34 : decode M_S_lacksHelpers.2.1 34 = .ok (.if_icmp .ge 5, 3) := by decide +kernel
theorem d_S_lacksHelpers_37 : decode M_S_lacksHelpers.2.1 37 = .ok (.iconst 1, 1) := by decide +kernel
theorem d_S_lacksHelpers_38 : decode M_S_lacksHelpers.2.1 38 = .ok (.ireturn, 1) := by decide +kernel
theorem d_S_lacksHelpers_39 : decode M_S_lacksHelpers.2.1 39 = .ok (.iinc 3 1, 3) := by decide +kernel
theorem d_S_lacksHelpers_42 : decode M_S_lacksHelpers.2.1 42 = .ok (.goto (-40), 3) := by decide +kernel
theorem d_S_lacksHelpers_45 : decode M_S_lacksHelpers.2.1 45 = .ok (.iconst 0, 1) := by decide +kernel
theorem d_S_lacksHelpers_46 : decode M_S_lacksHelpers.2.1 46 = .ok (.ireturn, 1) := by decide +kernel
theorem d_S_lacksRoom_0 : decode M_S_lacksRoom.2.1 0 = .ok (.bipush 40, 2) := by decide +kernel
theorem d_S_lacksRoom_2 : decode M_S_lacksRoom.2.1 2 = .ok (.aload_n 0, 1) := by decide +kernel
theorem d_S_lacksRoom_3 : decode M_S_lacksRoom.2.1 3 = .ok (.getfield 18, 3) := by decide +kernel
theorem d_S_lacksRoom_6 : decode M_S_lacksRoom.2.1 6 = .ok (.iload_n 1, 1) := by decide +kernel
theorem d_S_lacksRoom_7 : decode M_S_lacksRoom.2.1 7 = .ok (.aaload, 1) := by decide +kernel
theorem d_S_lacksRoom_8 : decode M_S_lacksRoom.2.1 8 = .ok (.invokevirtual 140, 3) := by decide +kernel
theorem d_S_lacksRoom_11 : decode M_S_lacksRoom.2.1 11 = .ok (.isub, 1) := by decide +kernel
theorem d_S_lacksRoom_12 : decode M_S_lacksRoom.2.1 12 = .ok (.istore_n 2, 1) := by decide +kernel
theorem d_S_lacksRoom_13 : decode M_S_lacksRoom.2.1 13 = .ok (.iconst 0, 1) := by decide +kernel
theorem d_S_lacksRoom_14 : decode M_S_lacksRoom.2.1 14 = .ok (.istore_n 3, 1) := by decide +kernel
theorem d_S_lacksRoom_15 : decode M_S_lacksRoom.2.1 15 = .ok (.iload_n 3, 1) := by decide +kernel
theorem d_S_lacksRoom_16 : decode M_S_lacksRoom.2.1 16 = .ok (.bipush 6, 2) := by decide +kernel
theorem d_S_lacksRoom_18 : decode M_S_lacksRoom.2.1 18 = .ok (.if_icmp .ge 52, 3) := by decide +kernel
theorem d_S_lacksRoom_21 : decode M_S_lacksRoom.2.1 21 = .ok (.aload_n 0, 1) := by decide +kernel
theorem d_S_lacksRoom_22 : decode M_S_lacksRoom.2.1 22 = .ok (.iload_n 1, 1) := by decide +kernel
theorem d_S_lacksRoom_23 : decode M_S_lacksRoom.2.1 23 = .ok (.iload_n 3, 1) := by decide +kernel
theorem d_S_lacksRoom_24 : decode M_S_lacksRoom.2.1 24 = .ok (.invokevirtual 152, 3) := by decide +kernel
theorem d_S_lacksRoom_27 : decode M_S_lacksRoom.2.1 27 = .ok (.ifCond .eq 29, 3) := by decide +kernel
theorem d_S_lacksRoom_30 : decode M_S_lacksRoom.2.1 30 = .ok (.iload_n 2, 1) := by decide +kernel
theorem d_S_lacksRoom_31 : decode M_S_lacksRoom.2.1 31 = .ok (.aload_n 0, 1) := by decide +kernel
theorem d_S_lacksRoom_32 : decode M_S_lacksRoom.2.1 32 = .ok (.iload_n 3, 1) := by decide +kernel
theorem d_S_lacksRoom_33 : decode M_S_lacksRoom.2.1 33 = .ok (.invokevirtual 127, 3) := by decide +kernel
theorem d_S_lacksRoom_36 : decode M_S_lacksRoom.2.1 36 = .ok (.invokestatic 92, 3) := by decide +kernel
theorem d_S_lacksRoom_39 : decode M_S_lacksRoom.2.1 39 = .ok (.aload_n 0, 1) := by decide +kernel
theorem d_S_lacksRoom_40 : decode M_S_lacksRoom.2.1 40 = .ok (.getfield 18, 3) := by decide +kernel
theorem d_S_lacksRoom_43 : decode M_S_lacksRoom.2.1 43 = .ok (.iload_n 1, 1) := by decide +kernel
theorem d_S_lacksRoom_44 : decode M_S_lacksRoom.2.1 44 = .ok (.aaload, 1) := by decide +kernel
theorem d_S_lacksRoom_45 : decode M_S_lacksRoom.2.1 45 = .ok (.getfield 173, 3) := by decide +kernel
theorem d_S_lacksRoom_48 : decode M_S_lacksRoom.2.1 48 = .ok (.iload_n 3, 1) := by decide +kernel
theorem d_S_lacksRoom_49 : decode M_S_lacksRoom.2.1 49 = .ok (.aaload, 1) := by decide +kernel
theorem d_S_lacksRoom_50 : decode M_S_lacksRoom.2.1 50 = .ok (.getfield 204, 3) := by decide +kernel
theorem d_S_lacksRoom_53 : decode M_S_lacksRoom.2.1 53 = .ok (.isub, 1) := by decide +kernel
theorem d_S_lacksRoom_54 : decode M_S_lacksRoom.2.1 54 = .ok (.iadd, 1) := by decide +kernel
theorem d_S_lacksRoom_55 : decode M_S_lacksRoom.2.1 55 = .ok (.istore_n 2, 1) := by decide +kernel
theorem d_S_lacksRoom_56 : decode M_S_lacksRoom.2.1 56 = .ok (.iload_n 2, 1) := by decide +kernel
theorem d_S_lacksRoom_57 : decode M_S_lacksRoom.2.1 57 = .ok (.bipush 40, 2) := by decide +kernel
theorem d_S_lacksRoom_59 : decode M_S_lacksRoom.2.1 59 = .ok (.if_icmp .le 5, 3) := by decide +kernel
theorem d_S_lacksRoom_62 : decode M_S_lacksRoom.2.1 62 = .ok (.iconst 1, 1) := by decide +kernel
theorem d_S_lacksRoom_63 : decode M_S_lacksRoom.2.1 63 = .ok (.ireturn, 1) := by decide +kernel
theorem d_S_lacksRoom_64 : decode M_S_lacksRoom.2.1 64 = .ok (.iinc 3 1, 3) := by decide +kernel
theorem d_S_lacksRoom_67 : decode M_S_lacksRoom.2.1 67 = .ok (.goto (-52), 3) := by decide +kernel
theorem d_S_lacksRoom_70 : decode M_S_lacksRoom.2.1 70 = .ok (.iconst 0, 1) := by decide +kernel
theorem d_S_lacksRoom_71 : decode M_S_lacksRoom.2.1 71 = .ok (.ireturn, 1) := by decide +kernel
theorem d_S_leastFreeOfLive_0 : decode M_S_leastFreeOfLive.2.1 0 = .ok (.bipush 40, 2) := by decide +kernel
theorem d_S_leastFreeOfLive_2 : decode M_S_leastFreeOfLive.2.1 2 = .ok (.istore_n 1, 1) := by decide +kernel
theorem d_S_leastFreeOfLive_3 : decode M_S_leastFreeOfLive.2.1 3 = .ok (.iconst 0, 1) := by decide +kernel
theorem d_S_leastFreeOfLive_4 : decode M_S_leastFreeOfLive.2.1 4 = .ok (.istore_n 2, 1) := by decide +kernel
theorem d_S_leastFreeOfLive_5 : decode M_S_leastFreeOfLive.2.1 5 = .ok (.iload_n 2, 1) := by decide +kernel
theorem d_S_leastFreeOfLive_6 : decode M_S_leastFreeOfLive.2.1 6 = .ok (.bipush 12, 2) := by decide +kernel
theorem d_S_leastFreeOfLive_8 : decode M_S_leastFreeOfLive.2.1 8 = .ok (.if_icmp .ge 35, 3) := by decide +kernel
theorem d_S_leastFreeOfLive_11 : decode M_S_leastFreeOfLive.2.1 11 = .ok (.aload_n 0, 1) := by decide +kernel
theorem d_S_leastFreeOfLive_12 : decode M_S_leastFreeOfLive.2.1 12 = .ok (.getfield 18, 3) := by decide +kernel
theorem d_S_leastFreeOfLive_15 : decode M_S_leastFreeOfLive.2.1 15 = .ok (.iload_n 2, 1) := by decide +kernel
theorem d_S_leastFreeOfLive_16 : decode M_S_leastFreeOfLive.2.1 16 = .ok (.aaload, 1) := by decide +kernel
theorem d_S_leastFreeOfLive_17 : decode M_S_leastFreeOfLive.2.1 17 = .ok (.getfield 103, 3) := by decide +kernel
theorem d_S_leastFreeOfLive_20 : decode M_S_leastFreeOfLive.2.1 20 = .ok (.ifCond .eq 17, 3) := by decide +kernel
theorem d_S_leastFreeOfLive_23 : decode M_S_leastFreeOfLive.2.1 23 = .ok (.iload_n 1, 1) := by decide +kernel
theorem d_S_leastFreeOfLive_24 : decode M_S_leastFreeOfLive.2.1 24 = .ok (.aload_n 0, 1) := by decide +kernel
theorem d_S_leastFreeOfLive_25 : decode M_S_leastFreeOfLive.2.1 25 = .ok (.getfield 18, 3) := by decide +kernel
theorem d_S_leastFreeOfLive_28 : decode M_S_leastFreeOfLive.2.1 28 = .ok (.iload_n 2, 1) := by decide +kernel
theorem d_S_leastFreeOfLive_29 : decode M_S_leastFreeOfLive.2.1 29 = .ok (.aaload, 1) := by decide +kernel
theorem d_S_leastFreeOfLive_30 : decode M_S_leastFreeOfLive.2.1 30 = .ok (.invokevirtual 140, 3) := by decide +kernel
theorem d_S_leastFreeOfLive_33 : decode M_S_leastFreeOfLive.2.1 33 = .ok (.invokestatic 193, 3) := by decide +kernel
theorem d_S_leastFreeOfLive_36 : decode M_S_leastFreeOfLive.2.1 36 = .ok (.istore_n 1, 1) := by decide +kernel
theorem d_S_leastFreeOfLive_37 : decode M_S_leastFreeOfLive.2.1 37 = .ok (.iinc 2 1, 3) := by decide +kernel
theorem d_S_leastFreeOfLive_40 : decode M_S_leastFreeOfLive.2.1 40 = .ok (.goto (-35), 3) := by decide +kernel
theorem d_S_leastFreeOfLive_43 : decode M_S_leastFreeOfLive.2.1 43 = .ok (.iload_n 1, 1) := by decide +kernel
theorem d_S_leastFreeOfLive_44 : decode M_S_leastFreeOfLive.2.1 44 = .ok (.ireturn, 1) := by decide +kernel
theorem d_S_liveHolders_0 : decode M_S_liveHolders.2.1 0 = .ok (.iconst 0, 1) := by decide +kernel
theorem d_S_liveHolders_1 : decode M_S_liveHolders.2.1 1 = .ok (.istore_n 3, 1) := by decide +kernel
theorem d_S_liveHolders_2 : decode M_S_liveHolders.2.1 2 = .ok (.iconst 0, 1) := by decide +kernel
theorem d_S_liveHolders_3 : decode M_S_liveHolders.2.1 3 = .ok (.istore 4, 2) := by decide +kernel
theorem d_S_liveHolders_5 : decode M_S_liveHolders.2.1 5 = .ok (.iload 4, 2) := by decide +kernel
theorem d_S_liveHolders_7 : decode M_S_liveHolders.2.1 7 = .ok (.bipush 12, 2) := by decide +kernel
theorem d_S_liveHolders_9 : decode M_S_liveHolders.2.1 9 = .ok (.if_icmp .ge 23, 3) := by decide +kernel
theorem d_S_liveHolders_12 : decode M_S_liveHolders.2.1 12 = .ok (.aload_n 0, 1) := by decide +kernel
theorem d_S_liveHolders_13 : decode M_S_liveHolders.2.1 13 = .ok (.iload 4, 2) := by decide +kernel
theorem d_S_liveHolders_15 : decode M_S_liveHolders.2.1 15 = .ok (.iload_n 1, 1) := by decide +kernel
theorem d_S_liveHolders_16 : decode M_S_liveHolders.2.1 16 = .ok (.iload_n 2, 1) := by decide +kernel
theorem d_S_liveHolders_17 : decode M_S_liveHolders.2.1 17 = .ok (.invokevirtual 159, 3) := by decide +kernel
theorem d_S_liveHolders_20 : decode M_S_liveHolders.2.1 20 = .ok (.ifCond .eq 6, 3) := by decide +kernel
theorem d_S_liveHolders_23 : decode M_S_liveHolders.2.1 23 = .ok (.iinc 3 1, 3) := by decide +kernel
theorem d_S_liveHolders_26 : decode M_S_liveHolders.2.1 26 = .ok (.iinc 4 1, 3) := by decide +kernel
theorem d_S_liveHolders_29 : decode M_S_liveHolders.2.1 29 = .ok (.goto (-24), 3) := by decide +kernel
theorem d_S_liveHolders_32 : decode M_S_liveHolders.2.1 32 = .ok (.iload_n 3, 1) := by decide +kernel
theorem d_S_liveHolders_33 : decode M_S_liveHolders.2.1 33 = .ok (.ireturn, 1) := by decide +kernel
theorem d_S_liveNodes_0 : decode M_S_liveNodes.2.1 0 = .ok (.iconst 0, 1) := by decide +kernel
theorem d_S_liveNodes_1 : decode M_S_liveNodes.2.1 1 = .ok (.istore_n 1, 1) := by decide +kernel
theorem d_S_liveNodes_2 : decode M_S_liveNodes.2.1 2 = .ok (.iconst 0, 1) := by decide +kernel
theorem d_S_liveNodes_3 : decode M_S_liveNodes.2.1 3 = .ok (.istore_n 2, 1) := by decide +kernel
theorem d_S_liveNodes_4 : decode M_S_liveNodes.2.1 4 = .ok (.iload_n 2, 1) := by decide +kernel
theorem d_S_liveNodes_5 : decode M_S_liveNodes.2.1 5 = .ok (.bipush 12, 2) := by decide +kernel
theorem d_S_liveNodes_7 : decode M_S_liveNodes.2.1 7 = .ok (.if_icmp .ge 24, 3) := by decide +kernel
theorem d_S_liveNodes_10 : decode M_S_liveNodes.2.1 10 = .ok (.aload_n 0, 1) := by decide +kernel
theorem d_S_liveNodes_11 : decode M_S_liveNodes.2.1 11 = .ok (.getfield 18, 3) := by decide +kernel
theorem d_S_liveNodes_14 : decode M_S_liveNodes.2.1 14 = .ok (.iload_n 2, 1) := by decide +kernel
theorem d_S_liveNodes_15 : decode M_S_liveNodes.2.1 15 = .ok (.aaload, 1) := by decide +kernel
theorem d_S_liveNodes_16 : decode M_S_liveNodes.2.1 16 = .ok (.getfield 103, 3) := by decide +kernel
theorem d_S_liveNodes_19 : decode M_S_liveNodes.2.1 19 = .ok (.ifCond .eq 6, 3) := by decide +kernel
theorem d_S_liveNodes_22 : decode M_S_liveNodes.2.1 22 = .ok (.iinc 1 1, 3) := by decide +kernel
theorem d_S_liveNodes_25 : decode M_S_liveNodes.2.1 25 = .ok (.iinc 2 1, 3) := by decide +kernel
theorem d_S_liveNodes_28 : decode M_S_liveNodes.2.1 28 = .ok (.goto (-24), 3) := by decide +kernel
theorem d_S_liveNodes_31 : decode M_S_liveNodes.2.1 31 = .ok (.iload_n 1, 1) := by decide +kernel
theorem d_S_liveNodes_32 : decode M_S_liveNodes.2.1 32 = .ok (.ireturn, 1) := by decide +kernel
theorem d_S_newestBytes_0 : decode M_S_newestBytes.2.1 0 = .ok (.aload_n 0, 1) := by decide +kernel
theorem d_S_newestBytes_1 : decode M_S_newestBytes.2.1 1 = .ok (.iload_n 1, 1) := by decide +kernel
theorem d_S_newestBytes_2 : decode M_S_newestBytes.2.1 2 = .ok (.invokevirtual 134, 3) := by decide +kernel
theorem d_S_newestBytes_5 : decode M_S_newestBytes.2.1 5 = .ok (.istore_n 2, 1) := by decide +kernel
theorem d_S_newestBytes_6 : decode M_S_newestBytes.2.1 6 = .ok (.iconst 0, 1) := by decide +kernel
theorem d_S_newestBytes_7 : decode M_S_newestBytes.2.1 7 = .ok (.istore_n 3, 1) := by decide +kernel
theorem d_S_newestBytes_8 : decode M_S_newestBytes.2.1 8 = .ok (.iload_n 3, 1) := by decide +kernel
theorem d_S_newestBytes_9 : decode M_S_newestBytes.2.1 9 = .ok (.bipush 12, 2) := by decide +kernel
theorem d_S_newestBytes_11 : decode M_S_newestBytes.2.1 11 = .ok (.if_icmp .ge 34, 3) := by decide +kernel
theorem d_S_newestBytes_14 : decode M_S_newestBytes.2.1 14 = .ok (.aload_n 0, 1) := by decide +kernel
theorem d_S_newestBytes_15 : decode M_S_newestBytes.2.1 15 = .ok (.iload_n 3, 1) := by decide +kernel
theorem d_S_newestBytes_16 : decode M_S_newestBytes.2.1 16 = .ok (.iload_n 1, 1) := by decide +kernel
theorem d_S_newestBytes_17 : decode M_S_newestBytes.2.1 17 = .ok (.iload_n 2, 1) := by decide +kernel
theorem d_S_newestBytes_18 : decode M_S_newestBytes.2.1 18 = .ok (.invokevirtual 159, 3) := by decide +kernel
theorem d_S_newestBytes_21 : decode M_S_newestBytes.2.1 21 = .ok (.ifCond .eq 18, 3) := by decide +kernel
theorem d_S_newestBytes_24 : decode M_S_newestBytes.2.1 24 = .ok (.aload_n 0, 1) := by decide +kernel
theorem d_S_newestBytes_25 : decode M_S_newestBytes.2.1 25 = .ok (.getfield 18, 3) := by decide +kernel
theorem d_S_newestBytes_28 : decode M_S_newestBytes.2.1 28 = .ok (.iload_n 3, 1) := by decide +kernel
theorem d_S_newestBytes_29 : decode M_S_newestBytes.2.1 29 = .ok (.aaload, 1) := by decide +kernel
theorem d_S_newestBytes_30 : decode M_S_newestBytes.2.1 30 = .ok (.getfield 173, 3) := by decide +kernel
theorem d_S_newestBytes_33 : decode M_S_newestBytes.2.1 33 = .ok (.iload_n 1, 1) := by decide +kernel
theorem d_S_newestBytes_34 : decode M_S_newestBytes.2.1 34 = .ok (.aaload, 1) := by decide +kernel
theorem d_S_newestBytes_35 : decode M_S_newestBytes.2.1 35 = .ok (.getfield 201, 3) := by decide +kernel
theorem d_S_newestBytes_38 : decode M_S_newestBytes.2.1 38 = .ok (.ireturn, 1) := by decide +kernel
theorem d_S_newestBytes_39 : decode M_S_newestBytes.2.1 39 = .ok (.iinc 3 1, 3) := by decide +kernel
theorem d_S_newestBytes_42 : decode M_S_newestBytes.2.1 42 = .ok (.goto (-34), 3) := by decide +kernel
theorem d_S_newestBytes_45 : decode M_S_newestBytes.2.1 45 = .ok (.iconst 0, 1) := by decide +kernel
theorem d_S_newestBytes_46 : decode M_S_newestBytes.2.1 46 = .ok (.ireturn, 1) := by decide +kernel
theorem d_S_newestOf_0 : decode M_S_newestOf.2.1 0 = .ok (.iconst 0, 1) := by decide +kernel
theorem d_S_newestOf_1 : decode M_S_newestOf.2.1 1 = .ok (.istore_n 2, 1) := by decide +kernel
theorem d_S_newestOf_2 : decode M_S_newestOf.2.1 2 = .ok (.iconst 0, 1) := by decide +kernel
theorem d_S_newestOf_3 : decode M_S_newestOf.2.1 3 = .ok (.istore_n 3, 1) := by decide +kernel
theorem d_S_newestOf_4 : decode M_S_newestOf.2.1 4 = .ok (.iload_n 3, 1) := by decide +kernel
theorem d_S_newestOf_5 : decode M_S_newestOf.2.1 5 = .ok (.bipush 12, 2) := by decide +kernel
theorem d_S_newestOf_7 : decode M_S_newestOf.2.1 7 = .ok (.if_icmp .ge 45, 3) := by decide +kernel
theorem d_S_newestOf_10 : decode M_S_newestOf.2.1 10 = .ok (.aload_n 0, 1) := by decide +kernel
theorem d_S_newestOf_11 : decode M_S_newestOf.2.1 11 = .ok (.getfield 18, 3) := by decide +kernel
theorem d_S_newestOf_14 : decode M_S_newestOf.2.1 14 = .ok (.iload_n 3, 1) := by decide +kernel
theorem d_S_newestOf_15 : decode M_S_newestOf.2.1 15 = .ok (.aaload, 1) := by decide +kernel
theorem d_S_newestOf_16 : decode M_S_newestOf.2.1 16 = .ok (.getfield 173, 3) := by decide +kernel
theorem d_S_newestOf_19 : decode M_S_newestOf.2.1 19 = .ok (.iload_n 1, 1) := by decide +kernel
theorem d_S_newestOf_20 : decode M_S_newestOf.2.1 20 = .ok (.aaload, 1) := by decide +kernel
theorem d_S_newestOf_21 : decode M_S_newestOf.2.1 21 = .ok (.getfield 111, 3) := by decide +kernel
theorem d_S_newestOf_24 : decode M_S_newestOf.2.1 24 = .ok (.istore 4, 2) := by decide +kernel
theorem d_S_newestOf_26 : decode M_S_newestOf.2.1 26 = .ok (.iload 4, 2) := by decide +kernel
theorem d_S_newestOf_28 : decode M_S_newestOf.2.1 28 = .ok (.iload_n 2, 1) := by decide +kernel
theorem d_S_newestOf_29 : decode M_S_newestOf.2.1 29 = .ok (.if_icmp .le 17, 3) := by decide +kernel
theorem d_S_newestOf_32 : decode M_S_newestOf.2.1 32 = .ok (.aload_n 0, 1) := by decide +kernel
theorem d_S_newestOf_33 : decode M_S_newestOf.2.1 33 = .ok (.iload_n 1, 1) := by decide +kernel
theorem d_S_newestOf_34 : decode M_S_newestOf.2.1 34 = .ok (.iload 4, 2) := by decide +kernel
theorem d_S_newestOf_36 : decode M_S_newestOf.2.1 36 = .ok (.invokevirtual 198, 3) := by decide +kernel
theorem d_S_newestOf_39 : decode M_S_newestOf.2.1 39 = .ok (.iconst 5, 1) := by decide +kernel
theorem d_S_newestOf_40 : decode M_S_newestOf.2.1 40 = .ok (.if_icmp .lt 6, 3) := by decide +kernel
theorem d_S_newestOf_43 : decode M_S_newestOf.2.1 43 = .ok (.iload 4, 2) := by decide +kernel
theorem d_S_newestOf_45 : decode M_S_newestOf.2.1 45 = .ok (.istore_n 2, 1) := by decide +kernel
theorem d_S_newestOf_46 : decode M_S_newestOf.2.1 46 = .ok (.iinc 3 1, 3) := by decide +kernel
theorem d_S_newestOf_49 : decode M_S_newestOf.2.1 49 = .ok (.goto (-45), 3) := by decide +kernel
theorem d_S_newestOf_52 : decode M_S_newestOf.2.1 52 = .ok (.iload_n 2, 1) := by decide +kernel
theorem d_S_newestOf_53 : decode M_S_newestOf.2.1 53 = .ok (.ireturn, 1) := by decide +kernel
theorem d_S_open_0 : decode M_S_open.2.1 0 = .ok (.iload_n 1, 1) := by decide +kernel
theorem d_S_open_1 : decode M_S_open.2.1 1 = .ok (.invokestatic 82, 3) := by decide +kernel
theorem d_S_open_4 : decode M_S_open.2.1 4 = .ok (.ifCond .ne 6, 3) := by decide +kernel
theorem d_S_open_7 : decode M_S_open.2.1 7 = .ok (.bipush (-2), 2) := by decide +kernel
theorem d_S_open_9 : decode M_S_open.2.1 9 = .ok (.ireturn, 1) := by decide +kernel
theorem d_S_open_10 : decode M_S_open.2.1 10 = .ok (.aload_n 0, 1) := by decide +kernel
theorem d_S_open_11 : decode M_S_open.2.1 11 = .ok (.getfield 26, 3) := by decide +kernel
theorem d_S_open_14 : decode M_S_open.2.1 14 = .ok (.iload_n 1, 1) := by decide +kernel
theorem d_S_open_15 : decode M_S_open.2.1 15 = .ok (.baload, 1) := by decide +kernel
theorem d_S_open_16 : decode M_S_open.2.1 16 = .ok (.ifCond .eq 7, 3) := by decide +kernel
theorem d_S_open_19 : decode M_S_open.2.1 19 = .ok (.iconst 1, 1) := by decide +kernel
theorem d_S_open_20 : decode M_S_open.2.1 20 = .ok (.goto 4, 3) := by decide +kernel
theorem d_S_open_23 : decode M_S_open.2.1 23 = .ok (.iconst 0, 1) := by decide +kernel
theorem d_S_open_24 : decode M_S_open.2.1 24 = .ok (.ireturn, 1) := by decide +kernel
theorem d_S_openObjects_0 : decode M_S_openObjects.2.1 0 = .ok (.iconst 0, 1) := by decide +kernel
theorem d_S_openObjects_1 : decode M_S_openObjects.2.1 1 = .ok (.istore_n 1, 1) := by decide +kernel
theorem d_S_openObjects_2 : decode M_S_openObjects.2.1 2 = .ok (.iconst 0, 1) := by decide +kernel
theorem d_S_openObjects_3 : decode M_S_openObjects.2.1 3 = .ok (.istore_n 2, 1) := by decide +kernel
theorem d_S_openObjects_4 : decode M_S_openObjects.2.1 4 = .ok (.iload_n 2, 1) := by decide +kernel
theorem d_S_openObjects_5 : decode M_S_openObjects.2.1 5 = .ok (.bipush 6, 2) := by decide +kernel
theorem d_S_openObjects_7 : decode M_S_openObjects.2.1 7 = .ok (.if_icmp .ge 21, 3) := by decide +kernel
theorem d_S_openObjects_10 : decode M_S_openObjects.2.1 10 = .ok (.aload_n 0, 1) := by decide +kernel
theorem d_S_openObjects_11 : decode M_S_openObjects.2.1 11 = .ok (.getfield 26, 3) := by decide +kernel
theorem d_S_openObjects_14 : decode M_S_openObjects.2.1 14 = .ok (.iload_n 2, 1) := by decide +kernel
theorem d_S_openObjects_15 : decode M_S_openObjects.2.1 15 = .ok (.baload, 1) := by decide +kernel
theorem d_S_openObjects_16 : decode M_S_openObjects.2.1 16 = .ok (.ifCond .eq 6, 3) := by decide +kernel
theorem d_S_openObjects_19 : decode M_S_openObjects.2.1 19 = .ok (.iinc 1 1, 3) := by decide +kernel
theorem d_S_openObjects_22 : decode M_S_openObjects.2.1 22 = .ok (.iinc 2 1, 3) := by decide +kernel
theorem d_S_openObjects_25 : decode M_S_openObjects.2.1 25 = .ok (.goto (-21), 3) := by decide +kernel
theorem d_S_openObjects_28 : decode M_S_openObjects.2.1 28 = .ok (.iload_n 1, 1) := by decide +kernel
theorem d_S_openObjects_29 : decode M_S_openObjects.2.1 29 = .ok (.ireturn, 1) := by decide +kernel
theorem d_S_over_0 : decode M_S_over.2.1 0 = .ok (.iload_n 1, 1) := by decide +kernel
theorem d_S_over_1 : decode M_S_over.2.1 1 = .ok (.invokestatic 59, 3) := by decide +kernel
theorem d_S_over_4 : decode M_S_over.2.1 4 = .ok (.ifCond .eq 10, 3) := by decide +kernel
theorem d_S_over_7 : decode M_S_over.2.1 7 = .ok (.iload_n 2, 1) := by decide +kernel
theorem d_S_over_8 : decode M_S_over.2.1 8 = .ok (.invokestatic 59, 3) := by decide +kernel
theorem d_S_over_11 : decode M_S_over.2.1 11 = .ok (.ifCond .ne 6, 3) := by decide +kernel
theorem d_S_over_14 : decode M_S_over.2.1 14 = .ok (.bipush (-2), 2) := by decide +kernel
theorem d_S_over_16 : decode M_S_over.2.1 16 = .ok (.ireturn, 1) := by decide +kernel
theorem d_S_over_17 : decode M_S_over.2.1 17 = .ok (.iload_n 2, 1) := by decide +kernel
theorem d_S_over_18 : decode M_S_over.2.1 18 = .ok (.ifCond .ne 8, 3) := by decide +kernel
theorem d_S_over_21 : decode M_S_over.2.1 21 = .ok (.bipush (-7), 2) := by decide +kernel
theorem d_S_over_23 : decode M_S_over.2.1 23 = .ok (.goto 15, 3) := by decide +kernel
theorem d_S_over_26 : decode M_S_over.2.1 26 = .ok (.aload_n 0, 1) := by decide +kernel
theorem d_S_over_27 : decode M_S_over.2.1 27 = .ok (.getfield 10, 3) := by decide +kernel
theorem d_S_over_30 : decode M_S_over.2.1 30 = .ok (.getfield 63, 3) := by decide +kernel
theorem d_S_over_33 : decode M_S_over.2.1 33 = .ok (.iload_n 1, 1) := by decide +kernel
theorem d_S_over_34 : decode M_S_over.2.1 34 = .ok (.iload_n 2, 1) := by decide +kernel
theorem d_S_over_35 : decode M_S_over.2.1 35 = .ok (.invokevirtual 73, 3) := by decide +kernel
theorem d_S_over_38 : decode M_S_over.2.1 38 = .ok (.ireturn, 1) := by decide +kernel
theorem d_S_put_0 : decode M_S_put.2.1 0 = .ok (.iload_n 1, 1) := by decide +kernel
theorem d_S_put_1 : decode M_S_put.2.1 1 = .ok (.invokestatic 82, 3) := by decide +kernel
theorem d_S_put_4 : decode M_S_put.2.1 4 = .ok (.ifCond .ne 6, 3) := by decide +kernel
theorem d_S_put_7 : decode M_S_put.2.1 7 = .ok (.bipush (-2), 2) := by decide +kernel
theorem d_S_put_9 : decode M_S_put.2.1 9 = .ok (.ireturn, 1) := by decide +kernel
theorem d_S_put_10 : decode M_S_put.2.1 10 = .ok (.aload_n 0, 1) := by decide +kernel
theorem d_S_put_11 : decode M_S_put.2.1 11 = .ok (.getfield 26, 3) := by decide +kernel
theorem d_S_put_14 : decode M_S_put.2.1 14 = .ok (.iload_n 1, 1) := by decide +kernel
theorem d_S_put_15 : decode M_S_put.2.1 15 = .ok (.baload, 1) := by decide +kernel
theorem d_S_put_16 : decode M_S_put.2.1 16 = .ok (.ifCond .eq 6, 3) := by decide +kernel
theorem d_S_put_19 : decode M_S_put.2.1 19 = .ok (.bipush (-3), 2) := by decide +kernel
theorem d_S_put_21 : decode M_S_put.2.1 21 = .ok (.ireturn, 1) := by decide +kernel
theorem d_S_put_22 : decode M_S_put.2.1 22 = .ok (.aload_n 0, 1) := by decide +kernel
theorem d_S_put_23 : decode M_S_put.2.1 23 = .ok (.invokevirtual 85, 3) := by decide +kernel
theorem d_S_put_26 : decode M_S_put.2.1 26 = .ok (.bipush 9, 2) := by decide +kernel
theorem d_S_put_28 : decode M_S_put.2.1 28 = .ok (.if_icmp .ge 6, 3) := by decide +kernel
theorem d_S_put_31 : decode M_S_put.2.1 31 = .ok (.bipush (-4), 2) := by decide +kernel
theorem d_S_put_33 : decode M_S_put.2.1 33 = .ok (.ireturn, 1) := by decide +kernel
theorem d_S_put_34 : decode M_S_put.2.1 34 = .ok (.aload_n 0, 1) := by decide +kernel
theorem d_S_put_35 : decode M_S_put.2.1 35 = .ok (.invokevirtual 89, 3) := by decide +kernel
theorem d_S_put_38 : decode M_S_put.2.1 38 = .ok (.aload_n 0, 1) := by decide +kernel
theorem d_S_put_39 : decode M_S_put.2.1 39 = .ok (.getfield 33, 3) := by decide +kernel
theorem d_S_put_42 : decode M_S_put.2.1 42 = .ok (.invokestatic 92, 3) := by decide +kernel
theorem d_S_put_45 : decode M_S_put.2.1 45 = .ok (.if_icmp .ge 6, 3) := by decide +kernel
theorem d_S_put_48 : decode M_S_put.2.1 48 = .ok (.bipush (-5), 2) := by decide +kernel
theorem d_S_put_50 : decode M_S_put.2.1 50 = .ok (.ireturn, 1) := by decide +kernel
theorem d_S_put_51 : decode M_S_put.2.1 51 = .ok (.aload_n 0, 1) := by decide +kernel
theorem d_S_put_52 : decode M_S_put.2.1 52 = .ok (.getfield 33, 3) := by decide +kernel
theorem d_S_put_55 : decode M_S_put.2.1 55 = .ok (.ifCond .ne 6, 3) := by decide +kernel
theorem d_S_put_58 : decode M_S_put.2.1 58 = .ok (.bipush (-6), 2) := by decide +kernel
theorem d_S_put_60 : decode M_S_put.2.1 60 = .ok (.ireturn, 1) := by decide +kernel
theorem d_S_put_61 : decode M_S_put.2.1 61 = .ok (.aload_n 0, 1) := by decide +kernel
theorem d_S_put_62 : decode M_S_put.2.1 62 = .ok (.iload_n 1, 1) := by decide +kernel
theorem d_S_put_63 : decode M_S_put.2.1 63 = .ok (.aload_n 0, 1) := by decide +kernel
theorem d_S_put_64 : decode M_S_put.2.1 64 = .ok (.getfield 33, 3) := by decide +kernel
theorem d_S_put_67 : decode M_S_put.2.1 67 = .ok (.invokevirtual 96, 3) := by decide +kernel
theorem d_S_put_70 : decode M_S_put.2.1 70 = .ok (.istore_n 2, 1) := by decide +kernel
theorem d_S_put_71 : decode M_S_put.2.1 71 = .ok (.aload_n 0, 1) := by decide +kernel
theorem d_S_put_72 : decode M_S_put.2.1 72 = .ok (.iconst 0, 1) := by decide +kernel
theorem d_S_put_73 : decode M_S_put.2.1 73 = .ok (.putfield 33, 3) := by decide +kernel
theorem d_S_put_76 : decode M_S_put.2.1 76 = .ok (.iload_n 2, 1) := by decide +kernel
theorem d_S_put_77 : decode M_S_put.2.1 77 = .ok (.ireturn, 1) := by decide +kernel
theorem d_S_rebuild_0 : decode M_S_rebuild.2.1 0 = .ok (.iload_n 1, 1) := by decide +kernel
theorem d_S_rebuild_1 : decode M_S_rebuild.2.1 1 = .ok (.invokestatic 76, 3) := by decide +kernel
theorem d_S_rebuild_4 : decode M_S_rebuild.2.1 4 = .ok (.ifCond .ne 6, 3) := by decide +kernel
theorem d_S_rebuild_7 : decode M_S_rebuild.2.1 7 = .ok (.bipush (-2), 2) := by decide +kernel
theorem d_S_rebuild_9 : decode M_S_rebuild.2.1 9 = .ok (.ireturn, 1) := by decide +kernel
theorem d_S_rebuild_10 : decode M_S_rebuild.2.1 10 = .ok (.aload_n 0, 1) := by decide +kernel
theorem d_S_rebuild_11 : decode M_S_rebuild.2.1 11 = .ok (.getfield 18, 3) := by decide +kernel
theorem d_S_rebuild_14 : decode M_S_rebuild.2.1 14 = .ok (.iload_n 1, 1) := by decide +kernel
theorem d_S_rebuild_15 : decode M_S_rebuild.2.1 15 = .ok (.aaload, 1) := by decide +kernel
theorem d_S_rebuild_16 : decode M_S_rebuild.2.1 16 = .ok (.getfield 103, 3) := by decide +kernel
theorem d_S_rebuild_19 : decode M_S_rebuild.2.1 19 = .ok (.ifCond .ne 6, 3) := by decide +kernel
theorem d_S_rebuild_22 : decode M_S_rebuild.2.1 22 = .ok (.bipush (-3), 2) := by decide +kernel
theorem d_S_rebuild_24 : decode M_S_rebuild.2.1 24 = .ok (.ireturn, 1) := by decide +kernel
theorem d_S_rebuild_25 : decode M_S_rebuild.2.1 25 = .ok (.aload_n 0, 1) := by decide +kernel
theorem d_S_rebuild_26 : decode M_S_rebuild.2.1 26 = .ok (.iload_n 1, 1) := by decide +kernel
theorem d_S_rebuild_27 : decode M_S_rebuild.2.1 27 = .ok (.iload_n 2, 1) := by decide +kernel
theorem d_S_rebuild_28 : decode M_S_rebuild.2.1 28 = .ok (.invokevirtual 146, 3) := by decide +kernel
theorem d_S_rebuild_31 : decode M_S_rebuild.2.1 31 = .ok (.ifCond .eq 6, 3) := by decide +kernel
theorem d_S_rebuild_34 : decode M_S_rebuild.2.1 34 = .ok (.bipush (-4), 2) := by decide +kernel
theorem d_S_rebuild_36 : decode M_S_rebuild.2.1 36 = .ok (.ireturn, 1) := by decide +kernel
theorem d_S_rebuild_37 : decode M_S_rebuild.2.1 37 = .ok (.aload_n 0, 1) := by decide +kernel
theorem d_S_rebuild_38 : decode M_S_rebuild.2.1 38 = .ok (.iload_n 1, 1) := by decide +kernel
theorem d_S_rebuild_39 : decode M_S_rebuild.2.1 39 = .ok (.invokevirtual 149, 3) := by decide +kernel
theorem d_S_rebuild_42 : decode M_S_rebuild.2.1 42 = .ok (.ifCond .eq 6, 3) := by decide +kernel
theorem d_S_rebuild_45 : decode M_S_rebuild.2.1 45 = .ok (.bipush (-5), 2) := by decide +kernel
theorem d_S_rebuild_47 : decode M_S_rebuild.2.1 47 = .ok (.ireturn, 1) := by decide +kernel
theorem d_S_rebuild_48 : decode M_S_rebuild.2.1 48 = .ok (.aload_n 0, 1) := by decide +kernel
theorem d_S_rebuild_49 : decode M_S_rebuild.2.1 49 = .ok (.getfield 49, 3) := by decide +kernel
theorem d_S_rebuild_52 : decode M_S_rebuild.2.1 52 = .ok (.istore_n 3, 1) := by decide +kernel
theorem d_S_rebuild_53 : decode M_S_rebuild.2.1 53 = .ok (.iconst 0, 1) := by decide +kernel
theorem d_S_rebuild_54 : decode M_S_rebuild.2.1 54 = .ok (.istore 4, 2) := by decide +kernel
theorem d_S_rebuild_56 : decode M_S_rebuild.2.1 56 = .ok (.iload 4, 2) := by decide +kernel
theorem d_S_rebuild_58 : decode M_S_rebuild.2.1 58 = .ok (.bipush 6, 2) := by decide +kernel
theorem d_S_rebuild_60 : decode M_S_rebuild.2.1 60 = .ok (.if_icmp .ge 27, 3) := by decide +kernel
theorem d_S_rebuild_63 : decode M_S_rebuild.2.1 63 = .ok (.aload_n 0, 1) := by decide +kernel
theorem d_S_rebuild_64 : decode M_S_rebuild.2.1 64 = .ok (.iload_n 1, 1) := by decide +kernel
theorem d_S_rebuild_65 : decode M_S_rebuild.2.1 65 = .ok (.iload 4, 2) := by decide +kernel
theorem d_S_rebuild_67 : decode M_S_rebuild.2.1 67 = .ok (.invokevirtual 152, 3) := by decide +kernel
theorem d_S_rebuild_70 : decode M_S_rebuild.2.1 70 = .ok (.ifCond .eq 11, 3) := by decide +kernel
theorem d_S_rebuild_73 : decode M_S_rebuild.2.1 73 = .ok (.aload_n 0, 1) := by decide +kernel
theorem d_S_rebuild_74 : decode M_S_rebuild.2.1 74 = .ok (.iload_n 1, 1) := by decide +kernel
theorem d_S_rebuild_75 : decode M_S_rebuild.2.1 75 = .ok (.iload 4, 2) := by decide +kernel
theorem d_S_rebuild_77 : decode M_S_rebuild.2.1 77 = .ok (.iload_n 2, 1) := by decide +kernel
theorem d_S_rebuild_78 : decode M_S_rebuild.2.1 78 = .ok (.invokevirtual 155, 3) := by decide +kernel
theorem d_S_rebuild_81 : decode M_S_rebuild.2.1 81 = .ok (.iinc 4 1, 3) := by decide +kernel
theorem d_S_rebuild_84 : decode M_S_rebuild.2.1 84 = .ok (.goto (-28), 3) := by decide +kernel
theorem d_S_rebuild_87 : decode M_S_rebuild.2.1 87 = .ok (.aload_n 0, 1) := by decide +kernel
theorem d_S_rebuild_88 : decode M_S_rebuild.2.1 88 = .ok (.getfield 49, 3) := by decide +kernel
theorem d_S_rebuild_91 : decode M_S_rebuild.2.1 91 = .ok (.iload_n 3, 1) := by decide +kernel
theorem d_S_rebuild_92 : decode M_S_rebuild.2.1 92 = .ok (.isub, 1) := by decide +kernel
theorem d_S_rebuild_93 : decode M_S_rebuild.2.1 93 = .ok (.ireturn, 1) := by decide +kernel
theorem d_S_record_0 : decode M_S_record.2.1 0 = .ok (.iload_n 1, 1) := by decide +kernel
theorem d_S_record_1 : decode M_S_record.2.1 1 = .ok (.invokestatic 76, 3) := by decide +kernel
theorem d_S_record_4 : decode M_S_record.2.1 4 = .ok (.ifCond .eq 20, 3) := by decide +kernel
theorem d_S_record_7 : decode M_S_record.2.1 7 = .ok (.iload_n 2, 1) := by decide +kernel
theorem d_S_record_8 : decode M_S_record.2.1 8 = .ok (.invokestatic 82, 3) := by decide +kernel
theorem d_S_record_11 : decode M_S_record.2.1 11 = .ok (.ifCond .eq 13, 3) := by decide +kernel
theorem d_S_record_14 : decode M_S_record.2.1 14 = .ok (.iload_n 3, 1) := by decide +kernel
theorem d_S_record_15 : decode M_S_record.2.1 15 = .ok (.ifCond .lt 9, 3) := by decide +kernel
theorem d_S_record_18 : decode M_S_record.2.1 18 = .ok (.iload_n 3, 1) := by decide +kernel
theorem d_S_record_19 : decode M_S_record.2.1 19 = .ok (.bipush 6, 2) := by decide +kernel
theorem d_S_record_21 : decode M_S_record.2.1 21 = .ok (.if_icmp .lt 6, 3) := by decide +kernel
theorem d_S_record_24 : decode M_S_record.2.1 24 = .ok (.bipush (-2), 2) := by decide +kernel
theorem d_S_record_26 : decode M_S_record.2.1 26 = .ok (.ireturn, 1) := by decide +kernel
theorem d_S_record_27 : decode M_S_record.2.1 27 = .ok (.aload_n 0, 1) := by decide +kernel
theorem d_S_record_28 : decode M_S_record.2.1 28 = .ok (.getfield 18, 3) := by decide +kernel
theorem d_S_record_31 : decode M_S_record.2.1 31 = .ok (.iload_n 1, 1) := by decide +kernel
theorem d_S_record_32 : decode M_S_record.2.1 32 = .ok (.aaload, 1) := by decide +kernel
theorem d_S_record_33 : decode M_S_record.2.1 33 = .ok (.iload_n 2, 1) := by decide +kernel
theorem d_S_record_34 : decode M_S_record.2.1 34 = .ok (.iload_n 3, 1) := by decide +kernel
theorem d_S_record_35 : decode M_S_record.2.1 35 = .ok (.invokestatic 166, 3) := by decide +kernel
theorem d_S_record_38 : decode M_S_record.2.1 38 = .ok (.ireturn, 1) := by decide +kernel
theorem d_S_recordNumber_0 : decode M_S_recordNumber.2.1 0 = .ok (.iload_n 2, 1) := by decide +kernel
theorem d_S_recordNumber_1 : decode M_S_recordNumber.2.1 1 = .ok (.iconst 3, 1) := by decide +kernel
theorem d_S_recordNumber_2 : decode M_S_recordNumber.2.1 2 = .ok (.if_icmp .lt 7, 3) := by decide +kernel
theorem d_S_recordNumber_5 : decode M_S_recordNumber.2.1 5 = .ok (.iconst 1, 1) := by decide +kernel
theorem d_S_recordNumber_6 : decode M_S_recordNumber.2.1 6 = .ok (.goto 4, 3) := by decide +kernel
theorem d_S_recordNumber_9 : decode M_S_recordNumber.2.1 9 = .ok (.iconst 0, 1) := by decide +kernel
theorem d_S_recordNumber_10 : decode M_S_recordNumber.2.1 10 = .ok (.istore_n 3, 1) := by decide +kernel
theorem d_S_recordNumber_11 : decode M_S_recordNumber.2.1 11 = .ok (.iload_n 3, 1) := by decide +kernel
theorem d_S_recordNumber_12 : decode M_S_recordNumber.2.1 12 = .ok (.ifCond .eq 12, 3) := by decide +kernel
theorem d_S_recordNumber_15 : decode M_S_recordNumber.2.1 15 = .ok (.aload_n 0, 1) := by decide +kernel
theorem d_S_recordNumber_16 : decode M_S_recordNumber.2.1 16 = .ok (.getfield 107, 3) := by decide +kernel
theorem d_S_recordNumber_19 : decode M_S_recordNumber.2.1 19 = .ok (.iload_n 1, 1) := by decide +kernel
theorem d_S_recordNumber_20 : decode M_S_recordNumber.2.1 20 = .ok (.aaload, 1) := by decide +kernel
theorem d_S_recordNumber_21 : decode M_S_recordNumber.2.1 21 = .ok (.goto 9, 3) := by decide +kernel
theorem d_S_recordNumber_24 : decode M_S_recordNumber.2.1 24 = .ok (.aload_n 0, 1) := by decide +kernel
theorem d_S_recordNumber_25 : decode M_S_recordNumber.2.1 25 = .ok (.getfield 173, 3) := by decide +kernel
theorem d_S_recordNumber_28 : decode M_S_recordNumber.2.1 28 = .ok (.iload_n 1, 1) := by decide +kernel
theorem d_S_recordNumber_29 : decode M_S_recordNumber.2.1 29 = .ok (.aaload, 1) := by decide +kernel
theorem d_S_recordNumber_30 : decode M_S_recordNumber.2.1 30 = .ok (.astore 4, 2) := by decide +kernel
theorem d_S_recordNumber_32 : decode M_S_recordNumber.2.1 32 = .ok (.aload 4, 2) := by decide +kernel
theorem d_S_recordNumber_34 : decode M_S_recordNumber.2.1 34 = .ok (.getfield 111, 3) := by decide +kernel
theorem d_S_recordNumber_37 : decode M_S_recordNumber.2.1 37 = .ok (.ifCond .ne 5, 3) := by decide +kernel
theorem d_S_recordNumber_40 : decode M_S_recordNumber.2.1 40 = .ok (.iconst (-1), 1) := by decide +kernel
theorem d_S_recordNumber_41 : decode M_S_recordNumber.2.1 41 = .ok (.ireturn, 1) := by decide +kernel
theorem d_S_recordNumber_42 : decode M_S_recordNumber.2.1 42 = .ok (.iload_n 3, 1) := by decide +kernel
theorem d_S_recordNumber_43 : decode M_S_recordNumber.2.1 43 = .ok (.ifCond .eq 9, 3) := by decide +kernel
theorem d_S_recordNumber_46 : decode M_S_recordNumber.2.1 46 = .ok (.iload_n 2, 1) := by decide +kernel
theorem d_S_recordNumber_47 : decode M_S_recordNumber.2.1 47 = .ok (.iconst 3, 1) := by decide +kernel
theorem d_S_recordNumber_48 : decode M_S_recordNumber.2.1 48 = .ok (.isub, 1) := by decide +kernel
theorem d_S_recordNumber_49 : decode M_S_recordNumber.2.1 49 = .ok (.goto 4, 3) := by decide +kernel
theorem d_S_recordNumber_52 : decode M_S_recordNumber.2.1 52 = .ok (.iload_n 2, 1) := by decide +kernel
theorem d_S_recordNumber_53 : decode M_S_recordNumber.2.1 53 = .ok (.istore 5, 2) := by decide +kernel
theorem d_S_recordNumber_55 : decode M_S_recordNumber.2.1 55 = .ok (.iload 5, 2) := by decide +kernel
theorem d_S_recordNumber_57 : decode M_S_recordNumber.2.1 57 = .ok (.ifCond .ne 9, 3) := by decide +kernel
theorem d_S_recordNumber_60 : decode M_S_recordNumber.2.1 60 = .ok (.aload 4, 2) := by decide +kernel
theorem d_S_recordNumber_62 : decode M_S_recordNumber.2.1 62 = .ok (.getfield 111, 3) := by decide +kernel
theorem d_S_recordNumber_65 : decode M_S_recordNumber.2.1 65 = .ok (.ireturn, 1) := by decide +kernel
theorem d_S_recordNumber_66 : decode M_S_recordNumber.2.1 66 = .ok (.iload 5, 2) := by decide +kernel
theorem d_S_recordNumber_68 : decode M_S_recordNumber.2.1 68 = .ok (.iconst 1, 1) := by decide +kernel
theorem d_S_recordNumber_69 : decode M_S_recordNumber.2.1 69 = .ok (.if_icmp .ne 11, 3) := by decide +kernel
theorem d_S_recordNumber_72 : decode M_S_recordNumber.2.1 72 = .ok (.aload 4, 2) := by decide +kernel
theorem d_S_recordNumber_74 : decode M_S_recordNumber.2.1 74 = .ok (.getfield 201, 3) := by decide +kernel
theorem d_S_recordNumber_77 : decode M_S_recordNumber.2.1 77 = .ok (.goto 8, 3) := by decide +kernel
theorem d_S_recordNumber_80 : decode M_S_recordNumber.2.1 80 = .ok (.aload 4, 2) := by decide +kernel
theorem d_S_recordNumber_82 : decode M_S_recordNumber.2.1 82 = .ok (.getfield 204, 3) := by decide +kernel
theorem d_S_recordNumber_85 : decode M_S_recordNumber.2.1 85 = .ok (.ireturn, 1) := by decide +kernel
theorem d_S_remove_0 : decode M_S_remove.2.1 0 = .ok (.iload_n 1, 1) := by decide +kernel
theorem d_S_remove_1 : decode M_S_remove.2.1 1 = .ok (.invokestatic 82, 3) := by decide +kernel
theorem d_S_remove_4 : decode M_S_remove.2.1 4 = .ok (.ifCond .ne 6, 3) := by decide +kernel
theorem d_S_remove_7 : decode M_S_remove.2.1 7 = .ok (.bipush (-2), 2) := by decide +kernel
theorem d_S_remove_9 : decode M_S_remove.2.1 9 = .ok (.ireturn, 1) := by decide +kernel
theorem d_S_remove_10 : decode M_S_remove.2.1 10 = .ok (.aload_n 0, 1) := by decide +kernel
theorem d_S_remove_11 : decode M_S_remove.2.1 11 = .ok (.getfield 26, 3) := by decide +kernel
theorem d_S_remove_14 : decode M_S_remove.2.1 14 = .ok (.iload_n 1, 1) := by decide +kernel
theorem d_S_remove_15 : decode M_S_remove.2.1 15 = .ok (.baload, 1) := by decide +kernel
theorem d_S_remove_16 : decode M_S_remove.2.1 16 = .ok (.ifCond .eq 6, 3) := by decide +kernel
theorem d_S_remove_19 : decode M_S_remove.2.1 19 = .ok (.bipush (-3), 2) := by decide +kernel
theorem d_S_remove_21 : decode M_S_remove.2.1 21 = .ok (.ireturn, 1) := by decide +kernel
theorem d_S_remove_22 : decode M_S_remove.2.1 22 = .ok (.aload_n 0, 1) := by decide +kernel
theorem d_S_remove_23 : decode M_S_remove.2.1 23 = .ok (.invokevirtual 85, 3) := by decide +kernel
theorem d_S_remove_26 : decode M_S_remove.2.1 26 = .ok (.bipush 9, 2) := by decide +kernel
theorem d_S_remove_28 : decode M_S_remove.2.1 28 = .ok (.if_icmp .ge 8, 3) := by decide +kernel
theorem d_S_remove_31 : decode M_S_remove.2.1 31 = .ok (.bipush (-4), 2) := by decide +kernel
theorem d_S_remove_33 : decode M_S_remove.2.1 33 = .ok (.goto 9, 3) := by decide +kernel
theorem d_S_remove_36 : decode M_S_remove.2.1 36 = .ok (.aload_n 0, 1) := by decide +kernel
theorem d_S_remove_37 : decode M_S_remove.2.1 37 = .ok (.iload_n 1, 1) := by decide +kernel
theorem d_S_remove_38 : decode M_S_remove.2.1 38 = .ok (.iconst 0, 1) := by decide +kernel
theorem d_S_remove_39 : decode M_S_remove.2.1 39 = .ok (.invokevirtual 96, 3) := by decide +kernel
theorem d_S_remove_42 : decode M_S_remove.2.1 42 = .ok (.ireturn, 1) := by decide +kernel
theorem d_S_renew_0 : decode M_S_renew.2.1 0 = .ok (.aload_n 0, 1) := by decide +kernel
theorem d_S_renew_1 : decode M_S_renew.2.1 1 = .ok (.iload_n 2, 1) := by decide +kernel
theorem d_S_renew_2 : decode M_S_renew.2.1 2 = .ok (.invokevirtual 134, 3) := by decide +kernel
theorem d_S_renew_5 : decode M_S_renew.2.1 5 = .ok (.istore 4, 2) := by decide +kernel
theorem d_S_renew_7 : decode M_S_renew.2.1 7 = .ok (.aload_n 0, 1) := by decide +kernel
theorem d_S_renew_8 : decode M_S_renew.2.1 8 = .ok (.iload_n 2, 1) := by decide +kernel
theorem d_S_renew_9 : decode M_S_renew.2.1 9 = .ok (.invokevirtual 127, 3) := by decide +kernel
theorem d_S_renew_12 : decode M_S_renew.2.1 12 = .ok (.istore 5, 2) := by decide +kernel
theorem d_S_renew_14 : decode M_S_renew.2.1 14 = .ok (.aload_n 0, 1) := by decide +kernel
theorem d_S_renew_15 : decode M_S_renew.2.1 15 = .ok (.getfield 18, 3) := by decide +kernel
theorem d_S_renew_18 : decode M_S_renew.2.1 18 = .ok (.iload_n 1, 1) := by decide +kernel
theorem d_S_renew_19 : decode M_S_renew.2.1 19 = .ok (.aaload, 1) := by decide +kernel
theorem d_S_renew_20 : decode M_S_renew.2.1 20 = .ok (.astore 6, 2) := by decide +kernel
theorem d_S_renew_22 : decode M_S_renew.2.1 22 = .ok (.aload 6, 2) := by decide +kernel
theorem d_S_renew_24 : decode M_S_renew.2.1 24 = .ok (.aload 6, 2) := by decide +kernel
theorem d_S_renew_26 : decode M_S_renew.2.1 26 = .ok (.getfield 173, 3) := by decide +kernel
theorem d_S_renew_29 : decode M_S_renew.2.1 29 = .ok (.iload_n 2, 1) := by decide +kernel
theorem d_S_renew_30 : decode M_S_renew.2.1 30 = .ok (.aaload, 1) := by decide +kernel
theorem d_S_renew_31 : decode M_S_renew.2.1 31 = .ok (.invokevirtual 120, 3) := by decide +kernel
theorem d_S_renew_34 : decode M_S_renew.2.1 34 = .ok (.aload 6, 2) := by decide +kernel
theorem d_S_renew_36 : decode M_S_renew.2.1 36 = .ok (.aload 6, 2) := by decide +kernel
theorem d_S_renew_38 : decode M_S_renew.2.1 38 = .ok (.getfield 173, 3) := by decide +kernel
theorem d_S_renew_41 : decode M_S_renew.2.1 41 = .ok (.iload_n 2, 1) := by decide +kernel
theorem d_S_renew_42 : decode M_S_renew.2.1 42 = .ok (.aaload, 1) := by decide +kernel
theorem d_S_renew_43 : decode M_S_renew.2.1 43 = .ok (.iload 4, 2) := by decide +kernel
theorem d_S_renew_45 : decode M_S_renew.2.1 45 = .ok (.iload 5, 2) := by decide +kernel
theorem d_S_renew_47 : decode M_S_renew.2.1 47 = .ok (.invokevirtual 213, 3) := by decide +kernel
theorem d_S_renew_50 : decode M_S_renew.2.1 50 = .ok (.iload 5, 2) := by decide +kernel
theorem d_S_renew_52 : decode M_S_renew.2.1 52 = .ok (.ifCond .le 26, 3) := by decide +kernel
theorem d_S_renew_55 : decode M_S_renew.2.1 55 = .ok (.aload_n 0, 1) := by decide +kernel
theorem d_S_renew_56 : decode M_S_renew.2.1 56 = .ok (.iload_n 1, 1) := by decide +kernel
theorem d_S_renew_57 : decode M_S_renew.2.1 57 = .ok (.iload_n 2, 1) := by decide +kernel
theorem d_S_renew_58 : decode M_S_renew.2.1 58 = .ok (.iload_n 3, 1) := by decide +kernel
theorem d_S_renew_59 : decode M_S_renew.2.1 59 = .ok (.invokevirtual 251, 3) := by decide +kernel
theorem d_S_renew_62 : decode M_S_renew.2.1 62 = .ok (.bipush 8, 2) := by decide +kernel
theorem d_S_renew_64 : decode M_S_renew.2.1 64 = .ok (.if_icmp .ne 14, 3) := by decide +kernel
theorem d_S_renew_67 : decode M_S_renew.2.1 67 = .ok (.aload_n 0, 1) := by decide +kernel
theorem d_S_renew_68 : decode M_S_renew.2.1 68 = .ok (.iload_n 1, 1) := by decide +kernel
theorem d_S_renew_69 : decode M_S_renew.2.1 69 = .ok (.iload_n 2, 1) := by decide +kernel
theorem d_S_renew_70 : decode M_S_renew.2.1 70 = .ok (.iload 5, 2) := by decide +kernel
theorem d_S_renew_72 : decode M_S_renew.2.1 72 = .ok (.invokestatic 92, 3) := by decide +kernel
theorem d_S_renew_75 : decode M_S_renew.2.1 75 = .ok (.invokevirtual 255, 3) := by decide +kernel
theorem d_S_renew_78 : decode M_S_renew.2.1 78 = .ok (.return_, 1) := by decide +kernel
theorem d_S_repair_0 : decode M_S_repair.2.1 0 = .ok (.aload_n 0, 1) := by decide +kernel
theorem d_S_repair_1 : decode M_S_repair.2.1 1 = .ok (.getfield 10, 3) := by decide +kernel
theorem d_S_repair_4 : decode M_S_repair.2.1 4 = .ok (.aload_n 0, 1) := by decide +kernel
theorem d_S_repair_5 : decode M_S_repair.2.1 5 = .ok (.getfield 52, 3) := by decide +kernel
theorem d_S_repair_8 : decode M_S_repair.2.1 8 = .ok (.bipush 8, 2) := by decide +kernel
theorem d_S_repair_10 : decode M_S_repair.2.1 10 = .ok (.invokevirtual 234, 3) := by decide +kernel
theorem d_S_repair_13 : decode M_S_repair.2.1 13 = .ok (.iconst 0, 1) := by decide +kernel
theorem d_S_repair_14 : decode M_S_repair.2.1 14 = .ok (.istore 4, 2) := by decide +kernel
theorem d_S_repair_16 : decode M_S_repair.2.1 16 = .ok (.iload 4, 2) := by decide +kernel
theorem d_S_repair_18 : decode M_S_repair.2.1 18 = .ok (.iload_n 3, 1) := by decide +kernel
theorem d_S_repair_19 : decode M_S_repair.2.1 19 = .ok (.if_icmp .ge 126, 3) := by decide +kernel
theorem d_S_repair_22 : decode M_S_repair.2.1 22 = .ok (.iconst 0, 1) := by decide +kernel
theorem d_S_repair_23 : decode M_S_repair.2.1 23 = .ok (.istore 5, 2) := by decide +kernel
theorem d_S_repair_25 : decode M_S_repair.2.1 25 = .ok (.iload 5, 2) := by decide +kernel
theorem d_S_repair_27 : decode M_S_repair.2.1 27 = .ok (.bipush 8, 2) := by decide +kernel
theorem d_S_repair_29 : decode M_S_repair.2.1 29 = .ok (.if_icmp .ge 70, 3) := by decide +kernel
theorem d_S_repair_32 : decode M_S_repair.2.1 32 = .ok (.aload_n 0, 1) := by decide +kernel
theorem d_S_repair_33 : decode M_S_repair.2.1 33 = .ok (.getfield 18, 3) := by decide +kernel
theorem d_S_repair_36 : decode M_S_repair.2.1 36 = .ok (.aload_n 0, 1) := by decide +kernel
theorem d_S_repair_37 : decode M_S_repair.2.1 37 = .ok (.getfield 52, 3) := by decide +kernel
theorem d_S_repair_40 : decode M_S_repair.2.1 40 = .ok (.iload 5, 2) := by decide +kernel
theorem d_S_repair_42 : decode M_S_repair.2.1 42 = .ok (.iaload, 1) := by decide +kernel
theorem d_S_repair_43 : decode M_S_repair.2.1 43 = .ok (.aaload, 1) := by decide +kernel
theorem d_S_repair_44 : decode M_S_repair.2.1 44 = .ok (.astore 6, 2) := by decide +kernel
theorem d_S_repair_46 : decode M_S_repair.2.1 46 = .ok (.aload_n 0, 1) := by decide +kernel
theorem d_S_repair_47 : decode M_S_repair.2.1 47 = .ok (.getfield 55, 3) := by decide +kernel
theorem d_S_repair_50 : decode M_S_repair.2.1 50 = .ok (.iload 5, 2) := by decide +kernel
theorem d_S_repair_52 : decode M_S_repair.2.1 52 = .ok (.aload_n 0, 1) := by decide +kernel
theorem d_S_repair_53 : decode M_S_repair.2.1 53 = .ok (.aload 6, 2) := by decide +kernel
theorem d_S_repair_55 : decode M_S_repair.2.1 55 = .ok (.aload 6, 2) := by decide +kernel
theorem d_S_repair_57 : decode M_S_repair.2.1 57 = .ok (.getfield 173, 3) := by decide +kernel
theorem d_S_repair_60 : decode M_S_repair.2.1 60 = .ok (.iload_n 2, 1) := by decide +kernel
theorem d_S_repair_61 : decode M_S_repair.2.1 61 = .ok (.aaload, 1) := by decide +kernel
theorem d_S_repair_62 : decode M_S_repair.2.1 62 = .ok (.iload 4, 2) := by decide +kernel
theorem d_S_repair_64 : decode M_S_repair.2.1 64 = .ok (.invokevirtual 170, 3) := by decide +kernel
theorem d_S_repair_67 : decode M_S_repair.2.1 67 = .ok (.iload_n 1, 1) := by decide +kernel
theorem d_S_repair_68 : decode M_S_repair.2.1 68 = .ok (.invokevirtual 179, 3) := by decide +kernel
theorem d_S_repair_71 : decode M_S_repair.2.1 71 = .ok (.iastore, 1) := by decide +kernel
theorem d_S_repair_72 : decode M_S_repair.2.1 72 = .ok (.aload 6, 2) := by decide +kernel
theorem d_S_repair_74 : decode M_S_repair.2.1 74 = .ok (.dup, 1) := by decide +kernel
theorem d_S_repair_75 : decode M_S_repair.2.1 75 = .ok (.getfield 163, 3) := by decide +kernel
theorem d_S_repair_78 : decode M_S_repair.2.1 78 = .ok (.iconst 1, 1) := by decide +kernel
theorem d_S_repair_79 : decode M_S_repair.2.1 79 = .ok (.iadd, 1) := by decide +kernel
theorem d_S_repair_80 : decode M_S_repair.2.1 80 = .ok (.putfield 163, 3) := by decide +kernel
theorem d_S_repair_83 : decode M_S_repair.2.1 83 = .ok (.aload_n 0, 1) := by decide +kernel
theorem d_S_repair_84 : decode M_S_repair.2.1 84 = .ok (.dup, 1) := by decide +kernel
theorem d_S_repair_85 : decode M_S_repair.2.1 85 = .ok (.getfield 49, 3) := by decide +kernel
theorem d_S_repair_88 : decode M_S_repair.2.1 88 = .ok (.iconst 1, 1) := by decide +kernel
theorem d_S_repair_89 : decode M_S_repair.2.1 89 = .ok (.iadd, 1) := by decide +kernel
theorem d_S_repair_90 : decode M_S_repair.2.1 90 = .ok (.putfield 49, 3) := by decide +kernel
theorem d_S_repair_93 : decode M_S_repair.2.1 93 = .ok (.iinc 5 1, 3) := by decide +kernel
theorem d_S_repair_96 : decode M_S_repair.2.1 96 = .ok (.goto (-71), 3) := by decide +kernel
theorem d_S_repair_99 : decode M_S_repair.2.1 99 = .ok (.aload_n 0, 1) := by decide +kernel
theorem d_S_repair_100 : decode M_S_repair.2.1 100 = .ok (.getfield 10, 3) := by decide +kernel
theorem d_S_repair_103 : decode M_S_repair.2.1 103 = .ok (.aload_n 0, 1) := by decide +kernel
theorem d_S_repair_104 : decode M_S_repair.2.1 104 = .ok (.getfield 55, 3) := by decide +kernel
theorem d_S_repair_107 : decode M_S_repair.2.1 107 = .ok (.invokevirtual 258, 3) := by decide +kernel
theorem d_S_repair_110 : decode M_S_repair.2.1 110 = .ok (.aload_n 0, 1) := by decide +kernel
theorem d_S_repair_111 : decode M_S_repair.2.1 111 = .ok (.getfield 18, 3) := by decide +kernel
theorem d_S_repair_114 : decode M_S_repair.2.1 114 = .ok (.iload_n 1, 1) := by decide +kernel
theorem d_S_repair_115 : decode M_S_repair.2.1 115 = .ok (.aaload, 1) := by decide +kernel
theorem d_S_repair_116 : decode M_S_repair.2.1 116 = .ok (.aload_n 0, 1) := by decide +kernel
theorem d_S_repair_117 : decode M_S_repair.2.1 117 = .ok (.getfield 18, 3) := by decide +kernel
theorem d_S_repair_120 : decode M_S_repair.2.1 120 = .ok (.iload_n 1, 1) := by decide +kernel
theorem d_S_repair_121 : decode M_S_repair.2.1 121 = .ok (.aaload, 1) := by decide +kernel
theorem d_S_repair_122 : decode M_S_repair.2.1 122 = .ok (.getfield 173, 3) := by decide +kernel
theorem d_S_repair_125 : decode M_S_repair.2.1 125 = .ok (.iload_n 2, 1) := by decide +kernel
theorem d_S_repair_126 : decode M_S_repair.2.1 126 = .ok (.aaload, 1) := by decide +kernel
theorem d_S_repair_127 : decode M_S_repair.2.1 127 = .ok (.iload 4, 2) := by decide +kernel
theorem d_S_repair_129 : decode M_S_repair.2.1 129 = .ok (.invokevirtual 170, 3) := by decide +kernel
theorem d_S_repair_132 : decode M_S_repair.2.1 132 = .ok (.aload_n 0, 1) := by decide +kernel
theorem d_S_repair_133 : decode M_S_repair.2.1 133 = .ok (.getfield 55, 3) := by decide +kernel
theorem d_S_repair_136 : decode M_S_repair.2.1 136 = .ok (.invokevirtual 228, 3) := by decide +kernel
theorem d_S_repair_139 : decode M_S_repair.2.1 139 = .ok (.iinc 4 1, 3) := by decide +kernel
theorem d_S_repair_142 : decode M_S_repair.2.1 142 = .ok (.goto (-126), 3) := by decide +kernel
theorem d_S_repair_145 : decode M_S_repair.2.1 145 = .ok (.return_, 1) := by decide +kernel
theorem d_S_rowAt_0 : decode M_S_rowAt.2.1 0 = .ok (.iload_n 1, 1) := by decide +kernel
theorem d_S_rowAt_1 : decode M_S_rowAt.2.1 1 = .ok (.invokestatic 76, 3) := by decide +kernel
theorem d_S_rowAt_4 : decode M_S_rowAt.2.1 4 = .ok (.ifCond .eq 25, 3) := by decide +kernel
theorem d_S_rowAt_7 : decode M_S_rowAt.2.1 7 = .ok (.iload_n 2, 1) := by decide +kernel
theorem d_S_rowAt_8 : decode M_S_rowAt.2.1 8 = .ok (.ifCond .lt 21, 3) := by decide +kernel
theorem d_S_rowAt_11 : decode M_S_rowAt.2.1 11 = .ok (.iload_n 2, 1) := by decide +kernel
theorem d_S_rowAt_12 : decode M_S_rowAt.2.1 12 = .ok (.bipush 8, 2) := by decide +kernel
theorem d_S_rowAt_14 : decode M_S_rowAt.2.1 14 = .ok (.if_icmp .ge 15, 3) := by decide +kernel
theorem d_S_rowAt_17 : decode M_S_rowAt.2.1 17 = .ok (.aload_n 0, 1) := by decide +kernel
theorem d_S_rowAt_18 : decode M_S_rowAt.2.1 18 = .ok (.getfield 10, 3) := by decide +kernel
theorem d_S_rowAt_21 : decode M_S_rowAt.2.1 21 = .ok (.iload_n 1, 1) := by decide +kernel
theorem d_S_rowAt_22 : decode M_S_rowAt.2.1 22 = .ok (.iload_n 2, 1) := by decide +kernel
theorem d_S_rowAt_23 : decode M_S_rowAt.2.1 23 = .ok (.invokevirtual 79, 3) := by decide +kernel
theorem d_S_rowAt_26 : decode M_S_rowAt.2.1 26 = .ok (.goto 5, 3) := by decide +kernel
theorem d_S_rowAt_29 : decode M_S_rowAt.2.1 29 = .ok (.bipush (-2), 2) := by decide +kernel
theorem d_S_rowAt_31 : decode M_S_rowAt.2.1 31 = .ok (.ireturn, 1) := by decide +kernel
theorem d_S_sendFlips_0 : decode M_S_sendFlips.2.1 0 = .ok (.iload_n 2, 1) := by decide +kernel
theorem d_S_sendFlips_1 : decode M_S_sendFlips.2.1 1 = .ok (.istore_n 3, 1) := by decide +kernel
theorem d_S_sendFlips_2 : decode M_S_sendFlips.2.1 2 = .ok (.iconst 0, 1) := by decide +kernel
theorem d_S_sendFlips_3 : decode M_S_sendFlips.2.1 3 = .ok (.istore 4, 2) := by decide +kernel
theorem d_S_sendFlips_5 : decode M_S_sendFlips.2.1 5 = .ok (.iload 4, 2) := by decide +kernel
theorem d_S_sendFlips_7 : decode M_S_sendFlips.2.1 7 = .ok (.bipush 12, 2) := by decide +kernel
theorem d_S_sendFlips_9 : decode M_S_sendFlips.2.1 9 = .ok (.if_icmp .ge 40, 3) := by decide +kernel
theorem d_S_sendFlips_12 : decode M_S_sendFlips.2.1 12 = .ok (.iload_n 3, 1) := by decide +kernel
theorem d_S_sendFlips_13 : decode M_S_sendFlips.2.1 13 = .ok (.ifCond .le 36, 3) := by decide +kernel
theorem d_S_sendFlips_16 : decode M_S_sendFlips.2.1 16 = .ok (.aload_n 0, 1) := by decide +kernel
theorem d_S_sendFlips_17 : decode M_S_sendFlips.2.1 17 = .ok (.getfield 18, 3) := by decide +kernel
theorem d_S_sendFlips_20 : decode M_S_sendFlips.2.1 20 = .ok (.iload 4, 2) := by decide +kernel
theorem d_S_sendFlips_22 : decode M_S_sendFlips.2.1 22 = .ok (.aaload, 1) := by decide +kernel
theorem d_S_sendFlips_23 : decode M_S_sendFlips.2.1 23 = .ok (.getfield 103, 3) := by decide +kernel
theorem d_S_sendFlips_26 : decode M_S_sendFlips.2.1 26 = .ok (.ifCond .eq 17, 3) := by decide +kernel
theorem d_S_sendFlips_29 : decode M_S_sendFlips.2.1 29 = .ok (.aload_n 0, 1) := by decide +kernel
theorem d_S_sendFlips_30 : decode M_S_sendFlips.2.1 30 = .ok (.getfield 18, 3) := by decide +kernel
theorem d_S_sendFlips_33 : decode M_S_sendFlips.2.1 33 = .ok (.iload 4, 2) := by decide +kernel
theorem d_S_sendFlips_35 : decode M_S_sendFlips.2.1 35 = .ok (.aaload, 1) := by decide +kernel
theorem d_S_sendFlips_36 : decode M_S_sendFlips.2.1 36 = .ok (.iload_n 1, 1) := by decide +kernel
theorem d_S_sendFlips_37 : decode M_S_sendFlips.2.1 37 = .ok (.invokevirtual 116, 3) := by decide +kernel
theorem d_S_sendFlips_40 : decode M_S_sendFlips.2.1 40 = .ok (.iinc 3 (-1), 3) := by decide +kernel
theorem d_S_sendFlips_43 : decode M_S_sendFlips.2.1 43 = .ok (.iinc 4 1, 3) := by decide +kernel
theorem d_S_sendFlips_46 : decode M_S_sendFlips.2.1 46 = .ok (.goto (-41), 3) := by decide +kernel
theorem d_S_sendFlips_49 : decode M_S_sendFlips.2.1 49 = .ok (.return_, 1) := by decide +kernel
theorem d_S_sendShadows_0 : decode M_S_sendShadows.2.1 0 = .ok (.iload_n 3, 1) := by decide +kernel
theorem d_S_sendShadows_1 : decode M_S_sendShadows.2.1 1 = .ok (.istore 4, 2) := by decide +kernel
theorem d_S_sendShadows_3 : decode M_S_sendShadows.2.1 3 = .ok (.iconst 0, 1) := by decide +kernel
theorem d_S_sendShadows_4 : decode M_S_sendShadows.2.1 4 = .ok (.istore 5, 2) := by decide +kernel
theorem d_S_sendShadows_6 : decode M_S_sendShadows.2.1 6 = .ok (.iload 5, 2) := by decide +kernel
theorem d_S_sendShadows_8 : decode M_S_sendShadows.2.1 8 = .ok (.bipush 12, 2) := by decide +kernel
theorem d_S_sendShadows_10 : decode M_S_sendShadows.2.1 10 = .ok (.if_icmp .ge 59, 3) := by decide +kernel
theorem d_S_sendShadows_13 : decode M_S_sendShadows.2.1 13 = .ok (.iload 4, 2) := by decide +kernel
theorem d_S_sendShadows_15 : decode M_S_sendShadows.2.1 15 = .ok (.ifCond .le 54, 3) := by decide +kernel
theorem d_S_sendShadows_18 : decode M_S_sendShadows.2.1 18 = .ok (.aload_n 0, 1) := by decide +kernel
theorem d_S_sendShadows_19 : decode M_S_sendShadows.2.1 19 = .ok (.getfield 18, 3) := by decide +kernel
theorem d_S_sendShadows_22 : decode M_S_sendShadows.2.1 22 = .ok (.iload 5, 2) := by decide +kernel
theorem d_S_sendShadows_24 : decode M_S_sendShadows.2.1 24 = .ok (.aaload, 1) := by decide +kernel
theorem d_S_sendShadows_25 : decode M_S_sendShadows.2.1 25 = .ok (.getfield 103, 3) := by decide +kernel
theorem d_S_sendShadows_28 : decode M_S_sendShadows.2.1 28 = .ok (.ifCond .eq 35, 3) := by decide +kernel
theorem d_S_sendShadows_31 : decode M_S_sendShadows.2.1 31 = .ok (.aload_n 0, 1) := by decide +kernel
theorem d_S_sendShadows_32 : decode M_S_sendShadows.2.1 32 = .ok (.getfield 18, 3) := by decide +kernel
theorem d_S_sendShadows_35 : decode M_S_sendShadows.2.1 35 = .ok (.iload 5, 2) := by decide +kernel
theorem d_S_sendShadows_37 : decode M_S_sendShadows.2.1 37 = .ok (.aaload, 1) := by decide +kernel
theorem d_S_sendShadows_38 : decode M_S_sendShadows.2.1 38 = .ok (.aload_n 0, 1) := by decide +kernel
theorem d_S_sendShadows_39 : decode M_S_sendShadows.2.1 39 = .ok (.getfield 18, 3) := by decide +kernel
theorem d_S_sendShadows_42 : decode M_S_sendShadows.2.1 42 = .ok (.iload 5, 2) := by decide +kernel
theorem d_S_sendShadows_44 : decode M_S_sendShadows.2.1 44 = .ok (.aaload, 1) := by decide +kernel
theorem d_S_sendShadows_45 : decode M_S_sendShadows.2.1 45 = .ok (.getfield 107, 3) := by decide +kernel
theorem d_S_sendShadows_48 : decode M_S_sendShadows.2.1 48 = .ok (.iload_n 1, 1) := by decide +kernel
theorem d_S_sendShadows_49 : decode M_S_sendShadows.2.1 49 = .ok (.aaload, 1) := by decide +kernel
theorem d_S_sendShadows_50 : decode M_S_sendShadows.2.1 50 = .ok (.aload_n 0, 1) := by decide +kernel
theorem d_S_sendShadows_51 : decode M_S_sendShadows.2.1 51 = .ok (.getfield 22, 3) := by decide +kernel
theorem d_S_sendShadows_54 : decode M_S_sendShadows.2.1 54 = .ok (.iload_n 1, 1) := by decide +kernel
theorem d_S_sendShadows_55 : decode M_S_sendShadows.2.1 55 = .ok (.iaload, 1) := by decide +kernel
theorem d_S_sendShadows_56 : decode M_S_sendShadows.2.1 56 = .ok (.iload_n 2, 1) := by decide +kernel
theorem d_S_sendShadows_57 : decode M_S_sendShadows.2.1 57 = .ok (.invokevirtual 213, 3) := by decide +kernel
theorem d_S_sendShadows_60 : decode M_S_sendShadows.2.1 60 = .ok (.iinc 4 (-1), 3) := by decide +kernel
theorem d_S_sendShadows_63 : decode M_S_sendShadows.2.1 63 = .ok (.iinc 5 1, 3) := by decide +kernel
theorem d_S_sendShadows_66 : decode M_S_sendShadows.2.1 66 = .ok (.goto (-60), 3) := by decide +kernel
theorem d_S_sendShadows_69 : decode M_S_sendShadows.2.1 69 = .ok (.iconst 0, 1) := by decide +kernel
theorem d_S_sendShadows_70 : decode M_S_sendShadows.2.1 70 = .ok (.istore 5, 2) := by decide +kernel
theorem d_S_sendShadows_72 : decode M_S_sendShadows.2.1 72 = .ok (.iload 5, 2) := by decide +kernel
theorem d_S_sendShadows_74 : decode M_S_sendShadows.2.1 74 = .ok (.iload_n 2, 1) := by decide +kernel
theorem d_S_sendShadows_75 : decode M_S_sendShadows.2.1 75 = .ok (.invokestatic 92, 3) := by decide +kernel
theorem d_S_sendShadows_78 : decode M_S_sendShadows.2.1 78 = .ok (.if_icmp .ge 33, 3) := by decide +kernel
theorem d_S_sendShadows_81 : decode M_S_sendShadows.2.1 81 = .ok (.aload_n 0, 1) := by decide +kernel
theorem d_S_sendShadows_82 : decode M_S_sendShadows.2.1 82 = .ok (.getfield 10, 3) := by decide +kernel
theorem d_S_sendShadows_85 : decode M_S_sendShadows.2.1 85 = .ok (.aload_n 0, 1) := by decide +kernel
theorem d_S_sendShadows_86 : decode M_S_sendShadows.2.1 86 = .ok (.getfield 30, 3) := by decide +kernel
theorem d_S_sendShadows_89 : decode M_S_sendShadows.2.1 89 = .ok (.iload 5, 2) := by decide +kernel
theorem d_S_sendShadows_91 : decode M_S_sendShadows.2.1 91 = .ok (.bipush 30, 2) := by decide +kernel
theorem d_S_sendShadows_93 : decode M_S_sendShadows.2.1 93 = .ok (.imul, 1) := by decide +kernel
theorem d_S_sendShadows_94 : decode M_S_sendShadows.2.1 94 = .ok (.iload_n 2, 1) := by decide +kernel
theorem d_S_sendShadows_95 : decode M_S_sendShadows.2.1 95 = .ok (.invokevirtual 217, 3) := by decide +kernel
theorem d_S_sendShadows_98 : decode M_S_sendShadows.2.1 98 = .ok (.aload_n 0, 1) := by decide +kernel
theorem d_S_sendShadows_99 : decode M_S_sendShadows.2.1 99 = .ok (.iload_n 1, 1) := by decide +kernel
theorem d_S_sendShadows_100 : decode M_S_sendShadows.2.1 100 = .ok (.iload 5, 2) := by decide +kernel
theorem d_S_sendShadows_102 : decode M_S_sendShadows.2.1 102 = .ok (.invokevirtual 221, 3) := by decide +kernel
theorem d_S_sendShadows_105 : decode M_S_sendShadows.2.1 105 = .ok (.iinc 5 1, 3) := by decide +kernel
theorem d_S_sendShadows_108 : decode M_S_sendShadows.2.1 108 = .ok (.goto (-36), 3) := by decide +kernel
theorem d_S_sendShadows_111 : decode M_S_sendShadows.2.1 111 = .ok (.return_, 1) := by decide +kernel
theorem d_S_sent_0 : decode M_S_sent.2.1 0 = .ok (.iload_n 1, 1) := by decide +kernel
theorem d_S_sent_1 : decode M_S_sent.2.1 1 = .ok (.invokestatic 76, 3) := by decide +kernel
theorem d_S_sent_4 : decode M_S_sent.2.1 4 = .ok (.ifCond .eq 15, 3) := by decide +kernel
theorem d_S_sent_7 : decode M_S_sent.2.1 7 = .ok (.aload_n 0, 1) := by decide +kernel
theorem d_S_sent_8 : decode M_S_sent.2.1 8 = .ok (.getfield 18, 3) := by decide +kernel
theorem d_S_sent_11 : decode M_S_sent.2.1 11 = .ok (.iload_n 1, 1) := by decide +kernel
theorem d_S_sent_12 : decode M_S_sent.2.1 12 = .ok (.aaload, 1) := by decide +kernel
theorem d_S_sent_13 : decode M_S_sent.2.1 13 = .ok (.getfield 163, 3) := by decide +kernel
theorem d_S_sent_16 : decode M_S_sent.2.1 16 = .ok (.goto 5, 3) := by decide +kernel
theorem d_S_sent_19 : decode M_S_sent.2.1 19 = .ok (.bipush (-2), 2) := by decide +kernel
theorem d_S_sent_21 : decode M_S_sent.2.1 21 = .ok (.ireturn, 1) := by decide +kernel
theorem d_S_settle_0 : decode M_S_settle.2.1 0 = .ok (.iload_n 1, 1) := by decide +kernel
theorem d_S_settle_1 : decode M_S_settle.2.1 1 = .ok (.invokestatic 82, 3) := by decide +kernel
theorem d_S_settle_4 : decode M_S_settle.2.1 4 = .ok (.ifCond .ne 6, 3) := by decide +kernel
theorem d_S_settle_7 : decode M_S_settle.2.1 7 = .ok (.bipush (-2), 2) := by decide +kernel
theorem d_S_settle_9 : decode M_S_settle.2.1 9 = .ok (.ireturn, 1) := by decide +kernel
theorem d_S_settle_10 : decode M_S_settle.2.1 10 = .ok (.aload_n 0, 1) := by decide +kernel
theorem d_S_settle_11 : decode M_S_settle.2.1 11 = .ok (.getfield 26, 3) := by decide +kernel
theorem d_S_settle_14 : decode M_S_settle.2.1 14 = .ok (.iload_n 1, 1) := by decide +kernel
theorem d_S_settle_15 : decode M_S_settle.2.1 15 = .ok (.baload, 1) := by decide +kernel
theorem d_S_settle_16 : decode M_S_settle.2.1 16 = .ok (.ifCond .ne 6, 3) := by decide +kernel
theorem d_S_settle_19 : decode M_S_settle.2.1 19 = .ok (.bipush (-3), 2) := by decide +kernel
theorem d_S_settle_21 : decode M_S_settle.2.1 21 = .ok (.ireturn, 1) := by decide +kernel
theorem d_S_settle_22 : decode M_S_settle.2.1 22 = .ok (.aload_n 0, 1) := by decide +kernel
theorem d_S_settle_23 : decode M_S_settle.2.1 23 = .ok (.iload_n 1, 1) := by decide +kernel
theorem d_S_settle_24 : decode M_S_settle.2.1 24 = .ok (.aload_n 0, 1) := by decide +kernel
theorem d_S_settle_25 : decode M_S_settle.2.1 25 = .ok (.getfield 22, 3) := by decide +kernel
theorem d_S_settle_28 : decode M_S_settle.2.1 28 = .ok (.iload_n 1, 1) := by decide +kernel
theorem d_S_settle_29 : decode M_S_settle.2.1 29 = .ok (.iaload, 1) := by decide +kernel
theorem d_S_settle_30 : decode M_S_settle.2.1 30 = .ok (.invokevirtual 99, 3) := by decide +kernel
theorem d_S_settle_33 : decode M_S_settle.2.1 33 = .ok (.istore_n 2, 1) := by decide +kernel
theorem d_S_settle_34 : decode M_S_settle.2.1 34 = .ok (.iconst 0, 1) := by decide +kernel
theorem d_S_settle_35 : decode M_S_settle.2.1 35 = .ok (.istore_n 3, 1) := by decide +kernel
theorem d_S_settle_36 : decode M_S_settle.2.1 36 = .ok (.iload_n 3, 1) := by decide +kernel
theorem d_S_settle_37 : decode M_S_settle.2.1 37 = .ok (.bipush 12, 2) := by decide +kernel
theorem d_S_settle_39 : decode M_S_settle.2.1 39 = .ok (.if_icmp .ge 69, 3) := by decide +kernel
theorem d_S_settle_42 : decode M_S_settle.2.1 42 = .ok (.aload_n 0, 1) := by decide +kernel
theorem d_S_settle_43 : decode M_S_settle.2.1 43 = .ok (.getfield 18, 3) := by decide +kernel
theorem d_S_settle_46 : decode M_S_settle.2.1 46 = .ok (.iload_n 3, 1) := by decide +kernel
theorem d_S_settle_47 : decode M_S_settle.2.1 47 = .ok (.aaload, 1) := by decide +kernel
theorem d_S_settle_48 : decode M_S_settle.2.1 48 = .ok (.astore 4, 2) := by decide +kernel
theorem d_S_settle_50 : decode M_S_settle.2.1 50 = .ok (.aload 4, 2) := by decide +kernel
theorem d_S_settle_52 : decode M_S_settle.2.1 52 = .ok (.getfield 103, 3) := by decide +kernel
theorem d_S_settle_55 : decode M_S_settle.2.1 55 = .ok (.ifCond .eq 47, 3) := by decide +kernel
theorem d_S_settle_58 : decode M_S_settle.2.1 58 = .ok (.aload 4, 2) := by decide +kernel
theorem d_S_settle_60 : decode M_S_settle.2.1 60 = .ok (.getfield 107, 3) := by decide +kernel
theorem d_S_settle_63 : decode M_S_settle.2.1 63 = .ok (.iload_n 1, 1) := by decide +kernel
theorem d_S_settle_64 : decode M_S_settle.2.1 64 = .ok (.aaload, 1) := by decide +kernel
theorem d_S_settle_65 : decode M_S_settle.2.1 65 = .ok (.getfield 111, 3) := by decide +kernel
theorem d_S_settle_68 : decode M_S_settle.2.1 68 = .ok (.aload_n 0, 1) := by decide +kernel
theorem d_S_settle_69 : decode M_S_settle.2.1 69 = .ok (.getfield 22, 3) := by decide +kernel
theorem d_S_settle_72 : decode M_S_settle.2.1 72 = .ok (.iload_n 1, 1) := by decide +kernel
theorem d_S_settle_73 : decode M_S_settle.2.1 73 = .ok (.iaload, 1) := by decide +kernel
theorem d_S_settle_74 : decode M_S_settle.2.1 74 = .ok (.if_icmp .ne 28, 3) := by decide +kernel
theorem d_S_settle_77 : decode M_S_settle.2.1 77 = .ok (.iload_n 2, 1) := by decide +kernel
theorem d_S_settle_78 : decode M_S_settle.2.1 78 = .ok (.ifCond .eq 12, 3) := by decide +kernel
theorem d_S_settle_81 : decode M_S_settle.2.1 81 = .ok (.aload 4, 2) := by decide +kernel
theorem d_S_settle_83 : decode M_S_settle.2.1 83 = .ok (.iload_n 1, 1) := by decide +kernel
theorem d_S_settle_84 : decode M_S_settle.2.1 84 = .ok (.invokevirtual 116, 3) := by decide +kernel
theorem d_S_settle_87 : decode M_S_settle.2.1 87 = .ok (.goto 15, 3) := by decide +kernel
theorem d_S_settle_90 : decode M_S_settle.2.1 90 = .ok (.aload 4, 2) := by decide +kernel
theorem d_S_settle_92 : decode M_S_settle.2.1 92 = .ok (.aload 4, 2) := by decide +kernel
theorem d_S_settle_94 : decode M_S_settle.2.1 94 = .ok (.getfield 107, 3) := by decide +kernel
theorem d_S_settle_97 : decode M_S_settle.2.1 97 = .ok (.iload_n 1, 1) := by decide +kernel
theorem d_S_settle_98 : decode M_S_settle.2.1 98 = .ok (.aaload, 1) := by decide +kernel
theorem d_S_settle_99 : decode M_S_settle.2.1 99 = .ok (.invokevirtual 120, 3) := by decide +kernel
theorem d_S_settle_102 : decode M_S_settle.2.1 102 = .ok (.iinc 3 1, 3) := by decide +kernel
theorem d_S_settle_105 : decode M_S_settle.2.1 105 = .ok (.goto (-69), 3) := by decide +kernel
theorem d_S_settle_108 : decode M_S_settle.2.1 108 = .ok (.aload_n 0, 1) := by decide +kernel
theorem d_S_settle_109 : decode M_S_settle.2.1 109 = .ok (.getfield 26, 3) := by decide +kernel
theorem d_S_settle_112 : decode M_S_settle.2.1 112 = .ok (.iload_n 1, 1) := by decide +kernel
theorem d_S_settle_113 : decode M_S_settle.2.1 113 = .ok (.iconst 0, 1) := by decide +kernel
theorem d_S_settle_114 : decode M_S_settle.2.1 114 = .ok (.bastore, 1) := by decide +kernel
theorem d_S_settle_115 : decode M_S_settle.2.1 115 = .ok (.iload_n 2, 1) := by decide +kernel
theorem d_S_settle_116 : decode M_S_settle.2.1 116 = .ok (.ifCond .eq 7, 3) := by decide +kernel
theorem d_S_settle_119 : decode M_S_settle.2.1 119 = .ok (.iconst 1, 1) := by decide +kernel
theorem d_S_settle_120 : decode M_S_settle.2.1 120 = .ok (.goto 4, 3) := by decide +kernel
theorem d_S_settle_123 : decode M_S_settle.2.1 123 = .ok (.iconst 0, 1) := by decide +kernel
theorem d_S_settle_124 : decode M_S_settle.2.1 124 = .ok (.ireturn, 1) := by decide +kernel
theorem d_S_someNodeRecords_0 : decode M_S_someNodeRecords.2.1 0 = .ok (.iconst 0, 1) := by decide +kernel
theorem d_S_someNodeRecords_1 : decode M_S_someNodeRecords.2.1 1 = .ok (.istore_n 3, 1) := by decide +kernel
theorem d_S_someNodeRecords_2 : decode M_S_someNodeRecords.2.1 2 = .ok (.iload_n 3, 1) := by decide +kernel
theorem d_S_someNodeRecords_3 : decode M_S_someNodeRecords.2.1 3 = .ok (.bipush 12, 2) := by decide +kernel
theorem d_S_someNodeRecords_5 : decode M_S_someNodeRecords.2.1 5 = .ok (.if_icmp .ge 29, 3) := by decide +kernel
theorem d_S_someNodeRecords_8 : decode M_S_someNodeRecords.2.1 8 = .ok (.aload_n 0, 1) := by decide +kernel
theorem d_S_someNodeRecords_9 : decode M_S_someNodeRecords.2.1 9 = .ok (.getfield 18, 3) := by decide +kernel
theorem d_S_someNodeRecords_12 : decode M_S_someNodeRecords.2.1 12 = .ok (.iload_n 3, 1) := by decide +kernel
theorem d_S_someNodeRecords_13 : decode M_S_someNodeRecords.2.1 13 = .ok (.aaload, 1) := by decide +kernel
theorem d_S_someNodeRecords_14 : decode M_S_someNodeRecords.2.1 14 = .ok (.getfield 173, 3) := by decide +kernel
theorem d_S_someNodeRecords_17 : decode M_S_someNodeRecords.2.1 17 = .ok (.iload_n 1, 1) := by decide +kernel
theorem d_S_someNodeRecords_18 : decode M_S_someNodeRecords.2.1 18 = .ok (.aaload, 1) := by decide +kernel
theorem d_S_someNodeRecords_19 : decode M_S_someNodeRecords.2.1 19 = .ok (.getfield 111, 3) := by decide +kernel
theorem d_S_someNodeRecords_22 : decode M_S_someNodeRecords.2.1 22 = .ok (.iload_n 2, 1) := by decide +kernel
theorem d_S_someNodeRecords_23 : decode M_S_someNodeRecords.2.1 23 = .ok (.if_icmp .ne 5, 3) := by decide +kernel
theorem d_S_someNodeRecords_26 : decode M_S_someNodeRecords.2.1 26 = .ok (.iconst 1, 1) := by decide +kernel
theorem d_S_someNodeRecords_27 : decode M_S_someNodeRecords.2.1 27 = .ok (.ireturn, 1) := by decide +kernel
theorem d_S_someNodeRecords_28 : decode M_S_someNodeRecords.2.1 28 = .ok (.iinc 3 1, 3) := by decide +kernel
theorem d_S_someNodeRecords_31 : decode M_S_someNodeRecords.2.1 31 = .ok (.goto (-29), 3) := by decide +kernel
theorem d_S_someNodeRecords_34 : decode M_S_someNodeRecords.2.1 34 = .ok (.iconst 0, 1) := by decide +kernel
theorem d_S_someNodeRecords_35 : decode M_S_someNodeRecords.2.1 35 = .ok (.ireturn, 1) := by decide +kernel
theorem d_S_stripesOf_0 : decode M_S_stripesOf.2.1 0 = .ok (.iload_n 0, 1) := by decide +kernel
theorem d_S_stripesOf_1 : decode M_S_stripesOf.2.1 1 = .ok (.bipush 30, 2) := by decide +kernel
theorem d_S_stripesOf_3 : decode M_S_stripesOf.2.1 3 = .ok (.iadd, 1) := by decide +kernel
theorem d_S_stripesOf_4 : decode M_S_stripesOf.2.1 4 = .ok (.iconst 1, 1) := by decide +kernel
theorem d_S_stripesOf_5 : decode M_S_stripesOf.2.1 5 = .ok (.isub, 1) := by decide +kernel
theorem d_S_stripesOf_6 : decode M_S_stripesOf.2.1 6 = .ok (.bipush 30, 2) := by decide +kernel
theorem d_S_stripesOf_8 : decode M_S_stripesOf.2.1 8 = .ok (.idiv, 1) := by decide +kernel
theorem d_S_stripesOf_9 : decode M_S_stripesOf.2.1 9 = .ok (.ireturn, 1) := by decide +kernel
theorem d_S_symbol_0 : decode M_S_symbol.2.1 0 = .ok (.iload_n 1, 1) := by decide +kernel
theorem d_S_symbol_1 : decode M_S_symbol.2.1 1 = .ok (.invokestatic 76, 3) := by decide +kernel
theorem d_S_symbol_4 : decode M_S_symbol.2.1 4 = .ok (.ifCond .eq 17, 3) := by decide +kernel
theorem d_S_symbol_7 : decode M_S_symbol.2.1 7 = .ok (.iload_n 2, 1) := by decide +kernel
theorem d_S_symbol_8 : decode M_S_symbol.2.1 8 = .ok (.invokestatic 76, 3) := by decide +kernel
theorem d_S_symbol_11 : decode M_S_symbol.2.1 11 = .ok (.ifCond .eq 10, 3) := by decide +kernel
theorem d_S_symbol_14 : decode M_S_symbol.2.1 14 = .ok (.iload_n 3, 1) := by decide +kernel
theorem d_S_symbol_15 : decode M_S_symbol.2.1 15 = .ok (.invokestatic 82, 3) := by decide +kernel
theorem d_S_symbol_18 : decode M_S_symbol.2.1 18 = .ok (.ifCond .ne 6, 3) := by decide +kernel
theorem d_S_symbol_21 : decode M_S_symbol.2.1 21 = .ok (.bipush (-2), 2) := by decide +kernel
theorem d_S_symbol_23 : decode M_S_symbol.2.1 23 = .ok (.ireturn, 1) := by decide +kernel
theorem d_S_symbol_24 : decode M_S_symbol.2.1 24 = .ok (.aload_n 0, 1) := by decide +kernel
theorem d_S_symbol_25 : decode M_S_symbol.2.1 25 = .ok (.getfield 18, 3) := by decide +kernel
theorem d_S_symbol_28 : decode M_S_symbol.2.1 28 = .ok (.iload_n 1, 1) := by decide +kernel
theorem d_S_symbol_29 : decode M_S_symbol.2.1 29 = .ok (.aaload, 1) := by decide +kernel
theorem d_S_symbol_30 : decode M_S_symbol.2.1 30 = .ok (.getfield 173, 3) := by decide +kernel
theorem d_S_symbol_33 : decode M_S_symbol.2.1 33 = .ok (.iload_n 3, 1) := by decide +kernel
theorem d_S_symbol_34 : decode M_S_symbol.2.1 34 = .ok (.aaload, 1) := by decide +kernel
theorem d_S_symbol_35 : decode M_S_symbol.2.1 35 = .ok (.iload 4, 2) := by decide +kernel
theorem d_S_symbol_37 : decode M_S_symbol.2.1 37 = .ok (.invokevirtual 170, 3) := by decide +kernel
theorem d_S_symbol_40 : decode M_S_symbol.2.1 40 = .ok (.istore 5, 2) := by decide +kernel
theorem d_S_symbol_42 : decode M_S_symbol.2.1 42 = .ok (.iload 5, 2) := by decide +kernel
theorem d_S_symbol_44 : decode M_S_symbol.2.1 44 = .ok (.iconst (-1), 1) := by decide +kernel
theorem d_S_symbol_45 : decode M_S_symbol.2.1 45 = .ok (.if_icmp .ne 7, 3) := by decide +kernel
theorem d_S_symbol_48 : decode M_S_symbol.2.1 48 = .ok (.iconst (-1), 1) := by decide +kernel
theorem d_S_symbol_49 : decode M_S_symbol.2.1 49 = .ok (.goto 16, 3) := by decide +kernel
theorem d_S_symbol_52 : decode M_S_symbol.2.1 52 = .ok (.aload_n 0, 1) := by decide +kernel
theorem d_S_symbol_53 : decode M_S_symbol.2.1 53 = .ok (.aload_n 0, 1) := by decide +kernel
theorem d_S_symbol_54 : decode M_S_symbol.2.1 54 = .ok (.getfield 18, 3) := by decide +kernel
theorem d_S_symbol_57 : decode M_S_symbol.2.1 57 = .ok (.iload_n 1, 1) := by decide +kernel
theorem d_S_symbol_58 : decode M_S_symbol.2.1 58 = .ok (.aaload, 1) := by decide +kernel
theorem d_S_symbol_59 : decode M_S_symbol.2.1 59 = .ok (.iload 5, 2) := by decide +kernel
theorem d_S_symbol_61 : decode M_S_symbol.2.1 61 = .ok (.iload_n 2, 1) := by decide +kernel
theorem d_S_symbol_62 : decode M_S_symbol.2.1 62 = .ok (.invokevirtual 179, 3) := by decide +kernel
theorem d_S_symbol_65 : decode M_S_symbol.2.1 65 = .ok (.ireturn, 1) := by decide +kernel
theorem d_S_symbolFrom_0 : decode M_S_symbolFrom.2.1 0 = .ok (.iconst 0, 1) := by decide +kernel
theorem d_S_symbolFrom_1 : decode M_S_symbolFrom.2.1 1 = .ok (.istore 4, 2) := by decide +kernel
theorem d_S_symbolFrom_3 : decode M_S_symbolFrom.2.1 3 = .ok (.iconst 0, 1) := by decide +kernel
theorem d_S_symbolFrom_4 : decode M_S_symbolFrom.2.1 4 = .ok (.istore 5, 2) := by decide +kernel
theorem d_S_symbolFrom_6 : decode M_S_symbolFrom.2.1 6 = .ok (.iload 5, 2) := by decide +kernel
theorem d_S_symbolFrom_8 : decode M_S_symbolFrom.2.1 8 = .ok (.bipush 8, 2) := by decide +kernel
theorem d_S_symbolFrom_10 : decode M_S_symbolFrom.2.1 10 = .ok (.if_icmp .ge 41, 3) := by decide +kernel
theorem d_S_symbolFrom_13 : decode M_S_symbolFrom.2.1 13 = .ok (.iload 4, 2) := by decide +kernel
theorem d_S_symbolFrom_15 : decode M_S_symbolFrom.2.1 15 = .ok (.aload_n 0, 1) := by decide +kernel
theorem d_S_symbolFrom_16 : decode M_S_symbolFrom.2.1 16 = .ok (.getfield 10, 3) := by decide +kernel
theorem d_S_symbolFrom_19 : decode M_S_symbolFrom.2.1 19 = .ok (.getfield 63, 3) := by decide +kernel
theorem d_S_symbolFrom_22 : decode M_S_symbolFrom.2.1 22 = .ok (.aload_n 1, 1) := by decide +kernel
theorem d_S_symbolFrom_23 : decode M_S_symbolFrom.2.1 23 = .ok (.iload_n 2, 1) := by decide +kernel
theorem d_S_symbolFrom_24 : decode M_S_symbolFrom.2.1 24 = .ok (.iload 5, 2) := by decide +kernel
theorem d_S_symbolFrom_26 : decode M_S_symbolFrom.2.1 26 = .ok (.invokevirtual 176, 3) := by decide +kernel
theorem d_S_symbolFrom_29 : decode M_S_symbolFrom.2.1 29 = .ok (.aload_n 0, 1) := by decide +kernel
theorem d_S_symbolFrom_30 : decode M_S_symbolFrom.2.1 30 = .ok (.getfield 10, 3) := by decide +kernel
theorem d_S_symbolFrom_33 : decode M_S_symbolFrom.2.1 33 = .ok (.iload_n 3, 1) := by decide +kernel
theorem d_S_symbolFrom_34 : decode M_S_symbolFrom.2.1 34 = .ok (.iload 5, 2) := by decide +kernel
theorem d_S_symbolFrom_36 : decode M_S_symbolFrom.2.1 36 = .ok (.invokevirtual 79, 3) := by decide +kernel
theorem d_S_symbolFrom_39 : decode M_S_symbolFrom.2.1 39 = .ok (.invokevirtual 67, 3) := by decide +kernel
theorem d_S_symbolFrom_42 : decode M_S_symbolFrom.2.1 42 = .ok (.ixor, 1) := by decide +kernel
theorem d_S_symbolFrom_43 : decode M_S_symbolFrom.2.1 43 = .ok (.istore 4, 2) := by decide +kernel
theorem d_S_symbolFrom_45 : decode M_S_symbolFrom.2.1 45 = .ok (.iinc 5 1, 3) := by decide +kernel
theorem d_S_symbolFrom_48 : decode M_S_symbolFrom.2.1 48 = .ok (.goto (-42), 3) := by decide +kernel
theorem d_S_symbolFrom_51 : decode M_S_symbolFrom.2.1 51 = .ok (.iload 4, 2) := by decide +kernel
theorem d_S_symbolFrom_53 : decode M_S_symbolFrom.2.1 53 = .ok (.ireturn, 1) := by decide +kernel
theorem d_S_times_0 : decode M_S_times.2.1 0 = .ok (.iload_n 1, 1) := by decide +kernel
theorem d_S_times_1 : decode M_S_times.2.1 1 = .ok (.invokestatic 59, 3) := by decide +kernel
theorem d_S_times_4 : decode M_S_times.2.1 4 = .ok (.ifCond .eq 25, 3) := by decide +kernel
theorem d_S_times_7 : decode M_S_times.2.1 7 = .ok (.iload_n 2, 1) := by decide +kernel
theorem d_S_times_8 : decode M_S_times.2.1 8 = .ok (.invokestatic 59, 3) := by decide +kernel
theorem d_S_times_11 : decode M_S_times.2.1 11 = .ok (.ifCond .eq 18, 3) := by decide +kernel
theorem d_S_times_14 : decode M_S_times.2.1 14 = .ok (.aload_n 0, 1) := by decide +kernel
theorem d_S_times_15 : decode M_S_times.2.1 15 = .ok (.getfield 10, 3) := by decide +kernel
theorem d_S_times_18 : decode M_S_times.2.1 18 = .ok (.getfield 63, 3) := by decide +kernel
theorem d_S_times_21 : decode M_S_times.2.1 21 = .ok (.iload_n 1, 1) := by decide +kernel
theorem d_S_times_22 : decode M_S_times.2.1 22 = .ok (.iload_n 2, 1) := by decide +kernel
theorem d_S_times_23 : decode M_S_times.2.1 23 = .ok (.invokevirtual 67, 3) := by decide +kernel
theorem d_S_times_26 : decode M_S_times.2.1 26 = .ok (.goto 5, 3) := by decide +kernel
theorem d_S_times_29 : decode M_S_times.2.1 29 = .ok (.bipush (-2), 2) := by decide +kernel
theorem d_S_times_31 : decode M_S_times.2.1 31 = .ok (.ireturn, 1) := by decide +kernel
theorem d_S_version_0 : decode M_S_version.2.1 0 = .ok (.iload_n 1, 1) := by decide +kernel
theorem d_S_version_1 : decode M_S_version.2.1 1 = .ok (.invokestatic 82, 3) := by decide +kernel
theorem d_S_version_4 : decode M_S_version.2.1 4 = .ok (.ifCond .eq 11, 3) := by decide +kernel
theorem d_S_version_7 : decode M_S_version.2.1 7 = .ok (.aload_n 0, 1) := by decide +kernel
theorem d_S_version_8 : decode M_S_version.2.1 8 = .ok (.iload_n 1, 1) := by decide +kernel
theorem d_S_version_9 : decode M_S_version.2.1 9 = .ok (.invokevirtual 134, 3) := by decide +kernel
theorem d_S_version_12 : decode M_S_version.2.1 12 = .ok (.goto 5, 3) := by decide +kernel
theorem d_S_version_15 : decode M_S_version.2.1 15 = .ok (.bipush (-2), 2) := by decide +kernel
theorem d_S_version_17 : decode M_S_version.2.1 17 = .ok (.ireturn, 1) := by decide +kernel
theorem d_S_wipe_0 : decode M_S_wipe.2.1 0 = .ok (.iload_n 1, 1) := by decide +kernel
theorem d_S_wipe_1 : decode M_S_wipe.2.1 1 = .ok (.invokestatic 76, 3) := by decide +kernel
theorem d_S_wipe_4 : decode M_S_wipe.2.1 4 = .ok (.ifCond .ne 6, 3) := by decide +kernel
theorem d_S_wipe_7 : decode M_S_wipe.2.1 7 = .ok (.bipush (-2), 2) := by decide +kernel
theorem d_S_wipe_9 : decode M_S_wipe.2.1 9 = .ok (.ireturn, 1) := by decide +kernel
theorem d_S_wipe_10 : decode M_S_wipe.2.1 10 = .ok (.bipush 40, 2) := by decide +kernel
theorem d_S_wipe_12 : decode M_S_wipe.2.1 12 = .ok (.aload_n 0, 1) := by decide +kernel
theorem d_S_wipe_13 : decode M_S_wipe.2.1 13 = .ok (.getfield 18, 3) := by decide +kernel
theorem d_S_wipe_16 : decode M_S_wipe.2.1 16 = .ok (.iload_n 1, 1) := by decide +kernel
theorem d_S_wipe_17 : decode M_S_wipe.2.1 17 = .ok (.aaload, 1) := by decide +kernel
theorem d_S_wipe_18 : decode M_S_wipe.2.1 18 = .ok (.invokevirtual 140, 3) := by decide +kernel
theorem d_S_wipe_21 : decode M_S_wipe.2.1 21 = .ok (.isub, 1) := by decide +kernel
theorem d_S_wipe_22 : decode M_S_wipe.2.1 22 = .ok (.istore_n 2, 1) := by decide +kernel
theorem d_S_wipe_23 : decode M_S_wipe.2.1 23 = .ok (.aload_n 0, 1) := by decide +kernel
theorem d_S_wipe_24 : decode M_S_wipe.2.1 24 = .ok (.getfield 18, 3) := by decide +kernel
theorem d_S_wipe_27 : decode M_S_wipe.2.1 27 = .ok (.iload_n 1, 1) := by decide +kernel
theorem d_S_wipe_28 : decode M_S_wipe.2.1 28 = .ok (.aaload, 1) := by decide +kernel
theorem d_S_wipe_29 : decode M_S_wipe.2.1 29 = .ok (.invokevirtual 143, 3) := by decide +kernel
theorem d_S_wipe_32 : decode M_S_wipe.2.1 32 = .ok (.aload_n 0, 1) := by decide +kernel
theorem d_S_wipe_33 : decode M_S_wipe.2.1 33 = .ok (.getfield 18, 3) := by decide +kernel
theorem d_S_wipe_36 : decode M_S_wipe.2.1 36 = .ok (.iload_n 1, 1) := by decide +kernel
theorem d_S_wipe_37 : decode M_S_wipe.2.1 37 = .ok (.aaload, 1) := by decide +kernel
theorem d_S_wipe_38 : decode M_S_wipe.2.1 38 = .ok (.iconst 1, 1) := by decide +kernel
theorem d_S_wipe_39 : decode M_S_wipe.2.1 39 = .ok (.putfield 103, 3) := by decide +kernel
theorem d_S_wipe_42 : decode M_S_wipe.2.1 42 = .ok (.iload_n 2, 1) := by decide +kernel
theorem d_S_wipe_43 : decode M_S_wipe.2.1 43 = .ok (.ireturn, 1) := by decide +kernel
