theorem dX5_closes_51 : decode cX5_closes 51 = .ok (.goto (-33), 3) := by decide +kernel
theorem dX5_closes_54 : decode cX5_closes 54 = .ok (.iconst (-1), 1) := by decide +kernel
theorem dX5_closes_55 : decode cX5_closes 55 = .ok (.ireturn, 1) := by decide +kernel
theorem dX5_advise_0 : decode cX5_advise 0 = .ok (.aload_n 0, 1) := by decide +kernel
theorem dX5_advise_1 : decode cX5_advise 1 = .ok (.iload_n 1, 1) := by decide +kernel
theorem dX5_advise_2 : decode cX5_advise 2 = .ok (.invokevirtual 51, 3) := by decide +kernel
theorem dX5_advise_5 : decode cX5_advise 5 = .ok (.iload_n 2, 1) := by decide +kernel
theorem dX5_advise_6 : decode cX5_advise 6 = .ok (.iconst 1, 1) := by decide +kernel
theorem dX5_advise_7 : decode cX5_advise 7 = .ok (.bipush 60, 2) := by decide +kernel
theorem dX5_advise_9 : decode cX5_advise 9 = .ok (.invokestatic 19, 3) := by decide +kernel
theorem dX5_advise_12 : decode cX5_advise 12 = .ok (.iconst (-1), 1) := by decide +kernel
theorem dX5_advise_13 : decode cX5_advise 13 = .ok (.istore_n 3, 1) := by decide +kernel
theorem dX5_advise_14 : decode cX5_advise 14 = .ok (.aload_n 0, 1) := by decide +kernel
theorem dX5_advise_15 : decode cX5_advise 15 = .ok (.iload_n 1, 1) := by decide +kernel
theorem dX5_advise_16 : decode cX5_advise 16 = .ok (.iconst (-1), 1) := by decide +kernel
theorem dX5_advise_17 : decode cX5_advise 17 = .ok (.iload_n 2, 1) := by decide +kernel
theorem dX5_advise_18 : decode cX5_advise 18 = .ok (.invokevirtual 160, 3) := by decide +kernel
theorem dX5_advise_21 : decode cX5_advise 21 = .ok (.istore 4, 2) := by decide +kernel
theorem dX5_advise_23 : decode cX5_advise 23 = .ok (.iconst 0, 1) := by decide +kernel
theorem dX5_advise_24 : decode cX5_advise 24 = .ok (.istore 5, 2) := by decide +kernel
theorem dX5_advise_26 : decode cX5_advise 26 = .ok (.iload 5, 2) := by decide +kernel
theorem dX5_advise_28 : decode cX5_advise 28 = .ok (.aload_n 0, 1) := by decide +kernel
theorem dX5_advise_29 : decode cX5_advise 29 = .ok (.getfield 10, 3) := by decide +kernel
theorem dX5_advise_32 : decode cX5_advise 32 = .ok (.getfield 164, 3) := by decide +kernel
theorem dX5_advise_35 : decode cX5_advise 35 = .ok (.if_icmp .ge 33, 3) := by decide +kernel
theorem dX5_advise_38 : decode cX5_advise 38 = .ok (.aload_n 0, 1) := by decide +kernel
theorem dX5_advise_39 : decode cX5_advise 39 = .ok (.iload_n 1, 1) := by decide +kernel
theorem dX5_advise_40 : decode cX5_advise 40 = .ok (.iload 5, 2) := by decide +kernel
theorem dX5_advise_42 : decode cX5_advise 42 = .ok (.iload_n 2, 1) := by decide +kernel
theorem dX5_advise_43 : decode cX5_advise 43 = .ok (.invokevirtual 160, 3) := by decide +kernel
theorem dX5_advise_46 : decode cX5_advise 46 = .ok (.istore 6, 2) := by decide +kernel
theorem dX5_advise_48 : decode cX5_advise 48 = .ok (.iload 6, 2) := by decide +kernel
theorem dX5_advise_50 : decode cX5_advise 50 = .ok (.iload 4, 2) := by decide +kernel
theorem dX5_advise_52 : decode cX5_advise 52 = .ok (.if_icmp .le 10, 3) := by decide +kernel
theorem dX5_advise_55 : decode cX5_advise 55 = .ok (.iload 6, 2) := by decide +kernel
theorem dX5_advise_57 : decode cX5_advise 57 = .ok (.istore 4, 2) := by decide +kernel
theorem dX5_advise_59 : decode cX5_advise 59 = .ok (.iload 5, 2) := by decide +kernel
theorem dX5_advise_61 : decode cX5_advise 61 = .ok (.istore_n 3, 1) := by decide +kernel
theorem dX5_advise_62 : decode cX5_advise 62 = .ok (.iinc 5 1, 3) := by decide +kernel
theorem dX5_advise_65 : decode cX5_advise 65 = .ok (.goto (-39), 3) := by decide +kernel
theorem dX5_advise_68 : decode cX5_advise 68 = .ok (.iload_n 3, 1) := by decide +kernel
theorem dX5_advise_69 : decode cX5_advise 69 = .ok (.ireturn, 1) := by decide +kernel
theorem dX5_luck_0 : decode cX5_luck 0 = .ok (.aload_n 0, 1) := by decide +kernel
theorem dX5_luck_1 : decode cX5_luck 1 = .ok (.getfield 10, 3) := by decide +kernel
theorem dX5_luck_4 : decode cX5_luck 4 = .ok (.invokevirtual 167, 3) := by decide +kernel
theorem dX5_luck_7 : decode cX5_luck 7 = .ok (.istore_n 1, 1) := by decide +kernel
theorem dX5_luck_8 : decode cX5_luck 8 = .ok (.iload_n 1, 1) := by decide +kernel
theorem dX5_luck_9 : decode cX5_luck 9 = .ok (.ifCond .ne 5, 3) := by decide +kernel
theorem dX5_luck_12 : decode cX5_luck 12 = .ok (.dconst 0, 1) := by decide +kernel
theorem dX5_luck_13 : decode cX5_luck 13 = .ok (.dreturn, 1) := by decide +kernel
theorem dX5_luck_14 : decode cX5_luck 14 = .ok (.aload_n 0, 1) := by decide +kernel
theorem dX5_luck_15 : decode cX5_luck 15 = .ok (.getfield 10, 3) := by decide +kernel
theorem dX5_luck_18 : decode cX5_luck 18 = .ok (.getfield 170, 3) := by decide +kernel
theorem dX5_luck_21 : decode cX5_luck 21 = .ok (.i2d, 1) := by decide +kernel
theorem dX5_luck_22 : decode cX5_luck 22 = .ok (.iload_n 1, 1) := by decide +kernel
theorem dX5_luck_23 : decode cX5_luck 23 = .ok (.i2d, 1) := by decide +kernel
theorem dX5_luck_24 : decode cX5_luck 24 = .ok (.ddiv, 1) := by decide +kernel
theorem dX5_luck_25 : decode cX5_luck 25 = .ok (.dreturn, 1) := by decide +kernel
theorem dX5_digest_0 : decode cX5_digest 0 = .ok (.ldc2_w 173, 3) := by decide +kernel
theorem dX5_digest_3 : decode cX5_digest 3 = .ok (.lstore_n 1, 1) := by decide +kernel
theorem dX5_digest_4 : decode cX5_digest 4 = .ok (.iconst 0, 1) := by decide +kernel
theorem dX5_digest_5 : decode cX5_digest 5 = .ok (.istore_n 3, 1) := by decide +kernel
theorem dX5_digest_6 : decode cX5_digest 6 = .ok (.iload_n 3, 1) := by decide +kernel
theorem dX5_digest_7 : decode cX5_digest 7 = .ok (.bipush 11, 2) := by decide +kernel
theorem dX5_digest_9 : decode cX5_digest 9 = .ok (.if_icmp .ge 22, 3) := by decide +kernel
theorem dX5_digest_12 : decode cX5_digest 12 = .ok (.lload_n 1, 1) := by decide +kernel
theorem dX5_digest_13 : decode cX5_digest 13 = .ok (.aload_n 0, 1) := by decide +kernel
theorem dX5_digest_14 : decode cX5_digest 14 = .ok (.getfield 10, 3) := by decide +kernel
theorem dX5_digest_17 : decode cX5_digest 17 = .ok (.iload_n 3, 1) := by decide +kernel
theorem dX5_digest_18 : decode cX5_digest 18 = .ok (.invokevirtual 143, 3) := by decide +kernel
theorem dX5_digest_21 : decode cX5_digest 21 = .ok (.invokestatic 175, 3) := by decide +kernel
theorem dX5_digest_24 : decode cX5_digest 24 = .ok (.lstore_n 1, 1) := by decide +kernel
theorem dX5_digest_25 : decode cX5_digest 25 = .ok (.iinc 3 1, 3) := by decide +kernel
theorem dX5_digest_28 : decode cX5_digest 28 = .ok (.goto (-22), 3) := by decide +kernel
theorem dX5_digest_31 : decode cX5_digest 31 = .ok (.iconst 0, 1) := by decide +kernel
theorem dX5_digest_32 : decode cX5_digest 32 = .ok (.istore_n 3, 1) := by decide +kernel
theorem dX5_digest_33 : decode cX5_digest 33 = .ok (.iload_n 3, 1) := by decide +kernel
theorem dX5_digest_34 : decode cX5_digest 34 = .ok (.aload_n 0, 1) := by decide +kernel
theorem dX5_digest_35 : decode cX5_digest 35 = .ok (.getfield 10, 3) := by decide +kernel
theorem dX5_digest_38 : decode cX5_digest 38 = .ok (.getfield 164, 3) := by decide +kernel
theorem dX5_digest_41 : decode cX5_digest 41 = .ok (.if_icmp .ge 16, 3) := by decide +kernel
theorem dX5_digest_44 : decode cX5_digest 44 = .ok (.aload_n 0, 1) := by decide +kernel
theorem dX5_digest_45 : decode cX5_digest 45 = .ok (.lload_n 1, 1) := by decide +kernel
theorem dX5_digest_46 : decode cX5_digest 46 = .ok (.iload_n 3, 1) := by decide +kernel
theorem dX5_digest_47 : decode cX5_digest 47 = .ok (.invokevirtual 179, 3) := by decide +kernel
theorem dX5_digest_50 : decode cX5_digest 50 = .ok (.lstore_n 1, 1) := by decide +kernel
theorem dX5_digest_51 : decode cX5_digest 51 = .ok (.iinc 3 1, 3) := by decide +kernel
theorem dX5_digest_54 : decode cX5_digest 54 = .ok (.goto (-21), 3) := by decide +kernel
theorem dX5_digest_57 : decode cX5_digest 57 = .ok (.iconst 0, 1) := by decide +kernel
theorem dX5_digest_58 : decode cX5_digest 58 = .ok (.istore_n 3, 1) := by decide +kernel
theorem dX5_digest_59 : decode cX5_digest 59 = .ok (.iload_n 3, 1) := by decide +kernel
theorem dX5_digest_60 : decode cX5_digest 60 = .ok (.aload_n 0, 1) := by decide +kernel
theorem dX5_digest_61 : decode cX5_digest 61 = .ok (.getfield 10, 3) := by decide +kernel
theorem dX5_digest_64 : decode cX5_digest 64 = .ok (.getfield 182, 3) := by decide +kernel
theorem dX5_digest_67 : decode cX5_digest 67 = .ok (.if_icmp .ge 43, 3) := by decide +kernel
theorem dX5_digest_70 : decode cX5_digest 70 = .ok (.iconst 0, 1) := by decide +kernel
theorem dX5_digest_71 : decode cX5_digest 71 = .ok (.istore 4, 2) := by decide +kernel
theorem dX5_digest_73 : decode cX5_digest 73 = .ok (.iload 4, 2) := by decide +kernel
theorem dX5_digest_75 : decode cX5_digest 75 = .ok (.iconst 3, 1) := by decide +kernel
theorem dX5_digest_76 : decode cX5_digest 76 = .ok (.if_icmp .ge 28, 3) := by decide +kernel
theorem dX5_digest_79 : decode cX5_digest 79 = .ok (.lload_n 1, 1) := by decide +kernel
theorem dX5_digest_80 : decode cX5_digest 80 = .ok (.aload_n 0, 1) := by decide +kernel
theorem dX5_digest_81 : decode cX5_digest 81 = .ok (.getfield 10, 3) := by decide +kernel
theorem dX5_digest_84 : decode cX5_digest 84 = .ok (.getfield 58, 3) := by decide +kernel
theorem dX5_digest_87 : decode cX5_digest 87 = .ok (.iload_n 3, 1) := by decide +kernel
theorem dX5_digest_88 : decode cX5_digest 88 = .ok (.aaload, 1) := by decide +kernel
theorem dX5_digest_89 : decode cX5_digest 89 = .ok (.iload 4, 2) := by decide +kernel
theorem dX5_digest_91 : decode cX5_digest 91 = .ok (.invokevirtual 120, 3) := by decide +kernel
theorem dX5_digest_94 : decode cX5_digest 94 = .ok (.invokestatic 175, 3) := by decide +kernel
theorem dX5_digest_97 : decode cX5_digest 97 = .ok (.lstore_n 1, 1) := by decide +kernel
theorem dX5_digest_98 : decode cX5_digest 98 = .ok (.iinc 4 1, 3) := by decide +kernel
theorem dX5_digest_101 : decode cX5_digest 101 = .ok (.goto (-28), 3) := by decide +kernel
theorem dX5_digest_104 : decode cX5_digest 104 = .ok (.iinc 3 1, 3) := by decide +kernel
theorem dX5_digest_107 : decode cX5_digest 107 = .ok (.goto (-48), 3) := by decide +kernel
theorem dX5_digest_110 : decode cX5_digest 110 = .ok (.iconst 0, 1) := by decide +kernel
theorem dX5_digest_111 : decode cX5_digest 111 = .ok (.istore_n 3, 1) := by decide +kernel
theorem dX5_digest_112 : decode cX5_digest 112 = .ok (.iload_n 3, 1) := by decide +kernel
theorem dX5_digest_113 : decode cX5_digest 113 = .ok (.aload_n 0, 1) := by decide +kernel
theorem dX5_digest_114 : decode cX5_digest 114 = .ok (.getfield 10, 3) := by decide +kernel
theorem dX5_digest_117 : decode cX5_digest 117 = .ok (.getfield 185, 3) := by decide +kernel
theorem dX5_digest_120 : decode cX5_digest 120 = .ok (.if_icmp .ge 24, 3) := by decide +kernel
theorem dX5_digest_123 : decode cX5_digest 123 = .ok (.aload_n 0, 1) := by decide +kernel
theorem dX5_digest_124 : decode cX5_digest 124 = .ok (.lload_n 1, 1) := by decide +kernel
theorem dX5_digest_125 : decode cX5_digest 125 = .ok (.aload_n 0, 1) := by decide +kernel
theorem dX5_digest_126 : decode cX5_digest 126 = .ok (.getfield 10, 3) := by decide +kernel
theorem dX5_digest_129 : decode cX5_digest 129 = .ok (.getfield 85, 3) := by decide +kernel
theorem dX5_digest_132 : decode cX5_digest 132 = .ok (.iload_n 3, 1) := by decide +kernel
theorem dX5_digest_133 : decode cX5_digest 133 = .ok (.aaload, 1) := by decide +kernel
theorem dX5_digest_134 : decode cX5_digest 134 = .ok (.invokevirtual 188, 3) := by decide +kernel
theorem dX5_digest_137 : decode cX5_digest 137 = .ok (.lstore_n 1, 1) := by decide +kernel
theorem dX5_digest_138 : decode cX5_digest 138 = .ok (.iinc 3 1, 3) := by decide +kernel
theorem dX5_digest_141 : decode cX5_digest 141 = .ok (.goto (-29), 3) := by decide +kernel
theorem dX5_digest_144 : decode cX5_digest 144 = .ok (.iconst 0, 1) := by decide +kernel
theorem dX5_digest_145 : decode cX5_digest 145 = .ok (.istore_n 3, 1) := by decide +kernel
theorem dX5_digest_146 : decode cX5_digest 146 = .ok (.iload_n 3, 1) := by decide +kernel
theorem dX5_digest_147 : decode cX5_digest 147 = .ok (.aload_n 0, 1) := by decide +kernel
theorem dX5_digest_148 : decode cX5_digest 148 = .ok (.getfield 10, 3) := by decide +kernel
theorem dX5_digest_151 : decode cX5_digest 151 = .ok (.getfield 127, 3) := by decide +kernel
theorem dX5_digest_154 : decode cX5_digest 154 = .ok (.getfield 131, 3) := by decide +kernel
theorem dX5_digest_157 : decode cX5_digest 157 = .ok (.if_icmp .ge 42, 3) := by decide +kernel
theorem dX5_digest_160 : decode cX5_digest 160 = .ok (.iconst 0, 1) := by decide +kernel
theorem dX5_digest_161 : decode cX5_digest 161 = .ok (.istore 4, 2) := by decide +kernel
theorem dX5_digest_163 : decode cX5_digest 163 = .ok (.iload 4, 2) := by decide +kernel
theorem dX5_digest_165 : decode cX5_digest 165 = .ok (.iconst 3, 1) := by decide +kernel
theorem dX5_digest_166 : decode cX5_digest 166 = .ok (.if_icmp .ge 27, 3) := by decide +kernel
theorem dX5_digest_169 : decode cX5_digest 169 = .ok (.lload_n 1, 1) := by decide +kernel
theorem dX5_digest_170 : decode cX5_digest 170 = .ok (.aload_n 0, 1) := by decide +kernel
theorem dX5_digest_171 : decode cX5_digest 171 = .ok (.getfield 10, 3) := by decide +kernel
theorem dX5_digest_174 : decode cX5_digest 174 = .ok (.getfield 127, 3) := by decide +kernel
theorem dX5_digest_177 : decode cX5_digest 177 = .ok (.iload_n 3, 1) := by decide +kernel
theorem dX5_digest_178 : decode cX5_digest 178 = .ok (.iload 4, 2) := by decide +kernel
theorem dX5_digest_180 : decode cX5_digest 180 = .ok (.invokevirtual 138, 3) := by decide +kernel
theorem dX5_digest_183 : decode cX5_digest 183 = .ok (.invokestatic 175, 3) := by decide +kernel
theorem dX5_digest_186 : decode cX5_digest 186 = .ok (.lstore_n 1, 1) := by decide +kernel
theorem dX5_digest_187 : decode cX5_digest 187 = .ok (.iinc 4 1, 3) := by decide +kernel
theorem dX5_digest_190 : decode cX5_digest 190 = .ok (.goto (-27), 3) := by decide +kernel
theorem dX5_digest_193 : decode cX5_digest 193 = .ok (.iinc 3 1, 3) := by decide +kernel
theorem dX5_digest_196 : decode cX5_digest 196 = .ok (.goto (-50), 3) := by decide +kernel
theorem dX5_digest_199 : decode cX5_digest 199 = .ok (.lload_n 1, 1) := by decide +kernel
theorem dX5_digest_200 : decode cX5_digest 200 = .ok (.lreturn, 1) := by decide +kernel
theorem dX5_withBooth_0 : decode cX5_withBooth 0 = .ok (.lload_n 1, 1) := by decide +kernel
theorem dX5_withBooth_1 : decode cX5_withBooth 1 = .ok (.lstore 4, 2) := by decide +kernel
theorem dX5_withBooth_3 : decode cX5_withBooth 3 = .ok (.iconst 0, 1) := by decide +kernel
theorem dX5_withBooth_4 : decode cX5_withBooth 4 = .ok (.istore 6, 2) := by decide +kernel
theorem dX5_withBooth_6 : decode cX5_withBooth 6 = .ok (.iload 6, 2) := by decide +kernel
theorem dX5_withBooth_8 : decode cX5_withBooth 8 = .ok (.bipush 10, 2) := by decide +kernel
theorem dX5_withBooth_10 : decode cX5_withBooth 10 = .ok (.if_icmp .ge 26, 3) := by decide +kernel
theorem dX5_withBooth_13 : decode cX5_withBooth 13 = .ok (.lload 4, 2) := by decide +kernel
theorem dX5_withBooth_15 : decode cX5_withBooth 15 = .ok (.aload_n 0, 1) := by decide +kernel
theorem dX5_withBooth_16 : decode cX5_withBooth 16 = .ok (.getfield 10, 3) := by decide +kernel
theorem dX5_withBooth_19 : decode cX5_withBooth 19 = .ok (.iload_n 3, 1) := by decide +kernel
theorem dX5_withBooth_20 : decode cX5_withBooth 20 = .ok (.iload 6, 2) := by decide +kernel
theorem dX5_withBooth_22 : decode cX5_withBooth 22 = .ok (.invokevirtual 105, 3) := by decide +kernel
theorem dX5_withBooth_25 : decode cX5_withBooth 25 = .ok (.invokestatic 175, 3) := by decide +kernel
theorem dX5_withBooth_28 : decode cX5_withBooth 28 = .ok (.lstore 4, 2) := by decide +kernel
theorem dX5_withBooth_30 : decode cX5_withBooth 30 = .ok (.iinc 6 1, 3) := by decide +kernel
theorem dX5_withBooth_33 : decode cX5_withBooth 33 = .ok (.goto (-27), 3) := by decide +kernel
theorem dX5_withBooth_36 : decode cX5_withBooth 36 = .ok (.aload_n 0, 1) := by decide +kernel
theorem dX5_withBooth_37 : decode cX5_withBooth 37 = .ok (.getfield 10, 3) := by decide +kernel
theorem dX5_withBooth_40 : decode cX5_withBooth 40 = .ok (.getfield 71, 3) := by decide +kernel
theorem dX5_withBooth_43 : decode cX5_withBooth 43 = .ok (.iload_n 3, 1) := by decide +kernel
theorem dX5_withBooth_44 : decode cX5_withBooth 44 = .ok (.aaload, 1) := by decide +kernel
theorem dX5_withBooth_45 : decode cX5_withBooth 45 = .ok (.astore 6, 2) := by decide +kernel
theorem dX5_withBooth_47 : decode cX5_withBooth 47 = .ok (.iconst 0, 1) := by decide +kernel
theorem dX5_withBooth_48 : decode cX5_withBooth 48 = .ok (.istore 7, 2) := by decide +kernel
theorem dX5_withBooth_50 : decode cX5_withBooth 50 = .ok (.iload 7, 2) := by decide +kernel
theorem dX5_withBooth_52 : decode cX5_withBooth 52 = .ok (.aload 6, 2) := by decide +kernel
theorem dX5_withBooth_54 : decode cX5_withBooth 54 = .ok (.getfield 108, 3) := by decide +kernel
theorem dX5_withBooth_57 : decode cX5_withBooth 57 = .ok (.if_icmp .ge 24, 3) := by decide +kernel
theorem dX5_withBooth_60 : decode cX5_withBooth 60 = .ok (.lload 4, 2) := by decide +kernel
theorem dX5_withBooth_62 : decode cX5_withBooth 62 = .ok (.aload 6, 2) := by decide +kernel
theorem dX5_withBooth_64 : decode cX5_withBooth 64 = .ok (.getfield 116, 3) := by decide +kernel
theorem dX5_withBooth_67 : decode cX5_withBooth 67 = .ok (.iload 7, 2) := by decide +kernel
theorem dX5_withBooth_69 : decode cX5_withBooth 69 = .ok (.iaload, 1) := by decide +kernel
theorem dX5_withBooth_70 : decode cX5_withBooth 70 = .ok (.invokestatic 175, 3) := by decide +kernel
theorem dX5_withBooth_73 : decode cX5_withBooth 73 = .ok (.lstore 4, 2) := by decide +kernel
theorem dX5_withBooth_75 : decode cX5_withBooth 75 = .ok (.iinc 7 1, 3) := by decide +kernel
theorem dX5_withBooth_78 : decode cX5_withBooth 78 = .ok (.goto (-28), 3) := by decide +kernel
theorem dX5_withBooth_81 : decode cX5_withBooth 81 = .ok (.lload 4, 2) := by decide +kernel
theorem dX5_withBooth_83 : decode cX5_withBooth 83 = .ok (.lreturn, 1) := by decide +kernel
theorem dX5_withVisitor_0 : decode cX5_withVisitor 0 = .ok (.lload_n 1, 1) := by decide +kernel
theorem dX5_withVisitor_1 : decode cX5_withVisitor 1 = .ok (.lstore 4, 2) := by decide +kernel
theorem dX5_withVisitor_3 : decode cX5_withVisitor 3 = .ok (.iconst 0, 1) := by decide +kernel
theorem dX5_withVisitor_4 : decode cX5_withVisitor 4 = .ok (.istore 6, 2) := by decide +kernel
theorem dX5_withVisitor_6 : decode cX5_withVisitor 6 = .ok (.iload 6, 2) := by decide +kernel
theorem dX5_withVisitor_8 : decode cX5_withVisitor 8 = .ok (.bipush 8, 2) := by decide +kernel
theorem dX5_withVisitor_10 : decode cX5_withVisitor 10 = .ok (.if_icmp .ge 22, 3) := by decide +kernel
theorem dX5_withVisitor_13 : decode cX5_withVisitor 13 = .ok (.lload 4, 2) := by decide +kernel
theorem dX5_withVisitor_15 : decode cX5_withVisitor 15 = .ok (.aload_n 3, 1) := by decide +kernel
theorem dX5_withVisitor_16 : decode cX5_withVisitor 16 = .ok (.iload 6, 2) := by decide +kernel
theorem dX5_withVisitor_18 : decode cX5_withVisitor 18 = .ok (.invokevirtual 123, 3) := by decide +kernel
theorem dX5_withVisitor_21 : decode cX5_withVisitor 21 = .ok (.invokestatic 175, 3) := by decide +kernel
theorem dX5_withVisitor_24 : decode cX5_withVisitor 24 = .ok (.lstore 4, 2) := by decide +kernel
theorem dX5_withVisitor_26 : decode cX5_withVisitor 26 = .ok (.iinc 6 1, 3) := by decide +kernel
theorem dX5_withVisitor_29 : decode cX5_withVisitor 29 = .ok (.goto (-23), 3) := by decide +kernel
theorem dX5_withVisitor_32 : decode cX5_withVisitor 32 = .ok (.iconst 0, 1) := by decide +kernel
theorem dX5_withVisitor_33 : decode cX5_withVisitor 33 = .ok (.istore 6, 2) := by decide +kernel
theorem dX5_withVisitor_35 : decode cX5_withVisitor 35 = .ok (.iload 6, 2) := by decide +kernel
theorem dX5_withVisitor_37 : decode cX5_withVisitor 37 = .ok (.aload_n 0, 1) := by decide +kernel
theorem dX5_withVisitor_38 : decode cX5_withVisitor 38 = .ok (.getfield 10, 3) := by decide +kernel
theorem dX5_withVisitor_41 : decode cX5_withVisitor 41 = .ok (.getfield 164, 3) := by decide +kernel
theorem dX5_withVisitor_44 : decode cX5_withVisitor 44 = .ok (.if_icmp .ge 23, 3) := by decide +kernel
theorem dX5_withVisitor_47 : decode cX5_withVisitor 47 = .ok (.lload 4, 2) := by decide +kernel
theorem dX5_withVisitor_49 : decode cX5_withVisitor 49 = .ok (.aload_n 3, 1) := by decide +kernel
theorem dX5_withVisitor_50 : decode cX5_withVisitor 50 = .ok (.getfield 124, 3) := by decide +kernel
theorem dX5_withVisitor_53 : decode cX5_withVisitor 53 = .ok (.iload 6, 2) := by decide +kernel
theorem dX5_withVisitor_55 : decode cX5_withVisitor 55 = .ok (.iaload, 1) := by decide +kernel
theorem dX5_withVisitor_56 : decode cX5_withVisitor 56 = .ok (.invokestatic 175, 3) := by decide +kernel
theorem dX5_withVisitor_59 : decode cX5_withVisitor 59 = .ok (.lstore 4, 2) := by decide +kernel
theorem dX5_withVisitor_61 : decode cX5_withVisitor 61 = .ok (.iinc 6 1, 3) := by decide +kernel
theorem dX5_withVisitor_64 : decode cX5_withVisitor 64 = .ok (.goto (-29), 3) := by decide +kernel
theorem dX5_withVisitor_67 : decode cX5_withVisitor 67 = .ok (.lload 4, 2) := by decide +kernel
theorem dX5_withVisitor_69 : decode cX5_withVisitor 69 = .ok (.lreturn, 1) := by decide +kernel
theorem dX5_mixed_0 : decode cX5_mixed 0 = .ok (.lload_n 0, 1) := by decide +kernel
theorem dX5_mixed_1 : decode cX5_mixed 1 = .ok (.ldc2_w 192, 3) := by decide +kernel
theorem dX5_mixed_4 : decode cX5_mixed 4 = .ok (.lmul, 1) := by decide +kernel
theorem dX5_mixed_5 : decode cX5_mixed 5 = .ok (.iload_n 2, 1) := by decide +kernel
theorem dX5_mixed_6 : decode cX5_mixed 6 = .ok (.i2l, 1) := by decide +kernel
theorem dX5_mixed_7 : decode cX5_mixed 7 = .ok (.ladd, 1) := by decide +kernel
theorem dX5_mixed_8 : decode cX5_mixed 8 = .ok (.lreturn, 1) := by decide +kernel
theorem dX5_prizesWonWith_0 : decode cX5_prizesWonWith 0 = .ok (.aload_n 0, 1) := by decide +kernel
theorem dX5_prizesWonWith_1 : decode cX5_prizesWonWith 1 = .ok (.getfield 16, 3) := by decide +kernel
theorem dX5_prizesWonWith_4 : decode cX5_prizesWonWith 4 = .ok (.aload_n 0, 1) := by decide +kernel
theorem dX5_prizesWonWith_5 : decode cX5_prizesWonWith 5 = .ok (.getfield 10, 3) := by decide +kernel
theorem dX5_prizesWonWith_8 : decode cX5_prizesWonWith 8 = .ok (.invokevirtual 146, 3) := by decide +kernel
theorem dX5_prizesWonWith_11 : decode cX5_prizesWonWith 11 = .ok (.aload_n 0, 1) := by decide +kernel
theorem dX5_prizesWonWith_12 : decode cX5_prizesWonWith 12 = .ok (.getfield 16, 3) := by decide +kernel
theorem dX5_prizesWonWith_15 : decode cX5_prizesWonWith 15 = .ok (.iload_n 1, 1) := by decide +kernel
theorem dX5_prizesWonWith_16 : decode cX5_prizesWonWith 16 = .ok (.iload_n 2, 1) := by decide +kernel
theorem dX5_prizesWonWith_17 : decode cX5_prizesWonWith 17 = .ok (.invokevirtual 67, 3) := by decide +kernel
theorem dX5_prizesWonWith_20 : decode cX5_prizesWonWith 20 = .ok (.aload_n 0, 1) := by decide +kernel
theorem dX5_prizesWonWith_21 : decode cX5_prizesWonWith 21 = .ok (.getfield 16, 3) := by decide +kernel
theorem dX5_prizesWonWith_24 : decode cX5_prizesWonWith 24 = .ok (.iload_n 3, 1) := by decide +kernel
theorem dX5_prizesWonWith_25 : decode cX5_prizesWonWith 25 = .ok (.invokevirtual 140, 3) := by decide +kernel
theorem dX5_prizesWonWith_28 : decode cX5_prizesWonWith 28 = .ok (.ireturn, 1) := by decide +kernel
theorem dX5_requireBooth_0 : decode cX5_requireBooth 0 = .ok (.aload_n 0, 1) := by decide +kernel
theorem dX5_requireBooth_1 : decode cX5_requireBooth 1 = .ok (.getfield 10, 3) := by decide +kernel
theorem dX5_requireBooth_4 : decode cX5_requireBooth 4 = .ok (.iload_n 1, 1) := by decide +kernel
theorem dX5_requireBooth_5 : decode cX5_requireBooth 5 = .ok (.invokevirtual 194, 3) := by decide +kernel
theorem dX5_requireBooth_8 : decode cX5_requireBooth 8 = .ok (.ifCond .ne 13, 3) := by decide +kernel
theorem dX5_requireBooth_11 : decode cX5_requireBooth 11 = .ok (.new 111, 3) := by decide +kernel
theorem dX5_requireBooth_14 : decode cX5_requireBooth 14 = .ok (.dup, 1) := by decide +kernel
theorem dX5_requireBooth_15 : decode cX5_requireBooth 15 = .ok (.ldc 198, 2) := by decide +kernel
theorem dX5_requireBooth_17 : decode cX5_requireBooth 17 = .ok (.invokespecial 115, 3) := by decide +kernel
theorem dX5_requireBooth_20 : decode cX5_requireBooth 20 = .ok (.athrow, 1) := by decide +kernel
theorem dX5_requireBooth_21 : decode cX5_requireBooth 21 = .ok (.return_, 1) := by decide +kernel
theorem dX5_requireHelper_0 : decode cX5_requireHelper 0 = .ok (.aload_n 0, 1) := by decide +kernel
theorem dX5_requireHelper_1 : decode cX5_requireHelper 1 = .ok (.getfield 10, 3) := by decide +kernel
theorem dX5_requireHelper_4 : decode cX5_requireHelper 4 = .ok (.iload_n 1, 1) := by decide +kernel
theorem dX5_requireHelper_5 : decode cX5_requireHelper 5 = .ok (.invokevirtual 200, 3) := by decide +kernel
theorem dX5_requireHelper_8 : decode cX5_requireHelper 8 = .ok (.ifCond .ne 13, 3) := by decide +kernel
theorem dX5_requireHelper_11 : decode cX5_requireHelper 11 = .ok (.new 111, 3) := by decide +kernel
theorem dX5_requireHelper_14 : decode cX5_requireHelper 14 = .ok (.dup, 1) := by decide +kernel
theorem dX5_requireHelper_15 : decode cX5_requireHelper 15 = .ok (.ldc 203, 2) := by decide +kernel
theorem dX5_requireHelper_17 : decode cX5_requireHelper 17 = .ok (.invokespecial 115, 3) := by decide +kernel
theorem dX5_requireHelper_20 : decode cX5_requireHelper 20 = .ok (.athrow, 1) := by decide +kernel
theorem dX5_requireHelper_21 : decode cX5_requireHelper 21 = .ok (.return_, 1) := by decide +kernel
theorem dX5_requireVisitor_0 : decode cX5_requireVisitor 0 = .ok (.aload_n 0, 1) := by decide +kernel
theorem dX5_requireVisitor_1 : decode cX5_requireVisitor 1 = .ok (.getfield 10, 3) := by decide +kernel
theorem dX5_requireVisitor_4 : decode cX5_requireVisitor 4 = .ok (.iload_n 1, 1) := by decide +kernel
theorem dX5_requireVisitor_5 : decode cX5_requireVisitor 5 = .ok (.invokevirtual 205, 3) := by decide +kernel
theorem dX5_requireVisitor_8 : decode cX5_requireVisitor 8 = .ok (.ifCond .ne 13, 3) := by decide +kernel
theorem dX5_requireVisitor_11 : decode cX5_requireVisitor 11 = .ok (.new 111, 3) := by decide +kernel
theorem dX5_requireVisitor_14 : decode cX5_requireVisitor 14 = .ok (.dup, 1) := by decide +kernel
theorem dX5_requireVisitor_15 : decode cX5_requireVisitor 15 = .ok (.ldc 208, 2) := by decide +kernel
theorem dX5_requireVisitor_17 : decode cX5_requireVisitor 17 = .ok (.invokespecial 115, 3) := by decide +kernel
theorem dX5_requireVisitor_20 : decode cX5_requireVisitor 20 = .ok (.athrow, 1) := by decide +kernel
theorem dX5_requireVisitor_21 : decode cX5_requireVisitor 21 = .ok (.return_, 1) := by decide +kernel
theorem dX5_requireFact_0 : decode cX5_requireFact 0 = .ok (.iload_n 0, 1) := by decide +kernel
theorem dX5_requireFact_1 : decode cX5_requireFact 1 = .ok (.ifCond .lt 8, 3) := by decide +kernel
theorem dX5_requireFact_4 : decode cX5_requireFact 4 = .ok (.iload_n 0, 1) := by decide +kernel
theorem dX5_requireFact_5 : decode cX5_requireFact 5 = .ok (.iload_n 1, 1) := by decide +kernel
theorem dX5_requireFact_6 : decode cX5_requireFact 6 = .ok (.if_icmp .lt 13, 3) := by decide +kernel
theorem dX5_requireFact_9 : decode cX5_requireFact 9 = .ok (.new 111, 3) := by decide +kernel
theorem dX5_requireFact_12 : decode cX5_requireFact 12 = .ok (.dup, 1) := by decide +kernel
theorem dX5_requireFact_13 : decode cX5_requireFact 13 = .ok (.ldc 210, 2) := by decide +kernel
theorem dX5_requireFact_15 : decode cX5_requireFact 15 = .ok (.invokespecial 115, 3) := by decide +kernel
theorem dX5_requireFact_18 : decode cX5_requireFact 18 = .ok (.athrow, 1) := by decide +kernel
theorem dX5_requireFact_19 : decode cX5_requireFact 19 = .ok (.return_, 1) := by decide +kernel
theorem dX5_requireRange_0 : decode cX5_requireRange 0 = .ok (.iload_n 0, 1) := by decide +kernel
theorem dX5_requireRange_1 : decode cX5_requireRange 1 = .ok (.iload_n 1, 1) := by decide +kernel
theorem dX5_requireRange_2 : decode cX5_requireRange 2 = .ok (.if_icmp .lt 8, 3) := by decide +kernel
theorem dX5_requireRange_5 : decode cX5_requireRange 5 = .ok (.iload_n 0, 1) := by decide +kernel
theorem dX5_requireRange_6 : decode cX5_requireRange 6 = .ok (.iload_n 2, 1) := by decide +kernel
theorem dX5_requireRange_7 : decode cX5_requireRange 7 = .ok (.if_icmp .le 13, 3) := by decide +kernel
theorem dX5_requireRange_10 : decode cX5_requireRange 10 = .ok (.new 212, 3) := by decide +kernel
theorem dX5_requireRange_13 : decode cX5_requireRange 13 = .ok (.dup, 1) := by decide +kernel
theorem dX5_requireRange_14 : decode cX5_requireRange 14 = .ok (.ldc 214, 2) := by decide +kernel
theorem dX5_requireRange_16 : decode cX5_requireRange 16 = .ok (.invokespecial 216, 3) := by decide +kernel
theorem dX5_requireRange_19 : decode cX5_requireRange 19 = .ok (.athrow, 1) := by decide +kernel
theorem dX5_requireRange_20 : decode cX5_requireRange 20 = .ok (.return_, 1) := by decide +kernel
theorem dX6_init_0 : decode cX6_init 0 = .ok (.aload_n 0, 1) := by decide +kernel
theorem dX6_init_1 : decode cX6_init 1 = .ok (.invokespecial 1, 3) := by decide +kernel
theorem dX6_init_4 : decode cX6_init 4 = .ok (.aload_n 0, 1) := by decide +kernel
theorem dX6_init_5 : decode cX6_init 5 = .ok (.bipush 48, 2) := by decide +kernel
theorem dX6_init_7 : decode cX6_init 7 = .ok (.newarray .int, 2) := by decide +kernel
theorem dX6_init_9 : decode cX6_init 9 = .ok (.putfield 9, 3) := by decide +kernel
theorem dX6_init_12 : decode cX6_init 12 = .ok (.aload_n 0, 1) := by decide +kernel
theorem dX6_init_13 : decode cX6_init 13 = .ok (.bipush 36, 2) := by decide +kernel
theorem dX6_init_15 : decode cX6_init 15 = .ok (.newarray .int, 2) := by decide +kernel
theorem dX6_init_17 : decode cX6_init 17 = .ok (.putfield 13, 3) := by decide +kernel
theorem dX6_init_20 : decode cX6_init 20 = .ok (.aload_n 0, 1) := by decide +kernel
theorem dX6_init_21 : decode cX6_init 21 = .ok (.sipush 144, 3) := by decide +kernel
theorem dX6_init_24 : decode cX6_init 24 = .ok (.newarray .int, 2) := by decide +kernel
theorem dX6_init_26 : decode cX6_init 26 = .ok (.putfield 16, 3) := by decide +kernel
theorem dX6_init_29 : decode cX6_init 29 = .ok (.aload_n 0, 1) := by decide +kernel
theorem dX6_init_30 : decode cX6_init 30 = .ok (.sipush 128, 3) := by decide +kernel
theorem dX6_init_33 : decode cX6_init 33 = .ok (.newarray .int, 2) := by decide +kernel
theorem dX6_init_35 : decode cX6_init 35 = .ok (.putfield 19, 3) := by decide +kernel
theorem dX6_init_38 : decode cX6_init 38 = .ok (.aload_n 0, 1) := by decide +kernel
theorem dX6_init_39 : decode cX6_init 39 = .ok (.bipush 9, 2) := by decide +kernel
theorem dX6_init_41 : decode cX6_init 41 = .ok (.newarray .int, 2) := by decide +kernel
theorem dX6_init_43 : decode cX6_init 43 = .ok (.putfield 22, 3) := by decide +kernel
theorem dX6_init_46 : decode cX6_init 46 = .ok (.aload_n 0, 1) := by decide +kernel
theorem dX6_init_47 : decode cX6_init 47 = .ok (.iconst 5, 1) := by decide +kernel
theorem dX6_init_48 : decode cX6_init 48 = .ok (.newarray .int, 2) := by decide +kernel
theorem dX6_init_50 : decode cX6_init 50 = .ok (.dup, 1) := by decide +kernel
theorem dX6_init_51 : decode cX6_init 51 = .ok (.iconst 0, 1) := by decide +kernel
theorem dX6_init_52 : decode cX6_init 52 = .ok (.iconst 0, 1) := by decide +kernel
theorem dX6_init_53 : decode cX6_init 53 = .ok (.iastore, 1) := by decide +kernel
theorem dX6_init_54 : decode cX6_init 54 = .ok (.dup, 1) := by decide +kernel
theorem dX6_init_55 : decode cX6_init 55 = .ok (.iconst 1, 1) := by decide +kernel
theorem dX6_init_56 : decode cX6_init 56 = .ok (.iconst 1, 1) := by decide +kernel
theorem dX6_init_57 : decode cX6_init 57 = .ok (.iastore, 1) := by decide +kernel
theorem dX6_init_58 : decode cX6_init 58 = .ok (.dup, 1) := by decide +kernel
theorem dX6_init_59 : decode cX6_init 59 = .ok (.iconst 2, 1) := by decide +kernel
theorem dX6_init_60 : decode cX6_init 60 = .ok (.iconst (-1), 1) := by decide +kernel
theorem dX6_init_61 : decode cX6_init 61 = .ok (.iastore, 1) := by decide +kernel
theorem dX6_init_62 : decode cX6_init 62 = .ok (.dup, 1) := by decide +kernel
theorem dX6_init_63 : decode cX6_init 63 = .ok (.iconst 3, 1) := by decide +kernel
theorem dX6_init_64 : decode cX6_init 64 = .ok (.iconst 0, 1) := by decide +kernel
theorem dX6_init_65 : decode cX6_init 65 = .ok (.iastore, 1) := by decide +kernel
theorem dX6_init_66 : decode cX6_init 66 = .ok (.dup, 1) := by decide +kernel
theorem dX6_init_67 : decode cX6_init 67 = .ok (.iconst 4, 1) := by decide +kernel
theorem dX6_init_68 : decode cX6_init 68 = .ok (.iconst 0, 1) := by decide +kernel
theorem dX6_init_69 : decode cX6_init 69 = .ok (.iastore, 1) := by decide +kernel
theorem dX6_init_70 : decode cX6_init 70 = .ok (.putfield 25, 3) := by decide +kernel
theorem dX6_init_73 : decode cX6_init 73 = .ok (.return_, 1) := by decide +kernel
theorem dX6_thrown_0 : decode cX6_thrown 0 = .ok (.aload_n 0, 1) := by decide +kernel
theorem dX6_thrown_1 : decode cX6_thrown 1 = .ok (.getfield 28, 3) := by decide +kernel
theorem dX6_thrown_4 : decode cX6_thrown 4 = .ok (.ireturn, 1) := by decide +kernel
theorem dX6_fail_0 : decode cX6_fail 0 = .ok (.aload_n 0, 1) := by decide +kernel
theorem dX6_fail_1 : decode cX6_fail 1 = .ok (.iload_n 1, 1) := by decide +kernel
theorem dX6_fail_2 : decode cX6_fail 2 = .ok (.putfield 28, 3) := by decide +kernel
theorem dX6_fail_5 : decode cX6_fail 5 = .ok (.iconst 0, 1) := by decide +kernel
theorem dX6_fail_6 : decode cX6_fail 6 = .ok (.ireturn, 1) := by decide +kernel
theorem dX6_isIn_0 : decode cX6_isIn 0 = .ok (.iload_n 0, 1) := by decide +kernel
theorem dX6_isIn_1 : decode cX6_isIn 1 = .ok (.iload_n 1, 1) := by decide +kernel
theorem dX6_isIn_2 : decode cX6_isIn 2 = .ok (.if_icmp .lt 12, 3) := by decide +kernel
theorem dX6_isIn_5 : decode cX6_isIn 5 = .ok (.iload_n 0, 1) := by decide +kernel
theorem dX6_isIn_6 : decode cX6_isIn 6 = .ok (.iload_n 2, 1) := by decide +kernel
theorem dX6_isIn_7 : decode cX6_isIn 7 = .ok (.if_icmp .gt 7, 3) := by decide +kernel
theorem dX6_isIn_10 : decode cX6_isIn 10 = .ok (.iconst 1, 1) := by decide +kernel
theorem dX6_isIn_11 : decode cX6_isIn 11 = .ok (.goto 4, 3) := by decide +kernel
theorem dX6_isIn_14 : decode cX6_isIn 14 = .ok (.iconst 0, 1) := by decide +kernel
theorem dX6_isIn_15 : decode cX6_isIn 15 = .ok (.ireturn, 1) := by decide +kernel
theorem dX6_isBooth_0 : decode cX6_isBooth 0 = .ok (.iload_n 1, 1) := by decide +kernel
theorem dX6_isBooth_1 : decode cX6_isBooth 1 = .ok (.iconst 0, 1) := by decide +kernel
theorem dX6_isBooth_2 : decode cX6_isBooth 2 = .ok (.aload_n 0, 1) := by decide +kernel
theorem dX6_isBooth_3 : decode cX6_isBooth 3 = .ok (.getfield 32, 3) := by decide +kernel
theorem dX6_isBooth_6 : decode cX6_isBooth 6 = .ok (.iconst 1, 1) := by decide +kernel
theorem dX6_isBooth_7 : decode cX6_isBooth 7 = .ok (.isub, 1) := by decide +kernel
theorem dX6_isBooth_8 : decode cX6_isBooth 8 = .ok (.invokestatic 35, 3) := by decide +kernel
theorem dX6_isBooth_11 : decode cX6_isBooth 11 = .ok (.ireturn, 1) := by decide +kernel
theorem dX6_isHelper_0 : decode cX6_isHelper 0 = .ok (.iload_n 1, 1) := by decide +kernel
theorem dX6_isHelper_1 : decode cX6_isHelper 1 = .ok (.iconst 0, 1) := by decide +kernel
theorem dX6_isHelper_2 : decode cX6_isHelper 2 = .ok (.aload_n 0, 1) := by decide +kernel
theorem dX6_isHelper_3 : decode cX6_isHelper 3 = .ok (.getfield 39, 3) := by decide +kernel
theorem dX6_isHelper_6 : decode cX6_isHelper 6 = .ok (.iconst 1, 1) := by decide +kernel
theorem dX6_isHelper_7 : decode cX6_isHelper 7 = .ok (.isub, 1) := by decide +kernel
theorem dX6_isHelper_8 : decode cX6_isHelper 8 = .ok (.invokestatic 35, 3) := by decide +kernel
theorem dX6_isHelper_11 : decode cX6_isHelper 11 = .ok (.ireturn, 1) := by decide +kernel
theorem dX6_isVisitor_0 : decode cX6_isVisitor 0 = .ok (.iload_n 1, 1) := by decide +kernel
theorem dX6_isVisitor_1 : decode cX6_isVisitor 1 = .ok (.iconst 0, 1) := by decide +kernel
theorem dX6_isVisitor_2 : decode cX6_isVisitor 2 = .ok (.aload_n 0, 1) := by decide +kernel
theorem dX6_isVisitor_3 : decode cX6_isVisitor 3 = .ok (.getfield 42, 3) := by decide +kernel
theorem dX6_isVisitor_6 : decode cX6_isVisitor 6 = .ok (.iconst 1, 1) := by decide +kernel
theorem dX6_isVisitor_7 : decode cX6_isVisitor 7 = .ok (.isub, 1) := by decide +kernel
theorem dX6_isVisitor_8 : decode cX6_isVisitor 8 = .ok (.invokestatic 35, 3) := by decide +kernel
theorem dX6_isVisitor_11 : decode cX6_isVisitor 11 = .ok (.ireturn, 1) := by decide +kernel
theorem dX6_bo_0 : decode cX6_bo 0 = .ok (.aload_n 0, 1) := by decide +kernel
theorem dX6_bo_1 : decode cX6_bo 1 = .ok (.getfield 9, 3) := by decide +kernel
theorem dX6_bo_4 : decode cX6_bo 4 = .ok (.bipush 6, 2) := by decide +kernel
theorem dX6_bo_6 : decode cX6_bo 6 = .ok (.iload_n 1, 1) := by decide +kernel
theorem dX6_bo_7 : decode cX6_bo 7 = .ok (.imul, 1) := by decide +kernel
theorem dX6_bo_8 : decode cX6_bo 8 = .ok (.iload_n 2, 1) := by decide +kernel
theorem dX6_bo_9 : decode cX6_bo 9 = .ok (.iadd, 1) := by decide +kernel
theorem dX6_bo_10 : decode cX6_bo 10 = .ok (.iaload, 1) := by decide +kernel
theorem dX6_bo_11 : decode cX6_bo 11 = .ok (.ireturn, 1) := by decide +kernel
theorem dX6_setBo_0 : decode cX6_setBo 0 = .ok (.aload_n 0, 1) := by decide +kernel
theorem dX6_setBo_1 : decode cX6_setBo 1 = .ok (.getfield 9, 3) := by decide +kernel
theorem dX6_setBo_4 : decode cX6_setBo 4 = .ok (.bipush 6, 2) := by decide +kernel
theorem dX6_setBo_6 : decode cX6_setBo 6 = .ok (.iload_n 1, 1) := by decide +kernel
theorem dX6_setBo_7 : decode cX6_setBo 7 = .ok (.imul, 1) := by decide +kernel
theorem dX6_setBo_8 : decode cX6_setBo 8 = .ok (.iload_n 2, 1) := by decide +kernel
theorem dX6_setBo_9 : decode cX6_setBo 9 = .ok (.iadd, 1) := by decide +kernel
theorem dX6_setBo_10 : decode cX6_setBo 10 = .ok (.iload_n 3, 1) := by decide +kernel
theorem dX6_setBo_11 : decode cX6_setBo 11 = .ok (.iastore, 1) := by decide +kernel
theorem dX6_setBo_12 : decode cX6_setBo 12 = .ok (.return_, 1) := by decide +kernel
theorem dX6_he_0 : decode cX6_he 0 = .ok (.aload_n 0, 1) := by decide +kernel
theorem dX6_he_1 : decode cX6_he 1 = .ok (.getfield 13, 3) := by decide +kernel
theorem dX6_he_4 : decode cX6_he 4 = .ok (.iconst 3, 1) := by decide +kernel
theorem dX6_he_5 : decode cX6_he 5 = .ok (.iload_n 1, 1) := by decide +kernel
theorem dX6_he_6 : decode cX6_he 6 = .ok (.imul, 1) := by decide +kernel
theorem dX6_he_7 : decode cX6_he 7 = .ok (.iload_n 2, 1) := by decide +kernel
theorem dX6_he_8 : decode cX6_he 8 = .ok (.iadd, 1) := by decide +kernel
theorem dX6_he_9 : decode cX6_he 9 = .ok (.iaload, 1) := by decide +kernel
theorem dX6_he_10 : decode cX6_he 10 = .ok (.ireturn, 1) := by decide +kernel
theorem dX6_setHe_0 : decode cX6_setHe 0 = .ok (.aload_n 0, 1) := by decide +kernel
theorem dX6_setHe_1 : decode cX6_setHe 1 = .ok (.getfield 13, 3) := by decide +kernel
theorem dX6_setHe_4 : decode cX6_setHe 4 = .ok (.iconst 3, 1) := by decide +kernel
theorem dX6_setHe_5 : decode cX6_setHe 5 = .ok (.iload_n 1, 1) := by decide +kernel
theorem dX6_setHe_6 : decode cX6_setHe 6 = .ok (.imul, 1) := by decide +kernel
theorem dX6_setHe_7 : decode cX6_setHe 7 = .ok (.iload_n 2, 1) := by decide +kernel
theorem dX6_setHe_8 : decode cX6_setHe 8 = .ok (.iadd, 1) := by decide +kernel
theorem dX6_setHe_9 : decode cX6_setHe 9 = .ok (.iload_n 3, 1) := by decide +kernel
theorem dX6_setHe_10 : decode cX6_setHe 10 = .ok (.iastore, 1) := by decide +kernel
theorem dX6_setHe_11 : decode cX6_setHe 11 = .ok (.return_, 1) := by decide +kernel
theorem dX6_vi_0 : decode cX6_vi 0 = .ok (.aload_n 0, 1) := by decide +kernel
theorem dX6_vi_1 : decode cX6_vi 1 = .ok (.getfield 16, 3) := by decide +kernel
theorem dX6_vi_4 : decode cX6_vi 4 = .ok (.bipush 9, 2) := by decide +kernel
theorem dX6_vi_6 : decode cX6_vi 6 = .ok (.iload_n 1, 1) := by decide +kernel
theorem dX6_vi_7 : decode cX6_vi 7 = .ok (.imul, 1) := by decide +kernel
theorem dX6_vi_8 : decode cX6_vi 8 = .ok (.iload_n 2, 1) := by decide +kernel
theorem dX6_vi_9 : decode cX6_vi 9 = .ok (.iadd, 1) := by decide +kernel
theorem dX6_vi_10 : decode cX6_vi 10 = .ok (.iaload, 1) := by decide +kernel
theorem dX6_vi_11 : decode cX6_vi 11 = .ok (.ireturn, 1) := by decide +kernel
theorem dX6_setVi_0 : decode cX6_setVi 0 = .ok (.aload_n 0, 1) := by decide +kernel
theorem dX6_setVi_1 : decode cX6_setVi 1 = .ok (.getfield 16, 3) := by decide +kernel
theorem dX6_setVi_4 : decode cX6_setVi 4 = .ok (.bipush 9, 2) := by decide +kernel
theorem dX6_setVi_6 : decode cX6_setVi 6 = .ok (.iload_n 1, 1) := by decide +kernel
theorem dX6_setVi_7 : decode cX6_setVi 7 = .ok (.imul, 1) := by decide +kernel
theorem dX6_setVi_8 : decode cX6_setVi 8 = .ok (.iload_n 2, 1) := by decide +kernel
theorem dX6_setVi_9 : decode cX6_setVi 9 = .ok (.iadd, 1) := by decide +kernel
theorem dX6_setVi_10 : decode cX6_setVi 10 = .ok (.iload_n 3, 1) := by decide +kernel
theorem dX6_setVi_11 : decode cX6_setVi 11 = .ok (.iastore, 1) := by decide +kernel
theorem dX6_setVi_12 : decode cX6_setVi 12 = .ok (.return_, 1) := by decide +kernel
theorem dX6_addBooth_0 : decode cX6_addBooth 0 = .ok (.aload_n 0, 1) := by decide +kernel
theorem dX6_addBooth_1 : decode cX6_addBooth 1 = .ok (.iconst 0, 1) := by decide +kernel
theorem dX6_addBooth_2 : decode cX6_addBooth 2 = .ok (.putfield 28, 3) := by decide +kernel
theorem dX6_addBooth_5 : decode cX6_addBooth 5 = .ok (.iload_n 1, 1) := by decide +kernel
theorem dX6_addBooth_6 : decode cX6_addBooth 6 = .ok (.iconst 1, 1) := by decide +kernel
theorem dX6_addBooth_7 : decode cX6_addBooth 7 = .ok (.bipush 9, 2) := by decide +kernel
theorem dX6_addBooth_9 : decode cX6_addBooth 9 = .ok (.invokestatic 35, 3) := by decide +kernel
theorem dX6_addBooth_12 : decode cX6_addBooth 12 = .ok (.ifCond .eq 33, 3) := by decide +kernel
theorem dX6_addBooth_15 : decode cX6_addBooth 15 = .ok (.iload_n 2, 1) := by decide +kernel
theorem dX6_addBooth_16 : decode cX6_addBooth 16 = .ok (.iconst 0, 1) := by decide +kernel
theorem dX6_addBooth_17 : decode cX6_addBooth 17 = .ok (.bipush 60, 2) := by decide +kernel
theorem dX6_addBooth_19 : decode cX6_addBooth 19 = .ok (.invokestatic 35, 3) := by decide +kernel
theorem dX6_addBooth_22 : decode cX6_addBooth 22 = .ok (.ifCond .eq 23, 3) := by decide +kernel
theorem dX6_addBooth_25 : decode cX6_addBooth 25 = .ok (.iload_n 3, 1) := by decide +kernel
theorem dX6_addBooth_26 : decode cX6_addBooth 26 = .ok (.iconst 0, 1) := by decide +kernel
theorem dX6_addBooth_27 : decode cX6_addBooth 27 = .ok (.bipush 99, 2) := by decide +kernel
theorem dX6_addBooth_29 : decode cX6_addBooth 29 = .ok (.invokestatic 35, 3) := by decide +kernel
theorem dX6_addBooth_32 : decode cX6_addBooth 32 = .ok (.ifCond .eq 13, 3) := by decide +kernel
theorem dX6_addBooth_35 : decode cX6_addBooth 35 = .ok (.iload 4, 2) := by decide +kernel
theorem dX6_addBooth_37 : decode cX6_addBooth 37 = .ok (.iconst 1, 1) := by decide +kernel
theorem dX6_addBooth_38 : decode cX6_addBooth 38 = .ok (.iconst 3, 1) := by decide +kernel
theorem dX6_addBooth_39 : decode cX6_addBooth 39 = .ok (.invokestatic 35, 3) := by decide +kernel
theorem dX6_addBooth_42 : decode cX6_addBooth 42 = .ok (.ifCond .ne 9, 3) := by decide +kernel
theorem dX6_addBooth_45 : decode cX6_addBooth 45 = .ok (.aload_n 0, 1) := by decide +kernel
theorem dX6_addBooth_46 : decode cX6_addBooth 46 = .ok (.iconst 1, 1) := by decide +kernel
theorem dX6_addBooth_47 : decode cX6_addBooth 47 = .ok (.invokevirtual 45, 3) := by decide +kernel
theorem dX6_addBooth_50 : decode cX6_addBooth 50 = .ok (.ireturn, 1) := by decide +kernel
theorem dX6_addBooth_51 : decode cX6_addBooth 51 = .ok (.aload_n 0, 1) := by decide +kernel
theorem dX6_addBooth_52 : decode cX6_addBooth 52 = .ok (.getfield 32, 3) := by decide +kernel
theorem dX6_addBooth_55 : decode cX6_addBooth 55 = .ok (.bipush 8, 2) := by decide +kernel
theorem dX6_addBooth_57 : decode cX6_addBooth 57 = .ok (.if_icmp .ne 9, 3) := by decide +kernel
theorem dX6_addBooth_60 : decode cX6_addBooth 60 = .ok (.aload_n 0, 1) := by decide +kernel
theorem dX6_addBooth_61 : decode cX6_addBooth 61 = .ok (.iconst 2, 1) := by decide +kernel
theorem dX6_addBooth_62 : decode cX6_addBooth 62 = .ok (.invokevirtual 45, 3) := by decide +kernel
theorem dX6_addBooth_65 : decode cX6_addBooth 65 = .ok (.ireturn, 1) := by decide +kernel
theorem dX6_addBooth_66 : decode cX6_addBooth 66 = .ok (.bipush 6, 2) := by decide +kernel
theorem dX6_addBooth_68 : decode cX6_addBooth 68 = .ok (.newarray .int, 2) := by decide +kernel
theorem dX6_addBooth_70 : decode cX6_addBooth 70 = .ok (.dup, 1) := by decide +kernel
theorem dX6_addBooth_71 : decode cX6_addBooth 71 = .ok (.iconst 0, 1) := by decide +kernel
theorem dX6_addBooth_72 : decode cX6_addBooth 72 = .ok (.iload_n 1, 1) := by decide +kernel
theorem dX6_addBooth_73 : decode cX6_addBooth 73 = .ok (.iastore, 1) := by decide +kernel
theorem dX6_addBooth_74 : decode cX6_addBooth 74 = .ok (.dup, 1) := by decide +kernel
theorem dX6_addBooth_75 : decode cX6_addBooth 75 = .ok (.iconst 1, 1) := by decide +kernel
theorem dX6_addBooth_76 : decode cX6_addBooth 76 = .ok (.iload_n 2, 1) := by decide +kernel
theorem dX6_addBooth_77 : decode cX6_addBooth 77 = .ok (.iastore, 1) := by decide +kernel
theorem dX6_addBooth_78 : decode cX6_addBooth 78 = .ok (.dup, 1) := by decide +kernel
theorem dX6_addBooth_79 : decode cX6_addBooth 79 = .ok (.iconst 2, 1) := by decide +kernel
theorem dX6_addBooth_80 : decode cX6_addBooth 80 = .ok (.iload_n 3, 1) := by decide +kernel
theorem dX6_addBooth_81 : decode cX6_addBooth 81 = .ok (.iastore, 1) := by decide +kernel
theorem dX6_addBooth_82 : decode cX6_addBooth 82 = .ok (.dup, 1) := by decide +kernel
theorem dX6_addBooth_83 : decode cX6_addBooth 83 = .ok (.iconst 3, 1) := by decide +kernel
theorem dX6_addBooth_84 : decode cX6_addBooth 84 = .ok (.iload 4, 2) := by decide +kernel
theorem dX6_addBooth_86 : decode cX6_addBooth 86 = .ok (.iastore, 1) := by decide +kernel
theorem dX6_addBooth_87 : decode cX6_addBooth 87 = .ok (.dup, 1) := by decide +kernel
theorem dX6_addBooth_88 : decode cX6_addBooth 88 = .ok (.iconst 4, 1) := by decide +kernel
theorem dX6_addBooth_89 : decode cX6_addBooth 89 = .ok (.iconst 0, 1) := by decide +kernel
theorem dX6_addBooth_90 : decode cX6_addBooth 90 = .ok (.iastore, 1) := by decide +kernel
theorem dX6_addBooth_91 : decode cX6_addBooth 91 = .ok (.dup, 1) := by decide +kernel
theorem dX6_addBooth_92 : decode cX6_addBooth 92 = .ok (.iconst 5, 1) := by decide +kernel
theorem dX6_addBooth_93 : decode cX6_addBooth 93 = .ok (.iconst 0, 1) := by decide +kernel
theorem dX6_addBooth_94 : decode cX6_addBooth 94 = .ok (.iastore, 1) := by decide +kernel
theorem dX6_addBooth_95 : decode cX6_addBooth 95 = .ok (.astore 5, 2) := by decide +kernel
theorem dX6_addBooth_97 : decode cX6_addBooth 97 = .ok (.aload 5, 2) := by decide +kernel
theorem dX6_addBooth_99 : decode cX6_addBooth 99 = .ok (.iconst 0, 1) := by decide +kernel
theorem dX6_addBooth_100 : decode cX6_addBooth 100 = .ok (.aload_n 0, 1) := by decide +kernel
theorem dX6_addBooth_101 : decode cX6_addBooth 101 = .ok (.getfield 9, 3) := by decide +kernel
theorem dX6_addBooth_104 : decode cX6_addBooth 104 = .ok (.bipush 6, 2) := by decide +kernel
theorem dX6_addBooth_106 : decode cX6_addBooth 106 = .ok (.aload_n 0, 1) := by decide +kernel
theorem dX6_addBooth_107 : decode cX6_addBooth 107 = .ok (.getfield 32, 3) := by decide +kernel
theorem dX6_addBooth_110 : decode cX6_addBooth 110 = .ok (.imul, 1) := by decide +kernel
theorem dX6_addBooth_111 : decode cX6_addBooth 111 = .ok (.bipush 6, 2) := by decide +kernel
theorem dX6_addBooth_113 : decode cX6_addBooth 113 = .ok (.invokestatic 49, 3) := by decide +kernel
theorem dX6_addBooth_116 : decode cX6_addBooth 116 = .ok (.aload_n 0, 1) := by decide +kernel
theorem dX6_addBooth_117 : decode cX6_addBooth 117 = .ok (.dup, 1) := by decide +kernel
theorem dX6_addBooth_118 : decode cX6_addBooth 118 = .ok (.getfield 32, 3) := by decide +kernel
theorem dX6_addBooth_121 : decode cX6_addBooth 121 = .ok (.iconst 1, 1) := by decide +kernel
theorem dX6_addBooth_122 : decode cX6_addBooth 122 = .ok (.iadd, 1) := by decide +kernel
theorem dX6_addBooth_123 : decode cX6_addBooth 123 = .ok (.putfield 32, 3) := by decide +kernel
theorem dX6_addBooth_126 : decode cX6_addBooth 126 = .ok (.aload_n 0, 1) := by decide +kernel
theorem dX6_addBooth_127 : decode cX6_addBooth 127 = .ok (.getfield 32, 3) := by decide +kernel
theorem dX6_addBooth_130 : decode cX6_addBooth 130 = .ok (.iconst 1, 1) := by decide +kernel
theorem dX6_addBooth_131 : decode cX6_addBooth 131 = .ok (.isub, 1) := by decide +kernel
theorem dX6_addBooth_132 : decode cX6_addBooth 132 = .ok (.ireturn, 1) := by decide +kernel
theorem dX6_addHelper_0 : decode cX6_addHelper 0 = .ok (.aload_n 0, 1) := by decide +kernel
theorem dX6_addHelper_1 : decode cX6_addHelper 1 = .ok (.iconst 0, 1) := by decide +kernel
theorem dX6_addHelper_2 : decode cX6_addHelper 2 = .ok (.putfield 28, 3) := by decide +kernel
theorem dX6_addHelper_5 : decode cX6_addHelper 5 = .ok (.aload_n 0, 1) := by decide +kernel
theorem dX6_addHelper_6 : decode cX6_addHelper 6 = .ok (.getfield 39, 3) := by decide +kernel
theorem dX6_addHelper_9 : decode cX6_addHelper 9 = .ok (.bipush 12, 2) := by decide +kernel
theorem dX6_addHelper_11 : decode cX6_addHelper 11 = .ok (.if_icmp .ne 9, 3) := by decide +kernel
theorem dX6_addHelper_14 : decode cX6_addHelper 14 = .ok (.aload_n 0, 1) := by decide +kernel
theorem dX6_addHelper_15 : decode cX6_addHelper 15 = .ok (.iconst 1, 1) := by decide +kernel
theorem dX6_addHelper_16 : decode cX6_addHelper 16 = .ok (.invokevirtual 45, 3) := by decide +kernel
theorem dX6_addHelper_19 : decode cX6_addHelper 19 = .ok (.ireturn, 1) := by decide +kernel
theorem dX6_addHelper_20 : decode cX6_addHelper 20 = .ok (.iconst 3, 1) := by decide +kernel
theorem dX6_addHelper_21 : decode cX6_addHelper 21 = .ok (.newarray .int, 2) := by decide +kernel
theorem dX6_addHelper_23 : decode cX6_addHelper 23 = .ok (.dup, 1) := by decide +kernel
theorem dX6_addHelper_24 : decode cX6_addHelper 24 = .ok (.iconst 0, 1) := by decide +kernel
theorem dX6_addHelper_25 : decode cX6_addHelper 25 = .ok (.bipush 24, 2) := by decide +kernel
theorem dX6_addHelper_27 : decode cX6_addHelper 27 = .ok (.iastore, 1) := by decide +kernel
theorem dX6_addHelper_28 : decode cX6_addHelper 28 = .ok (.dup, 1) := by decide +kernel
theorem dX6_addHelper_29 : decode cX6_addHelper 29 = .ok (.iconst 1, 1) := by decide +kernel
theorem dX6_addHelper_30 : decode cX6_addHelper 30 = .ok (.iconst (-1), 1) := by decide +kernel
theorem dX6_addHelper_31 : decode cX6_addHelper 31 = .ok (.iastore, 1) := by decide +kernel
theorem dX6_addHelper_32 : decode cX6_addHelper 32 = .ok (.dup, 1) := by decide +kernel
theorem dX6_addHelper_33 : decode cX6_addHelper 33 = .ok (.iconst 2, 1) := by decide +kernel
theorem dX6_addHelper_34 : decode cX6_addHelper 34 = .ok (.iconst 0, 1) := by decide +kernel
theorem dX6_addHelper_35 : decode cX6_addHelper 35 = .ok (.iastore, 1) := by decide +kernel
theorem dX6_addHelper_36 : decode cX6_addHelper 36 = .ok (.astore_n 1, 1) := by decide +kernel
theorem dX6_addHelper_37 : decode cX6_addHelper 37 = .ok (.aload_n 1, 1) := by decide +kernel
theorem dX6_addHelper_38 : decode cX6_addHelper 38 = .ok (.iconst 0, 1) := by decide +kernel
theorem dX6_addHelper_39 : decode cX6_addHelper 39 = .ok (.aload_n 0, 1) := by decide +kernel
theorem dX6_addHelper_40 : decode cX6_addHelper 40 = .ok (.getfield 13, 3) := by decide +kernel
theorem dX6_addHelper_43 : decode cX6_addHelper 43 = .ok (.iconst 3, 1) := by decide +kernel
theorem dX6_addHelper_44 : decode cX6_addHelper 44 = .ok (.aload_n 0, 1) := by decide +kernel
theorem dX6_addHelper_45 : decode cX6_addHelper 45 = .ok (.getfield 39, 3) := by decide +kernel
theorem dX6_addHelper_48 : decode cX6_addHelper 48 = .ok (.imul, 1) := by decide +kernel
theorem dX6_addHelper_49 : decode cX6_addHelper 49 = .ok (.iconst 3, 1) := by decide +kernel
theorem dX6_addHelper_50 : decode cX6_addHelper 50 = .ok (.invokestatic 49, 3) := by decide +kernel
theorem dX6_addHelper_53 : decode cX6_addHelper 53 = .ok (.aload_n 0, 1) := by decide +kernel
theorem dX6_addHelper_54 : decode cX6_addHelper 54 = .ok (.dup, 1) := by decide +kernel
theorem dX6_addHelper_55 : decode cX6_addHelper 55 = .ok (.getfield 39, 3) := by decide +kernel
theorem dX6_addHelper_58 : decode cX6_addHelper 58 = .ok (.iconst 1, 1) := by decide +kernel
theorem dX6_addHelper_59 : decode cX6_addHelper 59 = .ok (.iadd, 1) := by decide +kernel
theorem dX6_addHelper_60 : decode cX6_addHelper 60 = .ok (.putfield 39, 3) := by decide +kernel
theorem dX6_addHelper_63 : decode cX6_addHelper 63 = .ok (.aload_n 0, 1) := by decide +kernel
theorem dX6_addHelper_64 : decode cX6_addHelper 64 = .ok (.getfield 39, 3) := by decide +kernel
theorem dX6_addHelper_67 : decode cX6_addHelper 67 = .ok (.iconst 1, 1) := by decide +kernel
theorem dX6_addHelper_68 : decode cX6_addHelper 68 = .ok (.isub, 1) := by decide +kernel
theorem dX6_addHelper_69 : decode cX6_addHelper 69 = .ok (.ireturn, 1) := by decide +kernel
theorem dX6_come_0 : decode cX6_come 0 = .ok (.aload_n 0, 1) := by decide +kernel
theorem dX6_come_1 : decode cX6_come 1 = .ok (.iconst 0, 1) := by decide +kernel
theorem dX6_come_2 : decode cX6_come 2 = .ok (.putfield 28, 3) := by decide +kernel
theorem dX6_come_5 : decode cX6_come 5 = .ok (.iload_n 1, 1) := by decide +kernel
theorem dX6_come_6 : decode cX6_come 6 = .ok (.iconst 0, 1) := by decide +kernel
theorem dX6_come_7 : decode cX6_come 7 = .ok (.sipush 200, 3) := by decide +kernel
theorem dX6_come_10 : decode cX6_come 10 = .ok (.invokestatic 35, 3) := by decide +kernel
theorem dX6_come_13 : decode cX6_come 13 = .ok (.ifCond .eq 13, 3) := by decide +kernel
theorem dX6_come_16 : decode cX6_come 16 = .ok (.iload_n 2, 1) := by decide +kernel
theorem dX6_come_17 : decode cX6_come 17 = .ok (.iconst 0, 1) := by decide +kernel
theorem dX6_come_18 : decode cX6_come 18 = .ok (.bipush 30, 2) := by decide +kernel
theorem dX6_come_20 : decode cX6_come 20 = .ok (.invokestatic 35, 3) := by decide +kernel
theorem dX6_come_23 : decode cX6_come 23 = .ok (.ifCond .ne 9, 3) := by decide +kernel
theorem dX6_come_26 : decode cX6_come 26 = .ok (.aload_n 0, 1) := by decide +kernel
theorem dX6_come_27 : decode cX6_come 27 = .ok (.iconst 1, 1) := by decide +kernel
theorem dX6_come_28 : decode cX6_come 28 = .ok (.invokevirtual 45, 3) := by decide +kernel
theorem dX6_come_31 : decode cX6_come 31 = .ok (.ireturn, 1) := by decide +kernel
theorem dX6_come_32 : decode cX6_come 32 = .ok (.aload_n 0, 1) := by decide +kernel
theorem dX6_come_33 : decode cX6_come 33 = .ok (.getfield 42, 3) := by decide +kernel
theorem dX6_come_36 : decode cX6_come 36 = .ok (.bipush 16, 2) := by decide +kernel
theorem dX6_come_38 : decode cX6_come 38 = .ok (.if_icmp .ne 9, 3) := by decide +kernel
theorem dX6_come_41 : decode cX6_come 41 = .ok (.aload_n 0, 1) := by decide +kernel
theorem dX6_come_42 : decode cX6_come 42 = .ok (.iconst 2, 1) := by decide +kernel
theorem dX6_come_43 : decode cX6_come 43 = .ok (.invokevirtual 45, 3) := by decide +kernel
theorem dX6_come_46 : decode cX6_come 46 = .ok (.ireturn, 1) := by decide +kernel
theorem dX6_come_47 : decode cX6_come 47 = .ok (.bipush 9, 2) := by decide +kernel
theorem dX6_come_49 : decode cX6_come 49 = .ok (.newarray .int, 2) := by decide +kernel
theorem dX6_come_51 : decode cX6_come 51 = .ok (.dup, 1) := by decide +kernel
theorem dX6_come_52 : decode cX6_come 52 = .ok (.iconst 0, 1) := by decide +kernel
theorem dX6_come_53 : decode cX6_come 53 = .ok (.iload_n 1, 1) := by decide +kernel
theorem dX6_come_54 : decode cX6_come 54 = .ok (.iastore, 1) := by decide +kernel
theorem dX6_come_55 : decode cX6_come 55 = .ok (.dup, 1) := by decide +kernel
theorem dX6_come_56 : decode cX6_come 56 = .ok (.iconst 1, 1) := by decide +kernel
theorem dX6_come_57 : decode cX6_come 57 = .ok (.iload_n 2, 1) := by decide +kernel
theorem dX6_come_58 : decode cX6_come 58 = .ok (.iastore, 1) := by decide +kernel
theorem dX6_come_59 : decode cX6_come 59 = .ok (.dup, 1) := by decide +kernel
theorem dX6_come_60 : decode cX6_come 60 = .ok (.iconst 2, 1) := by decide +kernel
theorem dX6_come_61 : decode cX6_come 61 = .ok (.iconst 0, 1) := by decide +kernel
theorem dX6_come_62 : decode cX6_come 62 = .ok (.iastore, 1) := by decide +kernel
theorem dX6_come_63 : decode cX6_come 63 = .ok (.dup, 1) := by decide +kernel
theorem dX6_come_64 : decode cX6_come 64 = .ok (.iconst 3, 1) := by decide +kernel
theorem dX6_come_65 : decode cX6_come 65 = .ok (.iconst (-1), 1) := by decide +kernel
theorem dX6_come_66 : decode cX6_come 66 = .ok (.iastore, 1) := by decide +kernel
theorem dX6_come_67 : decode cX6_come 67 = .ok (.dup, 1) := by decide +kernel
theorem dX6_come_68 : decode cX6_come 68 = .ok (.iconst 4, 1) := by decide +kernel
theorem dX6_come_69 : decode cX6_come 69 = .ok (.iconst 0, 1) := by decide +kernel
theorem dX6_come_70 : decode cX6_come 70 = .ok (.iastore, 1) := by decide +kernel
theorem dX6_come_71 : decode cX6_come 71 = .ok (.dup, 1) := by decide +kernel
theorem dX6_come_72 : decode cX6_come 72 = .ok (.iconst 5, 1) := by decide +kernel
theorem dX6_come_73 : decode cX6_come 73 = .ok (.iconst 0, 1) := by decide +kernel
theorem dX6_come_74 : decode cX6_come 74 = .ok (.iastore, 1) := by decide +kernel
theorem dX6_come_75 : decode cX6_come 75 = .ok (.dup, 1) := by decide +kernel
theorem dX6_come_76 : decode cX6_come 76 = .ok (.bipush 6, 2) := by decide +kernel
theorem dX6_come_78 : decode cX6_come 78 = .ok (.iconst 0, 1) := by decide +kernel
theorem dX6_come_79 : decode cX6_come 79 = .ok (.iastore, 1) := by decide +kernel
theorem dX6_come_80 : decode cX6_come 80 = .ok (.dup, 1) := by decide +kernel
theorem dX6_come_81 : decode cX6_come 81 = .ok (.bipush 7, 2) := by decide +kernel
theorem dX6_come_83 : decode cX6_come 83 = .ok (.iconst 0, 1) := by decide +kernel
theorem dX6_come_84 : decode cX6_come 84 = .ok (.iastore, 1) := by decide +kernel
theorem dX6_come_85 : decode cX6_come 85 = .ok (.dup, 1) := by decide +kernel
theorem dX6_come_86 : decode cX6_come 86 = .ok (.bipush 8, 2) := by decide +kernel
theorem dX6_come_88 : decode cX6_come 88 = .ok (.iconst 0, 1) := by decide +kernel
theorem dX6_come_89 : decode cX6_come 89 = .ok (.iastore, 1) := by decide +kernel
theorem dX6_come_90 : decode cX6_come 90 = .ok (.astore_n 3, 1) := by decide +kernel
theorem dX6_come_91 : decode cX6_come 91 = .ok (.aload_n 3, 1) := by decide +kernel
theorem dX6_come_92 : decode cX6_come 92 = .ok (.iconst 0, 1) := by decide +kernel
theorem dX6_come_93 : decode cX6_come 93 = .ok (.aload_n 0, 1) := by decide +kernel
theorem dX6_come_94 : decode cX6_come 94 = .ok (.getfield 16, 3) := by decide +kernel
theorem dX6_come_97 : decode cX6_come 97 = .ok (.bipush 9, 2) := by decide +kernel
theorem dX6_come_99 : decode cX6_come 99 = .ok (.aload_n 0, 1) := by decide +kernel
theorem dX6_come_100 : decode cX6_come 100 = .ok (.getfield 42, 3) := by decide +kernel
theorem dX6_come_103 : decode cX6_come 103 = .ok (.imul, 1) := by decide +kernel
theorem dX6_come_104 : decode cX6_come 104 = .ok (.bipush 9, 2) := by decide +kernel
theorem dX6_come_106 : decode cX6_come 106 = .ok (.invokestatic 49, 3) := by decide +kernel
theorem dX6_come_109 : decode cX6_come 109 = .ok (.aload_n 0, 1) := by decide +kernel
theorem dX6_come_110 : decode cX6_come 110 = .ok (.dup, 1) := by decide +kernel
theorem dX6_come_111 : decode cX6_come 111 = .ok (.getfield 42, 3) := by decide +kernel
theorem dX6_come_114 : decode cX6_come 114 = .ok (.iconst 1, 1) := by decide +kernel
theorem dX6_come_115 : decode cX6_come 115 = .ok (.iadd, 1) := by decide +kernel
theorem dX6_come_116 : decode cX6_come 116 = .ok (.putfield 42, 3) := by decide +kernel
theorem dX6_come_119 : decode cX6_come 119 = .ok (.aload_n 0, 1) := by decide +kernel
theorem dX6_come_120 : decode cX6_come 120 = .ok (.getfield 42, 3) := by decide +kernel
theorem dX6_come_123 : decode cX6_come 123 = .ok (.iconst 1, 1) := by decide +kernel
theorem dX6_come_124 : decode cX6_come 124 = .ok (.isub, 1) := by decide +kernel
theorem dX6_come_125 : decode cX6_come 125 = .ok (.ireturn, 1) := by decide +kernel
theorem dX6_setDart_0 : decode cX6_setDart 0 = .ok (.aload_n 0, 1) := by decide +kernel
theorem dX6_setDart_1 : decode cX6_setDart 1 = .ok (.iconst 0, 1) := by decide +kernel
theorem dX6_setDart_2 : decode cX6_setDart 2 = .ok (.putfield 28, 3) := by decide +kernel
theorem dX6_setDart_5 : decode cX6_setDart 5 = .ok (.iload_n 1, 1) := by decide +kernel
theorem dX6_setDart_6 : decode cX6_setDart 6 = .ok (.iconst 1, 1) := by decide +kernel
theorem dX6_setDart_7 : decode cX6_setDart 7 = .ok (.ldc 55, 2) := by decide +kernel
theorem dX6_setDart_9 : decode cX6_setDart 9 = .ok (.invokestatic 35, 3) := by decide +kernel
theorem dX6_setDart_12 : decode cX6_setDart 12 = .ok (.ifCond .ne 9, 3) := by decide +kernel
theorem dX6_setDart_15 : decode cX6_setDart 15 = .ok (.aload_n 0, 1) := by decide +kernel
theorem dX6_setDart_16 : decode cX6_setDart 16 = .ok (.iconst 1, 1) := by decide +kernel
theorem dX6_setDart_17 : decode cX6_setDart 17 = .ok (.invokevirtual 45, 3) := by decide +kernel
theorem dX6_setDart_20 : decode cX6_setDart 20 = .ok (.ireturn, 1) := by decide +kernel
theorem dX6_setDart_21 : decode cX6_setDart 21 = .ok (.aload_n 0, 1) := by decide +kernel
theorem dX6_setDart_22 : decode cX6_setDart 22 = .ok (.getfield 25, 3) := by decide +kernel
theorem dX6_setDart_25 : decode cX6_setDart 25 = .ok (.iconst 1, 1) := by decide +kernel
theorem dX6_setDart_26 : decode cX6_setDart 26 = .ok (.iaload, 1) := by decide +kernel
theorem dX6_setDart_27 : decode cX6_setDart 27 = .ok (.istore_n 2, 1) := by decide +kernel
theorem dX6_setDart_28 : decode cX6_setDart 28 = .ok (.aload_n 0, 1) := by decide +kernel
theorem dX6_setDart_29 : decode cX6_setDart 29 = .ok (.getfield 25, 3) := by decide +kernel
theorem dX6_setDart_32 : decode cX6_setDart 32 = .ok (.iconst 1, 1) := by decide +kernel
theorem dX6_setDart_33 : decode cX6_setDart 33 = .ok (.iload_n 1, 1) := by decide +kernel
theorem dX6_setDart_34 : decode cX6_setDart 34 = .ok (.iastore, 1) := by decide +kernel
theorem dX6_setDart_35 : decode cX6_setDart 35 = .ok (.iload_n 2, 1) := by decide +kernel
theorem dX6_setDart_36 : decode cX6_setDart 36 = .ok (.ireturn, 1) := by decide +kernel
theorem dX6_work_0 : decode cX6_work 0 = .ok (.aload_n 0, 1) := by decide +kernel
theorem dX6_work_1 : decode cX6_work 1 = .ok (.iconst 0, 1) := by decide +kernel
theorem dX6_work_2 : decode cX6_work 2 = .ok (.putfield 28, 3) := by decide +kernel
theorem dX6_work_5 : decode cX6_work 5 = .ok (.aload_n 0, 1) := by decide +kernel
theorem dX6_work_6 : decode cX6_work 6 = .ok (.iload_n 1, 1) := by decide +kernel
theorem dX6_work_7 : decode cX6_work 7 = .ok (.invokevirtual 56, 3) := by decide +kernel
theorem dX6_work_10 : decode cX6_work 10 = .ok (.ifCond .eq 16, 3) := by decide +kernel
theorem dX6_work_13 : decode cX6_work 13 = .ok (.iload_n 2, 1) := by decide +kernel
theorem dX6_work_14 : decode cX6_work 14 = .ok (.iconst (-1), 1) := by decide +kernel
theorem dX6_work_15 : decode cX6_work 15 = .ok (.if_icmp .eq 17, 3) := by decide +kernel
theorem dX6_work_18 : decode cX6_work 18 = .ok (.aload_n 0, 1) := by decide +kernel
theorem dX6_work_19 : decode cX6_work 19 = .ok (.iload_n 2, 1) := by decide +kernel
theorem dX6_work_20 : decode cX6_work 20 = .ok (.invokevirtual 60, 3) := by decide +kernel
theorem dX6_work_23 : decode cX6_work 23 = .ok (.ifCond .ne 9, 3) := by decide +kernel
theorem dX6_work_26 : decode cX6_work 26 = .ok (.aload_n 0, 1) := by decide +kernel
theorem dX6_work_27 : decode cX6_work 27 = .ok (.iconst 1, 1) := by decide +kernel
theorem dX6_work_28 : decode cX6_work 28 = .ok (.invokevirtual 45, 3) := by decide +kernel
theorem dX6_work_31 : decode cX6_work 31 = .ok (.ireturn, 1) := by decide +kernel
theorem dX6_work_32 : decode cX6_work 32 = .ok (.aload_n 0, 1) := by decide +kernel
theorem dX6_work_33 : decode cX6_work 33 = .ok (.iload_n 1, 1) := by decide +kernel
theorem dX6_work_34 : decode cX6_work 34 = .ok (.iconst 1, 1) := by decide +kernel
theorem dX6_work_35 : decode cX6_work 35 = .ok (.invokevirtual 63, 3) := by decide +kernel
theorem dX6_work_38 : decode cX6_work 38 = .ok (.istore_n 3, 1) := by decide +kernel
theorem dX6_work_39 : decode cX6_work 39 = .ok (.aload_n 0, 1) := by decide +kernel
theorem dX6_work_40 : decode cX6_work 40 = .ok (.iload_n 1, 1) := by decide +kernel
theorem dX6_work_41 : decode cX6_work 41 = .ok (.iconst 1, 1) := by decide +kernel
theorem dX6_work_42 : decode cX6_work 42 = .ok (.iload_n 2, 1) := by decide +kernel
theorem dX6_work_43 : decode cX6_work 43 = .ok (.invokevirtual 67, 3) := by decide +kernel
theorem dX6_work_46 : decode cX6_work 46 = .ok (.iload_n 3, 1) := by decide +kernel
theorem dX6_work_47 : decode cX6_work 47 = .ok (.ireturn, 1) := by decide +kernel
theorem dX6_bring_0 : decode cX6_bring 0 = .ok (.aload_n 0, 1) := by decide +kernel
theorem dX6_bring_1 : decode cX6_bring 1 = .ok (.iconst 0, 1) := by decide +kernel
theorem dX6_bring_2 : decode cX6_bring 2 = .ok (.putfield 28, 3) := by decide +kernel
theorem dX6_bring_5 : decode cX6_bring 5 = .ok (.aload_n 0, 1) := by decide +kernel
theorem dX6_bring_6 : decode cX6_bring 6 = .ok (.iload_n 1, 1) := by decide +kernel
theorem dX6_bring_7 : decode cX6_bring 7 = .ok (.invokevirtual 60, 3) := by decide +kernel
theorem dX6_bring_10 : decode cX6_bring 10 = .ok (.ifCond .ne 9, 3) := by decide +kernel
theorem dX6_bring_13 : decode cX6_bring 13 = .ok (.aload_n 0, 1) := by decide +kernel
theorem dX6_bring_14 : decode cX6_bring 14 = .ok (.iconst 1, 1) := by decide +kernel
theorem dX6_bring_15 : decode cX6_bring 15 = .ok (.invokevirtual 45, 3) := by decide +kernel
theorem dX6_bring_18 : decode cX6_bring 18 = .ok (.ireturn, 1) := by decide +kernel
theorem dX6_bring_19 : decode cX6_bring 19 = .ok (.iload_n 2, 1) := by decide +kernel
theorem dX6_bring_20 : decode cX6_bring 20 = .ok (.iconst 1, 1) := by decide +kernel
theorem dX6_bring_21 : decode cX6_bring 21 = .ok (.bipush 99, 2) := by decide +kernel
theorem dX6_bring_23 : decode cX6_bring 23 = .ok (.invokestatic 35, 3) := by decide +kernel
theorem dX6_bring_26 : decode cX6_bring 26 = .ok (.ifCond .ne 9, 3) := by decide +kernel
theorem dX6_bring_29 : decode cX6_bring 29 = .ok (.aload_n 0, 1) := by decide +kernel
theorem dX6_bring_30 : decode cX6_bring 30 = .ok (.iconst 2, 1) := by decide +kernel
theorem dX6_bring_31 : decode cX6_bring 31 = .ok (.invokevirtual 45, 3) := by decide +kernel
theorem dX6_bring_34 : decode cX6_bring 34 = .ok (.ireturn, 1) := by decide +kernel
theorem dX6_bring_35 : decode cX6_bring 35 = .ok (.aload_n 0, 1) := by decide +kernel
theorem dX6_bring_36 : decode cX6_bring 36 = .ok (.iload_n 1, 1) := by decide +kernel
theorem dX6_bring_37 : decode cX6_bring 37 = .ok (.iconst 2, 1) := by decide +kernel
theorem dX6_bring_38 : decode cX6_bring 38 = .ok (.invokevirtual 71, 3) := by decide +kernel
theorem dX6_bring_41 : decode cX6_bring 41 = .ok (.iload_n 2, 1) := by decide +kernel
theorem dX6_bring_42 : decode cX6_bring 42 = .ok (.iadd, 1) := by decide +kernel
theorem dX6_bring_43 : decode cX6_bring 43 = .ok (.bipush 99, 2) := by decide +kernel
theorem dX6_bring_45 : decode cX6_bring 45 = .ok (.if_icmp .le 9, 3) := by decide +kernel
theorem dX6_bring_48 : decode cX6_bring 48 = .ok (.aload_n 0, 1) := by decide +kernel
theorem dX6_bring_49 : decode cX6_bring 49 = .ok (.iconst 3, 1) := by decide +kernel
theorem dX6_bring_50 : decode cX6_bring 50 = .ok (.invokevirtual 45, 3) := by decide +kernel
theorem dX6_bring_53 : decode cX6_bring 53 = .ok (.ireturn, 1) := by decide +kernel
theorem dX6_bring_54 : decode cX6_bring 54 = .ok (.aload_n 0, 1) := by decide +kernel
theorem dX6_bring_55 : decode cX6_bring 55 = .ok (.iload_n 1, 1) := by decide +kernel
theorem dX6_bring_56 : decode cX6_bring 56 = .ok (.iconst 2, 1) := by decide +kernel
theorem dX6_bring_57 : decode cX6_bring 57 = .ok (.aload_n 0, 1) := by decide +kernel
theorem dX6_bring_58 : decode cX6_bring 58 = .ok (.iload_n 1, 1) := by decide +kernel
theorem dX6_bring_59 : decode cX6_bring 59 = .ok (.iconst 2, 1) := by decide +kernel
theorem dX6_bring_60 : decode cX6_bring 60 = .ok (.invokevirtual 71, 3) := by decide +kernel
theorem dX6_bring_63 : decode cX6_bring 63 = .ok (.iload_n 2, 1) := by decide +kernel
theorem dX6_bring_64 : decode cX6_bring 64 = .ok (.iadd, 1) := by decide +kernel
theorem dX6_bring_65 : decode cX6_bring 65 = .ok (.invokevirtual 74, 3) := by decide +kernel
theorem dX6_bring_68 : decode cX6_bring 68 = .ok (.aload_n 0, 1) := by decide +kernel
theorem dX6_bring_69 : decode cX6_bring 69 = .ok (.iload_n 1, 1) := by decide +kernel
theorem dX6_bring_70 : decode cX6_bring 70 = .ok (.iconst 2, 1) := by decide +kernel
theorem dX6_bring_71 : decode cX6_bring 71 = .ok (.invokevirtual 71, 3) := by decide +kernel
theorem dX6_bring_74 : decode cX6_bring 74 = .ok (.ireturn, 1) := by decide +kernel
theorem dX6_sell_0 : decode cX6_sell 0 = .ok (.aload_n 0, 1) := by decide +kernel
theorem dX6_sell_1 : decode cX6_sell 1 = .ok (.iconst 0, 1) := by decide +kernel
theorem dX6_sell_2 : decode cX6_sell 2 = .ok (.putfield 28, 3) := by decide +kernel
theorem dX6_sell_5 : decode cX6_sell 5 = .ok (.aload_n 0, 1) := by decide +kernel
theorem dX6_sell_6 : decode cX6_sell 6 = .ok (.iload_n 1, 1) := by decide +kernel
theorem dX6_sell_7 : decode cX6_sell 7 = .ok (.invokevirtual 77, 3) := by decide +kernel
theorem dX6_sell_10 : decode cX6_sell 10 = .ok (.ifCond .ne 9, 3) := by decide +kernel
theorem dX6_sell_13 : decode cX6_sell 13 = .ok (.aload_n 0, 1) := by decide +kernel
theorem dX6_sell_14 : decode cX6_sell 14 = .ok (.iconst 1, 1) := by decide +kernel
theorem dX6_sell_15 : decode cX6_sell 15 = .ok (.invokevirtual 45, 3) := by decide +kernel
theorem dX6_sell_18 : decode cX6_sell 18 = .ok (.ireturn, 1) := by decide +kernel
theorem dX6_sell_19 : decode cX6_sell 19 = .ok (.iload_n 2, 1) := by decide +kernel
theorem dX6_sell_20 : decode cX6_sell 20 = .ok (.iconst 1, 1) := by decide +kernel
theorem dX6_sell_21 : decode cX6_sell 21 = .ok (.sipush 200, 3) := by decide +kernel
theorem dX6_sell_24 : decode cX6_sell 24 = .ok (.invokestatic 35, 3) := by decide +kernel
theorem dX6_sell_27 : decode cX6_sell 27 = .ok (.ifCond .ne 9, 3) := by decide +kernel
theorem dX6_sell_30 : decode cX6_sell 30 = .ok (.aload_n 0, 1) := by decide +kernel
theorem dX6_sell_31 : decode cX6_sell 31 = .ok (.iconst 2, 1) := by decide +kernel
theorem dX6_sell_32 : decode cX6_sell 32 = .ok (.invokevirtual 45, 3) := by decide +kernel
theorem dX6_sell_35 : decode cX6_sell 35 = .ok (.ireturn, 1) := by decide +kernel
theorem dX6_sell_36 : decode cX6_sell 36 = .ok (.aload_n 0, 1) := by decide +kernel
theorem dX6_sell_37 : decode cX6_sell 37 = .ok (.iload_n 1, 1) := by decide +kernel
theorem dX6_sell_38 : decode cX6_sell 38 = .ok (.iconst 0, 1) := by decide +kernel
theorem dX6_sell_39 : decode cX6_sell 39 = .ok (.aload_n 0, 1) := by decide +kernel
theorem dX6_sell_40 : decode cX6_sell 40 = .ok (.iload_n 1, 1) := by decide +kernel
theorem dX6_sell_41 : decode cX6_sell 41 = .ok (.iconst 0, 1) := by decide +kernel
theorem dX6_sell_42 : decode cX6_sell 42 = .ok (.invokevirtual 80, 3) := by decide +kernel
theorem dX6_sell_45 : decode cX6_sell 45 = .ok (.iload_n 2, 1) := by decide +kernel
theorem dX6_sell_46 : decode cX6_sell 46 = .ok (.iadd, 1) := by decide +kernel
theorem dX6_sell_47 : decode cX6_sell 47 = .ok (.invokevirtual 83, 3) := by decide +kernel
theorem dX6_sell_50 : decode cX6_sell 50 = .ok (.aload_n 0, 1) := by decide +kernel
theorem dX6_sell_51 : decode cX6_sell 51 = .ok (.iload_n 1, 1) := by decide +kernel
theorem dX6_sell_52 : decode cX6_sell 52 = .ok (.iconst 2, 1) := by decide +kernel
theorem dX6_sell_53 : decode cX6_sell 53 = .ok (.invokevirtual 80, 3) := by decide +kernel
theorem dX6_sell_56 : decode cX6_sell 56 = .ok (.iconst 2, 1) := by decide +kernel
theorem dX6_sell_57 : decode cX6_sell 57 = .ok (.if_icmp .ne 10, 3) := by decide +kernel
theorem dX6_sell_60 : decode cX6_sell 60 = .ok (.aload_n 0, 1) := by decide +kernel
theorem dX6_sell_61 : decode cX6_sell 61 = .ok (.iload_n 1, 1) := by decide +kernel
theorem dX6_sell_62 : decode cX6_sell 62 = .ok (.iconst 2, 1) := by decide +kernel
theorem dX6_sell_63 : decode cX6_sell 63 = .ok (.iconst 0, 1) := by decide +kernel
theorem dX6_sell_64 : decode cX6_sell 64 = .ok (.invokevirtual 83, 3) := by decide +kernel
theorem dX6_sell_67 : decode cX6_sell 67 = .ok (.aload_n 0, 1) := by decide +kernel
theorem dX6_sell_68 : decode cX6_sell 68 = .ok (.iload_n 1, 1) := by decide +kernel
theorem dX6_sell_69 : decode cX6_sell 69 = .ok (.iconst 0, 1) := by decide +kernel
theorem dX6_sell_70 : decode cX6_sell 70 = .ok (.invokevirtual 80, 3) := by decide +kernel
theorem dX6_sell_73 : decode cX6_sell 73 = .ok (.ireturn, 1) := by decide +kernel
theorem dX6_stroll_0 : decode cX6_stroll 0 = .ok (.iconst 0, 1) := by decide +kernel
theorem dX6_stroll_1 : decode cX6_stroll 1 = .ok (.istore_n 2, 1) := by decide +kernel
theorem dX6_stroll_2 : decode cX6_stroll 2 = .ok (.iload_n 2, 1) := by decide +kernel
theorem dX6_stroll_3 : decode cX6_stroll 3 = .ok (.aload_n 0, 1) := by decide +kernel
theorem dX6_stroll_4 : decode cX6_stroll 4 = .ok (.getfield 42, 3) := by decide +kernel
theorem dX6_stroll_7 : decode cX6_stroll 7 = .ok (.if_icmp .ge 53, 3) := by decide +kernel
theorem dX6_stroll_10 : decode cX6_stroll 10 = .ok (.aload_n 0, 1) := by decide +kernel
theorem dX6_stroll_11 : decode cX6_stroll 11 = .ok (.iload_n 2, 1) := by decide +kernel
theorem dX6_stroll_12 : decode cX6_stroll 12 = .ok (.iconst 3, 1) := by decide +kernel
theorem dX6_stroll_13 : decode cX6_stroll 13 = .ok (.invokevirtual 80, 3) := by decide +kernel
theorem dX6_stroll_16 : decode cX6_stroll 16 = .ok (.aload_n 0, 1) := by decide +kernel
theorem dX6_stroll_17 : decode cX6_stroll 17 = .ok (.iload_n 1, 1) := by decide +kernel
theorem dX6_stroll_18 : decode cX6_stroll 18 = .ok (.iconst 3, 1) := by decide +kernel
theorem dX6_stroll_19 : decode cX6_stroll 19 = .ok (.invokevirtual 80, 3) := by decide +kernel
theorem dX6_stroll_22 : decode cX6_stroll 22 = .ok (.if_icmp .ne 32, 3) := by decide +kernel
theorem dX6_stroll_25 : decode cX6_stroll 25 = .ok (.aload_n 0, 1) := by decide +kernel
theorem dX6_stroll_26 : decode cX6_stroll 26 = .ok (.iload_n 2, 1) := by decide +kernel
theorem dX6_stroll_27 : decode cX6_stroll 27 = .ok (.iconst 4, 1) := by decide +kernel
theorem dX6_stroll_28 : decode cX6_stroll 28 = .ok (.invokevirtual 80, 3) := by decide +kernel
theorem dX6_stroll_31 : decode cX6_stroll 31 = .ok (.aload_n 0, 1) := by decide +kernel
theorem dX6_stroll_32 : decode cX6_stroll 32 = .ok (.iload_n 1, 1) := by decide +kernel
theorem dX6_stroll_33 : decode cX6_stroll 33 = .ok (.iconst 4, 1) := by decide +kernel
theorem dX6_stroll_34 : decode cX6_stroll 34 = .ok (.invokevirtual 80, 3) := by decide +kernel
theorem dX6_stroll_37 : decode cX6_stroll 37 = .ok (.if_icmp .le 17, 3) := by decide +kernel
theorem dX6_stroll_40 : decode cX6_stroll 40 = .ok (.aload_n 0, 1) := by decide +kernel
theorem dX6_stroll_41 : decode cX6_stroll 41 = .ok (.iload_n 2, 1) := by decide +kernel
theorem dX6_stroll_42 : decode cX6_stroll 42 = .ok (.iconst 4, 1) := by decide +kernel
theorem dX6_stroll_43 : decode cX6_stroll 43 = .ok (.aload_n 0, 1) := by decide +kernel
theorem dX6_stroll_44 : decode cX6_stroll 44 = .ok (.iload_n 2, 1) := by decide +kernel
theorem dX6_stroll_45 : decode cX6_stroll 45 = .ok (.iconst 4, 1) := by decide +kernel
theorem dX6_stroll_46 : decode cX6_stroll 46 = .ok (.invokevirtual 80, 3) := by decide +kernel
theorem dX6_stroll_49 : decode cX6_stroll 49 = .ok (.iconst 1, 1) := by decide +kernel
theorem dX6_stroll_50 : decode cX6_stroll 50 = .ok (.isub, 1) := by decide +kernel
theorem dX6_stroll_51 : decode cX6_stroll 51 = .ok (.invokevirtual 83, 3) := by decide +kernel
theorem dX6_stroll_54 : decode cX6_stroll 54 = .ok (.iinc 2 1, 3) := by decide +kernel
theorem dX6_stroll_57 : decode cX6_stroll 57 = .ok (.goto (-55), 3) := by decide +kernel
theorem dX6_stroll_60 : decode cX6_stroll 60 = .ok (.aload_n 0, 1) := by decide +kernel
theorem dX6_stroll_61 : decode cX6_stroll 61 = .ok (.iload_n 1, 1) := by decide +kernel
theorem dX6_stroll_62 : decode cX6_stroll 62 = .ok (.iconst 2, 1) := by decide +kernel
theorem dX6_stroll_63 : decode cX6_stroll 63 = .ok (.iconst 0, 1) := by decide +kernel
theorem dX6_stroll_64 : decode cX6_stroll 64 = .ok (.invokevirtual 83, 3) := by decide +kernel
theorem dX6_stroll_67 : decode cX6_stroll 67 = .ok (.aload_n 0, 1) := by decide +kernel
theorem dX6_stroll_68 : decode cX6_stroll 68 = .ok (.iload_n 1, 1) := by decide +kernel
theorem dX6_stroll_69 : decode cX6_stroll 69 = .ok (.iconst 3, 1) := by decide +kernel
theorem dX6_stroll_70 : decode cX6_stroll 70 = .ok (.iconst (-1), 1) := by decide +kernel
theorem dX6_stroll_71 : decode cX6_stroll 71 = .ok (.invokevirtual 83, 3) := by decide +kernel
theorem dX6_stroll_74 : decode cX6_stroll 74 = .ok (.return_, 1) := by decide +kernel
theorem dX6_leave_0 : decode cX6_leave 0 = .ok (.aload_n 0, 1) := by decide +kernel
theorem dX6_leave_1 : decode cX6_leave 1 = .ok (.iconst 0, 1) := by decide +kernel
theorem dX6_leave_2 : decode cX6_leave 2 = .ok (.putfield 28, 3) := by decide +kernel
theorem dX6_leave_5 : decode cX6_leave 5 = .ok (.aload_n 0, 1) := by decide +kernel
theorem dX6_leave_6 : decode cX6_leave 6 = .ok (.iload_n 1, 1) := by decide +kernel
theorem dX6_leave_7 : decode cX6_leave 7 = .ok (.invokevirtual 77, 3) := by decide +kernel
theorem dX6_leave_10 : decode cX6_leave 10 = .ok (.ifCond .ne 9, 3) := by decide +kernel
theorem dX6_leave_13 : decode cX6_leave 13 = .ok (.aload_n 0, 1) := by decide +kernel
theorem dX6_leave_14 : decode cX6_leave 14 = .ok (.iconst 1, 1) := by decide +kernel
theorem dX6_leave_15 : decode cX6_leave 15 = .ok (.invokevirtual 45, 3) := by decide +kernel
theorem dX6_leave_18 : decode cX6_leave 18 = .ok (.ireturn, 1) := by decide +kernel
theorem dX6_leave_19 : decode cX6_leave 19 = .ok (.aload_n 0, 1) := by decide +kernel
theorem dX6_leave_20 : decode cX6_leave 20 = .ok (.iload_n 1, 1) := by decide +kernel
theorem dX6_leave_21 : decode cX6_leave 21 = .ok (.iconst 3, 1) := by decide +kernel
theorem dX6_leave_22 : decode cX6_leave 22 = .ok (.invokevirtual 80, 3) := by decide +kernel
theorem dX6_leave_25 : decode cX6_leave 25 = .ok (.istore_n 2, 1) := by decide +kernel
theorem dX6_leave_26 : decode cX6_leave 26 = .ok (.iload_n 2, 1) := by decide +kernel
theorem dX6_leave_27 : decode cX6_leave 27 = .ok (.iconst (-1), 1) := by decide +kernel
theorem dX6_leave_28 : decode cX6_leave 28 = .ok (.if_icmp .eq 8, 3) := by decide +kernel
theorem dX6_leave_31 : decode cX6_leave 31 = .ok (.aload_n 0, 1) := by decide +kernel
theorem dX6_leave_32 : decode cX6_leave 32 = .ok (.iload_n 1, 1) := by decide +kernel
theorem dX6_leave_33 : decode cX6_leave 33 = .ok (.invokevirtual 86, 3) := by decide +kernel
theorem dX6_leave_36 : decode cX6_leave 36 = .ok (.iload_n 2, 1) := by decide +kernel
theorem dX6_leave_37 : decode cX6_leave 37 = .ok (.ireturn, 1) := by decide +kernel
theorem dX6_working_0 : decode cX6_working 0 = .ok (.iconst 0, 1) := by decide +kernel
theorem dX6_working_1 : decode cX6_working 1 = .ok (.istore_n 2, 1) := by decide +kernel
theorem dX6_working_2 : decode cX6_working 2 = .ok (.iconst 0, 1) := by decide +kernel
theorem dX6_working_3 : decode cX6_working 3 = .ok (.istore_n 3, 1) := by decide +kernel
theorem dX6_working_4 : decode cX6_working 4 = .ok (.iload_n 3, 1) := by decide +kernel
theorem dX6_working_5 : decode cX6_working 5 = .ok (.aload_n 0, 1) := by decide +kernel
theorem dX6_working_6 : decode cX6_working 6 = .ok (.getfield 39, 3) := by decide +kernel
theorem dX6_working_9 : decode cX6_working 9 = .ok (.if_icmp .ge 27, 3) := by decide +kernel
theorem dX6_working_12 : decode cX6_working 12 = .ok (.iload_n 2, 1) := by decide +kernel
theorem dX6_working_13 : decode cX6_working 13 = .ok (.aload_n 0, 1) := by decide +kernel
theorem dX6_working_14 : decode cX6_working 14 = .ok (.iload_n 3, 1) := by decide +kernel
theorem dX6_working_15 : decode cX6_working 15 = .ok (.iconst 1, 1) := by decide +kernel
theorem dX6_working_16 : decode cX6_working 16 = .ok (.invokevirtual 63, 3) := by decide +kernel
theorem dX6_working_19 : decode cX6_working 19 = .ok (.iload_n 1, 1) := by decide +kernel
theorem dX6_working_20 : decode cX6_working 20 = .ok (.if_icmp .ne 7, 3) := by decide +kernel
theorem dX6_working_23 : decode cX6_working 23 = .ok (.iconst 1, 1) := by decide +kernel
theorem dX6_working_24 : decode cX6_working 24 = .ok (.goto 4, 3) := by decide +kernel
theorem dX6_working_27 : decode cX6_working 27 = .ok (.iconst 0, 1) := by decide +kernel
theorem dX6_working_28 : decode cX6_working 28 = .ok (.iadd, 1) := by decide +kernel
theorem dX6_working_29 : decode cX6_working 29 = .ok (.istore_n 2, 1) := by decide +kernel
theorem dX6_working_30 : decode cX6_working 30 = .ok (.iinc 3 1, 3) := by decide +kernel
theorem dX6_working_33 : decode cX6_working 33 = .ok (.goto (-29), 3) := by decide +kernel
theorem dX6_working_36 : decode cX6_working 36 = .ok (.iload_n 2, 1) := by decide +kernel
theorem dX6_working_37 : decode cX6_working 37 = .ok (.ireturn, 1) := by decide +kernel
theorem dX6_isOpen_0 : decode cX6_isOpen 0 = .ok (.aload_n 0, 1) := by decide +kernel
theorem dX6_isOpen_1 : decode cX6_isOpen 1 = .ok (.iload_n 1, 1) := by decide +kernel
theorem dX6_isOpen_2 : decode cX6_isOpen 2 = .ok (.invokevirtual 90, 3) := by decide +kernel
theorem dX6_isOpen_5 : decode cX6_isOpen 5 = .ok (.aload_n 0, 1) := by decide +kernel
theorem dX6_isOpen_6 : decode cX6_isOpen 6 = .ok (.iload_n 1, 1) := by decide +kernel
theorem dX6_isOpen_7 : decode cX6_isOpen 7 = .ok (.iconst 3, 1) := by decide +kernel
theorem dX6_isOpen_8 : decode cX6_isOpen 8 = .ok (.invokevirtual 71, 3) := by decide +kernel
theorem dX6_isOpen_11 : decode cX6_isOpen 11 = .ok (.if_icmp .lt 7, 3) := by decide +kernel
theorem dX6_isOpen_14 : decode cX6_isOpen 14 = .ok (.iconst 1, 1) := by decide +kernel
theorem dX6_isOpen_15 : decode cX6_isOpen 15 = .ok (.goto 4, 3) := by decide +kernel
theorem dX6_isOpen_18 : decode cX6_isOpen 18 = .ok (.iconst 0, 1) := by decide +kernel
theorem dX6_isOpen_19 : decode cX6_isOpen 19 = .ok (.ireturn, 1) := by decide +kernel
theorem dX6_length_0 : decode cX6_length 0 = .ok (.iconst 0, 1) := by decide +kernel
theorem dX6_length_1 : decode cX6_length 1 = .ok (.istore_n 2, 1) := by decide +kernel
theorem dX6_length_2 : decode cX6_length 2 = .ok (.iconst 0, 1) := by decide +kernel
theorem dX6_length_3 : decode cX6_length 3 = .ok (.istore_n 3, 1) := by decide +kernel
theorem dX6_length_4 : decode cX6_length 4 = .ok (.iload_n 3, 1) := by decide +kernel
theorem dX6_length_5 : decode cX6_length 5 = .ok (.aload_n 0, 1) := by decide +kernel
theorem dX6_length_6 : decode cX6_length 6 = .ok (.getfield 42, 3) := by decide +kernel
theorem dX6_length_9 : decode cX6_length 9 = .ok (.if_icmp .ge 27, 3) := by decide +kernel
theorem dX6_length_12 : decode cX6_length 12 = .ok (.iload_n 2, 1) := by decide +kernel
theorem dX6_length_13 : decode cX6_length 13 = .ok (.aload_n 0, 1) := by decide +kernel
theorem dX6_length_14 : decode cX6_length 14 = .ok (.iload_n 3, 1) := by decide +kernel
theorem dX6_length_15 : decode cX6_length 15 = .ok (.iconst 3, 1) := by decide +kernel
theorem dX6_length_16 : decode cX6_length 16 = .ok (.invokevirtual 80, 3) := by decide +kernel
theorem dX6_length_19 : decode cX6_length 19 = .ok (.iload_n 1, 1) := by decide +kernel
theorem dX6_length_20 : decode cX6_length 20 = .ok (.if_icmp .ne 7, 3) := by decide +kernel
theorem dX6_length_23 : decode cX6_length 23 = .ok (.iconst 1, 1) := by decide +kernel
theorem dX6_length_24 : decode cX6_length 24 = .ok (.goto 4, 3) := by decide +kernel
theorem dX6_length_27 : decode cX6_length 27 = .ok (.iconst 0, 1) := by decide +kernel
theorem dX6_length_28 : decode cX6_length 28 = .ok (.iadd, 1) := by decide +kernel
theorem dX6_length_29 : decode cX6_length 29 = .ok (.istore_n 2, 1) := by decide +kernel
theorem dX6_length_30 : decode cX6_length 30 = .ok (.iinc 3 1, 3) := by decide +kernel
theorem dX6_length_33 : decode cX6_length 33 = .ok (.goto (-29), 3) := by decide +kernel
theorem dX6_length_36 : decode cX6_length 36 = .ok (.iload_n 2, 1) := by decide +kernel
theorem dX6_length_37 : decode cX6_length 37 = .ok (.ireturn, 1) := by decide +kernel
theorem dX6_at_0 : decode cX6_at 0 = .ok (.iconst 0, 1) := by decide +kernel
theorem dX6_at_1 : decode cX6_at 1 = .ok (.istore_n 3, 1) := by decide +kernel
theorem dX6_at_2 : decode cX6_at 2 = .ok (.iload_n 3, 1) := by decide +kernel
theorem dX6_at_3 : decode cX6_at 3 = .ok (.aload_n 0, 1) := by decide +kernel
theorem dX6_at_4 : decode cX6_at 4 = .ok (.getfield 42, 3) := by decide +kernel
theorem dX6_at_7 : decode cX6_at 7 = .ok (.if_icmp .ge 31, 3) := by decide +kernel
theorem dX6_at_10 : decode cX6_at 10 = .ok (.aload_n 0, 1) := by decide +kernel
theorem dX6_at_11 : decode cX6_at 11 = .ok (.iload_n 3, 1) := by decide +kernel
theorem dX6_at_12 : decode cX6_at 12 = .ok (.iconst 3, 1) := by decide +kernel
theorem dX6_at_13 : decode cX6_at 13 = .ok (.invokevirtual 80, 3) := by decide +kernel
theorem dX6_at_16 : decode cX6_at 16 = .ok (.iload_n 1, 1) := by decide +kernel
theorem dX6_at_17 : decode cX6_at 17 = .ok (.if_icmp .ne 15, 3) := by decide +kernel
theorem dX6_at_20 : decode cX6_at 20 = .ok (.aload_n 0, 1) := by decide +kernel
theorem dX6_at_21 : decode cX6_at 21 = .ok (.iload_n 3, 1) := by decide +kernel
theorem dX6_at_22 : decode cX6_at 22 = .ok (.iconst 4, 1) := by decide +kernel
theorem dX6_at_23 : decode cX6_at 23 = .ok (.invokevirtual 80, 3) := by decide +kernel
theorem dX6_at_26 : decode cX6_at 26 = .ok (.iload_n 2, 1) := by decide +kernel
theorem dX6_at_27 : decode cX6_at 27 = .ok (.if_icmp .ne 5, 3) := by decide +kernel
theorem dX6_at_30 : decode cX6_at 30 = .ok (.iload_n 3, 1) := by decide +kernel
theorem dX6_at_31 : decode cX6_at 31 = .ok (.ireturn, 1) := by decide +kernel
theorem dX6_at_32 : decode cX6_at 32 = .ok (.iinc 3 1, 3) := by decide +kernel
theorem dX6_at_35 : decode cX6_at 35 = .ok (.goto (-33), 3) := by decide +kernel
theorem dX6_at_38 : decode cX6_at 38 = .ok (.iconst (-1), 1) := by decide +kernel
theorem dX6_at_39 : decode cX6_at 39 = .ok (.ireturn, 1) := by decide +kernel
theorem dX6_cost_0 : decode cX6_cost 0 = .ok (.aload_n 0, 1) := by decide +kernel
theorem dX6_cost_1 : decode cX6_cost 1 = .ok (.iload_n 1, 1) := by decide +kernel
theorem dX6_cost_2 : decode cX6_cost 2 = .ok (.iconst 0, 1) := by decide +kernel
theorem dX6_cost_3 : decode cX6_cost 3 = .ok (.invokevirtual 71, 3) := by decide +kernel
theorem dX6_cost_6 : decode cX6_cost 6 = .ok (.aload_n 0, 1) := by decide +kernel
theorem dX6_cost_7 : decode cX6_cost 7 = .ok (.getfield 25, 3) := by decide +kernel
theorem dX6_cost_10 : decode cX6_cost 10 = .ok (.iconst 2, 1) := by decide +kernel
theorem dX6_cost_11 : decode cX6_cost 11 = .ok (.iaload, 1) := by decide +kernel
theorem dX6_cost_12 : decode cX6_cost 12 = .ok (.iload_n 1, 1) := by decide +kernel
theorem dX6_cost_13 : decode cX6_cost 13 = .ok (.if_icmp .ne 7, 3) := by decide +kernel
theorem dX6_cost_16 : decode cX6_cost 16 = .ok (.iconst 1, 1) := by decide +kernel
theorem dX6_cost_17 : decode cX6_cost 17 = .ok (.goto 4, 3) := by decide +kernel
theorem dX6_cost_20 : decode cX6_cost 20 = .ok (.iconst 0, 1) := by decide +kernel
theorem dX6_cost_21 : decode cX6_cost 21 = .ok (.isub, 1) := by decide +kernel
theorem dX6_cost_22 : decode cX6_cost 22 = .ok (.ireturn, 1) := by decide +kernel
theorem dX6_boothTold_0 : decode cX6_boothTold 0 = .ok (.iload_n 2, 1) := by decide +kernel
theorem dX6_boothTold_1 : decode cX6_boothTold 1 = .ok (.tableswitch 117 0 9 #[55, 117, 117, 117, 61, 67, 81, 97, 103, 110], 55) := by decide +kernel
theorem dX6_boothTold_56 : decode cX6_boothTold 56 = .ok (.aload_n 0, 1) := by decide +kernel
theorem dX6_boothTold_57 : decode cX6_boothTold 57 = .ok (.iload_n 1, 1) := by decide +kernel
theorem dX6_boothTold_58 : decode cX6_boothTold 58 = .ok (.invokevirtual 93, 3) := by decide +kernel
theorem dX6_boothTold_61 : decode cX6_boothTold 61 = .ok (.ireturn, 1) := by decide +kernel
theorem dX6_boothTold_62 : decode cX6_boothTold 62 = .ok (.aload_n 0, 1) := by decide +kernel
theorem dX6_boothTold_63 : decode cX6_boothTold 63 = .ok (.iload_n 1, 1) := by decide +kernel
theorem dX6_boothTold_64 : decode cX6_boothTold 64 = .ok (.invokevirtual 90, 3) := by decide +kernel
theorem dX6_boothTold_67 : decode cX6_boothTold 67 = .ok (.ireturn, 1) := by decide +kernel
theorem dX6_boothTold_68 : decode cX6_boothTold 68 = .ok (.aload_n 0, 1) := by decide +kernel
theorem dX6_boothTold_69 : decode cX6_boothTold 69 = .ok (.iload_n 1, 1) := by decide +kernel
theorem dX6_boothTold_70 : decode cX6_boothTold 70 = .ok (.invokevirtual 96, 3) := by decide +kernel
theorem dX6_boothTold_73 : decode cX6_boothTold 73 = .ok (.ifCond .eq 7, 3) := by decide +kernel
theorem dX6_boothTold_76 : decode cX6_boothTold 76 = .ok (.iconst 1, 1) := by decide +kernel
theorem dX6_boothTold_77 : decode cX6_boothTold 77 = .ok (.goto 4, 3) := by decide +kernel
theorem dX6_boothTold_80 : decode cX6_boothTold 80 = .ok (.iconst 0, 1) := by decide +kernel
theorem dX6_boothTold_81 : decode cX6_boothTold 81 = .ok (.ireturn, 1) := by decide +kernel
theorem dX6_boothTold_82 : decode cX6_boothTold 82 = .ok (.aload_n 0, 1) := by decide +kernel
theorem dX6_boothTold_83 : decode cX6_boothTold 83 = .ok (.getfield 25, 3) := by decide +kernel
theorem dX6_boothTold_86 : decode cX6_boothTold 86 = .ok (.iconst 2, 1) := by decide +kernel
theorem dX6_boothTold_87 : decode cX6_boothTold 87 = .ok (.iaload, 1) := by decide +kernel
theorem dX6_boothTold_88 : decode cX6_boothTold 88 = .ok (.iload_n 1, 1) := by decide +kernel
theorem dX6_boothTold_89 : decode cX6_boothTold 89 = .ok (.if_icmp .ne 7, 3) := by decide +kernel
theorem dX6_boothTold_92 : decode cX6_boothTold 92 = .ok (.iconst 1, 1) := by decide +kernel
theorem dX6_boothTold_93 : decode cX6_boothTold 93 = .ok (.goto 4, 3) := by decide +kernel
theorem dX6_boothTold_96 : decode cX6_boothTold 96 = .ok (.iconst 0, 1) := by decide +kernel
theorem dX6_boothTold_97 : decode cX6_boothTold 97 = .ok (.ireturn, 1) := by decide +kernel
theorem dX6_boothTold_98 : decode cX6_boothTold 98 = .ok (.aload_n 0, 1) := by decide +kernel
theorem dX6_boothTold_99 : decode cX6_boothTold 99 = .ok (.iload_n 1, 1) := by decide +kernel
theorem dX6_boothTold_100 : decode cX6_boothTold 100 = .ok (.invokevirtual 99, 3) := by decide +kernel
theorem dX6_boothTold_103 : decode cX6_boothTold 103 = .ok (.ireturn, 1) := by decide +kernel
theorem dX6_boothTold_104 : decode cX6_boothTold 104 = .ok (.aload_n 0, 1) := by decide +kernel
theorem dX6_boothTold_105 : decode cX6_boothTold 105 = .ok (.iload_n 1, 1) := by decide +kernel
theorem dX6_boothTold_106 : decode cX6_boothTold 106 = .ok (.iconst 4, 1) := by decide +kernel
theorem dX6_boothTold_107 : decode cX6_boothTold 107 = .ok (.invokevirtual 71, 3) := by decide +kernel
theorem dX6_boothTold_110 : decode cX6_boothTold 110 = .ok (.ireturn, 1) := by decide +kernel
theorem dX6_boothTold_111 : decode cX6_boothTold 111 = .ok (.aload_n 0, 1) := by decide +kernel
theorem dX6_boothTold_112 : decode cX6_boothTold 112 = .ok (.iload_n 1, 1) := by decide +kernel
theorem dX6_boothTold_113 : decode cX6_boothTold 113 = .ok (.iconst 5, 1) := by decide +kernel
theorem dX6_boothTold_114 : decode cX6_boothTold 114 = .ok (.invokevirtual 71, 3) := by decide +kernel
theorem dX6_boothTold_117 : decode cX6_boothTold 117 = .ok (.ireturn, 1) := by decide +kernel
theorem dX6_boothTold_118 : decode cX6_boothTold 118 = .ok (.aload_n 0, 1) := by decide +kernel
theorem dX6_boothTold_119 : decode cX6_boothTold 119 = .ok (.iload_n 1, 1) := by decide +kernel
theorem dX6_boothTold_120 : decode cX6_boothTold 120 = .ok (.iload_n 2, 1) := by decide +kernel
theorem dX6_boothTold_121 : decode cX6_boothTold 121 = .ok (.invokevirtual 71, 3) := by decide +kernel
theorem dX6_boothTold_124 : decode cX6_boothTold 124 = .ok (.ireturn, 1) := by decide +kernel
theorem dX6_booth_0 : decode cX6_booth 0 = .ok (.aload_n 0, 1) := by decide +kernel
theorem dX6_booth_1 : decode cX6_booth 1 = .ok (.iconst 0, 1) := by decide +kernel
theorem dX6_booth_2 : decode cX6_booth 2 = .ok (.putfield 28, 3) := by decide +kernel
theorem dX6_booth_5 : decode cX6_booth 5 = .ok (.aload_n 0, 1) := by decide +kernel
theorem dX6_booth_6 : decode cX6_booth 6 = .ok (.iload_n 1, 1) := by decide +kernel
theorem dX6_booth_7 : decode cX6_booth 7 = .ok (.invokevirtual 60, 3) := by decide +kernel
theorem dX6_booth_10 : decode cX6_booth 10 = .ok (.ifCond .eq 22, 3) := by decide +kernel
theorem dX6_booth_13 : decode cX6_booth 13 = .ok (.iload_n 2, 1) := by decide +kernel
theorem dX6_booth_14 : decode cX6_booth 14 = .ok (.iconst 0, 1) := by decide +kernel
theorem dX6_booth_15 : decode cX6_booth 15 = .ok (.bipush 9, 2) := by decide +kernel
theorem dX6_booth_17 : decode cX6_booth 17 = .ok (.invokestatic 35, 3) := by decide +kernel
theorem dX6_booth_20 : decode cX6_booth 20 = .ok (.ifCond .eq 12, 3) := by decide +kernel
theorem dX6_booth_23 : decode cX6_booth 23 = .ok (.aload_n 0, 1) := by decide +kernel
theorem dX6_booth_24 : decode cX6_booth 24 = .ok (.iload_n 1, 1) := by decide +kernel
theorem dX6_booth_25 : decode cX6_booth 25 = .ok (.iload_n 2, 1) := by decide +kernel
theorem dX6_booth_26 : decode cX6_booth 26 = .ok (.invokevirtual 102, 3) := by decide +kernel
theorem dX6_booth_29 : decode cX6_booth 29 = .ok (.goto 8, 3) := by decide +kernel
theorem dX6_booth_32 : decode cX6_booth 32 = .ok (.aload_n 0, 1) := by decide +kernel
theorem dX6_booth_33 : decode cX6_booth 33 = .ok (.iconst 1, 1) := by decide +kernel
theorem dX6_booth_34 : decode cX6_booth 34 = .ok (.invokevirtual 45, 3) := by decide +kernel
theorem dX6_booth_37 : decode cX6_booth 37 = .ok (.ireturn, 1) := by decide +kernel
theorem dX6_queue_0 : decode cX6_queue 0 = .ok (.aload_n 0, 1) := by decide +kernel
theorem dX6_queue_1 : decode cX6_queue 1 = .ok (.iconst 0, 1) := by decide +kernel
theorem dX6_queue_2 : decode cX6_queue 2 = .ok (.putfield 28, 3) := by decide +kernel
theorem dX6_queue_5 : decode cX6_queue 5 = .ok (.aload_n 0, 1) := by decide +kernel
theorem dX6_queue_6 : decode cX6_queue 6 = .ok (.iload_n 1, 1) := by decide +kernel
theorem dX6_queue_7 : decode cX6_queue 7 = .ok (.invokevirtual 60, 3) := by decide +kernel
theorem dX6_queue_10 : decode cX6_queue 10 = .ok (.ifCond .eq 27, 3) := by decide +kernel
theorem dX6_queue_13 : decode cX6_queue 13 = .ok (.iload_n 2, 1) := by decide +kernel
theorem dX6_queue_14 : decode cX6_queue 14 = .ok (.iconst 0, 1) := by decide +kernel
theorem dX6_queue_15 : decode cX6_queue 15 = .ok (.aload_n 0, 1) := by decide +kernel
theorem dX6_queue_16 : decode cX6_queue 16 = .ok (.iload_n 1, 1) := by decide +kernel
theorem dX6_queue_17 : decode cX6_queue 17 = .ok (.invokevirtual 99, 3) := by decide +kernel
theorem dX6_queue_20 : decode cX6_queue 20 = .ok (.iconst 1, 1) := by decide +kernel
theorem dX6_queue_21 : decode cX6_queue 21 = .ok (.isub, 1) := by decide +kernel
theorem dX6_queue_22 : decode cX6_queue 22 = .ok (.invokestatic 35, 3) := by decide +kernel
theorem dX6_queue_25 : decode cX6_queue 25 = .ok (.ifCond .eq 12, 3) := by decide +kernel
theorem dX6_queue_28 : decode cX6_queue 28 = .ok (.aload_n 0, 1) := by decide +kernel
theorem dX6_queue_29 : decode cX6_queue 29 = .ok (.iload_n 1, 1) := by decide +kernel
theorem dX6_queue_30 : decode cX6_queue 30 = .ok (.iload_n 2, 1) := by decide +kernel
theorem dX6_queue_31 : decode cX6_queue 31 = .ok (.invokevirtual 105, 3) := by decide +kernel
theorem dX6_queue_34 : decode cX6_queue 34 = .ok (.goto 8, 3) := by decide +kernel
theorem dX6_queue_37 : decode cX6_queue 37 = .ok (.aload_n 0, 1) := by decide +kernel
theorem dX6_queue_38 : decode cX6_queue 38 = .ok (.iconst 1, 1) := by decide +kernel
theorem dX6_queue_39 : decode cX6_queue 39 = .ok (.invokevirtual 45, 3) := by decide +kernel
theorem dX6_queue_42 : decode cX6_queue 42 = .ok (.ireturn, 1) := by decide +kernel
theorem dX6_helper_0 : decode cX6_helper 0 = .ok (.aload_n 0, 1) := by decide +kernel
theorem dX6_helper_1 : decode cX6_helper 1 = .ok (.iconst 0, 1) := by decide +kernel
theorem dX6_helper_2 : decode cX6_helper 2 = .ok (.putfield 28, 3) := by decide +kernel
theorem dX6_helper_5 : decode cX6_helper 5 = .ok (.aload_n 0, 1) := by decide +kernel
theorem dX6_helper_6 : decode cX6_helper 6 = .ok (.iload_n 1, 1) := by decide +kernel
theorem dX6_helper_7 : decode cX6_helper 7 = .ok (.invokevirtual 56, 3) := by decide +kernel
theorem dX6_helper_10 : decode cX6_helper 10 = .ok (.ifCond .eq 21, 3) := by decide +kernel
theorem dX6_helper_13 : decode cX6_helper 13 = .ok (.iload_n 2, 1) := by decide +kernel
theorem dX6_helper_14 : decode cX6_helper 14 = .ok (.iconst 0, 1) := by decide +kernel
theorem dX6_helper_15 : decode cX6_helper 15 = .ok (.iconst 2, 1) := by decide +kernel
theorem dX6_helper_16 : decode cX6_helper 16 = .ok (.invokestatic 35, 3) := by decide +kernel
theorem dX6_helper_19 : decode cX6_helper 19 = .ok (.ifCond .eq 12, 3) := by decide +kernel
theorem dX6_helper_22 : decode cX6_helper 22 = .ok (.aload_n 0, 1) := by decide +kernel
theorem dX6_helper_23 : decode cX6_helper 23 = .ok (.iload_n 1, 1) := by decide +kernel
theorem dX6_helper_24 : decode cX6_helper 24 = .ok (.iload_n 2, 1) := by decide +kernel
theorem dX6_helper_25 : decode cX6_helper 25 = .ok (.invokevirtual 63, 3) := by decide +kernel
theorem dX6_helper_28 : decode cX6_helper 28 = .ok (.goto 8, 3) := by decide +kernel
theorem dX6_helper_31 : decode cX6_helper 31 = .ok (.aload_n 0, 1) := by decide +kernel
theorem dX6_helper_32 : decode cX6_helper 32 = .ok (.iconst 1, 1) := by decide +kernel
theorem dX6_helper_33 : decode cX6_helper 33 = .ok (.invokevirtual 45, 3) := by decide +kernel
theorem dX6_helper_36 : decode cX6_helper 36 = .ok (.ireturn, 1) := by decide +kernel
theorem dX6_visitorTold_0 : decode cX6_visitorTold 0 = .ok (.aload_n 0, 1) := by decide +kernel
theorem dX6_visitorTold_1 : decode cX6_visitorTold 1 = .ok (.iload_n 1, 1) := by decide +kernel
theorem dX6_visitorTold_2 : decode cX6_visitorTold 2 = .ok (.iload_n 2, 1) := by decide +kernel
theorem dX6_visitorTold_3 : decode cX6_visitorTold 3 = .ok (.iconst 4, 1) := by decide +kernel
theorem dX6_visitorTold_4 : decode cX6_visitorTold 4 = .ok (.if_icmp .ge 7, 3) := by decide +kernel
theorem dX6_visitorTold_7 : decode cX6_visitorTold 7 = .ok (.iload_n 2, 1) := by decide +kernel
theorem dX6_visitorTold_8 : decode cX6_visitorTold 8 = .ok (.goto 6, 3) := by decide +kernel
theorem dX6_visitorTold_11 : decode cX6_visitorTold 11 = .ok (.iload_n 2, 1) := by decide +kernel
theorem dX6_visitorTold_12 : decode cX6_visitorTold 12 = .ok (.iconst 1, 1) := by decide +kernel
theorem dX6_visitorTold_13 : decode cX6_visitorTold 13 = .ok (.iadd, 1) := by decide +kernel
theorem dX6_visitorTold_14 : decode cX6_visitorTold 14 = .ok (.invokevirtual 80, 3) := by decide +kernel
theorem dX6_visitorTold_17 : decode cX6_visitorTold 17 = .ok (.ireturn, 1) := by decide +kernel
theorem dX6_visitor_0 : decode cX6_visitor 0 = .ok (.aload_n 0, 1) := by decide +kernel
theorem dX6_visitor_1 : decode cX6_visitor 1 = .ok (.iconst 0, 1) := by decide +kernel
theorem dX6_visitor_2 : decode cX6_visitor 2 = .ok (.putfield 28, 3) := by decide +kernel
theorem dX6_visitor_5 : decode cX6_visitor 5 = .ok (.aload_n 0, 1) := by decide +kernel
theorem dX6_visitor_6 : decode cX6_visitor 6 = .ok (.iload_n 1, 1) := by decide +kernel
theorem dX6_visitor_7 : decode cX6_visitor 7 = .ok (.invokevirtual 77, 3) := by decide +kernel
theorem dX6_visitor_10 : decode cX6_visitor 10 = .ok (.ifCond .eq 22, 3) := by decide +kernel
theorem dX6_visitor_13 : decode cX6_visitor 13 = .ok (.iload_n 2, 1) := by decide +kernel
theorem dX6_visitor_14 : decode cX6_visitor 14 = .ok (.iconst 0, 1) := by decide +kernel
theorem dX6_visitor_15 : decode cX6_visitor 15 = .ok (.bipush 7, 2) := by decide +kernel
theorem dX6_visitor_17 : decode cX6_visitor 17 = .ok (.invokestatic 35, 3) := by decide +kernel
theorem dX6_visitor_20 : decode cX6_visitor 20 = .ok (.ifCond .eq 12, 3) := by decide +kernel
theorem dX6_visitor_23 : decode cX6_visitor 23 = .ok (.aload_n 0, 1) := by decide +kernel
theorem dX6_visitor_24 : decode cX6_visitor 24 = .ok (.iload_n 1, 1) := by decide +kernel
theorem dX6_visitor_25 : decode cX6_visitor 25 = .ok (.iload_n 2, 1) := by decide +kernel
theorem dX6_visitor_26 : decode cX6_visitor 26 = .ok (.invokevirtual 108, 3) := by decide +kernel
theorem dX6_visitor_29 : decode cX6_visitor 29 = .ok (.goto 8, 3) := by decide +kernel
theorem dX6_visitor_32 : decode cX6_visitor 32 = .ok (.aload_n 0, 1) := by decide +kernel
theorem dX6_visitor_33 : decode cX6_visitor 33 = .ok (.iconst 1, 1) := by decide +kernel
theorem dX6_visitor_34 : decode cX6_visitor 34 = .ok (.invokevirtual 45, 3) := by decide +kernel
theorem dX6_visitor_37 : decode cX6_visitor 37 = .ok (.ireturn, 1) := by decide +kernel
theorem dX6_practice_0 : decode cX6_practice 0 = .ok (.aload_n 0, 1) := by decide +kernel
theorem dX6_practice_1 : decode cX6_practice 1 = .ok (.iconst 0, 1) := by decide +kernel
theorem dX6_practice_2 : decode cX6_practice 2 = .ok (.putfield 28, 3) := by decide +kernel
theorem dX6_practice_5 : decode cX6_practice 5 = .ok (.aload_n 0, 1) := by decide +kernel
theorem dX6_practice_6 : decode cX6_practice 6 = .ok (.iload_n 1, 1) := by decide +kernel
theorem dX6_practice_7 : decode cX6_practice 7 = .ok (.invokevirtual 77, 3) := by decide +kernel
theorem dX6_practice_10 : decode cX6_practice 10 = .ok (.ifCond .eq 25, 3) := by decide +kernel
theorem dX6_practice_13 : decode cX6_practice 13 = .ok (.aload_n 0, 1) := by decide +kernel
theorem dX6_practice_14 : decode cX6_practice 14 = .ok (.iload_n 2, 1) := by decide +kernel
theorem dX6_practice_15 : decode cX6_practice 15 = .ok (.invokevirtual 60, 3) := by decide +kernel
theorem dX6_practice_18 : decode cX6_practice 18 = .ok (.ifCond .eq 17, 3) := by decide +kernel
theorem dX6_practice_21 : decode cX6_practice 21 = .ok (.aload_n 0, 1) := by decide +kernel
theorem dX6_practice_22 : decode cX6_practice 22 = .ok (.getfield 19, 3) := by decide +kernel
theorem dX6_practice_25 : decode cX6_practice 25 = .ok (.bipush 8, 2) := by decide +kernel
theorem dX6_practice_27 : decode cX6_practice 27 = .ok (.iload_n 1, 1) := by decide +kernel
theorem dX6_practice_28 : decode cX6_practice 28 = .ok (.imul, 1) := by decide +kernel
theorem dX6_practice_29 : decode cX6_practice 29 = .ok (.iload_n 2, 1) := by decide +kernel
theorem dX6_practice_30 : decode cX6_practice 30 = .ok (.iadd, 1) := by decide +kernel
theorem dX6_practice_31 : decode cX6_practice 31 = .ok (.iaload, 1) := by decide +kernel
theorem dX6_practice_32 : decode cX6_practice 32 = .ok (.goto 8, 3) := by decide +kernel
theorem dX6_practice_35 : decode cX6_practice 35 = .ok (.aload_n 0, 1) := by decide +kernel
theorem dX6_practice_36 : decode cX6_practice 36 = .ok (.iconst 1, 1) := by decide +kernel
theorem dX6_practice_37 : decode cX6_practice 37 = .ok (.invokevirtual 45, 3) := by decide +kernel
theorem dX6_practice_40 : decode cX6_practice 40 = .ok (.ireturn, 1) := by decide +kernel
theorem dX6_board_0 : decode cX6_board 0 = .ok (.aload_n 0, 1) := by decide +kernel
theorem dX6_board_1 : decode cX6_board 1 = .ok (.iconst 0, 1) := by decide +kernel
theorem dX6_board_2 : decode cX6_board 2 = .ok (.putfield 28, 3) := by decide +kernel
theorem dX6_board_5 : decode cX6_board 5 = .ok (.iload_n 1, 1) := by decide +kernel
theorem dX6_board_6 : decode cX6_board 6 = .ok (.iconst 0, 1) := by decide +kernel
theorem dX6_board_7 : decode cX6_board 7 = .ok (.aload_n 0, 1) := by decide +kernel
theorem dX6_board_8 : decode cX6_board 8 = .ok (.getfield 25, 3) := by decide +kernel
theorem dX6_board_11 : decode cX6_board 11 = .ok (.iconst 4, 1) := by decide +kernel
theorem dX6_board_12 : decode cX6_board 12 = .ok (.iaload, 1) := by decide +kernel
theorem dX6_board_13 : decode cX6_board 13 = .ok (.iconst 1, 1) := by decide +kernel
theorem dX6_board_14 : decode cX6_board 14 = .ok (.isub, 1) := by decide +kernel
theorem dX6_board_15 : decode cX6_board 15 = .ok (.invokestatic 35, 3) := by decide +kernel
theorem dX6_board_18 : decode cX6_board 18 = .ok (.ifCond .eq 25, 3) := by decide +kernel
theorem dX6_board_21 : decode cX6_board 21 = .ok (.iload_n 2, 1) := by decide +kernel
theorem dX6_board_22 : decode cX6_board 22 = .ok (.iconst 0, 1) := by decide +kernel
theorem dX6_board_23 : decode cX6_board 23 = .ok (.iconst 2, 1) := by decide +kernel
theorem dX6_board_24 : decode cX6_board 24 = .ok (.invokestatic 35, 3) := by decide +kernel
theorem dX6_board_27 : decode cX6_board 27 = .ok (.ifCond .eq 16, 3) := by decide +kernel
theorem dX6_board_30 : decode cX6_board 30 = .ok (.aload_n 0, 1) := by decide +kernel
theorem dX6_board_31 : decode cX6_board 31 = .ok (.getfield 22, 3) := by decide +kernel
theorem dX6_board_34 : decode cX6_board 34 = .ok (.iconst 3, 1) := by decide +kernel
theorem dX6_board_35 : decode cX6_board 35 = .ok (.iload_n 1, 1) := by decide +kernel
theorem dX6_board_36 : decode cX6_board 36 = .ok (.imul, 1) := by decide +kernel
theorem dX6_board_37 : decode cX6_board 37 = .ok (.iload_n 2, 1) := by decide +kernel
theorem dX6_board_38 : decode cX6_board 38 = .ok (.iadd, 1) := by decide +kernel
theorem dX6_board_39 : decode cX6_board 39 = .ok (.iaload, 1) := by decide +kernel
theorem dX6_board_40 : decode cX6_board 40 = .ok (.goto 8, 3) := by decide +kernel
theorem dX6_board_43 : decode cX6_board 43 = .ok (.aload_n 0, 1) := by decide +kernel
theorem dX6_board_44 : decode cX6_board 44 = .ok (.iconst 1, 1) := by decide +kernel
theorem dX6_board_45 : decode cX6_board 45 = .ok (.invokevirtual 45, 3) := by decide +kernel
theorem dX6_board_48 : decode cX6_board 48 = .ok (.ireturn, 1) := by decide +kernel
theorem dX6_dart_0 : decode cX6_dart 0 = .ok (.aload_n 0, 1) := by decide +kernel
theorem dX6_dart_1 : decode cX6_dart 1 = .ok (.getfield 25, 3) := by decide +kernel
theorem dX6_dart_4 : decode cX6_dart 4 = .ok (.iconst 1, 1) := by decide +kernel
theorem dX6_dart_5 : decode cX6_dart 5 = .ok (.aload_n 0, 1) := by decide +kernel
theorem dX6_dart_6 : decode cX6_dart 6 = .ok (.getfield 25, 3) := by decide +kernel
theorem dX6_dart_9 : decode cX6_dart 9 = .ok (.iconst 1, 1) := by decide +kernel
theorem dX6_dart_10 : decode cX6_dart 10 = .ok (.iaload, 1) := by decide +kernel
theorem dX6_dart_11 : decode cX6_dart 11 = .ok (.bipush 75, 2) := by decide +kernel
theorem dX6_dart_13 : decode cX6_dart 13 = .ok (.imul, 1) := by decide +kernel
theorem dX6_dart_14 : decode cX6_dart 14 = .ok (.bipush 74, 2) := by decide +kernel
theorem dX6_dart_16 : decode cX6_dart 16 = .ok (.iadd, 1) := by decide +kernel
theorem dX6_dart_17 : decode cX6_dart 17 = .ok (.ldc 111, 2) := by decide +kernel
theorem dX6_dart_19 : decode cX6_dart 19 = .ok (.irem, 1) := by decide +kernel
theorem dX6_dart_20 : decode cX6_dart 20 = .ok (.iastore, 1) := by decide +kernel
theorem dX6_dart_21 : decode cX6_dart 21 = .ok (.aload_n 0, 1) := by decide +kernel
theorem dX6_dart_22 : decode cX6_dart 22 = .ok (.getfield 25, 3) := by decide +kernel
theorem dX6_dart_25 : decode cX6_dart 25 = .ok (.iconst 2, 1) := by decide +kernel
theorem dX6_dart_26 : decode cX6_dart 26 = .ok (.aload_n 0, 1) := by decide +kernel
theorem dX6_dart_27 : decode cX6_dart 27 = .ok (.getfield 32, 3) := by decide +kernel
theorem dX6_dart_30 : decode cX6_dart 30 = .ok (.ifCond .ne 7, 3) := by decide +kernel
theorem dX6_dart_33 : decode cX6_dart 33 = .ok (.iconst (-1), 1) := by decide +kernel
theorem dX6_dart_34 : decode cX6_dart 34 = .ok (.goto 14, 3) := by decide +kernel
theorem dX6_dart_37 : decode cX6_dart 37 = .ok (.aload_n 0, 1) := by decide +kernel
theorem dX6_dart_38 : decode cX6_dart 38 = .ok (.getfield 25, 3) := by decide +kernel
theorem dX6_dart_41 : decode cX6_dart 41 = .ok (.iconst 1, 1) := by decide +kernel
theorem dX6_dart_42 : decode cX6_dart 42 = .ok (.iaload, 1) := by decide +kernel
theorem dX6_dart_43 : decode cX6_dart 43 = .ok (.aload_n 0, 1) := by decide +kernel
theorem dX6_dart_44 : decode cX6_dart 44 = .ok (.getfield 32, 3) := by decide +kernel
theorem dX6_dart_47 : decode cX6_dart 47 = .ok (.irem, 1) := by decide +kernel
theorem dX6_dart_48 : decode cX6_dart 48 = .ok (.iastore, 1) := by decide +kernel
theorem dX6_dart_49 : decode cX6_dart 49 = .ok (.return_, 1) := by decide +kernel
theorem dX6_choose_0 : decode cX6_choose 0 = .ok (.iconst (-1), 1) := by decide +kernel
theorem dX6_choose_1 : decode cX6_choose 1 = .ok (.istore_n 2, 1) := by decide +kernel
theorem dX6_choose_2 : decode cX6_choose 2 = .ok (.iconst 0, 1) := by decide +kernel
theorem dX6_choose_3 : decode cX6_choose 3 = .ok (.istore_n 3, 1) := by decide +kernel
theorem dX6_choose_4 : decode cX6_choose 4 = .ok (.iload_n 3, 1) := by decide +kernel
theorem dX6_choose_5 : decode cX6_choose 5 = .ok (.aload_n 0, 1) := by decide +kernel
theorem dX6_choose_6 : decode cX6_choose 6 = .ok (.getfield 32, 3) := by decide +kernel
theorem dX6_choose_9 : decode cX6_choose 9 = .ok (.if_icmp .ge 102, 3) := by decide +kernel
theorem dX6_choose_12 : decode cX6_choose 12 = .ok (.aload_n 0, 1) := by decide +kernel
theorem dX6_choose_13 : decode cX6_choose 13 = .ok (.iload_n 3, 1) := by decide +kernel
theorem dX6_choose_14 : decode cX6_choose 14 = .ok (.invokevirtual 96, 3) := by decide +kernel
theorem dX6_choose_17 : decode cX6_choose 17 = .ok (.ifCond .eq 88, 3) := by decide +kernel
theorem dX6_choose_20 : decode cX6_choose 20 = .ok (.aload_n 0, 1) := by decide +kernel
theorem dX6_choose_21 : decode cX6_choose 21 = .ok (.iload_n 3, 1) := by decide +kernel
theorem dX6_choose_22 : decode cX6_choose 22 = .ok (.iconst 2, 1) := by decide +kernel
theorem dX6_choose_23 : decode cX6_choose 23 = .ok (.invokevirtual 71, 3) := by decide +kernel
theorem dX6_choose_26 : decode cX6_choose 26 = .ok (.ifCond .eq 79, 3) := by decide +kernel
theorem dX6_choose_29 : decode cX6_choose 29 = .ok (.aload_n 0, 1) := by decide +kernel
theorem dX6_choose_30 : decode cX6_choose 30 = .ok (.iload_n 3, 1) := by decide +kernel
theorem dX6_choose_31 : decode cX6_choose 31 = .ok (.invokevirtual 93, 3) := by decide +kernel
theorem dX6_choose_34 : decode cX6_choose 34 = .ok (.aload_n 0, 1) := by decide +kernel
theorem dX6_choose_35 : decode cX6_choose 35 = .ok (.iload_n 1, 1) := by decide +kernel
theorem dX6_choose_36 : decode cX6_choose 36 = .ok (.iconst 0, 1) := by decide +kernel
theorem dX6_choose_37 : decode cX6_choose 37 = .ok (.invokevirtual 80, 3) := by decide +kernel
theorem dX6_choose_40 : decode cX6_choose 40 = .ok (.if_icmp .le 6, 3) := by decide +kernel
theorem dX6_choose_43 : decode cX6_choose 43 = .ok (.goto 62, 3) := by decide +kernel
theorem dX6_choose_46 : decode cX6_choose 46 = .ok (.iload_n 2, 1) := by decide +kernel
theorem dX6_choose_47 : decode cX6_choose 47 = .ok (.iconst (-1), 1) := by decide +kernel
theorem dX6_choose_48 : decode cX6_choose 48 = .ok (.if_icmp .ne 7, 3) := by decide +kernel
theorem dX6_choose_51 : decode cX6_choose 51 = .ok (.iconst (-1), 1) := by decide +kernel
theorem dX6_choose_52 : decode cX6_choose 52 = .ok (.goto 14, 3) := by decide +kernel
theorem dX6_choose_55 : decode cX6_choose 55 = .ok (.aload_n 0, 1) := by decide +kernel
theorem dX6_choose_56 : decode cX6_choose 56 = .ok (.iload_n 3, 1) := by decide +kernel
theorem dX6_choose_57 : decode cX6_choose 57 = .ok (.invokevirtual 99, 3) := by decide +kernel
theorem dX6_choose_60 : decode cX6_choose 60 = .ok (.aload_n 0, 1) := by decide +kernel
theorem dX6_choose_61 : decode cX6_choose 61 = .ok (.iload_n 2, 1) := by decide +kernel
theorem dX6_choose_62 : decode cX6_choose 62 = .ok (.invokevirtual 99, 3) := by decide +kernel
theorem dX6_choose_65 : decode cX6_choose 65 = .ok (.isub, 1) := by decide +kernel
theorem dX6_choose_66 : decode cX6_choose 66 = .ok (.istore 4, 2) := by decide +kernel
theorem dX6_choose_68 : decode cX6_choose 68 = .ok (.iload 4, 2) := by decide +kernel
theorem dX6_choose_70 : decode cX6_choose 70 = .ok (.ifCond .ne 28, 3) := by decide +kernel
theorem dX6_choose_73 : decode cX6_choose 73 = .ok (.aload_n 0, 1) := by decide +kernel
theorem dX6_choose_74 : decode cX6_choose 74 = .ok (.getfield 19, 3) := by decide +kernel
theorem dX6_choose_77 : decode cX6_choose 77 = .ok (.bipush 8, 2) := by decide +kernel
theorem dX6_choose_79 : decode cX6_choose 79 = .ok (.iload_n 1, 1) := by decide +kernel
theorem dX6_choose_80 : decode cX6_choose 80 = .ok (.imul, 1) := by decide +kernel
theorem dX6_choose_81 : decode cX6_choose 81 = .ok (.iload_n 2, 1) := by decide +kernel
theorem dX6_choose_82 : decode cX6_choose 82 = .ok (.iadd, 1) := by decide +kernel
theorem dX6_choose_83 : decode cX6_choose 83 = .ok (.iaload, 1) := by decide +kernel
theorem dX6_choose_84 : decode cX6_choose 84 = .ok (.aload_n 0, 1) := by decide +kernel
theorem dX6_choose_85 : decode cX6_choose 85 = .ok (.getfield 19, 3) := by decide +kernel
theorem dX6_choose_88 : decode cX6_choose 88 = .ok (.bipush 8, 2) := by decide +kernel
theorem dX6_choose_90 : decode cX6_choose 90 = .ok (.iload_n 1, 1) := by decide +kernel
theorem dX6_choose_91 : decode cX6_choose 91 = .ok (.imul, 1) := by decide +kernel
theorem dX6_choose_92 : decode cX6_choose 92 = .ok (.iload_n 3, 1) := by decide +kernel
theorem dX6_choose_93 : decode cX6_choose 93 = .ok (.iadd, 1) := by decide +kernel
theorem dX6_choose_94 : decode cX6_choose 94 = .ok (.iaload, 1) := by decide +kernel
theorem dX6_choose_95 : decode cX6_choose 95 = .ok (.isub, 1) := by decide +kernel
theorem dX6_choose_96 : decode cX6_choose 96 = .ok (.istore 4, 2) := by decide +kernel
theorem dX6_choose_98 : decode cX6_choose 98 = .ok (.iload 4, 2) := by decide +kernel
theorem dX6_choose_100 : decode cX6_choose 100 = .ok (.ifCond .ge 5, 3) := by decide +kernel
theorem dX6_choose_103 : decode cX6_choose 103 = .ok (.iload_n 3, 1) := by decide +kernel
theorem dX6_choose_104 : decode cX6_choose 104 = .ok (.istore_n 2, 1) := by decide +kernel
theorem dX6_choose_105 : decode cX6_choose 105 = .ok (.iinc 3 1, 3) := by decide +kernel
theorem dX6_choose_108 : decode cX6_choose 108 = .ok (.goto (-104), 3) := by decide +kernel
theorem dX6_choose_111 : decode cX6_choose 111 = .ok (.iload_n 2, 1) := by decide +kernel
theorem dX6_choose_112 : decode cX6_choose 112 = .ok (.iconst (-1), 1) := by decide +kernel
theorem dX6_choose_113 : decode cX6_choose 113 = .ok (.if_icmp .eq 31, 3) := by decide +kernel
theorem dX6_choose_116 : decode cX6_choose 116 = .ok (.aload_n 0, 1) := by decide +kernel
theorem dX6_choose_117 : decode cX6_choose 117 = .ok (.iload_n 1, 1) := by decide +kernel
theorem dX6_choose_118 : decode cX6_choose 118 = .ok (.iconst 4, 1) := by decide +kernel
theorem dX6_choose_119 : decode cX6_choose 119 = .ok (.aload_n 0, 1) := by decide +kernel
theorem dX6_choose_120 : decode cX6_choose 120 = .ok (.iload_n 2, 1) := by decide +kernel
theorem dX6_choose_121 : decode cX6_choose 121 = .ok (.invokevirtual 99, 3) := by decide +kernel
theorem dX6_choose_124 : decode cX6_choose 124 = .ok (.invokevirtual 83, 3) := by decide +kernel
theorem dX6_choose_127 : decode cX6_choose 127 = .ok (.aload_n 0, 1) := by decide +kernel
theorem dX6_choose_128 : decode cX6_choose 128 = .ok (.iload_n 1, 1) := by decide +kernel
theorem dX6_choose_129 : decode cX6_choose 129 = .ok (.iconst 3, 1) := by decide +kernel
theorem dX6_choose_130 : decode cX6_choose 130 = .ok (.iload_n 2, 1) := by decide +kernel
theorem dX6_choose_131 : decode cX6_choose 131 = .ok (.invokevirtual 83, 3) := by decide +kernel
theorem dX6_choose_134 : decode cX6_choose 134 = .ok (.aload_n 0, 1) := by decide +kernel
theorem dX6_choose_135 : decode cX6_choose 135 = .ok (.iload_n 1, 1) := by decide +kernel
theorem dX6_choose_136 : decode cX6_choose 136 = .ok (.iconst 2, 1) := by decide +kernel
theorem dX6_choose_137 : decode cX6_choose 137 = .ok (.iconst 1, 1) := by decide +kernel
theorem dX6_choose_138 : decode cX6_choose 138 = .ok (.invokevirtual 83, 3) := by decide +kernel
theorem dX6_choose_141 : decode cX6_choose 141 = .ok (.goto 19, 3) := by decide +kernel
theorem dX6_choose_144 : decode cX6_choose 144 = .ok (.aload_n 0, 1) := by decide +kernel
theorem dX6_choose_145 : decode cX6_choose 145 = .ok (.iload_n 1, 1) := by decide +kernel
theorem dX6_choose_146 : decode cX6_choose 146 = .ok (.iconst 0, 1) := by decide +kernel
theorem dX6_choose_147 : decode cX6_choose 147 = .ok (.invokevirtual 80, 3) := by decide +kernel
theorem dX6_choose_150 : decode cX6_choose 150 = .ok (.ifCond .ne 10, 3) := by decide +kernel
theorem dX6_choose_153 : decode cX6_choose 153 = .ok (.aload_n 0, 1) := by decide +kernel
theorem dX6_choose_154 : decode cX6_choose 154 = .ok (.iload_n 1, 1) := by decide +kernel
theorem dX6_choose_155 : decode cX6_choose 155 = .ok (.iconst 2, 1) := by decide +kernel
theorem dX6_choose_156 : decode cX6_choose 156 = .ok (.iconst 2, 1) := by decide +kernel
theorem dX6_choose_157 : decode cX6_choose 157 = .ok (.invokevirtual 83, 3) := by decide +kernel
theorem dX6_choose_160 : decode cX6_choose 160 = .ok (.return_, 1) := by decide +kernel
theorem dX6_write_0 : decode cX6_write 0 = .ok (.iconst 0, 1) := by decide +kernel
theorem dX6_write_1 : decode cX6_write 1 = .ok (.istore 4, 2) := by decide +kernel
theorem dX6_write_3 : decode cX6_write 3 = .ok (.iload 4, 2) := by decide +kernel
theorem dX6_write_5 : decode cX6_write 5 = .ok (.aload_n 0, 1) := by decide +kernel
theorem dX6_write_6 : decode cX6_write 6 = .ok (.getfield 25, 3) := by decide +kernel
theorem dX6_write_9 : decode cX6_write 9 = .ok (.iconst 4, 1) := by decide +kernel
theorem dX6_write_10 : decode cX6_write 10 = .ok (.iaload, 1) := by decide +kernel
theorem dX6_write_11 : decode cX6_write 11 = .ok (.if_icmp .ge 24, 3) := by decide +kernel
theorem dX6_write_14 : decode cX6_write 14 = .ok (.aload_n 0, 1) := by decide +kernel
theorem dX6_write_15 : decode cX6_write 15 = .ok (.getfield 22, 3) := by decide +kernel
theorem dX6_write_18 : decode cX6_write 18 = .ok (.iconst 3, 1) := by decide +kernel
theorem dX6_write_19 : decode cX6_write 19 = .ok (.iload 4, 2) := by decide +kernel
theorem dX6_write_21 : decode cX6_write 21 = .ok (.imul, 1) := by decide +kernel
theorem dX6_write_22 : decode cX6_write 22 = .ok (.iconst 2, 1) := by decide +kernel
theorem dX6_write_23 : decode cX6_write 23 = .ok (.iadd, 1) := by decide +kernel
theorem dX6_write_24 : decode cX6_write 24 = .ok (.iaload, 1) := by decide +kernel
theorem dX6_write_25 : decode cX6_write 25 = .ok (.iload_n 3, 1) := by decide +kernel
theorem dX6_write_26 : decode cX6_write 26 = .ok (.if_icmp .lt 9, 3) := by decide +kernel
theorem dX6_write_29 : decode cX6_write 29 = .ok (.iinc 4 1, 3) := by decide +kernel
theorem dX6_write_32 : decode cX6_write 32 = .ok (.goto (-29), 3) := by decide +kernel
theorem dX6_write_35 : decode cX6_write 35 = .ok (.iload 4, 2) := by decide +kernel
theorem dX6_write_37 : decode cX6_write 37 = .ok (.iconst 3, 1) := by decide +kernel
theorem dX6_write_38 : decode cX6_write 38 = .ok (.if_icmp .ne 4, 3) := by decide +kernel
theorem dX6_write_41 : decode cX6_write 41 = .ok (.return_, 1) := by decide +kernel
theorem dX6_write_42 : decode cX6_write 42 = .ok (.bipush 8, 2) := by decide +kernel
theorem dX6_write_44 : decode cX6_write 44 = .ok (.istore 5, 2) := by decide +kernel
theorem dX6_write_46 : decode cX6_write 46 = .ok (.iload 5, 2) := by decide +kernel
theorem dX6_write_48 : decode cX6_write 48 = .ok (.iconst 3, 1) := by decide +kernel
theorem dX6_write_49 : decode cX6_write 49 = .ok (.iload 4, 2) := by decide +kernel
theorem dX6_write_51 : decode cX6_write 51 = .ok (.imul, 1) := by decide +kernel
theorem dX6_write_52 : decode cX6_write 52 = .ok (.iconst 3, 1) := by decide +kernel
theorem dX6_write_53 : decode cX6_write 53 = .ok (.iadd, 1) := by decide +kernel
theorem dX6_write_54 : decode cX6_write 54 = .ok (.if_icmp .lt 25, 3) := by decide +kernel
theorem dX6_write_57 : decode cX6_write 57 = .ok (.aload_n 0, 1) := by decide +kernel
theorem dX6_write_58 : decode cX6_write 58 = .ok (.getfield 22, 3) := by decide +kernel
theorem dX6_write_61 : decode cX6_write 61 = .ok (.iload 5, 2) := by decide +kernel
theorem dX6_write_63 : decode cX6_write 63 = .ok (.aload_n 0, 1) := by decide +kernel
theorem dX6_write_64 : decode cX6_write 64 = .ok (.getfield 22, 3) := by decide +kernel
theorem dX6_write_67 : decode cX6_write 67 = .ok (.iload 5, 2) := by decide +kernel
theorem dX6_write_69 : decode cX6_write 69 = .ok (.iconst 3, 1) := by decide +kernel
theorem dX6_write_70 : decode cX6_write 70 = .ok (.isub, 1) := by decide +kernel
theorem dX6_write_71 : decode cX6_write 71 = .ok (.iaload, 1) := by decide +kernel
theorem dX6_write_72 : decode cX6_write 72 = .ok (.iastore, 1) := by decide +kernel
theorem dX6_write_73 : decode cX6_write 73 = .ok (.iinc 5 (-1), 3) := by decide +kernel
theorem dX6_write_76 : decode cX6_write 76 = .ok (.goto (-30), 3) := by decide +kernel
theorem dX6_write_79 : decode cX6_write 79 = .ok (.aload_n 0, 1) := by decide +kernel
theorem dX6_write_80 : decode cX6_write 80 = .ok (.getfield 22, 3) := by decide +kernel
theorem dX6_write_83 : decode cX6_write 83 = .ok (.iconst 3, 1) := by decide +kernel
theorem dX6_write_84 : decode cX6_write 84 = .ok (.iload 4, 2) := by decide +kernel
theorem dX6_write_86 : decode cX6_write 86 = .ok (.imul, 1) := by decide +kernel
theorem dX6_write_87 : decode cX6_write 87 = .ok (.iconst 0, 1) := by decide +kernel
theorem dX6_write_88 : decode cX6_write 88 = .ok (.iadd, 1) := by decide +kernel
theorem dX6_write_89 : decode cX6_write 89 = .ok (.iload_n 1, 1) := by decide +kernel
theorem dX6_write_90 : decode cX6_write 90 = .ok (.iastore, 1) := by decide +kernel
theorem dX6_write_91 : decode cX6_write 91 = .ok (.aload_n 0, 1) := by decide +kernel
theorem dX6_write_92 : decode cX6_write 92 = .ok (.getfield 22, 3) := by decide +kernel
theorem dX6_write_95 : decode cX6_write 95 = .ok (.iconst 3, 1) := by decide +kernel
theorem dX6_write_96 : decode cX6_write 96 = .ok (.iload 4, 2) := by decide +kernel
theorem dX6_write_98 : decode cX6_write 98 = .ok (.imul, 1) := by decide +kernel
theorem dX6_write_99 : decode cX6_write 99 = .ok (.iconst 1, 1) := by decide +kernel
theorem dX6_write_100 : decode cX6_write 100 = .ok (.iadd, 1) := by decide +kernel
theorem dX6_write_101 : decode cX6_write 101 = .ok (.iload_n 2, 1) := by decide +kernel
theorem dX6_write_102 : decode cX6_write 102 = .ok (.iastore, 1) := by decide +kernel
theorem dX6_write_103 : decode cX6_write 103 = .ok (.aload_n 0, 1) := by decide +kernel
theorem dX6_write_104 : decode cX6_write 104 = .ok (.getfield 22, 3) := by decide +kernel
theorem dX6_write_107 : decode cX6_write 107 = .ok (.iconst 3, 1) := by decide +kernel
theorem dX6_write_108 : decode cX6_write 108 = .ok (.iload 4, 2) := by decide +kernel
theorem dX6_write_110 : decode cX6_write 110 = .ok (.imul, 1) := by decide +kernel
theorem dX6_write_111 : decode cX6_write 111 = .ok (.iconst 2, 1) := by decide +kernel
theorem dX6_write_112 : decode cX6_write 112 = .ok (.iadd, 1) := by decide +kernel
theorem dX6_write_113 : decode cX6_write 113 = .ok (.iload_n 3, 1) := by decide +kernel
theorem dX6_write_114 : decode cX6_write 114 = .ok (.iastore, 1) := by decide +kernel
theorem dX6_write_115 : decode cX6_write 115 = .ok (.aload_n 0, 1) := by decide +kernel
theorem dX6_write_116 : decode cX6_write 116 = .ok (.getfield 25, 3) := by decide +kernel
theorem dX6_write_119 : decode cX6_write 119 = .ok (.iconst 4, 1) := by decide +kernel
theorem dX6_write_120 : decode cX6_write 120 = .ok (.iconst 3, 1) := by decide +kernel
theorem dX6_write_121 : decode cX6_write 121 = .ok (.aload_n 0, 1) := by decide +kernel
theorem dX6_write_122 : decode cX6_write 122 = .ok (.getfield 25, 3) := by decide +kernel
theorem dX6_write_125 : decode cX6_write 125 = .ok (.iconst 4, 1) := by decide +kernel
theorem dX6_write_126 : decode cX6_write 126 = .ok (.iaload, 1) := by decide +kernel
theorem dX6_write_127 : decode cX6_write 127 = .ok (.iconst 1, 1) := by decide +kernel
theorem dX6_write_128 : decode cX6_write 128 = .ok (.iadd, 1) := by decide +kernel
theorem dX6_write_129 : decode cX6_write 129 = .ok (.invokestatic 112, 3) := by decide +kernel
theorem dX6_write_132 : decode cX6_write 132 = .ok (.iastore, 1) := by decide +kernel
theorem dX6_write_133 : decode cX6_write 133 = .ok (.return_, 1) := by decide +kernel
theorem dX6_play_0 : decode cX6_play 0 = .ok (.aload_n 0, 1) := by decide +kernel
theorem dX6_play_1 : decode cX6_play 1 = .ok (.iload_n 1, 1) := by decide +kernel
theorem dX6_play_2 : decode cX6_play 2 = .ok (.invokevirtual 86, 3) := by decide +kernel
theorem dX6_play_5 : decode cX6_play 5 = .ok (.aload_n 0, 1) := by decide +kernel
theorem dX6_play_6 : decode cX6_play 6 = .ok (.iload_n 1, 1) := by decide +kernel
theorem dX6_play_7 : decode cX6_play 7 = .ok (.iconst 0, 1) := by decide +kernel
theorem dX6_play_8 : decode cX6_play 8 = .ok (.invokevirtual 80, 3) := by decide +kernel
theorem dX6_play_11 : decode cX6_play 11 = .ok (.aload_n 0, 1) := by decide +kernel
theorem dX6_play_12 : decode cX6_play 12 = .ok (.iload_n 2, 1) := by decide +kernel
theorem dX6_play_13 : decode cX6_play 13 = .ok (.invokevirtual 93, 3) := by decide +kernel
theorem dX6_play_16 : decode cX6_play 16 = .ok (.if_icmp .ge 5, 3) := by decide +kernel
theorem dX6_play_19 : decode cX6_play 19 = .ok (.iconst 0, 1) := by decide +kernel
theorem dX6_play_20 : decode cX6_play 20 = .ok (.ireturn, 1) := by decide +kernel
theorem dX6_play_21 : decode cX6_play 21 = .ok (.aload_n 0, 1) := by decide +kernel
theorem dX6_play_22 : decode cX6_play 22 = .ok (.iload_n 1, 1) := by decide +kernel
theorem dX6_play_23 : decode cX6_play 23 = .ok (.iconst 0, 1) := by decide +kernel
theorem dX6_play_24 : decode cX6_play 24 = .ok (.aload_n 0, 1) := by decide +kernel
theorem dX6_play_25 : decode cX6_play 25 = .ok (.iload_n 1, 1) := by decide +kernel
theorem dX6_play_26 : decode cX6_play 26 = .ok (.iconst 0, 1) := by decide +kernel
theorem dX6_play_27 : decode cX6_play 27 = .ok (.invokevirtual 80, 3) := by decide +kernel
theorem dX6_play_30 : decode cX6_play 30 = .ok (.aload_n 0, 1) := by decide +kernel
theorem dX6_play_31 : decode cX6_play 31 = .ok (.iload_n 2, 1) := by decide +kernel
theorem dX6_play_32 : decode cX6_play 32 = .ok (.invokevirtual 93, 3) := by decide +kernel
theorem dX6_play_35 : decode cX6_play 35 = .ok (.isub, 1) := by decide +kernel
theorem dX6_play_36 : decode cX6_play 36 = .ok (.invokevirtual 83, 3) := by decide +kernel
theorem dX6_play_39 : decode cX6_play 39 = .ok (.aload_n 0, 1) := by decide +kernel
theorem dX6_play_40 : decode cX6_play 40 = .ok (.iload_n 2, 1) := by decide +kernel
theorem dX6_play_41 : decode cX6_play 41 = .ok (.iconst 5, 1) := by decide +kernel
theorem dX6_play_42 : decode cX6_play 42 = .ok (.aload_n 0, 1) := by decide +kernel
theorem dX6_play_43 : decode cX6_play 43 = .ok (.iload_n 2, 1) := by decide +kernel
theorem dX6_play_44 : decode cX6_play 44 = .ok (.iconst 5, 1) := by decide +kernel
theorem dX6_play_45 : decode cX6_play 45 = .ok (.invokevirtual 71, 3) := by decide +kernel
theorem dX6_play_48 : decode cX6_play 48 = .ok (.aload_n 0, 1) := by decide +kernel
theorem dX6_play_49 : decode cX6_play 49 = .ok (.iload_n 2, 1) := by decide +kernel
theorem dX6_play_50 : decode cX6_play 50 = .ok (.invokevirtual 93, 3) := by decide +kernel
theorem dX6_play_53 : decode cX6_play 53 = .ok (.iadd, 1) := by decide +kernel
theorem dX6_play_54 : decode cX6_play 54 = .ok (.invokevirtual 74, 3) := by decide +kernel
theorem dX6_play_57 : decode cX6_play 57 = .ok (.aload_n 0, 1) := by decide +kernel
theorem dX6_play_58 : decode cX6_play 58 = .ok (.iload_n 2, 1) := by decide +kernel
theorem dX6_play_59 : decode cX6_play 59 = .ok (.iconst 4, 1) := by decide +kernel
theorem dX6_play_60 : decode cX6_play 60 = .ok (.aload_n 0, 1) := by decide +kernel
theorem dX6_play_61 : decode cX6_play 61 = .ok (.iload_n 2, 1) := by decide +kernel
theorem dX6_play_62 : decode cX6_play 62 = .ok (.iconst 4, 1) := by decide +kernel
theorem dX6_play_63 : decode cX6_play 63 = .ok (.invokevirtual 71, 3) := by decide +kernel
theorem dX6_play_66 : decode cX6_play 66 = .ok (.iconst 1, 1) := by decide +kernel
theorem dX6_play_67 : decode cX6_play 67 = .ok (.iadd, 1) := by decide +kernel
theorem dX6_play_68 : decode cX6_play 68 = .ok (.invokevirtual 74, 3) := by decide +kernel
theorem dX6_play_71 : decode cX6_play 71 = .ok (.aload_n 0, 1) := by decide +kernel
theorem dX6_play_72 : decode cX6_play 72 = .ok (.iload_n 1, 1) := by decide +kernel
theorem dX6_play_73 : decode cX6_play 73 = .ok (.iconst 1, 1) := by decide +kernel
theorem dX6_play_74 : decode cX6_play 74 = .ok (.invokevirtual 80, 3) := by decide +kernel
theorem dX6_play_77 : decode cX6_play 77 = .ok (.iconst 3, 1) := by decide +kernel
theorem dX6_play_78 : decode cX6_play 78 = .ok (.aload_n 0, 1) := by decide +kernel
theorem dX6_play_79 : decode cX6_play 79 = .ok (.getfield 19, 3) := by decide +kernel
theorem dX6_play_82 : decode cX6_play 82 = .ok (.bipush 8, 2) := by decide +kernel
theorem dX6_play_84 : decode cX6_play 84 = .ok (.iload_n 1, 1) := by decide +kernel
theorem dX6_play_85 : decode cX6_play 85 = .ok (.imul, 1) := by decide +kernel
theorem dX6_play_86 : decode cX6_play 86 = .ok (.iload_n 2, 1) := by decide +kernel
theorem dX6_play_87 : decode cX6_play 87 = .ok (.iadd, 1) := by decide +kernel
theorem dX6_play_88 : decode cX6_play 88 = .ok (.iaload, 1) := by decide +kernel
theorem dX6_play_89 : decode cX6_play 89 = .ok (.imul, 1) := by decide +kernel
theorem dX6_play_90 : decode cX6_play 90 = .ok (.iadd, 1) := by decide +kernel
theorem dX6_play_91 : decode cX6_play 91 = .ok (.iconst 5, 1) := by decide +kernel
theorem dX6_play_92 : decode cX6_play 92 = .ok (.aload_n 0, 1) := by decide +kernel
theorem dX6_play_93 : decode cX6_play 93 = .ok (.iload_n 2, 1) := by decide +kernel
theorem dX6_play_94 : decode cX6_play 94 = .ok (.invokevirtual 90, 3) := by decide +kernel
theorem dX6_play_97 : decode cX6_play 97 = .ok (.aload_n 0, 1) := by decide +kernel
theorem dX6_play_98 : decode cX6_play 98 = .ok (.iload_n 2, 1) := by decide +kernel
theorem dX6_play_99 : decode cX6_play 99 = .ok (.iconst 3, 1) := by decide +kernel
theorem dX6_play_100 : decode cX6_play 100 = .ok (.invokevirtual 71, 3) := by decide +kernel
theorem dX6_play_103 : decode cX6_play 103 = .ok (.isub, 1) := by decide +kernel
theorem dX6_play_104 : decode cX6_play 104 = .ok (.imul, 1) := by decide +kernel
theorem dX6_play_105 : decode cX6_play 105 = .ok (.iadd, 1) := by decide +kernel
theorem dX6_play_106 : decode cX6_play 106 = .ok (.istore_n 3, 1) := by decide +kernel
theorem dX6_play_107 : decode cX6_play 107 = .ok (.aload_n 0, 1) := by decide +kernel
theorem dX6_play_108 : decode cX6_play 108 = .ok (.getfield 25, 3) := by decide +kernel
theorem dX6_play_111 : decode cX6_play 111 = .ok (.iconst 2, 1) := by decide +kernel
theorem dX6_play_112 : decode cX6_play 112 = .ok (.iaload, 1) := by decide +kernel
theorem dX6_play_113 : decode cX6_play 113 = .ok (.iload_n 2, 1) := by decide +kernel
theorem dX6_play_114 : decode cX6_play 114 = .ok (.if_icmp .ne 7, 3) := by decide +kernel
theorem dX6_play_117 : decode cX6_play 117 = .ok (.iload_n 3, 1) := by decide +kernel
theorem dX6_play_118 : decode cX6_play 118 = .ok (.iconst 2, 1) := by decide +kernel
theorem dX6_play_119 : decode cX6_play 119 = .ok (.imul, 1) := by decide +kernel
theorem dX6_play_120 : decode cX6_play 120 = .ok (.istore_n 3, 1) := by decide +kernel
theorem dX6_play_121 : decode cX6_play 121 = .ok (.aload_n 0, 1) := by decide +kernel
theorem dX6_play_122 : decode cX6_play 122 = .ok (.iload_n 1, 1) := by decide +kernel
theorem dX6_play_123 : decode cX6_play 123 = .ok (.iload_n 2, 1) := by decide +kernel
theorem dX6_play_124 : decode cX6_play 124 = .ok (.iload_n 3, 1) := by decide +kernel
theorem dX6_play_125 : decode cX6_play 125 = .ok (.invokevirtual 117, 3) := by decide +kernel
theorem dX6_play_128 : decode cX6_play 128 = .ok (.aload_n 0, 1) := by decide +kernel
theorem dX6_play_129 : decode cX6_play 129 = .ok (.getfield 19, 3) := by decide +kernel
theorem dX6_play_132 : decode cX6_play 132 = .ok (.bipush 8, 2) := by decide +kernel
theorem dX6_play_134 : decode cX6_play 134 = .ok (.iload_n 1, 1) := by decide +kernel
theorem dX6_play_135 : decode cX6_play 135 = .ok (.imul, 1) := by decide +kernel
theorem dX6_play_136 : decode cX6_play 136 = .ok (.iload_n 2, 1) := by decide +kernel
theorem dX6_play_137 : decode cX6_play 137 = .ok (.iadd, 1) := by decide +kernel
theorem dX6_play_138 : decode cX6_play 138 = .ok (.bipush 9, 2) := by decide +kernel
theorem dX6_play_140 : decode cX6_play 140 = .ok (.aload_n 0, 1) := by decide +kernel
theorem dX6_play_141 : decode cX6_play 141 = .ok (.getfield 19, 3) := by decide +kernel
theorem dX6_play_144 : decode cX6_play 144 = .ok (.bipush 8, 2) := by decide +kernel
theorem dX6_play_146 : decode cX6_play 146 = .ok (.iload_n 1, 1) := by decide +kernel
theorem dX6_play_147 : decode cX6_play 147 = .ok (.imul, 1) := by decide +kernel
theorem dX6_play_148 : decode cX6_play 148 = .ok (.iload_n 2, 1) := by decide +kernel
theorem dX6_play_149 : decode cX6_play 149 = .ok (.iadd, 1) := by decide +kernel
theorem dX6_play_150 : decode cX6_play 150 = .ok (.iaload, 1) := by decide +kernel
theorem dX6_play_151 : decode cX6_play 151 = .ok (.iconst 1, 1) := by decide +kernel
theorem dX6_play_152 : decode cX6_play 152 = .ok (.iadd, 1) := by decide +kernel
theorem dX6_play_153 : decode cX6_play 153 = .ok (.invokestatic 112, 3) := by decide +kernel
theorem dX6_play_156 : decode cX6_play 156 = .ok (.iastore, 1) := by decide +kernel
theorem dX6_play_157 : decode cX6_play 157 = .ok (.aload_n 0, 1) := by decide +kernel
theorem dX6_play_158 : decode cX6_play 158 = .ok (.iload_n 1, 1) := by decide +kernel
theorem dX6_play_159 : decode cX6_play 159 = .ok (.bipush 7, 2) := by decide +kernel
theorem dX6_play_161 : decode cX6_play 161 = .ok (.aload_n 0, 1) := by decide +kernel
theorem dX6_play_162 : decode cX6_play 162 = .ok (.iload_n 1, 1) := by decide +kernel
theorem dX6_play_163 : decode cX6_play 163 = .ok (.bipush 7, 2) := by decide +kernel
theorem dX6_play_165 : decode cX6_play 165 = .ok (.invokevirtual 80, 3) := by decide +kernel
theorem dX6_play_168 : decode cX6_play 168 = .ok (.iconst 1, 1) := by decide +kernel
theorem dX6_play_169 : decode cX6_play 169 = .ok (.iadd, 1) := by decide +kernel
theorem dX6_play_170 : decode cX6_play 170 = .ok (.invokevirtual 83, 3) := by decide +kernel
theorem dX6_play_173 : decode cX6_play 173 = .ok (.aload_n 0, 1) := by decide +kernel
theorem dX6_play_174 : decode cX6_play 174 = .ok (.iload_n 1, 1) := by decide +kernel
theorem dX6_play_175 : decode cX6_play 175 = .ok (.bipush 8, 2) := by decide +kernel
theorem dX6_play_177 : decode cX6_play 177 = .ok (.aload_n 0, 1) := by decide +kernel
theorem dX6_play_178 : decode cX6_play 178 = .ok (.iload_n 1, 1) := by decide +kernel
theorem dX6_play_179 : decode cX6_play 179 = .ok (.bipush 8, 2) := by decide +kernel
theorem dX6_play_181 : decode cX6_play 181 = .ok (.invokevirtual 80, 3) := by decide +kernel
theorem dX6_play_184 : decode cX6_play 184 = .ok (.iload_n 3, 1) := by decide +kernel
theorem dX6_play_185 : decode cX6_play 185 = .ok (.invokestatic 120, 3) := by decide +kernel
theorem dX6_play_188 : decode cX6_play 188 = .ok (.invokevirtual 83, 3) := by decide +kernel
theorem dX6_play_191 : decode cX6_play 191 = .ok (.iload_n 3, 1) := by decide +kernel
theorem dX6_play_192 : decode cX6_play 192 = .ok (.aload_n 0, 1) := by decide +kernel
theorem dX6_play_193 : decode cX6_play 193 = .ok (.iload_n 2, 1) := by decide +kernel
theorem dX6_play_194 : decode cX6_play 194 = .ok (.iconst 1, 1) := by decide +kernel
theorem dX6_play_195 : decode cX6_play 195 = .ok (.invokevirtual 71, 3) := by decide +kernel
theorem dX6_play_198 : decode cX6_play 198 = .ok (.if_icmp .lt 12, 3) := by decide +kernel
theorem dX6_play_201 : decode cX6_play 201 = .ok (.aload_n 0, 1) := by decide +kernel
theorem dX6_play_202 : decode cX6_play 202 = .ok (.iload_n 2, 1) := by decide +kernel
theorem dX6_play_203 : decode cX6_play 203 = .ok (.iconst 2, 1) := by decide +kernel
theorem dX6_play_204 : decode cX6_play 204 = .ok (.invokevirtual 71, 3) := by decide +kernel
theorem dX6_play_207 : decode cX6_play 207 = .ok (.ifCond .ne 5, 3) := by decide +kernel
theorem dX6_play_210 : decode cX6_play 210 = .ok (.iconst 0, 1) := by decide +kernel
theorem dX6_play_211 : decode cX6_play 211 = .ok (.ireturn, 1) := by decide +kernel
theorem dX6_play_212 : decode cX6_play 212 = .ok (.aload_n 0, 1) := by decide +kernel
theorem dX6_play_213 : decode cX6_play 213 = .ok (.iload_n 2, 1) := by decide +kernel
theorem dX6_play_214 : decode cX6_play 214 = .ok (.iconst 2, 1) := by decide +kernel
theorem dX6_play_215 : decode cX6_play 215 = .ok (.aload_n 0, 1) := by decide +kernel
theorem dX6_play_216 : decode cX6_play 216 = .ok (.iload_n 2, 1) := by decide +kernel
theorem dX6_play_217 : decode cX6_play 217 = .ok (.iconst 2, 1) := by decide +kernel
theorem dX6_play_218 : decode cX6_play 218 = .ok (.invokevirtual 71, 3) := by decide +kernel
theorem dX6_play_221 : decode cX6_play 221 = .ok (.iconst 1, 1) := by decide +kernel
theorem dX6_play_222 : decode cX6_play 222 = .ok (.isub, 1) := by decide +kernel
theorem dX6_play_223 : decode cX6_play 223 = .ok (.invokevirtual 74, 3) := by decide +kernel
theorem dX6_play_226 : decode cX6_play 226 = .ok (.aload_n 0, 1) := by decide +kernel
theorem dX6_play_227 : decode cX6_play 227 = .ok (.iload_n 1, 1) := by decide +kernel
theorem dX6_play_228 : decode cX6_play 228 = .ok (.iconst 5, 1) := by decide +kernel
theorem dX6_play_229 : decode cX6_play 229 = .ok (.aload_n 0, 1) := by decide +kernel
theorem dX6_play_230 : decode cX6_play 230 = .ok (.iload_n 1, 1) := by decide +kernel
theorem dX6_play_231 : decode cX6_play 231 = .ok (.iconst 5, 1) := by decide +kernel
theorem dX6_play_232 : decode cX6_play 232 = .ok (.invokevirtual 80, 3) := by decide +kernel
theorem dX6_play_235 : decode cX6_play 235 = .ok (.iconst 1, 1) := by decide +kernel
theorem dX6_play_236 : decode cX6_play 236 = .ok (.iadd, 1) := by decide +kernel
theorem dX6_play_237 : decode cX6_play 237 = .ok (.invokevirtual 83, 3) := by decide +kernel
theorem dX6_play_240 : decode cX6_play 240 = .ok (.iconst 1, 1) := by decide +kernel
theorem dX6_play_241 : decode cX6_play 241 = .ok (.ireturn, 1) := by decide +kernel
theorem dX6_endHour_0 : decode cX6_endHour 0 = .ok (.iconst 0, 1) := by decide +kernel
theorem dX6_endHour_1 : decode cX6_endHour 1 = .ok (.istore_n 1, 1) := by decide +kernel
theorem dX6_endHour_2 : decode cX6_endHour 2 = .ok (.iload_n 1, 1) := by decide +kernel
theorem dX6_endHour_3 : decode cX6_endHour 3 = .ok (.aload_n 0, 1) := by decide +kernel
theorem dX6_endHour_4 : decode cX6_endHour 4 = .ok (.getfield 25, 3) := by decide +kernel
theorem dX6_endHour_7 : decode cX6_endHour 7 = .ok (.iconst 4, 1) := by decide +kernel
theorem dX6_endHour_8 : decode cX6_endHour 8 = .ok (.iaload, 1) := by decide +kernel
theorem dX6_endHour_9 : decode cX6_endHour 9 = .ok (.if_icmp .ge 56, 3) := by decide +kernel
theorem dX6_endHour_12 : decode cX6_endHour 12 = .ok (.aload_n 0, 1) := by decide +kernel
theorem dX6_endHour_13 : decode cX6_endHour 13 = .ok (.getfield 22, 3) := by decide +kernel
theorem dX6_endHour_16 : decode cX6_endHour 16 = .ok (.iconst 3, 1) := by decide +kernel
theorem dX6_endHour_17 : decode cX6_endHour 17 = .ok (.iload_n 1, 1) := by decide +kernel
theorem dX6_endHour_18 : decode cX6_endHour 18 = .ok (.imul, 1) := by decide +kernel
theorem dX6_endHour_19 : decode cX6_endHour 19 = .ok (.iconst 0, 1) := by decide +kernel
theorem dX6_endHour_20 : decode cX6_endHour 20 = .ok (.iadd, 1) := by decide +kernel
theorem dX6_endHour_21 : decode cX6_endHour 21 = .ok (.iaload, 1) := by decide +kernel
theorem dX6_endHour_22 : decode cX6_endHour 22 = .ok (.istore_n 2, 1) := by decide +kernel
theorem dX6_endHour_23 : decode cX6_endHour 23 = .ok (.aload_n 0, 1) := by decide +kernel
theorem dX6_endHour_24 : decode cX6_endHour 24 = .ok (.iload_n 2, 1) := by decide +kernel
theorem dX6_endHour_25 : decode cX6_endHour 25 = .ok (.bipush 6, 2) := by decide +kernel
theorem dX6_endHour_27 : decode cX6_endHour 27 = .ok (.aload_n 0, 1) := by decide +kernel
theorem dX6_endHour_28 : decode cX6_endHour 28 = .ok (.iload_n 2, 1) := by decide +kernel
theorem dX6_endHour_29 : decode cX6_endHour 29 = .ok (.bipush 6, 2) := by decide +kernel
theorem dX6_endHour_31 : decode cX6_endHour 31 = .ok (.invokevirtual 80, 3) := by decide +kernel
theorem dX6_endHour_34 : decode cX6_endHour 34 = .ok (.iconst 3, 1) := by decide +kernel
theorem dX6_endHour_35 : decode cX6_endHour 35 = .ok (.iadd, 1) := by decide +kernel
theorem dX6_endHour_36 : decode cX6_endHour 36 = .ok (.iload_n 1, 1) := by decide +kernel
theorem dX6_endHour_37 : decode cX6_endHour 37 = .ok (.isub, 1) := by decide +kernel
theorem dX6_endHour_38 : decode cX6_endHour 38 = .ok (.invokevirtual 83, 3) := by decide +kernel
theorem dX6_endHour_41 : decode cX6_endHour 41 = .ok (.iload_n 1, 1) := by decide +kernel
theorem dX6_endHour_42 : decode cX6_endHour 42 = .ok (.ifCond .ne 17, 3) := by decide +kernel
theorem dX6_endHour_45 : decode cX6_endHour 45 = .ok (.aload_n 0, 1) := by decide +kernel
theorem dX6_endHour_46 : decode cX6_endHour 46 = .ok (.iload_n 2, 1) := by decide +kernel
theorem dX6_endHour_47 : decode cX6_endHour 47 = .ok (.iconst 0, 1) := by decide +kernel
theorem dX6_endHour_48 : decode cX6_endHour 48 = .ok (.aload_n 0, 1) := by decide +kernel
theorem dX6_endHour_49 : decode cX6_endHour 49 = .ok (.iload_n 2, 1) := by decide +kernel
theorem dX6_endHour_50 : decode cX6_endHour 50 = .ok (.iconst 0, 1) := by decide +kernel
theorem dX6_endHour_51 : decode cX6_endHour 51 = .ok (.invokevirtual 80, 3) := by decide +kernel
theorem dX6_endHour_54 : decode cX6_endHour 54 = .ok (.iconst 5, 1) := by decide +kernel
theorem dX6_endHour_55 : decode cX6_endHour 55 = .ok (.iadd, 1) := by decide +kernel
theorem dX6_endHour_56 : decode cX6_endHour 56 = .ok (.invokevirtual 83, 3) := by decide +kernel
theorem dX6_endHour_59 : decode cX6_endHour 59 = .ok (.iinc 1 1, 3) := by decide +kernel
theorem dX6_endHour_62 : decode cX6_endHour 62 = .ok (.goto (-60), 3) := by decide +kernel
theorem dX6_endHour_65 : decode cX6_endHour 65 = .ok (.aload_n 0, 1) := by decide +kernel
theorem dX6_endHour_66 : decode cX6_endHour 66 = .ok (.getfield 25, 3) := by decide +kernel
theorem dX6_endHour_69 : decode cX6_endHour 69 = .ok (.iconst 4, 1) := by decide +kernel
theorem dX6_endHour_70 : decode cX6_endHour 70 = .ok (.iconst 0, 1) := by decide +kernel
theorem dX6_endHour_71 : decode cX6_endHour 71 = .ok (.iastore, 1) := by decide +kernel
theorem dX6_endHour_72 : decode cX6_endHour 72 = .ok (.iconst 0, 1) := by decide +kernel
theorem dX6_endHour_73 : decode cX6_endHour 73 = .ok (.istore_n 1, 1) := by decide +kernel
theorem dX6_endHour_74 : decode cX6_endHour 74 = .ok (.iload_n 1, 1) := by decide +kernel
theorem dX6_endHour_75 : decode cX6_endHour 75 = .ok (.aload_n 0, 1) := by decide +kernel
theorem dX6_endHour_76 : decode cX6_endHour 76 = .ok (.getfield 32, 3) := by decide +kernel
theorem dX6_endHour_79 : decode cX6_endHour 79 = .ok (.if_icmp .ge 38, 3) := by decide +kernel
theorem dX6_endHour_82 : decode cX6_endHour 82 = .ok (.aload_n 0, 1) := by decide +kernel
theorem dX6_endHour_83 : decode cX6_endHour 83 = .ok (.iload_n 1, 1) := by decide +kernel
theorem dX6_endHour_84 : decode cX6_endHour 84 = .ok (.invokevirtual 96, 3) := by decide +kernel
theorem dX6_endHour_87 : decode cX6_endHour 87 = .ok (.ifCond .ne 24, 3) := by decide +kernel
theorem dX6_endHour_90 : decode cX6_endHour 90 = .ok (.aload_n 0, 1) := by decide +kernel
theorem dX6_endHour_91 : decode cX6_endHour 91 = .ok (.iload_n 1, 1) := by decide +kernel
theorem dX6_endHour_92 : decode cX6_endHour 92 = .ok (.invokevirtual 99, 3) := by decide +kernel
theorem dX6_endHour_95 : decode cX6_endHour 95 = .ok (.ifCond .le 16, 3) := by decide +kernel
theorem dX6_endHour_98 : decode cX6_endHour 98 = .ok (.aload_n 0, 1) := by decide +kernel
theorem dX6_endHour_99 : decode cX6_endHour 99 = .ok (.aload_n 0, 1) := by decide +kernel
theorem dX6_endHour_100 : decode cX6_endHour 100 = .ok (.iload_n 1, 1) := by decide +kernel
theorem dX6_endHour_101 : decode cX6_endHour 101 = .ok (.iconst 0, 1) := by decide +kernel
theorem dX6_endHour_102 : decode cX6_endHour 102 = .ok (.invokevirtual 105, 3) := by decide +kernel
theorem dX6_endHour_105 : decode cX6_endHour 105 = .ok (.invokevirtual 86, 3) := by decide +kernel
theorem dX6_endHour_108 : decode cX6_endHour 108 = .ok (.goto (-26), 3) := by decide +kernel
theorem dX6_endHour_111 : decode cX6_endHour 111 = .ok (.iinc 1 1, 3) := by decide +kernel
theorem dX6_endHour_114 : decode cX6_endHour 114 = .ok (.goto (-40), 3) := by decide +kernel
theorem dX6_endHour_117 : decode cX6_endHour 117 = .ok (.return_, 1) := by decide +kernel
theorem dX6_roundOn_0 : decode cX6_roundOn 0 = .ok (.iconst 0, 1) := by decide +kernel
theorem dX6_roundOn_1 : decode cX6_roundOn 1 = .ok (.istore_n 1, 1) := by decide +kernel
theorem dX6_roundOn_2 : decode cX6_roundOn 2 = .ok (.aload_n 0, 1) := by decide +kernel
theorem dX6_roundOn_3 : decode cX6_roundOn 3 = .ok (.getfield 25, 3) := by decide +kernel
theorem dX6_roundOn_6 : decode cX6_roundOn 6 = .ok (.iconst 0, 1) := by decide +kernel
theorem dX6_roundOn_7 : decode cX6_roundOn 7 = .ok (.iaload, 1) := by decide +kernel
theorem dX6_roundOn_8 : decode cX6_roundOn 8 = .ok (.bipush 12, 2) := by decide +kernel
theorem dX6_roundOn_10 : decode cX6_roundOn 10 = .ok (.irem, 1) := by decide +kernel
theorem dX6_roundOn_11 : decode cX6_roundOn 11 = .ok (.ifCond .ne 7, 3) := by decide +kernel
theorem dX6_roundOn_14 : decode cX6_roundOn 14 = .ok (.aload_n 0, 1) := by decide +kernel
theorem dX6_roundOn_15 : decode cX6_roundOn 15 = .ok (.invokevirtual 123, 3) := by decide +kernel
theorem dX6_roundOn_18 : decode cX6_roundOn 18 = .ok (.iconst 0, 1) := by decide +kernel
theorem dX6_roundOn_19 : decode cX6_roundOn 19 = .ok (.istore_n 2, 1) := by decide +kernel
theorem dX6_roundOn_20 : decode cX6_roundOn 20 = .ok (.iload_n 2, 1) := by decide +kernel
theorem dX6_roundOn_21 : decode cX6_roundOn 21 = .ok (.aload_n 0, 1) := by decide +kernel
theorem dX6_roundOn_22 : decode cX6_roundOn 22 = .ok (.getfield 42, 3) := by decide +kernel
theorem dX6_roundOn_25 : decode cX6_roundOn 25 = .ok (.if_icmp .ge 23, 3) := by decide +kernel
theorem dX6_roundOn_28 : decode cX6_roundOn 28 = .ok (.aload_n 0, 1) := by decide +kernel
theorem dX6_roundOn_29 : decode cX6_roundOn 29 = .ok (.iload_n 2, 1) := by decide +kernel
theorem dX6_roundOn_30 : decode cX6_roundOn 30 = .ok (.iconst 2, 1) := by decide +kernel
theorem dX6_roundOn_31 : decode cX6_roundOn 31 = .ok (.invokevirtual 80, 3) := by decide +kernel
theorem dX6_roundOn_34 : decode cX6_roundOn 34 = .ok (.ifCond .ne 8, 3) := by decide +kernel
theorem dX6_roundOn_37 : decode cX6_roundOn 37 = .ok (.aload_n 0, 1) := by decide +kernel
theorem dX6_roundOn_38 : decode cX6_roundOn 38 = .ok (.iload_n 2, 1) := by decide +kernel
theorem dX6_roundOn_39 : decode cX6_roundOn 39 = .ok (.invokevirtual 126, 3) := by decide +kernel
theorem dX6_roundOn_42 : decode cX6_roundOn 42 = .ok (.iinc 2 1, 3) := by decide +kernel
theorem dX6_roundOn_45 : decode cX6_roundOn 45 = .ok (.goto (-25), 3) := by decide +kernel
theorem dX6_roundOn_48 : decode cX6_roundOn 48 = .ok (.iconst 0, 1) := by decide +kernel
theorem dX6_roundOn_49 : decode cX6_roundOn 49 = .ok (.istore_n 2, 1) := by decide +kernel
theorem dX6_roundOn_50 : decode cX6_roundOn 50 = .ok (.iload_n 2, 1) := by decide +kernel
theorem dX6_roundOn_51 : decode cX6_roundOn 51 = .ok (.aload_n 0, 1) := by decide +kernel
theorem dX6_roundOn_52 : decode cX6_roundOn 52 = .ok (.getfield 32, 3) := by decide +kernel
theorem dX6_roundOn_55 : decode cX6_roundOn 55 = .ok (.if_icmp .ge 66, 3) := by decide +kernel
theorem dX6_roundOn_58 : decode cX6_roundOn 58 = .ok (.aload_n 0, 1) := by decide +kernel
theorem dX6_roundOn_59 : decode cX6_roundOn 59 = .ok (.iload_n 2, 1) := by decide +kernel
theorem dX6_roundOn_60 : decode cX6_roundOn 60 = .ok (.invokevirtual 96, 3) := by decide +kernel
theorem dX6_roundOn_63 : decode cX6_roundOn 63 = .ok (.ifCond .ne 6, 3) := by decide +kernel
theorem dX6_roundOn_66 : decode cX6_roundOn 66 = .ok (.goto 49, 3) := by decide +kernel
theorem dX6_roundOn_69 : decode cX6_roundOn 69 = .ok (.aload_n 0, 1) := by decide +kernel
theorem dX6_roundOn_70 : decode cX6_roundOn 70 = .ok (.iload_n 2, 1) := by decide +kernel
theorem dX6_roundOn_71 : decode cX6_roundOn 71 = .ok (.invokevirtual 90, 3) := by decide +kernel
theorem dX6_roundOn_74 : decode cX6_roundOn 74 = .ok (.istore_n 3, 1) := by decide +kernel
theorem dX6_roundOn_75 : decode cX6_roundOn 75 = .ok (.iload_n 3, 1) := by decide +kernel
theorem dX6_roundOn_76 : decode cX6_roundOn 76 = .ok (.ifCond .le 39, 3) := by decide +kernel
theorem dX6_roundOn_79 : decode cX6_roundOn 79 = .ok (.aload_n 0, 1) := by decide +kernel
theorem dX6_roundOn_80 : decode cX6_roundOn 80 = .ok (.iload_n 2, 1) := by decide +kernel
theorem dX6_roundOn_81 : decode cX6_roundOn 81 = .ok (.invokevirtual 99, 3) := by decide +kernel
theorem dX6_roundOn_84 : decode cX6_roundOn 84 = .ok (.ifCond .le 31, 3) := by decide +kernel
theorem dX6_roundOn_87 : decode cX6_roundOn 87 = .ok (.iload_n 1, 1) := by decide +kernel
theorem dX6_roundOn_88 : decode cX6_roundOn 88 = .ok (.aload_n 0, 1) := by decide +kernel
theorem dX6_roundOn_89 : decode cX6_roundOn 89 = .ok (.aload_n 0, 1) := by decide +kernel
theorem dX6_roundOn_90 : decode cX6_roundOn 90 = .ok (.iload_n 2, 1) := by decide +kernel
theorem dX6_roundOn_91 : decode cX6_roundOn 91 = .ok (.iconst 0, 1) := by decide +kernel
theorem dX6_roundOn_92 : decode cX6_roundOn 92 = .ok (.invokevirtual 105, 3) := by decide +kernel
theorem dX6_roundOn_95 : decode cX6_roundOn 95 = .ok (.iload_n 2, 1) := by decide +kernel
theorem dX6_roundOn_96 : decode cX6_roundOn 96 = .ok (.invokevirtual 129, 3) := by decide +kernel
theorem dX6_roundOn_99 : decode cX6_roundOn 99 = .ok (.ifCond .eq 7, 3) := by decide +kernel
theorem dX6_roundOn_102 : decode cX6_roundOn 102 = .ok (.iconst 1, 1) := by decide +kernel
theorem dX6_roundOn_103 : decode cX6_roundOn 103 = .ok (.goto 4, 3) := by decide +kernel
theorem dX6_roundOn_106 : decode cX6_roundOn 106 = .ok (.iconst 0, 1) := by decide +kernel
theorem dX6_roundOn_107 : decode cX6_roundOn 107 = .ok (.iadd, 1) := by decide +kernel
theorem dX6_roundOn_108 : decode cX6_roundOn 108 = .ok (.istore_n 1, 1) := by decide +kernel
theorem dX6_roundOn_109 : decode cX6_roundOn 109 = .ok (.iinc 3 (-1), 3) := by decide +kernel
theorem dX6_roundOn_112 : decode cX6_roundOn 112 = .ok (.goto (-37), 3) := by decide +kernel
theorem dX6_roundOn_115 : decode cX6_roundOn 115 = .ok (.iinc 2 1, 3) := by decide +kernel
theorem dX6_roundOn_118 : decode cX6_roundOn 118 = .ok (.goto (-68), 3) := by decide +kernel
theorem dX6_roundOn_121 : decode cX6_roundOn 121 = .ok (.iconst 0, 1) := by decide +kernel
theorem dX6_roundOn_122 : decode cX6_roundOn 122 = .ok (.istore_n 2, 1) := by decide +kernel
theorem dX6_roundOn_123 : decode cX6_roundOn 123 = .ok (.iload_n 2, 1) := by decide +kernel
theorem dX6_roundOn_124 : decode cX6_roundOn 124 = .ok (.aload_n 0, 1) := by decide +kernel
theorem dX6_roundOn_125 : decode cX6_roundOn 125 = .ok (.getfield 39, 3) := by decide +kernel
theorem dX6_roundOn_128 : decode cX6_roundOn 128 = .ok (.if_icmp .ge 92, 3) := by decide +kernel
theorem dX6_roundOn_131 : decode cX6_roundOn 131 = .ok (.aload_n 0, 1) := by decide +kernel
theorem dX6_roundOn_132 : decode cX6_roundOn 132 = .ok (.iload_n 2, 1) := by decide +kernel
theorem dX6_roundOn_133 : decode cX6_roundOn 133 = .ok (.iconst 1, 1) := by decide +kernel
theorem dX6_roundOn_134 : decode cX6_roundOn 134 = .ok (.invokevirtual 63, 3) := by decide +kernel
theorem dX6_roundOn_137 : decode cX6_roundOn 137 = .ok (.iconst (-1), 1) := by decide +kernel
theorem dX6_roundOn_138 : decode cX6_roundOn 138 = .ok (.if_icmp .eq 47, 3) := by decide +kernel
theorem dX6_roundOn_141 : decode cX6_roundOn 141 = .ok (.aload_n 0, 1) := by decide +kernel
theorem dX6_roundOn_142 : decode cX6_roundOn 142 = .ok (.iload_n 2, 1) := by decide +kernel
theorem dX6_roundOn_143 : decode cX6_roundOn 143 = .ok (.iconst 0, 1) := by decide +kernel
theorem dX6_roundOn_144 : decode cX6_roundOn 144 = .ok (.aload_n 0, 1) := by decide +kernel
theorem dX6_roundOn_145 : decode cX6_roundOn 145 = .ok (.iload_n 2, 1) := by decide +kernel
theorem dX6_roundOn_146 : decode cX6_roundOn 146 = .ok (.iconst 0, 1) := by decide +kernel
theorem dX6_roundOn_147 : decode cX6_roundOn 147 = .ok (.invokevirtual 63, 3) := by decide +kernel
theorem dX6_roundOn_150 : decode cX6_roundOn 150 = .ok (.iconst 1, 1) := by decide +kernel
theorem dX6_roundOn_151 : decode cX6_roundOn 151 = .ok (.isub, 1) := by decide +kernel
theorem dX6_roundOn_152 : decode cX6_roundOn 152 = .ok (.invokevirtual 67, 3) := by decide +kernel
theorem dX6_roundOn_155 : decode cX6_roundOn 155 = .ok (.aload_n 0, 1) := by decide +kernel
theorem dX6_roundOn_156 : decode cX6_roundOn 156 = .ok (.iload_n 2, 1) := by decide +kernel
theorem dX6_roundOn_157 : decode cX6_roundOn 157 = .ok (.iconst 2, 1) := by decide +kernel
theorem dX6_roundOn_158 : decode cX6_roundOn 158 = .ok (.aload_n 0, 1) := by decide +kernel
theorem dX6_roundOn_159 : decode cX6_roundOn 159 = .ok (.iload_n 2, 1) := by decide +kernel
theorem dX6_roundOn_160 : decode cX6_roundOn 160 = .ok (.iconst 2, 1) := by decide +kernel
theorem dX6_roundOn_161 : decode cX6_roundOn 161 = .ok (.invokevirtual 63, 3) := by decide +kernel
theorem dX6_roundOn_164 : decode cX6_roundOn 164 = .ok (.iconst 1, 1) := by decide +kernel
theorem dX6_roundOn_165 : decode cX6_roundOn 165 = .ok (.iadd, 1) := by decide +kernel
theorem dX6_roundOn_166 : decode cX6_roundOn 166 = .ok (.invokevirtual 67, 3) := by decide +kernel
theorem dX6_roundOn_169 : decode cX6_roundOn 169 = .ok (.aload_n 0, 1) := by decide +kernel
theorem dX6_roundOn_170 : decode cX6_roundOn 170 = .ok (.iload_n 2, 1) := by decide +kernel
theorem dX6_roundOn_171 : decode cX6_roundOn 171 = .ok (.iconst 0, 1) := by decide +kernel
theorem dX6_roundOn_172 : decode cX6_roundOn 172 = .ok (.invokevirtual 63, 3) := by decide +kernel
theorem dX6_roundOn_175 : decode cX6_roundOn 175 = .ok (.ifCond .ne 10, 3) := by decide +kernel
theorem dX6_roundOn_178 : decode cX6_roundOn 178 = .ok (.aload_n 0, 1) := by decide +kernel
theorem dX6_roundOn_179 : decode cX6_roundOn 179 = .ok (.iload_n 2, 1) := by decide +kernel
theorem dX6_roundOn_180 : decode cX6_roundOn 180 = .ok (.iconst 1, 1) := by decide +kernel
theorem dX6_roundOn_181 : decode cX6_roundOn 181 = .ok (.iconst (-1), 1) := by decide +kernel
theorem dX6_roundOn_182 : decode cX6_roundOn 182 = .ok (.invokevirtual 67, 3) := by decide +kernel
theorem dX6_roundOn_185 : decode cX6_roundOn 185 = .ok (.aload_n 0, 1) := by decide +kernel
theorem dX6_roundOn_186 : decode cX6_roundOn 186 = .ok (.iload_n 2, 1) := by decide +kernel
theorem dX6_roundOn_187 : decode cX6_roundOn 187 = .ok (.iconst 1, 1) := by decide +kernel
theorem dX6_roundOn_188 : decode cX6_roundOn 188 = .ok (.invokevirtual 63, 3) := by decide +kernel
theorem dX6_roundOn_191 : decode cX6_roundOn 191 = .ok (.iconst (-1), 1) := by decide +kernel
theorem dX6_roundOn_192 : decode cX6_roundOn 192 = .ok (.if_icmp .ne 22, 3) := by decide +kernel
theorem dX6_roundOn_195 : decode cX6_roundOn 195 = .ok (.aload_n 0, 1) := by decide +kernel
theorem dX6_roundOn_196 : decode cX6_roundOn 196 = .ok (.iload_n 2, 1) := by decide +kernel
theorem dX6_roundOn_197 : decode cX6_roundOn 197 = .ok (.iconst 0, 1) := by decide +kernel
theorem dX6_roundOn_198 : decode cX6_roundOn 198 = .ok (.bipush 24, 2) := by decide +kernel
theorem dX6_roundOn_200 : decode cX6_roundOn 200 = .ok (.aload_n 0, 1) := by decide +kernel
theorem dX6_roundOn_201 : decode cX6_roundOn 201 = .ok (.iload_n 2, 1) := by decide +kernel
theorem dX6_roundOn_202 : decode cX6_roundOn 202 = .ok (.iconst 0, 1) := by decide +kernel
theorem dX6_roundOn_203 : decode cX6_roundOn 203 = .ok (.invokevirtual 63, 3) := by decide +kernel
theorem dX6_roundOn_206 : decode cX6_roundOn 206 = .ok (.iconst 2, 1) := by decide +kernel
theorem dX6_roundOn_207 : decode cX6_roundOn 207 = .ok (.iadd, 1) := by decide +kernel
theorem dX6_roundOn_208 : decode cX6_roundOn 208 = .ok (.invokestatic 112, 3) := by decide +kernel
theorem dX6_roundOn_211 : decode cX6_roundOn 211 = .ok (.invokevirtual 67, 3) := by decide +kernel
theorem dX6_roundOn_214 : decode cX6_roundOn 214 = .ok (.iinc 2 1, 3) := by decide +kernel
theorem dX6_roundOn_217 : decode cX6_roundOn 217 = .ok (.goto (-94), 3) := by decide +kernel
theorem dX6_roundOn_220 : decode cX6_roundOn 220 = .ok (.aload_n 0, 1) := by decide +kernel
theorem dX6_roundOn_221 : decode cX6_roundOn 221 = .ok (.getfield 25, 3) := by decide +kernel
theorem dX6_roundOn_224 : decode cX6_roundOn 224 = .ok (.iconst 0, 1) := by decide +kernel
theorem dX6_roundOn_225 : decode cX6_roundOn 225 = .ok (.iaload, 1) := by decide +kernel
theorem dX6_roundOn_226 : decode cX6_roundOn 226 = .ok (.bipush 12, 2) := by decide +kernel
theorem dX6_roundOn_228 : decode cX6_roundOn 228 = .ok (.irem, 1) := by decide +kernel
theorem dX6_roundOn_229 : decode cX6_roundOn 229 = .ok (.bipush 11, 2) := by decide +kernel
theorem dX6_roundOn_231 : decode cX6_roundOn 231 = .ok (.if_icmp .ne 7, 3) := by decide +kernel
theorem dX6_roundOn_234 : decode cX6_roundOn 234 = .ok (.aload_n 0, 1) := by decide +kernel
theorem dX6_roundOn_235 : decode cX6_roundOn 235 = .ok (.invokevirtual 133, 3) := by decide +kernel
theorem dX6_roundOn_238 : decode cX6_roundOn 238 = .ok (.aload_n 0, 1) := by decide +kernel
theorem dX6_roundOn_239 : decode cX6_roundOn 239 = .ok (.getfield 25, 3) := by decide +kernel
theorem dX6_roundOn_242 : decode cX6_roundOn 242 = .ok (.iconst 0, 1) := by decide +kernel
theorem dX6_roundOn_243 : decode cX6_roundOn 243 = .ok (.dup2, 1) := by decide +kernel
theorem dX6_roundOn_244 : decode cX6_roundOn 244 = .ok (.iaload, 1) := by decide +kernel
theorem dX6_roundOn_245 : decode cX6_roundOn 245 = .ok (.iconst 1, 1) := by decide +kernel
theorem dX6_roundOn_246 : decode cX6_roundOn 246 = .ok (.iadd, 1) := by decide +kernel
theorem dX6_roundOn_247 : decode cX6_roundOn 247 = .ok (.iastore, 1) := by decide +kernel
theorem dX6_roundOn_248 : decode cX6_roundOn 248 = .ok (.aload_n 0, 1) := by decide +kernel
theorem dX6_roundOn_249 : decode cX6_roundOn 249 = .ok (.getfield 25, 3) := by decide +kernel
theorem dX6_roundOn_252 : decode cX6_roundOn 252 = .ok (.iconst 3, 1) := by decide +kernel
theorem dX6_roundOn_253 : decode cX6_roundOn 253 = .ok (.dup2, 1) := by decide +kernel
theorem dX6_roundOn_254 : decode cX6_roundOn 254 = .ok (.iaload, 1) := by decide +kernel
theorem dX6_roundOn_255 : decode cX6_roundOn 255 = .ok (.iload_n 1, 1) := by decide +kernel
theorem dX6_roundOn_256 : decode cX6_roundOn 256 = .ok (.iadd, 1) := by decide +kernel
theorem dX6_roundOn_257 : decode cX6_roundOn 257 = .ok (.iastore, 1) := by decide +kernel
theorem dX6_roundOn_258 : decode cX6_roundOn 258 = .ok (.iload_n 1, 1) := by decide +kernel
theorem dX6_roundOn_259 : decode cX6_roundOn 259 = .ok (.ireturn, 1) := by decide +kernel
theorem dX6_roundsOn_0 : decode cX6_roundsOn 0 = .ok (.iconst 0, 1) := by decide +kernel
theorem dX6_roundsOn_1 : decode cX6_roundsOn 1 = .ok (.istore_n 2, 1) := by decide +kernel
theorem dX6_roundsOn_2 : decode cX6_roundsOn 2 = .ok (.iconst 0, 1) := by decide +kernel
theorem dX6_roundsOn_3 : decode cX6_roundsOn 3 = .ok (.istore_n 3, 1) := by decide +kernel
theorem dX6_roundsOn_4 : decode cX6_roundsOn 4 = .ok (.iload_n 3, 1) := by decide +kernel
theorem dX6_roundsOn_5 : decode cX6_roundsOn 5 = .ok (.iload_n 1, 1) := by decide +kernel
theorem dX6_roundsOn_6 : decode cX6_roundsOn 6 = .ok (.if_icmp .ge 16, 3) := by decide +kernel
theorem dX6_roundsOn_9 : decode cX6_roundsOn 9 = .ok (.iload_n 2, 1) := by decide +kernel
theorem dX6_roundsOn_10 : decode cX6_roundsOn 10 = .ok (.aload_n 0, 1) := by decide +kernel
theorem dX6_roundsOn_11 : decode cX6_roundsOn 11 = .ok (.invokevirtual 136, 3) := by decide +kernel
theorem dX6_roundsOn_14 : decode cX6_roundsOn 14 = .ok (.iadd, 1) := by decide +kernel
theorem dX6_roundsOn_15 : decode cX6_roundsOn 15 = .ok (.istore_n 2, 1) := by decide +kernel
theorem dX6_roundsOn_16 : decode cX6_roundsOn 16 = .ok (.iinc 3 1, 3) := by decide +kernel
theorem dX6_roundsOn_19 : decode cX6_roundsOn 19 = .ok (.goto (-15), 3) := by decide +kernel
theorem dX6_roundsOn_22 : decode cX6_roundsOn 22 = .ok (.iload_n 2, 1) := by decide +kernel
theorem dX6_roundsOn_23 : decode cX6_roundsOn 23 = .ok (.ireturn, 1) := by decide +kernel
theorem dX6_pass_0 : decode cX6_pass 0 = .ok (.aload_n 0, 1) := by decide +kernel
theorem dX6_pass_1 : decode cX6_pass 1 = .ok (.iconst 0, 1) := by decide +kernel
theorem dX6_pass_2 : decode cX6_pass 2 = .ok (.putfield 28, 3) := by decide +kernel
theorem dX6_pass_5 : decode cX6_pass 5 = .ok (.iload_n 1, 1) := by decide +kernel
theorem dX6_pass_6 : decode cX6_pass 6 = .ok (.iconst 1, 1) := by decide +kernel
theorem dX6_pass_7 : decode cX6_pass 7 = .ok (.sipush 200, 3) := by decide +kernel
theorem dX6_pass_10 : decode cX6_pass 10 = .ok (.invokestatic 35, 3) := by decide +kernel
theorem dX6_pass_13 : decode cX6_pass 13 = .ok (.ifCond .eq 11, 3) := by decide +kernel
theorem dX6_pass_16 : decode cX6_pass 16 = .ok (.aload_n 0, 1) := by decide +kernel
theorem dX6_pass_17 : decode cX6_pass 17 = .ok (.iload_n 1, 1) := by decide +kernel
theorem dX6_pass_18 : decode cX6_pass 18 = .ok (.invokevirtual 140, 3) := by decide +kernel
theorem dX6_pass_21 : decode cX6_pass 21 = .ok (.goto 8, 3) := by decide +kernel
theorem dX6_pass_24 : decode cX6_pass 24 = .ok (.aload_n 0, 1) := by decide +kernel
theorem dX6_pass_25 : decode cX6_pass 25 = .ok (.iconst 1, 1) := by decide +kernel
theorem dX6_pass_26 : decode cX6_pass 26 = .ok (.invokevirtual 45, 3) := by decide +kernel
theorem dX6_pass_29 : decode cX6_pass 29 = .ok (.ireturn, 1) := by decide +kernel
theorem dX6_with_0 : decode cX6_with 0 = .ok (.iconst 0, 1) := by decide +kernel
theorem dX6_with_1 : decode cX6_with 1 = .ok (.istore_n 2, 1) := by decide +kernel
theorem dX6_with_2 : decode cX6_with 2 = .ok (.iconst 0, 1) := by decide +kernel
theorem dX6_with_3 : decode cX6_with 3 = .ok (.istore_n 3, 1) := by decide +kernel
theorem dX6_with_4 : decode cX6_with 4 = .ok (.iload_n 3, 1) := by decide +kernel
theorem dX6_with_5 : decode cX6_with 5 = .ok (.aload_n 0, 1) := by decide +kernel
theorem dX6_with_6 : decode cX6_with 6 = .ok (.getfield 42, 3) := by decide +kernel
theorem dX6_with_9 : decode cX6_with 9 = .ok (.if_icmp .ge 27, 3) := by decide +kernel
theorem dX6_with_12 : decode cX6_with 12 = .ok (.iload_n 2, 1) := by decide +kernel
theorem dX6_with_13 : decode cX6_with 13 = .ok (.aload_n 0, 1) := by decide +kernel
theorem dX6_with_14 : decode cX6_with 14 = .ok (.iload_n 3, 1) := by decide +kernel
theorem dX6_with_15 : decode cX6_with 15 = .ok (.iconst 2, 1) := by decide +kernel
theorem dX6_with_16 : decode cX6_with 16 = .ok (.invokevirtual 80, 3) := by decide +kernel
theorem dX6_with_19 : decode cX6_with 19 = .ok (.iload_n 1, 1) := by decide +kernel
theorem dX6_with_20 : decode cX6_with 20 = .ok (.if_icmp .ne 7, 3) := by decide +kernel
theorem dX6_with_23 : decode cX6_with 23 = .ok (.iconst 1, 1) := by decide +kernel
theorem dX6_with_24 : decode cX6_with 24 = .ok (.goto 4, 3) := by decide +kernel
theorem dX6_with_27 : decode cX6_with 27 = .ok (.iconst 0, 1) := by decide +kernel
theorem dX6_with_28 : decode cX6_with 28 = .ok (.iadd, 1) := by decide +kernel
theorem dX6_with_29 : decode cX6_with 29 = .ok (.istore_n 2, 1) := by decide +kernel
theorem dX6_with_30 : decode cX6_with 30 = .ok (.iinc 3 1, 3) := by decide +kernel
theorem dX6_with_33 : decode cX6_with 33 = .ok (.goto (-29), 3) := by decide +kernel
