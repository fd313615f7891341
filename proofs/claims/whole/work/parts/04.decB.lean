/-! printed: decode rows of the reference, the library, the law -/
theorem dX6_init_0 : decode cX6_init 0 = .ok (.aload_n 0, 1) := by decide +kernel
theorem dX6_init_1 : decode cX6_init 1 = .ok (.invokespecial 1, 3) := by decide +kernel
theorem dX6_init_4 : decode cX6_init 4 = .ok (.aload_n 0, 1) := by decide +kernel
theorem dX6_init_5 : decode cX6_init 5 = .ok (.bipush 88, 2) := by decide +kernel
theorem dX6_init_7 : decode cX6_init 7 = .ok (.newarray .int, 2) := by decide +kernel
theorem dX6_init_9 : decode cX6_init 9 = .ok (.putfield 9, 3) := by decide +kernel
theorem dX6_init_12 : decode cX6_init 12 = .ok (.aload_n 0, 1) := by decide +kernel
theorem dX6_init_13 : decode cX6_init 13 = .ok (.bipush 88, 2) := by decide +kernel
theorem dX6_init_15 : decode cX6_init 15 = .ok (.newarray .int, 2) := by decide +kernel
theorem dX6_init_17 : decode cX6_init 17 = .ok (.putfield 13, 3) := by decide +kernel
theorem dX6_init_20 : decode cX6_init 20 = .ok (.aload_n 0, 1) := by decide +kernel
theorem dX6_init_21 : decode cX6_init 21 = .ok (.bipush 88, 2) := by decide +kernel
theorem dX6_init_23 : decode cX6_init 23 = .ok (.newarray .int, 2) := by decide +kernel
theorem dX6_init_25 : decode cX6_init 25 = .ok (.putfield 16, 3) := by decide +kernel
theorem dX6_init_28 : decode cX6_init 28 = .ok (.aload_n 0, 1) := by decide +kernel
theorem dX6_init_29 : decode cX6_init 29 = .ok (.bipush 8, 2) := by decide +kernel
theorem dX6_init_31 : decode cX6_init 31 = .ok (.newarray .int, 2) := by decide +kernel
theorem dX6_init_33 : decode cX6_init 33 = .ok (.putfield 19, 3) := by decide +kernel
theorem dX6_init_36 : decode cX6_init 36 = .ok (.aload_n 0, 1) := by decide +kernel
theorem dX6_init_37 : decode cX6_init 37 = .ok (.bipush 120, 2) := by decide +kernel
theorem dX6_init_39 : decode cX6_init 39 = .ok (.newarray .int, 2) := by decide +kernel
theorem dX6_init_41 : decode cX6_init 41 = .ok (.putfield 22, 3) := by decide +kernel
theorem dX6_init_44 : decode cX6_init 44 = .ok (.aload_n 0, 1) := by decide +kernel
theorem dX6_init_45 : decode cX6_init 45 = .ok (.bipush 7, 2) := by decide +kernel
theorem dX6_init_47 : decode cX6_init 47 = .ok (.anewarray 25, 3) := by decide +kernel
theorem dX6_init_50 : decode cX6_init 50 = .ok (.dup, 1) := by decide +kernel
theorem dX6_init_51 : decode cX6_init 51 = .ok (.iconst 0, 1) := by decide +kernel
theorem dX6_init_52 : decode cX6_init 52 = .ok (.ldc 27, 2) := by decide +kernel
theorem dX6_init_54 : decode cX6_init 54 = .ok (.aastore, 1) := by decide +kernel
theorem dX6_init_55 : decode cX6_init 55 = .ok (.dup, 1) := by decide +kernel
theorem dX6_init_56 : decode cX6_init 56 = .ok (.iconst 1, 1) := by decide +kernel
theorem dX6_init_57 : decode cX6_init 57 = .ok (.ldc 29, 2) := by decide +kernel
theorem dX6_init_59 : decode cX6_init 59 = .ok (.aastore, 1) := by decide +kernel
theorem dX6_init_60 : decode cX6_init 60 = .ok (.dup, 1) := by decide +kernel
theorem dX6_init_61 : decode cX6_init 61 = .ok (.iconst 2, 1) := by decide +kernel
theorem dX6_init_62 : decode cX6_init 62 = .ok (.ldc 31, 2) := by decide +kernel
theorem dX6_init_64 : decode cX6_init 64 = .ok (.aastore, 1) := by decide +kernel
theorem dX6_init_65 : decode cX6_init 65 = .ok (.dup, 1) := by decide +kernel
theorem dX6_init_66 : decode cX6_init 66 = .ok (.iconst 3, 1) := by decide +kernel
theorem dX6_init_67 : decode cX6_init 67 = .ok (.ldc 33, 2) := by decide +kernel
theorem dX6_init_69 : decode cX6_init 69 = .ok (.aastore, 1) := by decide +kernel
theorem dX6_init_70 : decode cX6_init 70 = .ok (.dup, 1) := by decide +kernel
theorem dX6_init_71 : decode cX6_init 71 = .ok (.iconst 4, 1) := by decide +kernel
theorem dX6_init_72 : decode cX6_init 72 = .ok (.ldc 35, 2) := by decide +kernel
theorem dX6_init_74 : decode cX6_init 74 = .ok (.aastore, 1) := by decide +kernel
theorem dX6_init_75 : decode cX6_init 75 = .ok (.dup, 1) := by decide +kernel
theorem dX6_init_76 : decode cX6_init 76 = .ok (.iconst 5, 1) := by decide +kernel
theorem dX6_init_77 : decode cX6_init 77 = .ok (.ldc 37, 2) := by decide +kernel
theorem dX6_init_79 : decode cX6_init 79 = .ok (.aastore, 1) := by decide +kernel
theorem dX6_init_80 : decode cX6_init 80 = .ok (.dup, 1) := by decide +kernel
theorem dX6_init_81 : decode cX6_init 81 = .ok (.bipush 6, 2) := by decide +kernel
theorem dX6_init_83 : decode cX6_init 83 = .ok (.ldc 39, 2) := by decide +kernel
theorem dX6_init_85 : decode cX6_init 85 = .ok (.aastore, 1) := by decide +kernel
theorem dX6_init_86 : decode cX6_init 86 = .ok (.putfield 41, 3) := by decide +kernel
theorem dX6_init_89 : decode cX6_init 89 = .ok (.aload_n 0, 1) := by decide +kernel
theorem dX6_init_90 : decode cX6_init 90 = .ok (.sipush 600, 3) := by decide +kernel
theorem dX6_init_93 : decode cX6_init 93 = .ok (.newarray .int, 2) := by decide +kernel
theorem dX6_init_95 : decode cX6_init 95 = .ok (.putfield 45, 3) := by decide +kernel
theorem dX6_init_98 : decode cX6_init 98 = .ok (.aload_n 0, 1) := by decide +kernel
theorem dX6_init_99 : decode cX6_init 99 = .ok (.iconst 4, 1) := by decide +kernel
theorem dX6_init_100 : decode cX6_init 100 = .ok (.newarray .int, 2) := by decide +kernel
theorem dX6_init_102 : decode cX6_init 102 = .ok (.putfield 48, 3) := by decide +kernel
theorem dX6_init_105 : decode cX6_init 105 = .ok (.aload_n 0, 1) := by decide +kernel
theorem dX6_init_106 : decode cX6_init 106 = .ok (.iconst 4, 1) := by decide +kernel
theorem dX6_init_107 : decode cX6_init 107 = .ok (.newarray .int, 2) := by decide +kernel
theorem dX6_init_109 : decode cX6_init 109 = .ok (.putfield 51, 3) := by decide +kernel
theorem dX6_init_112 : decode cX6_init 112 = .ok (.aload_n 0, 1) := by decide +kernel
theorem dX6_init_113 : decode cX6_init 113 = .ok (.sipush 160, 3) := by decide +kernel
theorem dX6_init_116 : decode cX6_init 116 = .ok (.newarray .int, 2) := by decide +kernel
theorem dX6_init_118 : decode cX6_init 118 = .ok (.putfield 54, 3) := by decide +kernel
theorem dX6_init_121 : decode cX6_init 121 = .ok (.aload_n 0, 1) := by decide +kernel
theorem dX6_init_122 : decode cX6_init 122 = .ok (.bipush 40, 2) := by decide +kernel
theorem dX6_init_124 : decode cX6_init 124 = .ok (.newarray .int, 2) := by decide +kernel
theorem dX6_init_126 : decode cX6_init 126 = .ok (.putfield 57, 3) := by decide +kernel
theorem dX6_init_129 : decode cX6_init 129 = .ok (.aload_n 0, 1) := by decide +kernel
theorem dX6_init_130 : decode cX6_init 130 = .ok (.getfield 9, 3) := by decide +kernel
theorem dX6_init_133 : decode cX6_init 133 = .ok (.iconst 2, 1) := by decide +kernel
theorem dX6_init_134 : decode cX6_init 134 = .ok (.iconst 1, 1) := by decide +kernel
theorem dX6_init_135 : decode cX6_init 135 = .ok (.iastore, 1) := by decide +kernel
theorem dX6_init_136 : decode cX6_init 136 = .ok (.iconst 0, 1) := by decide +kernel
theorem dX6_init_137 : decode cX6_init 137 = .ok (.istore_n 1, 1) := by decide +kernel
theorem dX6_init_138 : decode cX6_init 138 = .ok (.iload_n 1, 1) := by decide +kernel
theorem dX6_init_139 : decode cX6_init 139 = .ok (.bipush 6, 2) := by decide +kernel
theorem dX6_init_141 : decode cX6_init 141 = .ok (.if_icmp .ge 19, 3) := by decide +kernel
theorem dX6_init_144 : decode cX6_init 144 = .ok (.aload_n 0, 1) := by decide +kernel
theorem dX6_init_145 : decode cX6_init 145 = .ok (.getfield 9, 3) := by decide +kernel
theorem dX6_init_148 : decode cX6_init 148 = .ok (.iconst 4, 1) := by decide +kernel
theorem dX6_init_149 : decode cX6_init 149 = .ok (.iload_n 1, 1) := by decide +kernel
theorem dX6_init_150 : decode cX6_init 150 = .ok (.iadd, 1) := by decide +kernel
theorem dX6_init_151 : decode cX6_init 151 = .ok (.bipush 12, 2) := by decide +kernel
theorem dX6_init_153 : decode cX6_init 153 = .ok (.iastore, 1) := by decide +kernel
theorem dX6_init_154 : decode cX6_init 154 = .ok (.iinc 1 1, 3) := by decide +kernel
theorem dX6_init_157 : decode cX6_init 157 = .ok (.goto (-19), 3) := by decide +kernel
theorem dX6_init_160 : decode cX6_init 160 = .ok (.iconst 0, 1) := by decide +kernel
theorem dX6_init_161 : decode cX6_init 161 = .ok (.istore_n 1, 1) := by decide +kernel
theorem dX6_init_162 : decode cX6_init 162 = .ok (.iload_n 1, 1) := by decide +kernel
theorem dX6_init_163 : decode cX6_init 163 = .ok (.bipush 10, 2) := by decide +kernel
theorem dX6_init_165 : decode cX6_init 165 = .ok (.if_icmp .ge 19, 3) := by decide +kernel
theorem dX6_init_168 : decode cX6_init 168 = .ok (.aload_n 0, 1) := by decide +kernel
theorem dX6_init_169 : decode cX6_init 169 = .ok (.getfield 9, 3) := by decide +kernel
theorem dX6_init_172 : decode cX6_init 172 = .ok (.bipush 22, 2) := by decide +kernel
theorem dX6_init_174 : decode cX6_init 174 = .ok (.iload_n 1, 1) := by decide +kernel
theorem dX6_init_175 : decode cX6_init 175 = .ok (.iadd, 1) := by decide +kernel
theorem dX6_init_176 : decode cX6_init 176 = .ok (.iconst (-1), 1) := by decide +kernel
theorem dX6_init_177 : decode cX6_init 177 = .ok (.iastore, 1) := by decide +kernel
theorem dX6_init_178 : decode cX6_init 178 = .ok (.iinc 1 1, 3) := by decide +kernel
theorem dX6_init_181 : decode cX6_init 181 = .ok (.goto (-19), 3) := by decide +kernel
theorem dX6_init_184 : decode cX6_init 184 = .ok (.return_, 1) := by decide +kernel
theorem dX6_finding_0 : decode cX6_finding 0 = .ok (.aload_n 0, 1) := by decide +kernel
theorem dX6_finding_1 : decode cX6_finding 1 = .ok (.getfield 19, 3) := by decide +kernel
theorem dX6_finding_4 : decode cX6_finding 4 = .ok (.ldc 60, 2) := by decide +kernel
theorem dX6_finding_6 : decode cX6_finding 6 = .ok (.iload_n 1, 1) := by decide +kernel
theorem dX6_finding_7 : decode cX6_finding 7 = .ok (.isub, 1) := by decide +kernel
theorem dX6_finding_8 : decode cX6_finding 8 = .ok (.iconst 1, 1) := by decide +kernel
theorem dX6_finding_9 : decode cX6_finding 9 = .ok (.iadd, 1) := by decide +kernel
theorem dX6_finding_10 : decode cX6_finding 10 = .ok (.dup2, 1) := by decide +kernel
theorem dX6_finding_11 : decode cX6_finding 11 = .ok (.iaload, 1) := by decide +kernel
theorem dX6_finding_12 : decode cX6_finding 12 = .ok (.iconst 1, 1) := by decide +kernel
theorem dX6_finding_13 : decode cX6_finding 13 = .ok (.iadd, 1) := by decide +kernel
theorem dX6_finding_14 : decode cX6_finding 14 = .ok (.iastore, 1) := by decide +kernel
theorem dX6_finding_15 : decode cX6_finding 15 = .ok (.aload_n 0, 1) := by decide +kernel
theorem dX6_finding_16 : decode cX6_finding 16 = .ok (.getfield 19, 3) := by decide +kernel
theorem dX6_finding_19 : decode cX6_finding 19 = .ok (.iconst 0, 1) := by decide +kernel
theorem dX6_finding_20 : decode cX6_finding 20 = .ok (.dup2, 1) := by decide +kernel
theorem dX6_finding_21 : decode cX6_finding 21 = .ok (.iaload, 1) := by decide +kernel
theorem dX6_finding_22 : decode cX6_finding 22 = .ok (.iconst 1, 1) := by decide +kernel
theorem dX6_finding_23 : decode cX6_finding 23 = .ok (.iadd, 1) := by decide +kernel
theorem dX6_finding_24 : decode cX6_finding 24 = .ok (.iastore, 1) := by decide +kernel
theorem dX6_finding_25 : decode cX6_finding 25 = .ok (.iload_n 1, 1) := by decide +kernel
theorem dX6_finding_26 : decode cX6_finding 26 = .ok (.ireturn, 1) := by decide +kernel
theorem dX6_within_0 : decode cX6_within 0 = .ok (.iload_n 0, 1) := by decide +kernel
theorem dX6_within_1 : decode cX6_within 1 = .ok (.iload_n 1, 1) := by decide +kernel
theorem dX6_within_2 : decode cX6_within 2 = .ok (.if_icmp .lt 12, 3) := by decide +kernel
theorem dX6_within_5 : decode cX6_within 5 = .ok (.iload_n 0, 1) := by decide +kernel
theorem dX6_within_6 : decode cX6_within 6 = .ok (.iload_n 2, 1) := by decide +kernel
theorem dX6_within_7 : decode cX6_within 7 = .ok (.if_icmp .gt 7, 3) := by decide +kernel
theorem dX6_within_10 : decode cX6_within 10 = .ok (.iconst 1, 1) := by decide +kernel
theorem dX6_within_11 : decode cX6_within 11 = .ok (.goto 4, 3) := by decide +kernel
theorem dX6_within_14 : decode cX6_within 14 = .ok (.iconst 0, 1) := by decide +kernel
theorem dX6_within_15 : decode cX6_within 15 = .ok (.ireturn, 1) := by decide +kernel
theorem dX6_become_0 : decode cX6_become 0 = .ok (.aload_n 0, 1) := by decide +kernel
theorem dX6_become_1 : decode cX6_become 1 = .ok (.getfield 9, 3) := by decide +kernel
theorem dX6_become_4 : decode cX6_become 4 = .ok (.iload_n 1, 1) := by decide +kernel
theorem dX6_become_5 : decode cX6_become 5 = .ok (.iaload, 1) := by decide +kernel
theorem dX6_become_6 : decode cX6_become 6 = .ok (.istore_n 3, 1) := by decide +kernel
theorem dX6_become_7 : decode cX6_become 7 = .ok (.aload_n 0, 1) := by decide +kernel
theorem dX6_become_8 : decode cX6_become 8 = .ok (.getfield 9, 3) := by decide +kernel
theorem dX6_become_11 : decode cX6_become 11 = .ok (.iload_n 1, 1) := by decide +kernel
theorem dX6_become_12 : decode cX6_become 12 = .ok (.iload_n 2, 1) := by decide +kernel
theorem dX6_become_13 : decode cX6_become 13 = .ok (.iastore, 1) := by decide +kernel
theorem dX6_become_14 : decode cX6_become 14 = .ok (.iload_n 3, 1) := by decide +kernel
theorem dX6_become_15 : decode cX6_become 15 = .ok (.ireturn, 1) := by decide +kernel
theorem dX6_copyRow_0 : decode cX6_copyRow 0 = .ok (.iconst 0, 1) := by decide +kernel
theorem dX6_copyRow_1 : decode cX6_copyRow 1 = .ok (.istore_n 2, 1) := by decide +kernel
theorem dX6_copyRow_2 : decode cX6_copyRow 2 = .ok (.iload_n 2, 1) := by decide +kernel
theorem dX6_copyRow_3 : decode cX6_copyRow 3 = .ok (.bipush 88, 2) := by decide +kernel
theorem dX6_copyRow_5 : decode cX6_copyRow 5 = .ok (.if_icmp .ge 15, 3) := by decide +kernel
theorem dX6_copyRow_8 : decode cX6_copyRow 8 = .ok (.aload_n 1, 1) := by decide +kernel
theorem dX6_copyRow_9 : decode cX6_copyRow 9 = .ok (.iload_n 2, 1) := by decide +kernel
theorem dX6_copyRow_10 : decode cX6_copyRow 10 = .ok (.aload_n 0, 1) := by decide +kernel
theorem dX6_copyRow_11 : decode cX6_copyRow 11 = .ok (.iload_n 2, 1) := by decide +kernel
theorem dX6_copyRow_12 : decode cX6_copyRow 12 = .ok (.iaload, 1) := by decide +kernel
theorem dX6_copyRow_13 : decode cX6_copyRow 13 = .ok (.iastore, 1) := by decide +kernel
theorem dX6_copyRow_14 : decode cX6_copyRow 14 = .ok (.iinc 2 1, 3) := by decide +kernel
theorem dX6_copyRow_17 : decode cX6_copyRow 17 = .ok (.goto (-15), 3) := by decide +kernel
theorem dX6_copyRow_20 : decode cX6_copyRow 20 = .ok (.return_, 1) := by decide +kernel
theorem dX6_putBack_0 : decode cX6_putBack 0 = .ok (.aload_n 0, 1) := by decide +kernel
theorem dX6_putBack_1 : decode cX6_putBack 1 = .ok (.getfield 16, 3) := by decide +kernel
theorem dX6_putBack_4 : decode cX6_putBack 4 = .ok (.aload_n 0, 1) := by decide +kernel
theorem dX6_putBack_5 : decode cX6_putBack 5 = .ok (.getfield 9, 3) := by decide +kernel
theorem dX6_putBack_8 : decode cX6_putBack 8 = .ok (.invokestatic 61, 3) := by decide +kernel
theorem dX6_putBack_11 : decode cX6_putBack 11 = .ok (.iload_n 1, 1) := by decide +kernel
theorem dX6_putBack_12 : decode cX6_putBack 12 = .ok (.ireturn, 1) := by decide +kernel
theorem dX6_orNone_0 : decode cX6_orNone 0 = .ok (.iload_n 1, 1) := by decide +kernel
theorem dX6_orNone_1 : decode cX6_orNone 1 = .ok (.ifCond .ge 12, 3) := by decide +kernel
theorem dX6_orNone_4 : decode cX6_orNone 4 = .ok (.aload_n 0, 1) := by decide +kernel
theorem dX6_orNone_5 : decode cX6_orNone 5 = .ok (.ldc 65, 2) := by decide +kernel
theorem dX6_orNone_7 : decode cX6_orNone 7 = .ok (.invokevirtual 66, 3) := by decide +kernel
theorem dX6_orNone_10 : decode cX6_orNone 10 = .ok (.goto 4, 3) := by decide +kernel
theorem dX6_orNone_13 : decode cX6_orNone 13 = .ok (.iload_n 1, 1) := by decide +kernel
theorem dX6_orNone_14 : decode cX6_orNone 14 = .ok (.ireturn, 1) := by decide +kernel
theorem dX6_bits_0 : decode cX6_bits 0 = .ok (.iconst 0, 1) := by decide +kernel
theorem dX6_bits_1 : decode cX6_bits 1 = .ok (.istore_n 1, 1) := by decide +kernel
theorem dX6_bits_2 : decode cX6_bits 2 = .ok (.iload_n 0, 1) := by decide +kernel
theorem dX6_bits_3 : decode cX6_bits 3 = .ok (.istore_n 2, 1) := by decide +kernel
theorem dX6_bits_4 : decode cX6_bits 4 = .ok (.iload_n 2, 1) := by decide +kernel
theorem dX6_bits_5 : decode cX6_bits 5 = .ok (.ifCond .eq 15, 3) := by decide +kernel
theorem dX6_bits_8 : decode cX6_bits 8 = .ok (.iinc 1 1, 3) := by decide +kernel
theorem dX6_bits_11 : decode cX6_bits 11 = .ok (.iload_n 2, 1) := by decide +kernel
theorem dX6_bits_12 : decode cX6_bits 12 = .ok (.iload_n 2, 1) := by decide +kernel
theorem dX6_bits_13 : decode cX6_bits 13 = .ok (.iconst 1, 1) := by decide +kernel
theorem dX6_bits_14 : decode cX6_bits 14 = .ok (.isub, 1) := by decide +kernel
theorem dX6_bits_15 : decode cX6_bits 15 = .ok (.iand, 1) := by decide +kernel
theorem dX6_bits_16 : decode cX6_bits 16 = .ok (.istore_n 2, 1) := by decide +kernel
theorem dX6_bits_17 : decode cX6_bits 17 = .ok (.goto (-13), 3) := by decide +kernel
theorem dX6_bits_20 : decode cX6_bits 20 = .ok (.iload_n 1, 1) := by decide +kernel
theorem dX6_bits_21 : decode cX6_bits 21 = .ok (.ireturn, 1) := by decide +kernel
theorem dX6_isPart_0 : decode cX6_isPart 0 = .ok (.iload_n 0, 1) := by decide +kernel
theorem dX6_isPart_1 : decode cX6_isPart 1 = .ok (.iconst 0, 1) := by decide +kernel
theorem dX6_isPart_2 : decode cX6_isPart 2 = .ok (.bipush 11, 2) := by decide +kernel
theorem dX6_isPart_4 : decode cX6_isPart 4 = .ok (.invokestatic 70, 3) := by decide +kernel
theorem dX6_isPart_7 : decode cX6_isPart 7 = .ok (.ireturn, 1) := by decide +kernel
theorem dX6_isBequest_0 : decode cX6_isBequest 0 = .ok (.iload_n 0, 1) := by decide +kernel
theorem dX6_isBequest_1 : decode cX6_isBequest 1 = .ok (.iconst 0, 1) := by decide +kernel
theorem dX6_isBequest_2 : decode cX6_isBequest 2 = .ok (.bipush 12, 2) := by decide +kernel
theorem dX6_isBequest_4 : decode cX6_isBequest 4 = .ok (.invokestatic 70, 3) := by decide +kernel
theorem dX6_isBequest_7 : decode cX6_isBequest 7 = .ok (.ireturn, 1) := by decide +kernel
theorem dX6_isPlace_0 : decode cX6_isPlace 0 = .ok (.iload_n 0, 1) := by decide +kernel
theorem dX6_isPlace_1 : decode cX6_isPlace 1 = .ok (.iconst 0, 1) := by decide +kernel
theorem dX6_isPlace_2 : decode cX6_isPlace 2 = .ok (.iconst 5, 1) := by decide +kernel
theorem dX6_isPlace_3 : decode cX6_isPlace 3 = .ok (.invokestatic 70, 3) := by decide +kernel
theorem dX6_isPlace_6 : decode cX6_isPlace 6 = .ok (.ireturn, 1) := by decide +kernel
theorem dX6_bequest_0 : decode cX6_bequest 0 = .ok (.iload_n 1, 1) := by decide +kernel
theorem dX6_bequest_1 : decode cX6_bequest 1 = .ok (.invokestatic 74, 3) := by decide +kernel
theorem dX6_bequest_4 : decode cX6_bequest 4 = .ok (.ifCond .eq 21, 3) := by decide +kernel
theorem dX6_bequest_7 : decode cX6_bequest 7 = .ok (.iload_n 2, 1) := by decide +kernel
theorem dX6_bequest_8 : decode cX6_bequest 8 = .ok (.invokestatic 78, 3) := by decide +kernel
theorem dX6_bequest_11 : decode cX6_bequest 11 = .ok (.ifCond .eq 14, 3) := by decide +kernel
theorem dX6_bequest_14 : decode cX6_bequest 14 = .ok (.aload_n 0, 1) := by decide +kernel
theorem dX6_bequest_15 : decode cX6_bequest 15 = .ok (.iconst 4, 1) := by decide +kernel
theorem dX6_bequest_16 : decode cX6_bequest 16 = .ok (.iload_n 1, 1) := by decide +kernel
theorem dX6_bequest_17 : decode cX6_bequest 17 = .ok (.iadd, 1) := by decide +kernel
theorem dX6_bequest_18 : decode cX6_bequest 18 = .ok (.iload_n 2, 1) := by decide +kernel
theorem dX6_bequest_19 : decode cX6_bequest 19 = .ok (.invokevirtual 81, 3) := by decide +kernel
theorem dX6_bequest_22 : decode cX6_bequest 22 = .ok (.goto 9, 3) := by decide +kernel
theorem dX6_bequest_25 : decode cX6_bequest 25 = .ok (.aload_n 0, 1) := by decide +kernel
theorem dX6_bequest_26 : decode cX6_bequest 26 = .ok (.ldc 60, 2) := by decide +kernel
theorem dX6_bequest_28 : decode cX6_bequest 28 = .ok (.invokevirtual 66, 3) := by decide +kernel
theorem dX6_bequest_31 : decode cX6_bequest 31 = .ok (.ireturn, 1) := by decide +kernel
theorem dX6_listed_0 : decode cX6_listed 0 = .ok (.iload_n 1, 1) := by decide +kernel
theorem dX6_listed_1 : decode cX6_listed 1 = .ok (.invokestatic 74, 3) := by decide +kernel
theorem dX6_listed_4 : decode cX6_listed 4 = .ok (.ifCond .eq 14, 3) := by decide +kernel
theorem dX6_listed_7 : decode cX6_listed 7 = .ok (.aload_n 0, 1) := by decide +kernel
theorem dX6_listed_8 : decode cX6_listed 8 = .ok (.getfield 9, 3) := by decide +kernel
theorem dX6_listed_11 : decode cX6_listed 11 = .ok (.iconst 4, 1) := by decide +kernel
theorem dX6_listed_12 : decode cX6_listed 12 = .ok (.iload_n 1, 1) := by decide +kernel
theorem dX6_listed_13 : decode cX6_listed 13 = .ok (.iadd, 1) := by decide +kernel
theorem dX6_listed_14 : decode cX6_listed 14 = .ok (.iaload, 1) := by decide +kernel
theorem dX6_listed_15 : decode cX6_listed 15 = .ok (.goto 9, 3) := by decide +kernel
theorem dX6_listed_18 : decode cX6_listed 18 = .ok (.aload_n 0, 1) := by decide +kernel
theorem dX6_listed_19 : decode cX6_listed 19 = .ok (.ldc 60, 2) := by decide +kernel
theorem dX6_listed_21 : decode cX6_listed 21 = .ok (.invokevirtual 66, 3) := by decide +kernel
theorem dX6_listed_24 : decode cX6_listed 24 = .ok (.ireturn, 1) := by decide +kernel
theorem dX6_placeNow_0 : decode cX6_placeNow 0 = .ok (.iconst 4, 1) := by decide +kernel
theorem dX6_placeNow_1 : decode cX6_placeNow 1 = .ok (.aload_n 0, 1) := by decide +kernel
theorem dX6_placeNow_2 : decode cX6_placeNow 2 = .ok (.getfield 9, 3) := by decide +kernel
theorem dX6_placeNow_5 : decode cX6_placeNow 5 = .ok (.iconst 0, 1) := by decide +kernel
theorem dX6_placeNow_6 : decode cX6_placeNow 6 = .ok (.iaload, 1) := by decide +kernel
theorem dX6_placeNow_7 : decode cX6_placeNow 7 = .ok (.bipush 6, 2) := by decide +kernel
theorem dX6_placeNow_9 : decode cX6_placeNow 9 = .ok (.irem, 1) := by decide +kernel
theorem dX6_placeNow_10 : decode cX6_placeNow 10 = .ok (.iadd, 1) := by decide +kernel
theorem dX6_placeNow_11 : decode cX6_placeNow 11 = .ok (.ireturn, 1) := by decide +kernel
theorem dX6_stored_0 : decode cX6_stored 0 = .ok (.iload_n 1, 1) := by decide +kernel
theorem dX6_stored_1 : decode cX6_stored 1 = .ok (.invokestatic 85, 3) := by decide +kernel
theorem dX6_stored_4 : decode cX6_stored 4 = .ok (.ifCond .eq 15, 3) := by decide +kernel
theorem dX6_stored_7 : decode cX6_stored 7 = .ok (.aload_n 0, 1) := by decide +kernel
theorem dX6_stored_8 : decode cX6_stored 8 = .ok (.getfield 9, 3) := by decide +kernel
theorem dX6_stored_11 : decode cX6_stored 11 = .ok (.bipush 10, 2) := by decide +kernel
theorem dX6_stored_13 : decode cX6_stored 13 = .ok (.iload_n 1, 1) := by decide +kernel
theorem dX6_stored_14 : decode cX6_stored 14 = .ok (.iadd, 1) := by decide +kernel
theorem dX6_stored_15 : decode cX6_stored 15 = .ok (.iaload, 1) := by decide +kernel
theorem dX6_stored_16 : decode cX6_stored 16 = .ok (.goto 9, 3) := by decide +kernel
theorem dX6_stored_19 : decode cX6_stored 19 = .ok (.aload_n 0, 1) := by decide +kernel
theorem dX6_stored_20 : decode cX6_stored 20 = .ok (.ldc 60, 2) := by decide +kernel
theorem dX6_stored_22 : decode cX6_stored 22 = .ok (.invokevirtual 66, 3) := by decide +kernel
theorem dX6_stored_25 : decode cX6_stored 25 = .ok (.ireturn, 1) := by decide +kernel
theorem dX6_bustAt_0 : decode cX6_bustAt 0 = .ok (.bipush 32, 2) := by decide +kernel
theorem dX6_bustAt_2 : decode cX6_bustAt 2 = .ok (.bipush 7, 2) := by decide +kernel
theorem dX6_bustAt_4 : decode cX6_bustAt 4 = .ok (.iload_n 0, 1) := by decide +kernel
theorem dX6_bustAt_5 : decode cX6_bustAt 5 = .ok (.imul, 1) := by decide +kernel
theorem dX6_bustAt_6 : decode cX6_bustAt 6 = .ok (.iadd, 1) := by decide +kernel
theorem dX6_bustAt_7 : decode cX6_bustAt 7 = .ok (.iload_n 1, 1) := by decide +kernel
theorem dX6_bustAt_8 : decode cX6_bustAt 8 = .ok (.iadd, 1) := by decide +kernel
theorem dX6_bustAt_9 : decode cX6_bustAt 9 = .ok (.ireturn, 1) := by decide +kernel
theorem dX6_bustIs_0 : decode cX6_bustIs 0 = .ok (.aload_n 0, 1) := by decide +kernel
theorem dX6_bustIs_1 : decode cX6_bustIs 1 = .ok (.getfield 9, 3) := by decide +kernel
theorem dX6_bustIs_4 : decode cX6_bustIs 4 = .ok (.iload_n 1, 1) := by decide +kernel
theorem dX6_bustIs_5 : decode cX6_bustIs 5 = .ok (.iload_n 2, 1) := by decide +kernel
theorem dX6_bustIs_6 : decode cX6_bustIs 6 = .ok (.invokestatic 88, 3) := by decide +kernel
theorem dX6_bustIs_9 : decode cX6_bustIs 9 = .ok (.iaload, 1) := by decide +kernel
theorem dX6_bustIs_10 : decode cX6_bustIs 10 = .ok (.ireturn, 1) := by decide +kernel
theorem dX6_isBust_0 : decode cX6_isBust 0 = .ok (.iload_n 1, 1) := by decide +kernel
theorem dX6_isBust_1 : decode cX6_isBust 1 = .ok (.iconst 0, 1) := by decide +kernel
theorem dX6_isBust_2 : decode cX6_isBust 2 = .ok (.aload_n 0, 1) := by decide +kernel
theorem dX6_isBust_3 : decode cX6_isBust 3 = .ok (.getfield 9, 3) := by decide +kernel
theorem dX6_isBust_6 : decode cX6_isBust 6 = .ok (.iconst 1, 1) := by decide +kernel
theorem dX6_isBust_7 : decode cX6_isBust 7 = .ok (.iaload, 1) := by decide +kernel
theorem dX6_isBust_8 : decode cX6_isBust 8 = .ok (.iconst 1, 1) := by decide +kernel
theorem dX6_isBust_9 : decode cX6_isBust 9 = .ok (.isub, 1) := by decide +kernel
theorem dX6_isBust_10 : decode cX6_isBust 10 = .ok (.invokestatic 70, 3) := by decide +kernel
theorem dX6_isBust_13 : decode cX6_isBust 13 = .ok (.ireturn, 1) := by decide +kernel
theorem dX6_isKind_0 : decode cX6_isKind 0 = .ok (.iload_n 0, 1) := by decide +kernel
theorem dX6_isKind_1 : decode cX6_isKind 1 = .ok (.iconst 0, 1) := by decide +kernel
theorem dX6_isKind_2 : decode cX6_isKind 2 = .ok (.bipush 6, 2) := by decide +kernel
theorem dX6_isKind_4 : decode cX6_isKind 4 = .ok (.invokestatic 70, 3) := by decide +kernel
theorem dX6_isKind_7 : decode cX6_isKind 7 = .ok (.ireturn, 1) := by decide +kernel
theorem dX6_isDate_0 : decode cX6_isDate 0 = .ok (.iload_n 0, 1) := by decide +kernel
theorem dX6_isDate_1 : decode cX6_isDate 1 = .ok (.iconst 0, 1) := by decide +kernel
theorem dX6_isDate_2 : decode cX6_isDate 2 = .ok (.sipush 999, 3) := by decide +kernel
theorem dX6_isDate_5 : decode cX6_isDate 5 = .ok (.invokestatic 70, 3) := by decide +kernel
theorem dX6_isDate_8 : decode cX6_isDate 8 = .ok (.ireturn, 1) := by decide +kernel
theorem dX6_comes_0 : decode cX6_comes 0 = .ok (.aload_n 0, 1) := by decide +kernel
theorem dX6_comes_1 : decode cX6_comes 1 = .ok (.getfield 9, 3) := by decide +kernel
theorem dX6_comes_4 : decode cX6_comes 4 = .ok (.iconst 1, 1) := by decide +kernel
theorem dX6_comes_5 : decode cX6_comes 5 = .ok (.iaload, 1) := by decide +kernel
theorem dX6_comes_6 : decode cX6_comes 6 = .ok (.istore_n 3, 1) := by decide +kernel
theorem dX6_comes_7 : decode cX6_comes 7 = .ok (.iconst 0, 1) := by decide +kernel
theorem dX6_comes_8 : decode cX6_comes 8 = .ok (.istore 4, 2) := by decide +kernel
theorem dX6_comes_10 : decode cX6_comes 10 = .ok (.iload 4, 2) := by decide +kernel
theorem dX6_comes_12 : decode cX6_comes 12 = .ok (.bipush 7, 2) := by decide +kernel
theorem dX6_comes_14 : decode cX6_comes 14 = .ok (.if_icmp .ge 21, 3) := by decide +kernel
theorem dX6_comes_17 : decode cX6_comes 17 = .ok (.aload_n 0, 1) := by decide +kernel
theorem dX6_comes_18 : decode cX6_comes 18 = .ok (.getfield 9, 3) := by decide +kernel
theorem dX6_comes_21 : decode cX6_comes 21 = .ok (.iload_n 3, 1) := by decide +kernel
theorem dX6_comes_22 : decode cX6_comes 22 = .ok (.iload 4, 2) := by decide +kernel
theorem dX6_comes_24 : decode cX6_comes 24 = .ok (.invokestatic 88, 3) := by decide +kernel
theorem dX6_comes_27 : decode cX6_comes 27 = .ok (.iconst 0, 1) := by decide +kernel
theorem dX6_comes_28 : decode cX6_comes 28 = .ok (.iastore, 1) := by decide +kernel
theorem dX6_comes_29 : decode cX6_comes 29 = .ok (.iinc 4 1, 3) := by decide +kernel
theorem dX6_comes_32 : decode cX6_comes 32 = .ok (.goto (-22), 3) := by decide +kernel
theorem dX6_comes_35 : decode cX6_comes 35 = .ok (.aload_n 0, 1) := by decide +kernel
theorem dX6_comes_36 : decode cX6_comes 36 = .ok (.getfield 9, 3) := by decide +kernel
theorem dX6_comes_39 : decode cX6_comes 39 = .ok (.iload_n 3, 1) := by decide +kernel
theorem dX6_comes_40 : decode cX6_comes 40 = .ok (.iconst 0, 1) := by decide +kernel
theorem dX6_comes_41 : decode cX6_comes 41 = .ok (.invokestatic 88, 3) := by decide +kernel
theorem dX6_comes_44 : decode cX6_comes 44 = .ok (.iload_n 1, 1) := by decide +kernel
theorem dX6_comes_45 : decode cX6_comes 45 = .ok (.iastore, 1) := by decide +kernel
theorem dX6_comes_46 : decode cX6_comes 46 = .ok (.aload_n 0, 1) := by decide +kernel
theorem dX6_comes_47 : decode cX6_comes 47 = .ok (.getfield 9, 3) := by decide +kernel
theorem dX6_comes_50 : decode cX6_comes 50 = .ok (.iload_n 3, 1) := by decide +kernel
theorem dX6_comes_51 : decode cX6_comes 51 = .ok (.iconst 1, 1) := by decide +kernel
theorem dX6_comes_52 : decode cX6_comes 52 = .ok (.invokestatic 88, 3) := by decide +kernel
theorem dX6_comes_55 : decode cX6_comes 55 = .ok (.iload_n 2, 1) := by decide +kernel
theorem dX6_comes_56 : decode cX6_comes 56 = .ok (.iastore, 1) := by decide +kernel
theorem dX6_comes_57 : decode cX6_comes 57 = .ok (.aload_n 0, 1) := by decide +kernel
theorem dX6_comes_58 : decode cX6_comes 58 = .ok (.getfield 9, 3) := by decide +kernel
theorem dX6_comes_61 : decode cX6_comes 61 = .ok (.iload_n 3, 1) := by decide +kernel
theorem dX6_comes_62 : decode cX6_comes 62 = .ok (.iconst 2, 1) := by decide +kernel
theorem dX6_comes_63 : decode cX6_comes 63 = .ok (.invokestatic 88, 3) := by decide +kernel
theorem dX6_comes_66 : decode cX6_comes 66 = .ok (.iconst 3, 1) := by decide +kernel
theorem dX6_comes_67 : decode cX6_comes 67 = .ok (.iastore, 1) := by decide +kernel
theorem dX6_comes_68 : decode cX6_comes 68 = .ok (.aload_n 0, 1) := by decide +kernel
theorem dX6_comes_69 : decode cX6_comes 69 = .ok (.getfield 9, 3) := by decide +kernel
theorem dX6_comes_72 : decode cX6_comes 72 = .ok (.iconst 1, 1) := by decide +kernel
theorem dX6_comes_73 : decode cX6_comes 73 = .ok (.dup2, 1) := by decide +kernel
theorem dX6_comes_74 : decode cX6_comes 74 = .ok (.iaload, 1) := by decide +kernel
theorem dX6_comes_75 : decode cX6_comes 75 = .ok (.iconst 1, 1) := by decide +kernel
theorem dX6_comes_76 : decode cX6_comes 76 = .ok (.iadd, 1) := by decide +kernel
theorem dX6_comes_77 : decode cX6_comes 77 = .ok (.iastore, 1) := by decide +kernel
theorem dX6_comes_78 : decode cX6_comes 78 = .ok (.iload_n 3, 1) := by decide +kernel
theorem dX6_comes_79 : decode cX6_comes 79 = .ok (.ireturn, 1) := by decide +kernel
theorem dX6_bust_0 : decode cX6_bust 0 = .ok (.iload_n 1, 1) := by decide +kernel
theorem dX6_bust_1 : decode cX6_bust 1 = .ok (.invokestatic 91, 3) := by decide +kernel
theorem dX6_bust_4 : decode cX6_bust 4 = .ok (.ifCond .eq 10, 3) := by decide +kernel
theorem dX6_bust_7 : decode cX6_bust 7 = .ok (.iload_n 2, 1) := by decide +kernel
theorem dX6_bust_8 : decode cX6_bust 8 = .ok (.invokestatic 94, 3) := by decide +kernel
theorem dX6_bust_11 : decode cX6_bust 11 = .ok (.ifCond .ne 10, 3) := by decide +kernel
theorem dX6_bust_14 : decode cX6_bust 14 = .ok (.aload_n 0, 1) := by decide +kernel
theorem dX6_bust_15 : decode cX6_bust 15 = .ok (.ldc 60, 2) := by decide +kernel
theorem dX6_bust_17 : decode cX6_bust 17 = .ok (.invokevirtual 66, 3) := by decide +kernel
theorem dX6_bust_20 : decode cX6_bust 20 = .ok (.ireturn, 1) := by decide +kernel
theorem dX6_bust_21 : decode cX6_bust 21 = .ok (.aload_n 0, 1) := by decide +kernel
theorem dX6_bust_22 : decode cX6_bust 22 = .ok (.getfield 9, 3) := by decide +kernel
theorem dX6_bust_25 : decode cX6_bust 25 = .ok (.iconst 1, 1) := by decide +kernel
theorem dX6_bust_26 : decode cX6_bust 26 = .ok (.iaload, 1) := by decide +kernel
theorem dX6_bust_27 : decode cX6_bust 27 = .ok (.bipush 8, 2) := by decide +kernel
theorem dX6_bust_29 : decode cX6_bust 29 = .ok (.if_icmp .ne 12, 3) := by decide +kernel
theorem dX6_bust_32 : decode cX6_bust 32 = .ok (.aload_n 0, 1) := by decide +kernel
theorem dX6_bust_33 : decode cX6_bust 33 = .ok (.ldc 97, 2) := by decide +kernel
theorem dX6_bust_35 : decode cX6_bust 35 = .ok (.invokevirtual 66, 3) := by decide +kernel
theorem dX6_bust_38 : decode cX6_bust 38 = .ok (.goto 9, 3) := by decide +kernel
theorem dX6_bust_41 : decode cX6_bust 41 = .ok (.aload_n 0, 1) := by decide +kernel
theorem dX6_bust_42 : decode cX6_bust 42 = .ok (.iload_n 1, 1) := by decide +kernel
theorem dX6_bust_43 : decode cX6_bust 43 = .ok (.iload_n 2, 1) := by decide +kernel
theorem dX6_bust_44 : decode cX6_bust 44 = .ok (.invokevirtual 98, 3) := by decide +kernel
theorem dX6_bust_47 : decode cX6_bust 47 = .ok (.ireturn, 1) := by decide +kernel
theorem dX6_has_0 : decode cX6_has 0 = .ok (.aload_n 0, 1) := by decide +kernel
theorem dX6_has_1 : decode cX6_has 1 = .ok (.iload_n 1, 1) := by decide +kernel
theorem dX6_has_2 : decode cX6_has 2 = .ok (.iconst 2, 1) := by decide +kernel
theorem dX6_has_3 : decode cX6_has 3 = .ok (.invokevirtual 101, 3) := by decide +kernel
theorem dX6_has_6 : decode cX6_has 6 = .ok (.iload_n 2, 1) := by decide +kernel
theorem dX6_has_7 : decode cX6_has 7 = .ok (.ishr, 1) := by decide +kernel
theorem dX6_has_8 : decode cX6_has 8 = .ok (.iconst 1, 1) := by decide +kernel
theorem dX6_has_9 : decode cX6_has 9 = .ok (.iand, 1) := by decide +kernel
theorem dX6_has_10 : decode cX6_has 10 = .ok (.iconst 1, 1) := by decide +kernel
theorem dX6_has_11 : decode cX6_has 11 = .ok (.if_icmp .ne 7, 3) := by decide +kernel
theorem dX6_has_14 : decode cX6_has 14 = .ok (.iconst 1, 1) := by decide +kernel
theorem dX6_has_15 : decode cX6_has 15 = .ok (.goto 4, 3) := by decide +kernel
theorem dX6_has_18 : decode cX6_has 18 = .ok (.iconst 0, 1) := by decide +kernel
theorem dX6_has_19 : decode cX6_has 19 = .ok (.ireturn, 1) := by decide +kernel
theorem dX6_isGone_0 : decode cX6_isGone 0 = .ok (.aload_n 0, 1) := by decide +kernel
theorem dX6_isGone_1 : decode cX6_isGone 1 = .ok (.iload_n 1, 1) := by decide +kernel
theorem dX6_isGone_2 : decode cX6_isGone 2 = .ok (.bipush 6, 2) := by decide +kernel
theorem dX6_isGone_4 : decode cX6_isGone 4 = .ok (.invokevirtual 101, 3) := by decide +kernel
theorem dX6_isGone_7 : decode cX6_isGone 7 = .ok (.iconst 1, 1) := by decide +kernel
theorem dX6_isGone_8 : decode cX6_isGone 8 = .ok (.if_icmp .ne 7, 3) := by decide +kernel
theorem dX6_isGone_11 : decode cX6_isGone 11 = .ok (.iconst 1, 1) := by decide +kernel
theorem dX6_isGone_12 : decode cX6_isGone 12 = .ok (.goto 4, 3) := by decide +kernel
theorem dX6_isGone_15 : decode cX6_isGone 15 = .ok (.iconst 0, 1) := by decide +kernel
theorem dX6_isGone_16 : decode cX6_isGone 16 = .ok (.ireturn, 1) := by decide +kernel
theorem dX6_likes_0 : decode cX6_likes 0 = .ok (.iload_n 2, 1) := by decide +kernel
theorem dX6_likes_1 : decode cX6_likes 1 = .ok (.ifCond .le 18, 3) := by decide +kernel
theorem dX6_likes_4 : decode cX6_likes 4 = .ok (.aload_n 0, 1) := by decide +kernel
theorem dX6_likes_5 : decode cX6_likes 5 = .ok (.iload_n 1, 1) := by decide +kernel
theorem dX6_likes_6 : decode cX6_likes 6 = .ok (.iload_n 2, 1) := by decide +kernel
theorem dX6_likes_7 : decode cX6_likes 7 = .ok (.iconst 1, 1) := by decide +kernel
theorem dX6_likes_8 : decode cX6_likes 8 = .ok (.isub, 1) := by decide +kernel
theorem dX6_likes_9 : decode cX6_likes 9 = .ok (.invokevirtual 104, 3) := by decide +kernel
theorem dX6_likes_12 : decode cX6_likes 12 = .ok (.ifCond .eq 7, 3) := by decide +kernel
theorem dX6_likes_15 : decode cX6_likes 15 = .ok (.iconst 1, 1) := by decide +kernel
theorem dX6_likes_16 : decode cX6_likes 16 = .ok (.goto 4, 3) := by decide +kernel
theorem dX6_likes_19 : decode cX6_likes 19 = .ok (.iconst 0, 1) := by decide +kernel
theorem dX6_likes_20 : decode cX6_likes 20 = .ok (.istore_n 3, 1) := by decide +kernel
theorem dX6_likes_21 : decode cX6_likes 21 = .ok (.aload_n 0, 1) := by decide +kernel
theorem dX6_likes_22 : decode cX6_likes 22 = .ok (.iload_n 1, 1) := by decide +kernel
theorem dX6_likes_23 : decode cX6_likes 23 = .ok (.iconst 0, 1) := by decide +kernel
theorem dX6_likes_24 : decode cX6_likes 24 = .ok (.invokevirtual 101, 3) := by decide +kernel
theorem dX6_likes_27 : decode cX6_likes 27 = .ok (.tableswitch 120 1 6 #[37, 75, 90, 110, 112, 53], 37) := by decide +kernel
theorem dX6_likes_64 : decode cX6_likes 64 = .ok (.iload_n 3, 1) := by decide +kernel
theorem dX6_likes_65 : decode cX6_likes 65 = .ok (.ifCond .ne 9, 3) := by decide +kernel
theorem dX6_likes_68 : decode cX6_likes 68 = .ok (.iload_n 2, 1) := by decide +kernel
theorem dX6_likes_69 : decode cX6_likes 69 = .ok (.iconst 2, 1) := by decide +kernel
theorem dX6_likes_70 : decode cX6_likes 70 = .ok (.irem, 1) := by decide +kernel
theorem dX6_likes_71 : decode cX6_likes 71 = .ok (.ifCond .ne 7, 3) := by decide +kernel
theorem dX6_likes_74 : decode cX6_likes 74 = .ok (.iconst 1, 1) := by decide +kernel
theorem dX6_likes_75 : decode cX6_likes 75 = .ok (.goto 4, 3) := by decide +kernel
theorem dX6_likes_78 : decode cX6_likes 78 = .ok (.iconst 0, 1) := by decide +kernel
theorem dX6_likes_79 : decode cX6_likes 79 = .ok (.ireturn, 1) := by decide +kernel
theorem dX6_likes_80 : decode cX6_likes 80 = .ok (.iload_n 3, 1) := by decide +kernel
theorem dX6_likes_81 : decode cX6_likes 81 = .ok (.ifCond .ne 9, 3) := by decide +kernel
theorem dX6_likes_84 : decode cX6_likes 84 = .ok (.iload_n 2, 1) := by decide +kernel
theorem dX6_likes_85 : decode cX6_likes 85 = .ok (.iconst 2, 1) := by decide +kernel
theorem dX6_likes_86 : decode cX6_likes 86 = .ok (.irem, 1) := by decide +kernel
theorem dX6_likes_87 : decode cX6_likes 87 = .ok (.ifCond .ne 13, 3) := by decide +kernel
theorem dX6_likes_90 : decode cX6_likes 90 = .ok (.iload_n 2, 1) := by decide +kernel
theorem dX6_likes_91 : decode cX6_likes 91 = .ok (.bipush 6, 2) := by decide +kernel
theorem dX6_likes_93 : decode cX6_likes 93 = .ok (.if_icmp .gt 7, 3) := by decide +kernel
theorem dX6_likes_96 : decode cX6_likes 96 = .ok (.iconst 1, 1) := by decide +kernel
theorem dX6_likes_97 : decode cX6_likes 97 = .ok (.goto 4, 3) := by decide +kernel
theorem dX6_likes_100 : decode cX6_likes 100 = .ok (.iconst 0, 1) := by decide +kernel
theorem dX6_likes_101 : decode cX6_likes 101 = .ok (.ireturn, 1) := by decide +kernel
theorem dX6_likes_102 : decode cX6_likes 102 = .ok (.iload_n 3, 1) := by decide +kernel
theorem dX6_likes_103 : decode cX6_likes 103 = .ok (.ifCond .eq 12, 3) := by decide +kernel
theorem dX6_likes_106 : decode cX6_likes 106 = .ok (.iload_n 2, 1) := by decide +kernel
theorem dX6_likes_107 : decode cX6_likes 107 = .ok (.iconst 5, 1) := by decide +kernel
theorem dX6_likes_108 : decode cX6_likes 108 = .ok (.if_icmp .eq 7, 3) := by decide +kernel
theorem dX6_likes_111 : decode cX6_likes 111 = .ok (.iconst 1, 1) := by decide +kernel
theorem dX6_likes_112 : decode cX6_likes 112 = .ok (.goto 4, 3) := by decide +kernel
theorem dX6_likes_115 : decode cX6_likes 115 = .ok (.iconst 0, 1) := by decide +kernel
theorem dX6_likes_116 : decode cX6_likes 116 = .ok (.ireturn, 1) := by decide +kernel
theorem dX6_likes_117 : decode cX6_likes 117 = .ok (.iload_n 3, 1) := by decide +kernel
theorem dX6_likes_118 : decode cX6_likes 118 = .ok (.ifCond .eq 8, 3) := by decide +kernel
theorem dX6_likes_121 : decode cX6_likes 121 = .ok (.iload_n 2, 1) := by decide +kernel
theorem dX6_likes_122 : decode cX6_likes 122 = .ok (.iconst 5, 1) := by decide +kernel
theorem dX6_likes_123 : decode cX6_likes 123 = .ok (.if_icmp .ne 8, 3) := by decide +kernel
theorem dX6_likes_126 : decode cX6_likes 126 = .ok (.iload_n 2, 1) := by decide +kernel
theorem dX6_likes_127 : decode cX6_likes 127 = .ok (.iconst 3, 1) := by decide +kernel
theorem dX6_likes_128 : decode cX6_likes 128 = .ok (.if_icmp .ne 7, 3) := by decide +kernel
theorem dX6_likes_131 : decode cX6_likes 131 = .ok (.iconst 1, 1) := by decide +kernel
theorem dX6_likes_132 : decode cX6_likes 132 = .ok (.goto 4, 3) := by decide +kernel
theorem dX6_likes_135 : decode cX6_likes 135 = .ok (.iconst 0, 1) := by decide +kernel
theorem dX6_likes_136 : decode cX6_likes 136 = .ok (.ireturn, 1) := by decide +kernel
theorem dX6_likes_137 : decode cX6_likes 137 = .ok (.iconst 1, 1) := by decide +kernel
theorem dX6_likes_138 : decode cX6_likes 138 = .ok (.ireturn, 1) := by decide +kernel
theorem dX6_likes_139 : decode cX6_likes 139 = .ok (.iload_n 2, 1) := by decide +kernel
theorem dX6_likes_140 : decode cX6_likes 140 = .ok (.iconst 2, 1) := by decide +kernel
theorem dX6_likes_141 : decode cX6_likes 141 = .ok (.bipush 7, 2) := by decide +kernel
theorem dX6_likes_143 : decode cX6_likes 143 = .ok (.invokestatic 70, 3) := by decide +kernel
theorem dX6_likes_146 : decode cX6_likes 146 = .ok (.ireturn, 1) := by decide +kernel
theorem dX6_likes_147 : decode cX6_likes 147 = .ok (.iload_n 3, 1) := by decide +kernel
theorem dX6_likes_148 : decode cX6_likes 148 = .ok (.ireturn, 1) := by decide +kernel
theorem dX6_takes_0 : decode cX6_takes 0 = .ok (.aload_n 0, 1) := by decide +kernel
theorem dX6_takes_1 : decode cX6_takes 1 = .ok (.iload_n 1, 1) := by decide +kernel
theorem dX6_takes_2 : decode cX6_takes 2 = .ok (.iload_n 2, 1) := by decide +kernel
theorem dX6_takes_3 : decode cX6_takes 3 = .ok (.invokevirtual 104, 3) := by decide +kernel
theorem dX6_takes_6 : decode cX6_takes 6 = .ok (.ifCond .ne 16, 3) := by decide +kernel
theorem dX6_takes_9 : decode cX6_takes 9 = .ok (.aload_n 0, 1) := by decide +kernel
theorem dX6_takes_10 : decode cX6_takes 10 = .ok (.iload_n 1, 1) := by decide +kernel
theorem dX6_takes_11 : decode cX6_takes 11 = .ok (.iload_n 2, 1) := by decide +kernel
theorem dX6_takes_12 : decode cX6_takes 12 = .ok (.invokevirtual 108, 3) := by decide +kernel
theorem dX6_takes_15 : decode cX6_takes 15 = .ok (.ifCond .eq 7, 3) := by decide +kernel
theorem dX6_takes_18 : decode cX6_takes 18 = .ok (.iconst 1, 1) := by decide +kernel
theorem dX6_takes_19 : decode cX6_takes 19 = .ok (.goto 4, 3) := by decide +kernel
theorem dX6_takes_22 : decode cX6_takes 22 = .ok (.iconst 0, 1) := by decide +kernel
theorem dX6_takes_23 : decode cX6_takes 23 = .ok (.ireturn, 1) := by decide +kernel
theorem dX6_arms_0 : decode cX6_arms 0 = .ok (.aload_n 0, 1) := by decide +kernel
theorem dX6_arms_1 : decode cX6_arms 1 = .ok (.iload_n 1, 1) := by decide +kernel
theorem dX6_arms_2 : decode cX6_arms 2 = .ok (.iconst 3, 1) := by decide +kernel
theorem dX6_arms_3 : decode cX6_arms 3 = .ok (.invokevirtual 104, 3) := by decide +kernel
theorem dX6_arms_6 : decode cX6_arms 6 = .ok (.ifCond .eq 7, 3) := by decide +kernel
theorem dX6_arms_9 : decode cX6_arms 9 = .ok (.iconst 1, 1) := by decide +kernel
theorem dX6_arms_10 : decode cX6_arms 10 = .ok (.goto 4, 3) := by decide +kernel
theorem dX6_arms_13 : decode cX6_arms 13 = .ok (.iconst 0, 1) := by decide +kernel
theorem dX6_arms_14 : decode cX6_arms 14 = .ok (.aload_n 0, 1) := by decide +kernel
theorem dX6_arms_15 : decode cX6_arms 15 = .ok (.iload_n 1, 1) := by decide +kernel
theorem dX6_arms_16 : decode cX6_arms 16 = .ok (.iconst 4, 1) := by decide +kernel
theorem dX6_arms_17 : decode cX6_arms 17 = .ok (.invokevirtual 104, 3) := by decide +kernel
theorem dX6_arms_20 : decode cX6_arms 20 = .ok (.ifCond .eq 7, 3) := by decide +kernel
theorem dX6_arms_23 : decode cX6_arms 23 = .ok (.iconst 1, 1) := by decide +kernel
theorem dX6_arms_24 : decode cX6_arms 24 = .ok (.goto 4, 3) := by decide +kernel
theorem dX6_arms_27 : decode cX6_arms 27 = .ok (.iconst 0, 1) := by decide +kernel
theorem dX6_arms_28 : decode cX6_arms 28 = .ok (.iadd, 1) := by decide +kernel
theorem dX6_arms_29 : decode cX6_arms 29 = .ok (.ireturn, 1) := by decide +kernel
theorem dX6_yearns_0 : decode cX6_yearns 0 = .ok (.bipush 12, 2) := by decide +kernel
theorem dX6_yearns_2 : decode cX6_yearns 2 = .ok (.aload_n 0, 1) := by decide +kernel
theorem dX6_yearns_3 : decode cX6_yearns 3 = .ok (.iload_n 1, 1) := by decide +kernel
theorem dX6_yearns_4 : decode cX6_yearns 4 = .ok (.iconst 2, 1) := by decide +kernel
theorem dX6_yearns_5 : decode cX6_yearns 5 = .ok (.invokevirtual 101, 3) := by decide +kernel
theorem dX6_yearns_8 : decode cX6_yearns 8 = .ok (.invokestatic 111, 3) := by decide +kernel
theorem dX6_yearns_11 : decode cX6_yearns 11 = .ok (.isub, 1) := by decide +kernel
theorem dX6_yearns_12 : decode cX6_yearns 12 = .ok (.iconst 3, 1) := by decide +kernel
theorem dX6_yearns_13 : decode cX6_yearns 13 = .ok (.idiv, 1) := by decide +kernel
theorem dX6_yearns_14 : decode cX6_yearns 14 = .ok (.istore_n 2, 1) := by decide +kernel
theorem dX6_yearns_15 : decode cX6_yearns 15 = .ok (.aload_n 0, 1) := by decide +kernel
theorem dX6_yearns_16 : decode cX6_yearns 16 = .ok (.iload_n 1, 1) := by decide +kernel
theorem dX6_yearns_17 : decode cX6_yearns 17 = .ok (.bipush 8, 2) := by decide +kernel
theorem dX6_yearns_19 : decode cX6_yearns 19 = .ok (.invokevirtual 104, 3) := by decide +kernel
theorem dX6_yearns_22 : decode cX6_yearns 22 = .ok (.ifCond .eq 7, 3) := by decide +kernel
theorem dX6_yearns_25 : decode cX6_yearns 25 = .ok (.iconst 0, 1) := by decide +kernel
theorem dX6_yearns_26 : decode cX6_yearns 26 = .ok (.goto 4, 3) := by decide +kernel
theorem dX6_yearns_29 : decode cX6_yearns 29 = .ok (.iload_n 2, 1) := by decide +kernel
theorem dX6_yearns_30 : decode cX6_yearns 30 = .ok (.istore_n 3, 1) := by decide +kernel
theorem dX6_yearns_31 : decode cX6_yearns 31 = .ok (.aload_n 0, 1) := by decide +kernel
theorem dX6_yearns_32 : decode cX6_yearns 32 = .ok (.iload_n 1, 1) := by decide +kernel
theorem dX6_yearns_33 : decode cX6_yearns 33 = .ok (.iconst 0, 1) := by decide +kernel
theorem dX6_yearns_34 : decode cX6_yearns 34 = .ok (.invokevirtual 101, 3) := by decide +kernel
theorem dX6_yearns_37 : decode cX6_yearns 37 = .ok (.tableswitch 71 1 6 #[39, 49, 51, 55, 69, 43], 39) := by decide +kernel
theorem dX6_yearns_76 : decode cX6_yearns 76 = .ok (.iload_n 2, 1) := by decide +kernel
theorem dX6_yearns_77 : decode cX6_yearns 77 = .ok (.iconst 1, 1) := by decide +kernel
theorem dX6_yearns_78 : decode cX6_yearns 78 = .ok (.iadd, 1) := by decide +kernel
theorem dX6_yearns_79 : decode cX6_yearns 79 = .ok (.ireturn, 1) := by decide +kernel
theorem dX6_yearns_80 : decode cX6_yearns 80 = .ok (.iconst 2, 1) := by decide +kernel
theorem dX6_yearns_81 : decode cX6_yearns 81 = .ok (.iload_n 2, 1) := by decide +kernel
theorem dX6_yearns_82 : decode cX6_yearns 82 = .ok (.iconst 1, 1) := by decide +kernel
theorem dX6_yearns_83 : decode cX6_yearns 83 = .ok (.iadd, 1) := by decide +kernel
theorem dX6_yearns_84 : decode cX6_yearns 84 = .ok (.imul, 1) := by decide +kernel
theorem dX6_yearns_85 : decode cX6_yearns 85 = .ok (.ireturn, 1) := by decide +kernel
theorem dX6_yearns_86 : decode cX6_yearns 86 = .ok (.iload_n 3, 1) := by decide +kernel
theorem dX6_yearns_87 : decode cX6_yearns 87 = .ok (.ireturn, 1) := by decide +kernel
theorem dX6_yearns_88 : decode cX6_yearns 88 = .ok (.iload_n 3, 1) := by decide +kernel
theorem dX6_yearns_89 : decode cX6_yearns 89 = .ok (.iconst 1, 1) := by decide +kernel
theorem dX6_yearns_90 : decode cX6_yearns 90 = .ok (.iadd, 1) := by decide +kernel
theorem dX6_yearns_91 : decode cX6_yearns 91 = .ok (.ireturn, 1) := by decide +kernel
theorem dX6_yearns_92 : decode cX6_yearns 92 = .ok (.iconst 0, 1) := by decide +kernel
theorem dX6_yearns_93 : decode cX6_yearns 93 = .ok (.iload_n 3, 1) := by decide +kernel
theorem dX6_yearns_94 : decode cX6_yearns 94 = .ok (.iconst 1, 1) := by decide +kernel
theorem dX6_yearns_95 : decode cX6_yearns 95 = .ok (.iadd, 1) := by decide +kernel
theorem dX6_yearns_96 : decode cX6_yearns 96 = .ok (.aload_n 0, 1) := by decide +kernel
theorem dX6_yearns_97 : decode cX6_yearns 97 = .ok (.iload_n 1, 1) := by decide +kernel
theorem dX6_yearns_98 : decode cX6_yearns 98 = .ok (.invokevirtual 114, 3) := by decide +kernel
theorem dX6_yearns_101 : decode cX6_yearns 101 = .ok (.isub, 1) := by decide +kernel
theorem dX6_yearns_102 : decode cX6_yearns 102 = .ok (.invokestatic 117, 3) := by decide +kernel
theorem dX6_yearns_105 : decode cX6_yearns 105 = .ok (.ireturn, 1) := by decide +kernel
theorem dX6_yearns_106 : decode cX6_yearns 106 = .ok (.iconst 1, 1) := by decide +kernel
theorem dX6_yearns_107 : decode cX6_yearns 107 = .ok (.ireturn, 1) := by decide +kernel
theorem dX6_yearns_108 : decode cX6_yearns 108 = .ok (.iload_n 2, 1) := by decide +kernel
theorem dX6_yearns_109 : decode cX6_yearns 109 = .ok (.ireturn, 1) := by decide +kernel
theorem dX6_leavesWith_0 : decode cX6_leavesWith 0 = .ok (.aload_n 0, 1) := by decide +kernel
theorem dX6_leavesWith_1 : decode cX6_leavesWith 1 = .ok (.iload_n 1, 1) := by decide +kernel
theorem dX6_leavesWith_2 : decode cX6_leavesWith 2 = .ok (.iconst 0, 1) := by decide +kernel
theorem dX6_leavesWith_3 : decode cX6_leavesWith 3 = .ok (.invokevirtual 101, 3) := by decide +kernel
theorem dX6_leavesWith_6 : decode cX6_leavesWith 6 = .ok (.tableswitch 47 1 6 #[38, 41, 41, 38, 44, 38], 38) := by decide +kernel
theorem dX6_leavesWith_44 : decode cX6_leavesWith 44 = .ok (.bipush 40, 2) := by decide +kernel
theorem dX6_leavesWith_46 : decode cX6_leavesWith 46 = .ok (.ireturn, 1) := by decide +kernel
theorem dX6_leavesWith_47 : decode cX6_leavesWith 47 = .ok (.bipush 80, 2) := by decide +kernel
theorem dX6_leavesWith_49 : decode cX6_leavesWith 49 = .ok (.ireturn, 1) := by decide +kernel
theorem dX6_leavesWith_50 : decode cX6_leavesWith 50 = .ok (.bipush 99, 2) := by decide +kernel
theorem dX6_leavesWith_52 : decode cX6_leavesWith 52 = .ok (.ireturn, 1) := by decide +kernel
theorem dX6_leavesWith_53 : decode cX6_leavesWith 53 = .ok (.bipush 50, 2) := by decide +kernel
theorem dX6_leavesWith_55 : decode cX6_leavesWith 55 = .ok (.ireturn, 1) := by decide +kernel
theorem dX6_steps_0 : decode cX6_steps 0 = .ok (.aload_n 0, 1) := by decide +kernel
theorem dX6_steps_1 : decode cX6_steps 1 = .ok (.iload_n 1, 1) := by decide +kernel
theorem dX6_steps_2 : decode cX6_steps 2 = .ok (.iconst 0, 1) := by decide +kernel
theorem dX6_steps_3 : decode cX6_steps 3 = .ok (.invokevirtual 101, 3) := by decide +kernel
theorem dX6_steps_6 : decode cX6_steps 6 = .ok (.tableswitch 58 1 6 #[38, 58, 38, 38, 56, 40], 38) := by decide +kernel
theorem dX6_steps_44 : decode cX6_steps 44 = .ok (.iconst 2, 1) := by decide +kernel
theorem dX6_steps_45 : decode cX6_steps 45 = .ok (.ireturn, 1) := by decide +kernel
theorem dX6_steps_46 : decode cX6_steps 46 = .ok (.aload_n 0, 1) := by decide +kernel
theorem dX6_steps_47 : decode cX6_steps 47 = .ok (.iload_n 1, 1) := by decide +kernel
theorem dX6_steps_48 : decode cX6_steps 48 = .ok (.bipush 10, 2) := by decide +kernel
theorem dX6_steps_50 : decode cX6_steps 50 = .ok (.invokevirtual 104, 3) := by decide +kernel
theorem dX6_steps_53 : decode cX6_steps 53 = .ok (.ifCond .eq 7, 3) := by decide +kernel
theorem dX6_steps_56 : decode cX6_steps 56 = .ok (.iconst 3, 1) := by decide +kernel
theorem dX6_steps_57 : decode cX6_steps 57 = .ok (.goto 4, 3) := by decide +kernel
theorem dX6_steps_60 : decode cX6_steps 60 = .ok (.iconst 2, 1) := by decide +kernel
theorem dX6_steps_61 : decode cX6_steps 61 = .ok (.ireturn, 1) := by decide +kernel
theorem dX6_steps_62 : decode cX6_steps 62 = .ok (.iconst 5, 1) := by decide +kernel
theorem dX6_steps_63 : decode cX6_steps 63 = .ok (.ireturn, 1) := by decide +kernel
theorem dX6_steps_64 : decode cX6_steps 64 = .ok (.iconst 1, 1) := by decide +kernel
theorem dX6_steps_65 : decode cX6_steps 65 = .ok (.ireturn, 1) := by decide +kernel
theorem dX6_greatest_0 : decode cX6_greatest 0 = .ok (.bipush 11, 2) := by decide +kernel
theorem dX6_greatest_2 : decode cX6_greatest 2 = .ok (.istore_n 2, 1) := by decide +kernel
theorem dX6_greatest_3 : decode cX6_greatest 3 = .ok (.iload_n 2, 1) := by decide +kernel
theorem dX6_greatest_4 : decode cX6_greatest 4 = .ok (.ifCond .le 18, 3) := by decide +kernel
theorem dX6_greatest_7 : decode cX6_greatest 7 = .ok (.aload_n 0, 1) := by decide +kernel
theorem dX6_greatest_8 : decode cX6_greatest 8 = .ok (.iload_n 1, 1) := by decide +kernel
theorem dX6_greatest_9 : decode cX6_greatest 9 = .ok (.iload_n 2, 1) := by decide +kernel
theorem dX6_greatest_10 : decode cX6_greatest 10 = .ok (.invokevirtual 104, 3) := by decide +kernel
theorem dX6_greatest_13 : decode cX6_greatest 13 = .ok (.ifCond .ne 9, 3) := by decide +kernel
theorem dX6_greatest_16 : decode cX6_greatest 16 = .ok (.iinc 2 (-1), 3) := by decide +kernel
theorem dX6_greatest_19 : decode cX6_greatest 19 = .ok (.goto (-16), 3) := by decide +kernel
theorem dX6_greatest_22 : decode cX6_greatest 22 = .ok (.iload_n 2, 1) := by decide +kernel
theorem dX6_greatest_23 : decode cX6_greatest 23 = .ok (.ireturn, 1) := by decide +kernel
theorem dX6_says_0 : decode cX6_says 0 = .ok (.bipush 10, 2) := by decide +kernel
theorem dX6_says_2 : decode cX6_says 2 = .ok (.aload_n 0, 1) := by decide +kernel
theorem dX6_says_3 : decode cX6_says 3 = .ok (.iload_n 1, 1) := by decide +kernel
theorem dX6_says_4 : decode cX6_says 4 = .ok (.iconst 2, 1) := by decide +kernel
theorem dX6_says_5 : decode cX6_says 5 = .ok (.invokevirtual 101, 3) := by decide +kernel
theorem dX6_says_8 : decode cX6_says 8 = .ok (.invokestatic 111, 3) := by decide +kernel
theorem dX6_says_11 : decode cX6_says 11 = .ok (.imul, 1) := by decide +kernel
theorem dX6_says_12 : decode cX6_says 12 = .ok (.istore_n 2, 1) := by decide +kernel
theorem dX6_says_13 : decode cX6_says 13 = .ok (.iconst 0, 1) := by decide +kernel
theorem dX6_says_14 : decode cX6_says 14 = .ok (.iload_n 2, 1) := by decide +kernel
theorem dX6_says_15 : decode cX6_says 15 = .ok (.aload_n 0, 1) := by decide +kernel
theorem dX6_says_16 : decode cX6_says 16 = .ok (.iload_n 1, 1) := by decide +kernel
theorem dX6_says_17 : decode cX6_says 17 = .ok (.iconst 4, 1) := by decide +kernel
theorem dX6_says_18 : decode cX6_says 18 = .ok (.invokevirtual 101, 3) := by decide +kernel
theorem dX6_says_21 : decode cX6_says 21 = .ok (.isub, 1) := by decide +kernel
theorem dX6_says_22 : decode cX6_says 22 = .ok (.invokestatic 117, 3) := by decide +kernel
theorem dX6_says_25 : decode cX6_says 25 = .ok (.istore_n 3, 1) := by decide +kernel
theorem dX6_says_26 : decode cX6_says 26 = .ok (.aload_n 0, 1) := by decide +kernel
theorem dX6_says_27 : decode cX6_says 27 = .ok (.iload_n 1, 1) := by decide +kernel
theorem dX6_says_28 : decode cX6_says 28 = .ok (.iconst 0, 1) := by decide +kernel
theorem dX6_says_29 : decode cX6_says 29 = .ok (.invokevirtual 101, 3) := by decide +kernel
theorem dX6_says_32 : decode cX6_says 32 = .ok (.tableswitch 107 1 6 #[40, 58, 60, 71, 92, 48], 40) := by decide +kernel
theorem dX6_says_72 : decode cX6_says 72 = .ok (.iload_n 2, 1) := by decide +kernel
theorem dX6_says_73 : decode cX6_says 73 = .ok (.aload_n 0, 1) := by decide +kernel
theorem dX6_says_74 : decode cX6_says 74 = .ok (.iload_n 1, 1) := by decide +kernel
theorem dX6_says_75 : decode cX6_says 75 = .ok (.invokevirtual 122, 3) := by decide +kernel
theorem dX6_says_78 : decode cX6_says 78 = .ok (.iadd, 1) := by decide +kernel
theorem dX6_says_79 : decode cX6_says 79 = .ok (.ireturn, 1) := by decide +kernel
theorem dX6_says_80 : decode cX6_says 80 = .ok (.iconst 3, 1) := by decide +kernel
theorem dX6_says_81 : decode cX6_says 81 = .ok (.iload_n 2, 1) := by decide +kernel
theorem dX6_says_82 : decode cX6_says 82 = .ok (.aload_n 0, 1) := by decide +kernel
theorem dX6_says_83 : decode cX6_says 83 = .ok (.iload_n 1, 1) := by decide +kernel
theorem dX6_says_84 : decode cX6_says 84 = .ok (.invokevirtual 122, 3) := by decide +kernel
theorem dX6_says_87 : decode cX6_says 87 = .ok (.iadd, 1) := by decide +kernel
theorem dX6_says_88 : decode cX6_says 88 = .ok (.imul, 1) := by decide +kernel
theorem dX6_says_89 : decode cX6_says 89 = .ok (.ireturn, 1) := by decide +kernel
theorem dX6_says_90 : decode cX6_says 90 = .ok (.iload_n 3, 1) := by decide +kernel
theorem dX6_says_91 : decode cX6_says 91 = .ok (.ireturn, 1) := by decide +kernel
theorem dX6_says_92 : decode cX6_says 92 = .ok (.iload_n 3, 1) := by decide +kernel
theorem dX6_says_93 : decode cX6_says 93 = .ok (.bipush 7, 2) := by decide +kernel
theorem dX6_says_95 : decode cX6_says 95 = .ok (.aload_n 0, 1) := by decide +kernel
theorem dX6_says_96 : decode cX6_says 96 = .ok (.iload_n 1, 1) := by decide +kernel
theorem dX6_says_97 : decode cX6_says 97 = .ok (.invokevirtual 114, 3) := by decide +kernel
theorem dX6_says_100 : decode cX6_says 100 = .ok (.imul, 1) := by decide +kernel
theorem dX6_says_101 : decode cX6_says 101 = .ok (.iadd, 1) := by decide +kernel
theorem dX6_says_102 : decode cX6_says 102 = .ok (.ireturn, 1) := by decide +kernel
theorem dX6_says_103 : decode cX6_says 103 = .ok (.iload_n 3, 1) := by decide +kernel
theorem dX6_says_104 : decode cX6_says 104 = .ok (.bipush 7, 2) := by decide +kernel
theorem dX6_says_106 : decode cX6_says 106 = .ok (.aload_n 0, 1) := by decide +kernel
theorem dX6_says_107 : decode cX6_says 107 = .ok (.iload_n 1, 1) := by decide +kernel
theorem dX6_says_108 : decode cX6_says 108 = .ok (.invokevirtual 114, 3) := by decide +kernel
theorem dX6_says_111 : decode cX6_says 111 = .ok (.imul, 1) := by decide +kernel
theorem dX6_says_112 : decode cX6_says 112 = .ok (.iadd, 1) := by decide +kernel
theorem dX6_says_113 : decode cX6_says 113 = .ok (.aload_n 0, 1) := by decide +kernel
theorem dX6_says_114 : decode cX6_says 114 = .ok (.iload_n 1, 1) := by decide +kernel
theorem dX6_says_115 : decode cX6_says 115 = .ok (.iconst 1, 1) := by decide +kernel
theorem dX6_says_116 : decode cX6_says 116 = .ok (.invokevirtual 101, 3) := by decide +kernel
theorem dX6_says_119 : decode cX6_says 119 = .ok (.bipush 10, 2) := by decide +kernel
theorem dX6_says_121 : decode cX6_says 121 = .ok (.irem, 1) := by decide +kernel
theorem dX6_says_122 : decode cX6_says 122 = .ok (.iadd, 1) := by decide +kernel
theorem dX6_says_123 : decode cX6_says 123 = .ok (.ireturn, 1) := by decide +kernel
theorem dX6_says_124 : decode cX6_says 124 = .ok (.aload_n 0, 1) := by decide +kernel
theorem dX6_says_125 : decode cX6_says 125 = .ok (.iload_n 1, 1) := by decide +kernel
theorem dX6_says_126 : decode cX6_says 126 = .ok (.iconst 0, 1) := by decide +kernel
theorem dX6_says_127 : decode cX6_says 127 = .ok (.invokevirtual 104, 3) := by decide +kernel
theorem dX6_says_130 : decode cX6_says 130 = .ok (.ifCond .eq 7, 3) := by decide +kernel
theorem dX6_says_133 : decode cX6_says 133 = .ok (.iload_n 2, 1) := by decide +kernel
theorem dX6_says_134 : decode cX6_says 134 = .ok (.goto 4, 3) := by decide +kernel
theorem dX6_says_137 : decode cX6_says 137 = .ok (.iconst 0, 1) := by decide +kernel
theorem dX6_says_138 : decode cX6_says 138 = .ok (.ireturn, 1) := by decide +kernel
theorem dX6_says_139 : decode cX6_says 139 = .ok (.iload_n 2, 1) := by decide +kernel
theorem dX6_says_140 : decode cX6_says 140 = .ok (.ireturn, 1) := by decide +kernel
theorem dX6_told_0 : decode cX6_told 0 = .ok (.iload_n 2, 1) := by decide +kernel
theorem dX6_told_1 : decode cX6_told 1 = .ok (.tableswitch 55 7 10 #[31, 37, 43, 49], 31) := by decide +kernel
theorem dX6_told_32 : decode cX6_told 32 = .ok (.aload_n 0, 1) := by decide +kernel
theorem dX6_told_33 : decode cX6_told 33 = .ok (.iload_n 1, 1) := by decide +kernel
theorem dX6_told_34 : decode cX6_told 34 = .ok (.invokevirtual 125, 3) := by decide +kernel
theorem dX6_told_37 : decode cX6_told 37 = .ok (.ireturn, 1) := by decide +kernel
theorem dX6_told_38 : decode cX6_told 38 = .ok (.aload_n 0, 1) := by decide +kernel
theorem dX6_told_39 : decode cX6_told 39 = .ok (.iload_n 1, 1) := by decide +kernel
theorem dX6_told_40 : decode cX6_told 40 = .ok (.invokevirtual 128, 3) := by decide +kernel
theorem dX6_told_43 : decode cX6_told 43 = .ok (.ireturn, 1) := by decide +kernel
theorem dX6_told_44 : decode cX6_told 44 = .ok (.aload_n 0, 1) := by decide +kernel
theorem dX6_told_45 : decode cX6_told 45 = .ok (.iload_n 1, 1) := by decide +kernel
theorem dX6_told_46 : decode cX6_told 46 = .ok (.invokevirtual 131, 3) := by decide +kernel
theorem dX6_told_49 : decode cX6_told 49 = .ok (.ireturn, 1) := by decide +kernel
theorem dX6_told_50 : decode cX6_told 50 = .ok (.aload_n 0, 1) := by decide +kernel
theorem dX6_told_51 : decode cX6_told 51 = .ok (.iload_n 1, 1) := by decide +kernel
theorem dX6_told_52 : decode cX6_told 52 = .ok (.invokevirtual 134, 3) := by decide +kernel
theorem dX6_told_55 : decode cX6_told 55 = .ok (.ireturn, 1) := by decide +kernel
theorem dX6_told_56 : decode cX6_told 56 = .ok (.aload_n 0, 1) := by decide +kernel
theorem dX6_told_57 : decode cX6_told 57 = .ok (.iload_n 1, 1) := by decide +kernel
theorem dX6_told_58 : decode cX6_told 58 = .ok (.iload_n 2, 1) := by decide +kernel
theorem dX6_told_59 : decode cX6_told 59 = .ok (.invokevirtual 101, 3) := by decide +kernel
theorem dX6_told_62 : decode cX6_told 62 = .ok (.ireturn, 1) := by decide +kernel
theorem dX6_of_0 : decode cX6_of 0 = .ok (.aload_n 0, 1) := by decide +kernel
theorem dX6_of_1 : decode cX6_of 1 = .ok (.iload_n 1, 1) := by decide +kernel
theorem dX6_of_2 : decode cX6_of 2 = .ok (.invokevirtual 137, 3) := by decide +kernel
theorem dX6_of_5 : decode cX6_of 5 = .ok (.ifCond .eq 22, 3) := by decide +kernel
theorem dX6_of_8 : decode cX6_of 8 = .ok (.iload_n 2, 1) := by decide +kernel
theorem dX6_of_9 : decode cX6_of 9 = .ok (.iconst 0, 1) := by decide +kernel
theorem dX6_of_10 : decode cX6_of 10 = .ok (.bipush 10, 2) := by decide +kernel
theorem dX6_of_12 : decode cX6_of 12 = .ok (.invokestatic 70, 3) := by decide +kernel
theorem dX6_of_15 : decode cX6_of 15 = .ok (.ifCond .eq 12, 3) := by decide +kernel
theorem dX6_of_18 : decode cX6_of 18 = .ok (.aload_n 0, 1) := by decide +kernel
theorem dX6_of_19 : decode cX6_of 19 = .ok (.iload_n 1, 1) := by decide +kernel
theorem dX6_of_20 : decode cX6_of 20 = .ok (.iload_n 2, 1) := by decide +kernel
theorem dX6_of_21 : decode cX6_of 21 = .ok (.invokevirtual 140, 3) := by decide +kernel
theorem dX6_of_24 : decode cX6_of 24 = .ok (.goto 9, 3) := by decide +kernel
theorem dX6_of_27 : decode cX6_of 27 = .ok (.aload_n 0, 1) := by decide +kernel
theorem dX6_of_28 : decode cX6_of 28 = .ok (.ldc 60, 2) := by decide +kernel
theorem dX6_of_30 : decode cX6_of 30 = .ok (.invokevirtual 66, 3) := by decide +kernel
theorem dX6_of_33 : decode cX6_of 33 = .ok (.ireturn, 1) := by decide +kernel
theorem dX6_isField_0 : decode cX6_isField 0 = .ok (.iload_n 0, 1) := by decide +kernel
theorem dX6_isField_1 : decode cX6_isField 1 = .ok (.tableswitch 85 0 6 #[43, 48, 53, 62, 70, 78, 78], 43) := by decide +kernel
theorem dX6_isField_44 : decode cX6_isField 44 = .ok (.iload_n 1, 1) := by decide +kernel
theorem dX6_isField_45 : decode cX6_isField 45 = .ok (.invokestatic 91, 3) := by decide +kernel
theorem dX6_isField_48 : decode cX6_isField 48 = .ok (.ireturn, 1) := by decide +kernel
theorem dX6_isField_49 : decode cX6_isField 49 = .ok (.iload_n 1, 1) := by decide +kernel
theorem dX6_isField_50 : decode cX6_isField 50 = .ok (.invokestatic 94, 3) := by decide +kernel
theorem dX6_isField_53 : decode cX6_isField 53 = .ok (.ireturn, 1) := by decide +kernel
theorem dX6_isField_54 : decode cX6_isField 54 = .ok (.iload_n 1, 1) := by decide +kernel
theorem dX6_isField_55 : decode cX6_isField 55 = .ok (.iconst 0, 1) := by decide +kernel
theorem dX6_isField_56 : decode cX6_isField 56 = .ok (.sipush 4095, 3) := by decide +kernel
theorem dX6_isField_59 : decode cX6_isField 59 = .ok (.invokestatic 70, 3) := by decide +kernel
theorem dX6_isField_62 : decode cX6_isField 62 = .ok (.ireturn, 1) := by decide +kernel
theorem dX6_isField_63 : decode cX6_isField 63 = .ok (.iload_n 1, 1) := by decide +kernel
theorem dX6_isField_64 : decode cX6_isField 64 = .ok (.iconst 0, 1) := by decide +kernel
theorem dX6_isField_65 : decode cX6_isField 65 = .ok (.bipush 15, 2) := by decide +kernel
theorem dX6_isField_67 : decode cX6_isField 67 = .ok (.invokestatic 70, 3) := by decide +kernel
theorem dX6_isField_70 : decode cX6_isField 70 = .ok (.ireturn, 1) := by decide +kernel
theorem dX6_isField_71 : decode cX6_isField 71 = .ok (.iload_n 1, 1) := by decide +kernel
theorem dX6_isField_72 : decode cX6_isField 72 = .ok (.iconst 0, 1) := by decide +kernel
theorem dX6_isField_73 : decode cX6_isField 73 = .ok (.bipush 99, 2) := by decide +kernel
theorem dX6_isField_75 : decode cX6_isField 75 = .ok (.invokestatic 70, 3) := by decide +kernel
theorem dX6_isField_78 : decode cX6_isField 78 = .ok (.ireturn, 1) := by decide +kernel
theorem dX6_isField_79 : decode cX6_isField 79 = .ok (.iload_n 1, 1) := by decide +kernel
theorem dX6_isField_80 : decode cX6_isField 80 = .ok (.iconst 0, 1) := by decide +kernel
theorem dX6_isField_81 : decode cX6_isField 81 = .ok (.iconst 1, 1) := by decide +kernel
theorem dX6_isField_82 : decode cX6_isField 82 = .ok (.invokestatic 70, 3) := by decide +kernel
theorem dX6_isField_85 : decode cX6_isField 85 = .ok (.ireturn, 1) := by decide +kernel
theorem dX6_isField_86 : decode cX6_isField 86 = .ok (.iconst 0, 1) := by decide +kernel
theorem dX6_isField_87 : decode cX6_isField 87 = .ok (.ireturn, 1) := by decide +kernel
theorem dX6_change_0 : decode cX6_change 0 = .ok (.aload_n 0, 1) := by decide +kernel
theorem dX6_change_1 : decode cX6_change 1 = .ok (.iload_n 1, 1) := by decide +kernel
theorem dX6_change_2 : decode cX6_change 2 = .ok (.invokevirtual 137, 3) := by decide +kernel
theorem dX6_change_5 : decode cX6_change 5 = .ok (.ifCond .eq 24, 3) := by decide +kernel
theorem dX6_change_8 : decode cX6_change 8 = .ok (.iload_n 2, 1) := by decide +kernel
theorem dX6_change_9 : decode cX6_change 9 = .ok (.iload_n 3, 1) := by decide +kernel
theorem dX6_change_10 : decode cX6_change 10 = .ok (.invokestatic 143, 3) := by decide +kernel
theorem dX6_change_13 : decode cX6_change 13 = .ok (.ifCond .eq 16, 3) := by decide +kernel
theorem dX6_change_16 : decode cX6_change 16 = .ok (.aload_n 0, 1) := by decide +kernel
theorem dX6_change_17 : decode cX6_change 17 = .ok (.iload_n 1, 1) := by decide +kernel
theorem dX6_change_18 : decode cX6_change 18 = .ok (.iload_n 2, 1) := by decide +kernel
theorem dX6_change_19 : decode cX6_change 19 = .ok (.invokestatic 88, 3) := by decide +kernel
theorem dX6_change_22 : decode cX6_change 22 = .ok (.iload_n 3, 1) := by decide +kernel
theorem dX6_change_23 : decode cX6_change 23 = .ok (.invokevirtual 81, 3) := by decide +kernel
theorem dX6_change_26 : decode cX6_change 26 = .ok (.goto 9, 3) := by decide +kernel
theorem dX6_change_29 : decode cX6_change 29 = .ok (.aload_n 0, 1) := by decide +kernel
theorem dX6_change_30 : decode cX6_change 30 = .ok (.ldc 60, 2) := by decide +kernel
theorem dX6_change_32 : decode cX6_change 32 = .ok (.invokevirtual 66, 3) := by decide +kernel
theorem dX6_change_35 : decode cX6_change 35 = .ok (.ireturn, 1) := by decide +kernel
theorem dX6_accepts_0 : decode cX6_accepts 0 = .ok (.aload_n 0, 1) := by decide +kernel
theorem dX6_accepts_1 : decode cX6_accepts 1 = .ok (.iload_n 1, 1) := by decide +kernel
theorem dX6_accepts_2 : decode cX6_accepts 2 = .ok (.invokevirtual 137, 3) := by decide +kernel
theorem dX6_accepts_5 : decode cX6_accepts 5 = .ok (.ifCond .eq 27, 3) := by decide +kernel
theorem dX6_accepts_8 : decode cX6_accepts 8 = .ok (.iload_n 2, 1) := by decide +kernel
theorem dX6_accepts_9 : decode cX6_accepts 9 = .ok (.invokestatic 85, 3) := by decide +kernel
theorem dX6_accepts_12 : decode cX6_accepts 12 = .ok (.ifCond .eq 20, 3) := by decide +kernel
theorem dX6_accepts_15 : decode cX6_accepts 15 = .ok (.aload_n 0, 1) := by decide +kernel
theorem dX6_accepts_16 : decode cX6_accepts 16 = .ok (.iload_n 1, 1) := by decide +kernel
theorem dX6_accepts_17 : decode cX6_accepts 17 = .ok (.iload_n 2, 1) := by decide +kernel
theorem dX6_accepts_18 : decode cX6_accepts 18 = .ok (.invokevirtual 146, 3) := by decide +kernel
theorem dX6_accepts_21 : decode cX6_accepts 21 = .ok (.ifCond .eq 7, 3) := by decide +kernel
theorem dX6_accepts_24 : decode cX6_accepts 24 = .ok (.iconst 1, 1) := by decide +kernel
theorem dX6_accepts_25 : decode cX6_accepts 25 = .ok (.goto 13, 3) := by decide +kernel
theorem dX6_accepts_28 : decode cX6_accepts 28 = .ok (.iconst 0, 1) := by decide +kernel
theorem dX6_accepts_29 : decode cX6_accepts 29 = .ok (.goto 9, 3) := by decide +kernel
theorem dX6_accepts_32 : decode cX6_accepts 32 = .ok (.aload_n 0, 1) := by decide +kernel
theorem dX6_accepts_33 : decode cX6_accepts 33 = .ok (.ldc 60, 2) := by decide +kernel
theorem dX6_accepts_35 : decode cX6_accepts 35 = .ok (.invokevirtual 66, 3) := by decide +kernel
theorem dX6_accepts_38 : decode cX6_accepts 38 = .ok (.ireturn, 1) := by decide +kernel
theorem dX6_heirOf_0 : decode cX6_heirOf 0 = .ok (.iconst (-1), 1) := by decide +kernel
theorem dX6_heirOf_1 : decode cX6_heirOf 1 = .ok (.istore_n 2, 1) := by decide +kernel
theorem dX6_heirOf_2 : decode cX6_heirOf 2 = .ok (.iconst 0, 1) := by decide +kernel
theorem dX6_heirOf_3 : decode cX6_heirOf 3 = .ok (.istore_n 3, 1) := by decide +kernel
theorem dX6_heirOf_4 : decode cX6_heirOf 4 = .ok (.iload_n 3, 1) := by decide +kernel
theorem dX6_heirOf_5 : decode cX6_heirOf 5 = .ok (.aload_n 0, 1) := by decide +kernel
theorem dX6_heirOf_6 : decode cX6_heirOf 6 = .ok (.getfield 9, 3) := by decide +kernel
theorem dX6_heirOf_9 : decode cX6_heirOf 9 = .ok (.iconst 1, 1) := by decide +kernel
theorem dX6_heirOf_10 : decode cX6_heirOf 10 = .ok (.iaload, 1) := by decide +kernel
theorem dX6_heirOf_11 : decode cX6_heirOf 11 = .ok (.if_icmp .ge 47, 3) := by decide +kernel
theorem dX6_heirOf_14 : decode cX6_heirOf 14 = .ok (.aload_n 0, 1) := by decide +kernel
theorem dX6_heirOf_15 : decode cX6_heirOf 15 = .ok (.iload_n 3, 1) := by decide +kernel
theorem dX6_heirOf_16 : decode cX6_heirOf 16 = .ok (.invokevirtual 149, 3) := by decide +kernel
theorem dX6_heirOf_19 : decode cX6_heirOf 19 = .ok (.ifCond .ne 33, 3) := by decide +kernel
theorem dX6_heirOf_22 : decode cX6_heirOf 22 = .ok (.aload_n 0, 1) := by decide +kernel
theorem dX6_heirOf_23 : decode cX6_heirOf 23 = .ok (.iload_n 3, 1) := by decide +kernel
theorem dX6_heirOf_24 : decode cX6_heirOf 24 = .ok (.iload_n 1, 1) := by decide +kernel
theorem dX6_heirOf_25 : decode cX6_heirOf 25 = .ok (.invokevirtual 146, 3) := by decide +kernel
theorem dX6_heirOf_28 : decode cX6_heirOf 28 = .ok (.ifCond .eq 24, 3) := by decide +kernel
theorem dX6_heirOf_31 : decode cX6_heirOf 31 = .ok (.iload_n 2, 1) := by decide +kernel
theorem dX6_heirOf_32 : decode cX6_heirOf 32 = .ok (.ifCond .lt 18, 3) := by decide +kernel
theorem dX6_heirOf_35 : decode cX6_heirOf 35 = .ok (.aload_n 0, 1) := by decide +kernel
theorem dX6_heirOf_36 : decode cX6_heirOf 36 = .ok (.iload_n 3, 1) := by decide +kernel
theorem dX6_heirOf_37 : decode cX6_heirOf 37 = .ok (.iconst 1, 1) := by decide +kernel
theorem dX6_heirOf_38 : decode cX6_heirOf 38 = .ok (.invokevirtual 101, 3) := by decide +kernel
theorem dX6_heirOf_41 : decode cX6_heirOf 41 = .ok (.aload_n 0, 1) := by decide +kernel
theorem dX6_heirOf_42 : decode cX6_heirOf 42 = .ok (.iload_n 2, 1) := by decide +kernel
theorem dX6_heirOf_43 : decode cX6_heirOf 43 = .ok (.iconst 1, 1) := by decide +kernel
theorem dX6_heirOf_44 : decode cX6_heirOf 44 = .ok (.invokevirtual 101, 3) := by decide +kernel
theorem dX6_heirOf_47 : decode cX6_heirOf 47 = .ok (.if_icmp .ge 5, 3) := by decide +kernel
theorem dX6_heirOf_50 : decode cX6_heirOf 50 = .ok (.iload_n 3, 1) := by decide +kernel
theorem dX6_heirOf_51 : decode cX6_heirOf 51 = .ok (.istore_n 2, 1) := by decide +kernel
theorem dX6_heirOf_52 : decode cX6_heirOf 52 = .ok (.iinc 3 1, 3) := by decide +kernel
theorem dX6_heirOf_55 : decode cX6_heirOf 55 = .ok (.goto (-51), 3) := by decide +kernel
theorem dX6_heirOf_58 : decode cX6_heirOf 58 = .ok (.iload_n 2, 1) := by decide +kernel
theorem dX6_heirOf_59 : decode cX6_heirOf 59 = .ok (.ireturn, 1) := by decide +kernel
theorem dX6_heir_0 : decode cX6_heir 0 = .ok (.iload_n 1, 1) := by decide +kernel
theorem dX6_heir_1 : decode cX6_heir 1 = .ok (.invokestatic 85, 3) := by decide +kernel
theorem dX6_heir_4 : decode cX6_heir 4 = .ok (.ifCond .eq 15, 3) := by decide +kernel
theorem dX6_heir_7 : decode cX6_heir 7 = .ok (.aload_n 0, 1) := by decide +kernel
theorem dX6_heir_8 : decode cX6_heir 8 = .ok (.aload_n 0, 1) := by decide +kernel
theorem dX6_heir_9 : decode cX6_heir 9 = .ok (.iload_n 1, 1) := by decide +kernel
theorem dX6_heir_10 : decode cX6_heir 10 = .ok (.invokevirtual 152, 3) := by decide +kernel
theorem dX6_heir_13 : decode cX6_heir 13 = .ok (.invokevirtual 155, 3) := by decide +kernel
theorem dX6_heir_16 : decode cX6_heir 16 = .ok (.goto 9, 3) := by decide +kernel
theorem dX6_heir_19 : decode cX6_heir 19 = .ok (.aload_n 0, 1) := by decide +kernel
theorem dX6_heir_20 : decode cX6_heir 20 = .ok (.ldc 60, 2) := by decide +kernel
theorem dX6_heir_22 : decode cX6_heir 22 = .ok (.invokevirtual 66, 3) := by decide +kernel
theorem dX6_heir_25 : decode cX6_heir 25 = .ok (.ireturn, 1) := by decide +kernel
theorem dX6_gets_0 : decode cX6_gets 0 = .ok (.aload_n 0, 1) := by decide +kernel
theorem dX6_gets_1 : decode cX6_gets 1 = .ok (.getfield 9, 3) := by decide +kernel
theorem dX6_gets_4 : decode cX6_gets 4 = .ok (.iload_n 1, 1) := by decide +kernel
theorem dX6_gets_5 : decode cX6_gets 5 = .ok (.iconst 2, 1) := by decide +kernel
theorem dX6_gets_6 : decode cX6_gets 6 = .ok (.invokestatic 88, 3) := by decide +kernel
theorem dX6_gets_9 : decode cX6_gets 9 = .ok (.dup2, 1) := by decide +kernel
theorem dX6_gets_10 : decode cX6_gets 10 = .ok (.iaload, 1) := by decide +kernel
theorem dX6_gets_11 : decode cX6_gets 11 = .ok (.iconst 1, 1) := by decide +kernel
theorem dX6_gets_12 : decode cX6_gets 12 = .ok (.iload_n 2, 1) := by decide +kernel
theorem dX6_gets_13 : decode cX6_gets 13 = .ok (.ishl, 1) := by decide +kernel
theorem dX6_gets_14 : decode cX6_gets 14 = .ok (.ior, 1) := by decide +kernel
theorem dX6_gets_15 : decode cX6_gets 15 = .ok (.iastore, 1) := by decide +kernel
theorem dX6_gets_16 : decode cX6_gets 16 = .ok (.aload_n 0, 1) := by decide +kernel
theorem dX6_gets_17 : decode cX6_gets 17 = .ok (.iload_n 1, 1) := by decide +kernel
theorem dX6_gets_18 : decode cX6_gets 18 = .ok (.iconst 2, 1) := by decide +kernel
theorem dX6_gets_19 : decode cX6_gets 19 = .ok (.invokevirtual 101, 3) := by decide +kernel
theorem dX6_gets_22 : decode cX6_gets 22 = .ok (.ireturn, 1) := by decide +kernel
theorem dX6_give_0 : decode cX6_give 0 = .ok (.aload_n 0, 1) := by decide +kernel
theorem dX6_give_1 : decode cX6_give 1 = .ok (.iload_n 1, 1) := by decide +kernel
theorem dX6_give_2 : decode cX6_give 2 = .ok (.invokevirtual 137, 3) := by decide +kernel
theorem dX6_give_5 : decode cX6_give 5 = .ok (.ifCond .eq 10, 3) := by decide +kernel
theorem dX6_give_8 : decode cX6_give 8 = .ok (.iload_n 2, 1) := by decide +kernel
theorem dX6_give_9 : decode cX6_give 9 = .ok (.invokestatic 85, 3) := by decide +kernel
theorem dX6_give_12 : decode cX6_give 12 = .ok (.ifCond .ne 10, 3) := by decide +kernel
theorem dX6_give_15 : decode cX6_give 15 = .ok (.aload_n 0, 1) := by decide +kernel
theorem dX6_give_16 : decode cX6_give 16 = .ok (.ldc 60, 2) := by decide +kernel
theorem dX6_give_18 : decode cX6_give 18 = .ok (.invokevirtual 66, 3) := by decide +kernel
theorem dX6_give_21 : decode cX6_give 21 = .ok (.ireturn, 1) := by decide +kernel
theorem dX6_give_22 : decode cX6_give 22 = .ok (.aload_n 0, 1) := by decide +kernel
theorem dX6_give_23 : decode cX6_give 23 = .ok (.iload_n 1, 1) := by decide +kernel
theorem dX6_give_24 : decode cX6_give 24 = .ok (.iload_n 2, 1) := by decide +kernel
theorem dX6_give_25 : decode cX6_give 25 = .ok (.invokevirtual 104, 3) := by decide +kernel
theorem dX6_give_28 : decode cX6_give 28 = .ok (.ifCond .ne 23, 3) := by decide +kernel
theorem dX6_give_31 : decode cX6_give 31 = .ok (.aload_n 0, 1) := by decide +kernel
theorem dX6_give_32 : decode cX6_give 32 = .ok (.iload_n 1, 1) := by decide +kernel
theorem dX6_give_33 : decode cX6_give 33 = .ok (.invokevirtual 149, 3) := by decide +kernel
theorem dX6_give_36 : decode cX6_give 36 = .ok (.ifCond .ne 15, 3) := by decide +kernel
theorem dX6_give_39 : decode cX6_give 39 = .ok (.aload_n 0, 1) := by decide +kernel
theorem dX6_give_40 : decode cX6_give 40 = .ok (.getfield 9, 3) := by decide +kernel
theorem dX6_give_43 : decode cX6_give 43 = .ok (.bipush 10, 2) := by decide +kernel
theorem dX6_give_45 : decode cX6_give 45 = .ok (.iload_n 2, 1) := by decide +kernel
theorem dX6_give_46 : decode cX6_give 46 = .ok (.iadd, 1) := by decide +kernel
theorem dX6_give_47 : decode cX6_give 47 = .ok (.iaload, 1) := by decide +kernel
theorem dX6_give_48 : decode cX6_give 48 = .ok (.ifCond .ne 10, 3) := by decide +kernel
theorem dX6_give_51 : decode cX6_give 51 = .ok (.aload_n 0, 1) := by decide +kernel
theorem dX6_give_52 : decode cX6_give 52 = .ok (.ldc 158, 2) := by decide +kernel
theorem dX6_give_54 : decode cX6_give 54 = .ok (.invokevirtual 66, 3) := by decide +kernel
theorem dX6_give_57 : decode cX6_give 57 = .ok (.ireturn, 1) := by decide +kernel
theorem dX6_give_58 : decode cX6_give 58 = .ok (.aload_n 0, 1) := by decide +kernel
theorem dX6_give_59 : decode cX6_give 59 = .ok (.getfield 9, 3) := by decide +kernel
theorem dX6_give_62 : decode cX6_give 62 = .ok (.bipush 10, 2) := by decide +kernel
theorem dX6_give_64 : decode cX6_give 64 = .ok (.iload_n 2, 1) := by decide +kernel
theorem dX6_give_65 : decode cX6_give 65 = .ok (.iadd, 1) := by decide +kernel
theorem dX6_give_66 : decode cX6_give 66 = .ok (.dup2, 1) := by decide +kernel
theorem dX6_give_67 : decode cX6_give 67 = .ok (.iaload, 1) := by decide +kernel
theorem dX6_give_68 : decode cX6_give 68 = .ok (.iconst 1, 1) := by decide +kernel
theorem dX6_give_69 : decode cX6_give 69 = .ok (.isub, 1) := by decide +kernel
theorem dX6_give_70 : decode cX6_give 70 = .ok (.iastore, 1) := by decide +kernel
theorem dX6_give_71 : decode cX6_give 71 = .ok (.aload_n 0, 1) := by decide +kernel
theorem dX6_give_72 : decode cX6_give 72 = .ok (.iload_n 1, 1) := by decide +kernel
theorem dX6_give_73 : decode cX6_give 73 = .ok (.iload_n 2, 1) := by decide +kernel
theorem dX6_give_74 : decode cX6_give 74 = .ok (.invokevirtual 159, 3) := by decide +kernel
theorem dX6_give_77 : decode cX6_give 77 = .ok (.ireturn, 1) := by decide +kernel
theorem dX6_more_0 : decode cX6_more 0 = .ok (.aload_n 0, 1) := by decide +kernel
theorem dX6_more_1 : decode cX6_more 1 = .ok (.getfield 9, 3) := by decide +kernel
theorem dX6_more_4 : decode cX6_more 4 = .ok (.iload_n 1, 1) := by decide +kernel
theorem dX6_more_5 : decode cX6_more 5 = .ok (.iload_n 3, 1) := by decide +kernel
theorem dX6_more_6 : decode cX6_more 6 = .ok (.aload_n 0, 1) := by decide +kernel
theorem dX6_more_7 : decode cX6_more 7 = .ok (.getfield 9, 3) := by decide +kernel
theorem dX6_more_10 : decode cX6_more 10 = .ok (.iload_n 1, 1) := by decide +kernel
theorem dX6_more_11 : decode cX6_more 11 = .ok (.iaload, 1) := by decide +kernel
theorem dX6_more_12 : decode cX6_more 12 = .ok (.iload_n 2, 1) := by decide +kernel
theorem dX6_more_13 : decode cX6_more 13 = .ok (.iadd, 1) := by decide +kernel
theorem dX6_more_14 : decode cX6_more 14 = .ok (.invokestatic 162, 3) := by decide +kernel
theorem dX6_more_17 : decode cX6_more 17 = .ok (.iastore, 1) := by decide +kernel
theorem dX6_more_18 : decode cX6_more 18 = .ok (.return_, 1) := by decide +kernel
theorem dX6_wouldWalk_0 : decode cX6_wouldWalk 0 = .ok (.aload_n 0, 1) := by decide +kernel
theorem dX6_wouldWalk_1 : decode cX6_wouldWalk 1 = .ok (.iload_n 1, 1) := by decide +kernel
theorem dX6_wouldWalk_2 : decode cX6_wouldWalk 2 = .ok (.invokevirtual 149, 3) := by decide +kernel
theorem dX6_wouldWalk_5 : decode cX6_wouldWalk 5 = .ok (.ifCond .ne 40, 3) := by decide +kernel
theorem dX6_wouldWalk_8 : decode cX6_wouldWalk 8 = .ok (.aload_n 0, 1) := by decide +kernel
theorem dX6_wouldWalk_9 : decode cX6_wouldWalk 9 = .ok (.iload_n 1, 1) := by decide +kernel
theorem dX6_wouldWalk_10 : decode cX6_wouldWalk 10 = .ok (.iconst 4, 1) := by decide +kernel
theorem dX6_wouldWalk_11 : decode cX6_wouldWalk 11 = .ok (.invokevirtual 101, 3) := by decide +kernel
theorem dX6_wouldWalk_14 : decode cX6_wouldWalk 14 = .ok (.aload_n 0, 1) := by decide +kernel
theorem dX6_wouldWalk_15 : decode cX6_wouldWalk 15 = .ok (.iload_n 1, 1) := by decide +kernel
theorem dX6_wouldWalk_16 : decode cX6_wouldWalk 16 = .ok (.invokevirtual 128, 3) := by decide +kernel
theorem dX6_wouldWalk_19 : decode cX6_wouldWalk 19 = .ok (.if_icmp .lt 26, 3) := by decide +kernel
theorem dX6_wouldWalk_22 : decode cX6_wouldWalk 22 = .ok (.aload_n 0, 1) := by decide +kernel
theorem dX6_wouldWalk_23 : decode cX6_wouldWalk 23 = .ok (.iload_n 1, 1) := by decide +kernel
theorem dX6_wouldWalk_24 : decode cX6_wouldWalk 24 = .ok (.bipush 11, 2) := by decide +kernel
theorem dX6_wouldWalk_26 : decode cX6_wouldWalk 26 = .ok (.invokevirtual 104, 3) := by decide +kernel
theorem dX6_wouldWalk_29 : decode cX6_wouldWalk 29 = .ok (.ifCond .eq 16, 3) := by decide +kernel
theorem dX6_wouldWalk_32 : decode cX6_wouldWalk 32 = .ok (.aload_n 0, 1) := by decide +kernel
theorem dX6_wouldWalk_33 : decode cX6_wouldWalk 33 = .ok (.iload_n 1, 1) := by decide +kernel
theorem dX6_wouldWalk_34 : decode cX6_wouldWalk 34 = .ok (.iconst 5, 1) := by decide +kernel
theorem dX6_wouldWalk_35 : decode cX6_wouldWalk 35 = .ok (.invokevirtual 101, 3) := by decide +kernel
theorem dX6_wouldWalk_38 : decode cX6_wouldWalk 38 = .ok (.ifCond .ne 7, 3) := by decide +kernel
theorem dX6_wouldWalk_41 : decode cX6_wouldWalk 41 = .ok (.iconst 1, 1) := by decide +kernel
theorem dX6_wouldWalk_42 : decode cX6_wouldWalk 42 = .ok (.goto 4, 3) := by decide +kernel
theorem dX6_wouldWalk_45 : decode cX6_wouldWalk 45 = .ok (.iconst 0, 1) := by decide +kernel
theorem dX6_wouldWalk_46 : decode cX6_wouldWalk 46 = .ok (.ireturn, 1) := by decide +kernel
theorem dX6_yearnsOn_0 : decode cX6_yearnsOn 0 = .ok (.aload_n 0, 1) := by decide +kernel
theorem dX6_yearnsOn_1 : decode cX6_yearnsOn 1 = .ok (.iload_n 1, 1) := by decide +kernel
theorem dX6_yearnsOn_2 : decode cX6_yearnsOn 2 = .ok (.iconst 4, 1) := by decide +kernel
theorem dX6_yearnsOn_3 : decode cX6_yearnsOn 3 = .ok (.invokestatic 88, 3) := by decide +kernel
theorem dX6_yearnsOn_6 : decode cX6_yearnsOn 6 = .ok (.aload_n 0, 1) := by decide +kernel
theorem dX6_yearnsOn_7 : decode cX6_yearnsOn 7 = .ok (.iload_n 1, 1) := by decide +kernel
theorem dX6_yearnsOn_8 : decode cX6_yearnsOn 8 = .ok (.invokevirtual 125, 3) := by decide +kernel
theorem dX6_yearnsOn_11 : decode cX6_yearnsOn 11 = .ok (.bipush 99, 2) := by decide +kernel
theorem dX6_yearnsOn_13 : decode cX6_yearnsOn 13 = .ok (.invokevirtual 165, 3) := by decide +kernel
theorem dX6_yearnsOn_16 : decode cX6_yearnsOn 16 = .ok (.aload_n 0, 1) := by decide +kernel
theorem dX6_yearnsOn_17 : decode cX6_yearnsOn 17 = .ok (.iload_n 1, 1) := by decide +kernel
theorem dX6_yearnsOn_18 : decode cX6_yearnsOn 18 = .ok (.invokevirtual 169, 3) := by decide +kernel
theorem dX6_yearnsOn_21 : decode cX6_yearnsOn 21 = .ok (.ifCond .eq 51, 3) := by decide +kernel
theorem dX6_yearnsOn_24 : decode cX6_yearnsOn 24 = .ok (.aload_n 0, 1) := by decide +kernel
theorem dX6_yearnsOn_25 : decode cX6_yearnsOn 25 = .ok (.iload_n 1, 1) := by decide +kernel
theorem dX6_yearnsOn_26 : decode cX6_yearnsOn 26 = .ok (.iconst 3, 1) := by decide +kernel
theorem dX6_yearnsOn_27 : decode cX6_yearnsOn 27 = .ok (.invokestatic 88, 3) := by decide +kernel
theorem dX6_yearnsOn_30 : decode cX6_yearnsOn 30 = .ok (.aload_n 0, 1) := by decide +kernel
theorem dX6_yearnsOn_31 : decode cX6_yearnsOn 31 = .ok (.iload_n 1, 1) := by decide +kernel
theorem dX6_yearnsOn_32 : decode cX6_yearnsOn 32 = .ok (.invokevirtual 131, 3) := by decide +kernel
theorem dX6_yearnsOn_35 : decode cX6_yearnsOn 35 = .ok (.bipush 15, 2) := by decide +kernel
theorem dX6_yearnsOn_37 : decode cX6_yearnsOn 37 = .ok (.invokevirtual 165, 3) := by decide +kernel
theorem dX6_yearnsOn_40 : decode cX6_yearnsOn 40 = .ok (.aload_n 0, 1) := by decide +kernel
theorem dX6_yearnsOn_41 : decode cX6_yearnsOn 41 = .ok (.iload_n 1, 1) := by decide +kernel
theorem dX6_yearnsOn_42 : decode cX6_yearnsOn 42 = .ok (.iconst 3, 1) := by decide +kernel
theorem dX6_yearnsOn_43 : decode cX6_yearnsOn 43 = .ok (.invokevirtual 101, 3) := by decide +kernel
theorem dX6_yearnsOn_46 : decode cX6_yearnsOn 46 = .ok (.bipush 15, 2) := by decide +kernel
theorem dX6_yearnsOn_48 : decode cX6_yearnsOn 48 = .ok (.if_icmp .ne 24, 3) := by decide +kernel
theorem dX6_yearnsOn_51 : decode cX6_yearnsOn 51 = .ok (.aload_n 0, 1) := by decide +kernel
theorem dX6_yearnsOn_52 : decode cX6_yearnsOn 52 = .ok (.getfield 9, 3) := by decide +kernel
theorem dX6_yearnsOn_55 : decode cX6_yearnsOn 55 = .ok (.iload_n 1, 1) := by decide +kernel
theorem dX6_yearnsOn_56 : decode cX6_yearnsOn 56 = .ok (.bipush 6, 2) := by decide +kernel
theorem dX6_yearnsOn_58 : decode cX6_yearnsOn 58 = .ok (.invokestatic 88, 3) := by decide +kernel
theorem dX6_yearnsOn_61 : decode cX6_yearnsOn 61 = .ok (.iconst 1, 1) := by decide +kernel
theorem dX6_yearnsOn_62 : decode cX6_yearnsOn 62 = .ok (.iastore, 1) := by decide +kernel
theorem dX6_yearnsOn_63 : decode cX6_yearnsOn 63 = .ok (.aload_n 0, 1) := by decide +kernel
theorem dX6_yearnsOn_64 : decode cX6_yearnsOn 64 = .ok (.iconst 3, 1) := by decide +kernel
theorem dX6_yearnsOn_65 : decode cX6_yearnsOn 65 = .ok (.iconst 1, 1) := by decide +kernel
theorem dX6_yearnsOn_66 : decode cX6_yearnsOn 66 = .ok (.sipush 9999, 3) := by decide +kernel
theorem dX6_yearnsOn_69 : decode cX6_yearnsOn 69 = .ok (.invokevirtual 165, 3) := by decide +kernel
theorem dX6_yearnsOn_72 : decode cX6_yearnsOn 72 = .ok (.return_, 1) := by decide +kernel
theorem dX6_day_0 : decode cX6_day 0 = .ok (.aload_n 0, 1) := by decide +kernel
theorem dX6_day_1 : decode cX6_day 1 = .ok (.getfield 9, 3) := by decide +kernel
theorem dX6_day_4 : decode cX6_day 4 = .ok (.aload_n 0, 1) := by decide +kernel
theorem dX6_day_5 : decode cX6_day 5 = .ok (.invokevirtual 172, 3) := by decide +kernel
theorem dX6_day_8 : decode cX6_day 8 = .ok (.iaload, 1) := by decide +kernel
theorem dX6_day_9 : decode cX6_day 9 = .ok (.istore_n 1, 1) := by decide +kernel
theorem dX6_day_10 : decode cX6_day 10 = .ok (.iload_n 1, 1) := by decide +kernel
theorem dX6_day_11 : decode cX6_day 11 = .ok (.bipush 12, 2) := by decide +kernel
theorem dX6_day_13 : decode cX6_day 13 = .ok (.if_icmp .ge 34, 3) := by decide +kernel
theorem dX6_day_16 : decode cX6_day 16 = .ok (.aload_n 0, 1) := by decide +kernel
theorem dX6_day_17 : decode cX6_day 17 = .ok (.iload_n 1, 1) := by decide +kernel
theorem dX6_day_18 : decode cX6_day 18 = .ok (.invokevirtual 152, 3) := by decide +kernel
theorem dX6_day_21 : decode cX6_day 21 = .ok (.istore_n 2, 1) := by decide +kernel
theorem dX6_day_22 : decode cX6_day 22 = .ok (.iload_n 2, 1) := by decide +kernel
theorem dX6_day_23 : decode cX6_day 23 = .ok (.ifCond .ge 17, 3) := by decide +kernel
theorem dX6_day_26 : decode cX6_day 26 = .ok (.aload_n 0, 1) := by decide +kernel
theorem dX6_day_27 : decode cX6_day 27 = .ok (.bipush 10, 2) := by decide +kernel
theorem dX6_day_29 : decode cX6_day 29 = .ok (.iload_n 1, 1) := by decide +kernel
theorem dX6_day_30 : decode cX6_day 30 = .ok (.iadd, 1) := by decide +kernel
theorem dX6_day_31 : decode cX6_day 31 = .ok (.iconst 1, 1) := by decide +kernel
theorem dX6_day_32 : decode cX6_day 32 = .ok (.bipush 99, 2) := by decide +kernel
theorem dX6_day_34 : decode cX6_day 34 = .ok (.invokevirtual 165, 3) := by decide +kernel
theorem dX6_day_37 : decode cX6_day 37 = .ok (.goto 10, 3) := by decide +kernel
theorem dX6_day_40 : decode cX6_day 40 = .ok (.aload_n 0, 1) := by decide +kernel
theorem dX6_day_41 : decode cX6_day 41 = .ok (.iload_n 2, 1) := by decide +kernel
theorem dX6_day_42 : decode cX6_day 42 = .ok (.iload_n 1, 1) := by decide +kernel
theorem dX6_day_43 : decode cX6_day 43 = .ok (.invokevirtual 159, 3) := by decide +kernel
theorem dX6_day_46 : decode cX6_day 46 = .ok (.pop, 1) := by decide +kernel
theorem dX6_day_47 : decode cX6_day 47 = .ok (.iconst 0, 1) := by decide +kernel
theorem dX6_day_48 : decode cX6_day 48 = .ok (.istore_n 2, 1) := by decide +kernel
theorem dX6_day_49 : decode cX6_day 49 = .ok (.iload_n 2, 1) := by decide +kernel
theorem dX6_day_50 : decode cX6_day 50 = .ok (.aload_n 0, 1) := by decide +kernel
theorem dX6_day_51 : decode cX6_day 51 = .ok (.getfield 9, 3) := by decide +kernel
theorem dX6_day_54 : decode cX6_day 54 = .ok (.iconst 1, 1) := by decide +kernel
theorem dX6_day_55 : decode cX6_day 55 = .ok (.iaload, 1) := by decide +kernel
theorem dX6_day_56 : decode cX6_day 56 = .ok (.if_icmp .ge 22, 3) := by decide +kernel
theorem dX6_day_59 : decode cX6_day 59 = .ok (.aload_n 0, 1) := by decide +kernel
theorem dX6_day_60 : decode cX6_day 60 = .ok (.iload_n 2, 1) := by decide +kernel
theorem dX6_day_61 : decode cX6_day 61 = .ok (.invokevirtual 149, 3) := by decide +kernel
theorem dX6_day_64 : decode cX6_day 64 = .ok (.ifCond .ne 8, 3) := by decide +kernel
theorem dX6_day_67 : decode cX6_day 67 = .ok (.aload_n 0, 1) := by decide +kernel
theorem dX6_day_68 : decode cX6_day 68 = .ok (.iload_n 2, 1) := by decide +kernel
theorem dX6_day_69 : decode cX6_day 69 = .ok (.invokevirtual 176, 3) := by decide +kernel
theorem dX6_day_72 : decode cX6_day 72 = .ok (.iinc 2 1, 3) := by decide +kernel
theorem dX6_day_75 : decode cX6_day 75 = .ok (.goto (-26), 3) := by decide +kernel
theorem dX6_day_78 : decode cX6_day 78 = .ok (.aload_n 0, 1) := by decide +kernel
theorem dX6_day_79 : decode cX6_day 79 = .ok (.iconst 0, 1) := by decide +kernel
theorem dX6_day_80 : decode cX6_day 80 = .ok (.iconst 1, 1) := by decide +kernel
theorem dX6_day_81 : decode cX6_day 81 = .ok (.ldc 180, 2) := by decide +kernel
theorem dX6_day_83 : decode cX6_day 83 = .ok (.invokevirtual 165, 3) := by decide +kernel
theorem dX6_day_86 : decode cX6_day 86 = .ok (.return_, 1) := by decide +kernel
theorem dX6_daysGo_0 : decode cX6_daysGo 0 = .ok (.iconst 0, 1) := by decide +kernel
theorem dX6_daysGo_1 : decode cX6_daysGo 1 = .ok (.istore_n 2, 1) := by decide +kernel
theorem dX6_daysGo_2 : decode cX6_daysGo 2 = .ok (.iload_n 2, 1) := by decide +kernel
theorem dX6_daysGo_3 : decode cX6_daysGo 3 = .ok (.iload_n 1, 1) := by decide +kernel
theorem dX6_daysGo_4 : decode cX6_daysGo 4 = .ok (.if_icmp .ge 13, 3) := by decide +kernel
theorem dX6_daysGo_7 : decode cX6_daysGo 7 = .ok (.aload_n 0, 1) := by decide +kernel
theorem dX6_daysGo_8 : decode cX6_daysGo 8 = .ok (.invokevirtual 181, 3) := by decide +kernel
theorem dX6_daysGo_11 : decode cX6_daysGo 11 = .ok (.iinc 2 1, 3) := by decide +kernel
theorem dX6_daysGo_14 : decode cX6_daysGo 14 = .ok (.goto (-12), 3) := by decide +kernel
theorem dX6_daysGo_17 : decode cX6_daysGo 17 = .ok (.return_, 1) := by decide +kernel
theorem dX6_go_0 : decode cX6_go 0 = .ok (.iload_n 1, 1) := by decide +kernel
theorem dX6_go_1 : decode cX6_go 1 = .ok (.iconst 1, 1) := by decide +kernel
theorem dX6_go_2 : decode cX6_go 2 = .ok (.bipush 60, 2) := by decide +kernel
theorem dX6_go_4 : decode cX6_go 4 = .ok (.invokestatic 70, 3) := by decide +kernel
theorem dX6_go_7 : decode cX6_go 7 = .ok (.ifCond .ne 10, 3) := by decide +kernel
theorem dX6_go_10 : decode cX6_go 10 = .ok (.aload_n 0, 1) := by decide +kernel
theorem dX6_go_11 : decode cX6_go 11 = .ok (.ldc 60, 2) := by decide +kernel
theorem dX6_go_13 : decode cX6_go 13 = .ok (.invokevirtual 66, 3) := by decide +kernel
theorem dX6_go_16 : decode cX6_go 16 = .ok (.ireturn, 1) := by decide +kernel
theorem dX6_go_17 : decode cX6_go 17 = .ok (.aload_n 0, 1) := by decide +kernel
theorem dX6_go_18 : decode cX6_go 18 = .ok (.getfield 9, 3) := by decide +kernel
theorem dX6_go_21 : decode cX6_go 21 = .ok (.iconst 0, 1) := by decide +kernel
theorem dX6_go_22 : decode cX6_go 22 = .ok (.iaload, 1) := by decide +kernel
theorem dX6_go_23 : decode cX6_go 23 = .ok (.iload_n 1, 1) := by decide +kernel
theorem dX6_go_24 : decode cX6_go 24 = .ok (.iadd, 1) := by decide +kernel
theorem dX6_go_25 : decode cX6_go 25 = .ok (.ldc 180, 2) := by decide +kernel
theorem dX6_go_27 : decode cX6_go 27 = .ok (.if_icmp .le 10, 3) := by decide +kernel
theorem dX6_go_30 : decode cX6_go 30 = .ok (.aload_n 0, 1) := by decide +kernel
theorem dX6_go_31 : decode cX6_go 31 = .ok (.ldc 158, 2) := by decide +kernel
theorem dX6_go_33 : decode cX6_go 33 = .ok (.invokevirtual 66, 3) := by decide +kernel
theorem dX6_go_36 : decode cX6_go 36 = .ok (.ireturn, 1) := by decide +kernel
theorem dX6_go_37 : decode cX6_go 37 = .ok (.aload_n 0, 1) := by decide +kernel
theorem dX6_go_38 : decode cX6_go 38 = .ok (.iload_n 1, 1) := by decide +kernel
theorem dX6_go_39 : decode cX6_go 39 = .ok (.invokevirtual 184, 3) := by decide +kernel
theorem dX6_go_42 : decode cX6_go 42 = .ok (.aload_n 0, 1) := by decide +kernel
theorem dX6_go_43 : decode cX6_go 43 = .ok (.getfield 9, 3) := by decide +kernel
theorem dX6_go_46 : decode cX6_go 46 = .ok (.iconst 3, 1) := by decide +kernel
theorem dX6_go_47 : decode cX6_go 47 = .ok (.iaload, 1) := by decide +kernel
theorem dX6_go_48 : decode cX6_go 48 = .ok (.ireturn, 1) := by decide +kernel
theorem dX6_inStore_0 : decode cX6_inStore 0 = .ok (.iconst 0, 1) := by decide +kernel
theorem dX6_inStore_1 : decode cX6_inStore 1 = .ok (.istore_n 1, 1) := by decide +kernel
theorem dX6_inStore_2 : decode cX6_inStore 2 = .ok (.iconst 0, 1) := by decide +kernel
theorem dX6_inStore_3 : decode cX6_inStore 3 = .ok (.istore_n 2, 1) := by decide +kernel
theorem dX6_inStore_4 : decode cX6_inStore 4 = .ok (.iload_n 2, 1) := by decide +kernel
theorem dX6_inStore_5 : decode cX6_inStore 5 = .ok (.bipush 12, 2) := by decide +kernel
theorem dX6_inStore_7 : decode cX6_inStore 7 = .ok (.if_icmp .ge 21, 3) := by decide +kernel
theorem dX6_inStore_10 : decode cX6_inStore 10 = .ok (.iload_n 1, 1) := by decide +kernel
theorem dX6_inStore_11 : decode cX6_inStore 11 = .ok (.aload_n 0, 1) := by decide +kernel
theorem dX6_inStore_12 : decode cX6_inStore 12 = .ok (.getfield 9, 3) := by decide +kernel
theorem dX6_inStore_15 : decode cX6_inStore 15 = .ok (.bipush 10, 2) := by decide +kernel
theorem dX6_inStore_17 : decode cX6_inStore 17 = .ok (.iload_n 2, 1) := by decide +kernel
theorem dX6_inStore_18 : decode cX6_inStore 18 = .ok (.iadd, 1) := by decide +kernel
theorem dX6_inStore_19 : decode cX6_inStore 19 = .ok (.iaload, 1) := by decide +kernel
theorem dX6_inStore_20 : decode cX6_inStore 20 = .ok (.iadd, 1) := by decide +kernel
theorem dX6_inStore_21 : decode cX6_inStore 21 = .ok (.istore_n 1, 1) := by decide +kernel
theorem dX6_inStore_22 : decode cX6_inStore 22 = .ok (.iinc 2 1, 3) := by decide +kernel
theorem dX6_inStore_25 : decode cX6_inStore 25 = .ok (.goto (-21), 3) := by decide +kernel
theorem dX6_inStore_28 : decode cX6_inStore 28 = .ok (.iload_n 1, 1) := by decide +kernel
theorem dX6_inStore_29 : decode cX6_inStore 29 = .ok (.ireturn, 1) := by decide +kernel
theorem dX6_wholeOnes_0 : decode cX6_wholeOnes 0 = .ok (.iconst 0, 1) := by decide +kernel
theorem dX6_wholeOnes_1 : decode cX6_wholeOnes 1 = .ok (.istore_n 1, 1) := by decide +kernel
theorem dX6_wholeOnes_2 : decode cX6_wholeOnes 2 = .ok (.iconst 0, 1) := by decide +kernel
theorem dX6_wholeOnes_3 : decode cX6_wholeOnes 3 = .ok (.istore_n 2, 1) := by decide +kernel
theorem dX6_wholeOnes_4 : decode cX6_wholeOnes 4 = .ok (.iload_n 2, 1) := by decide +kernel
theorem dX6_wholeOnes_5 : decode cX6_wholeOnes 5 = .ok (.aload_n 0, 1) := by decide +kernel
theorem dX6_wholeOnes_6 : decode cX6_wholeOnes 6 = .ok (.getfield 9, 3) := by decide +kernel
theorem dX6_wholeOnes_9 : decode cX6_wholeOnes 9 = .ok (.iconst 1, 1) := by decide +kernel
theorem dX6_wholeOnes_10 : decode cX6_wholeOnes 10 = .ok (.iaload, 1) := by decide +kernel
theorem dX6_wholeOnes_11 : decode cX6_wholeOnes 11 = .ok (.if_icmp .ge 39, 3) := by decide +kernel
theorem dX6_wholeOnes_14 : decode cX6_wholeOnes 14 = .ok (.iload_n 1, 1) := by decide +kernel
theorem dX6_wholeOnes_15 : decode cX6_wholeOnes 15 = .ok (.aload_n 0, 1) := by decide +kernel
theorem dX6_wholeOnes_16 : decode cX6_wholeOnes 16 = .ok (.iload_n 2, 1) := by decide +kernel
theorem dX6_wholeOnes_17 : decode cX6_wholeOnes 17 = .ok (.invokevirtual 149, 3) := by decide +kernel
theorem dX6_wholeOnes_20 : decode cX6_wholeOnes 20 = .ok (.ifCond .ne 21, 3) := by decide +kernel
theorem dX6_wholeOnes_23 : decode cX6_wholeOnes 23 = .ok (.aload_n 0, 1) := by decide +kernel
theorem dX6_wholeOnes_24 : decode cX6_wholeOnes 24 = .ok (.iload_n 2, 1) := by decide +kernel
theorem dX6_wholeOnes_25 : decode cX6_wholeOnes 25 = .ok (.iconst 2, 1) := by decide +kernel
theorem dX6_wholeOnes_26 : decode cX6_wholeOnes 26 = .ok (.invokevirtual 101, 3) := by decide +kernel
theorem dX6_wholeOnes_29 : decode cX6_wholeOnes 29 = .ok (.sipush 4095, 3) := by decide +kernel
theorem dX6_wholeOnes_32 : decode cX6_wholeOnes 32 = .ok (.if_icmp .ne 9, 3) := by decide +kernel
theorem dX6_wholeOnes_35 : decode cX6_wholeOnes 35 = .ok (.iconst 1, 1) := by decide +kernel
theorem dX6_wholeOnes_36 : decode cX6_wholeOnes 36 = .ok (.iload_n 2, 1) := by decide +kernel
theorem dX6_wholeOnes_37 : decode cX6_wholeOnes 37 = .ok (.ishl, 1) := by decide +kernel
theorem dX6_wholeOnes_38 : decode cX6_wholeOnes 38 = .ok (.goto 4, 3) := by decide +kernel
theorem dX6_wholeOnes_41 : decode cX6_wholeOnes 41 = .ok (.iconst 0, 1) := by decide +kernel
theorem dX6_wholeOnes_42 : decode cX6_wholeOnes 42 = .ok (.ior, 1) := by decide +kernel
theorem dX6_wholeOnes_43 : decode cX6_wholeOnes 43 = .ok (.istore_n 1, 1) := by decide +kernel
theorem dX6_wholeOnes_44 : decode cX6_wholeOnes 44 = .ok (.iinc 2 1, 3) := by decide +kernel
theorem dX6_wholeOnes_47 : decode cX6_wholeOnes 47 = .ok (.goto (-43), 3) := by decide +kernel
theorem dX6_wholeOnes_50 : decode cX6_wholeOnes 50 = .ok (.iload_n 1, 1) := by decide +kernel
theorem dX6_wholeOnes_51 : decode cX6_wholeOnes 51 = .ok (.ireturn, 1) := by decide +kernel
theorem dX6_walkers_0 : decode cX6_walkers 0 = .ok (.iconst 0, 1) := by decide +kernel
theorem dX6_walkers_1 : decode cX6_walkers 1 = .ok (.istore_n 1, 1) := by decide +kernel
theorem dX6_walkers_2 : decode cX6_walkers 2 = .ok (.iconst 0, 1) := by decide +kernel
theorem dX6_walkers_3 : decode cX6_walkers 3 = .ok (.istore_n 2, 1) := by decide +kernel
theorem dX6_walkers_4 : decode cX6_walkers 4 = .ok (.iload_n 2, 1) := by decide +kernel
theorem dX6_walkers_5 : decode cX6_walkers 5 = .ok (.aload_n 0, 1) := by decide +kernel
theorem dX6_walkers_6 : decode cX6_walkers 6 = .ok (.getfield 9, 3) := by decide +kernel
theorem dX6_walkers_9 : decode cX6_walkers 9 = .ok (.iconst 1, 1) := by decide +kernel
theorem dX6_walkers_10 : decode cX6_walkers 10 = .ok (.iaload, 1) := by decide +kernel
theorem dX6_walkers_11 : decode cX6_walkers 11 = .ok (.if_icmp .ge 27, 3) := by decide +kernel
theorem dX6_walkers_14 : decode cX6_walkers 14 = .ok (.iload_n 1, 1) := by decide +kernel
theorem dX6_walkers_15 : decode cX6_walkers 15 = .ok (.aload_n 0, 1) := by decide +kernel
theorem dX6_walkers_16 : decode cX6_walkers 16 = .ok (.iload_n 2, 1) := by decide +kernel
theorem dX6_walkers_17 : decode cX6_walkers 17 = .ok (.invokevirtual 169, 3) := by decide +kernel
theorem dX6_walkers_20 : decode cX6_walkers 20 = .ok (.ifCond .eq 9, 3) := by decide +kernel
theorem dX6_walkers_23 : decode cX6_walkers 23 = .ok (.iconst 1, 1) := by decide +kernel
theorem dX6_walkers_24 : decode cX6_walkers 24 = .ok (.iload_n 2, 1) := by decide +kernel
theorem dX6_walkers_25 : decode cX6_walkers 25 = .ok (.ishl, 1) := by decide +kernel
theorem dX6_walkers_26 : decode cX6_walkers 26 = .ok (.goto 4, 3) := by decide +kernel
theorem dX6_walkers_29 : decode cX6_walkers 29 = .ok (.iconst 0, 1) := by decide +kernel
theorem dX6_walkers_30 : decode cX6_walkers 30 = .ok (.ior, 1) := by decide +kernel
theorem dX6_walkers_31 : decode cX6_walkers 31 = .ok (.istore_n 1, 1) := by decide +kernel
theorem dX6_walkers_32 : decode cX6_walkers 32 = .ok (.iinc 2 1, 3) := by decide +kernel
theorem dX6_walkers_35 : decode cX6_walkers 35 = .ok (.goto (-31), 3) := by decide +kernel
theorem dX6_walkers_38 : decode cX6_walkers 38 = .ok (.iload_n 1, 1) := by decide +kernel
theorem dX6_walkers_39 : decode cX6_walkers 39 = .ok (.ireturn, 1) := by decide +kernel
theorem dX6_loudest_0 : decode cX6_loudest 0 = .ok (.iconst (-1), 1) := by decide +kernel
theorem dX6_loudest_1 : decode cX6_loudest 1 = .ok (.istore_n 1, 1) := by decide +kernel
theorem dX6_loudest_2 : decode cX6_loudest 2 = .ok (.iconst 0, 1) := by decide +kernel
theorem dX6_loudest_3 : decode cX6_loudest 3 = .ok (.istore_n 2, 1) := by decide +kernel
theorem dX6_loudest_4 : decode cX6_loudest 4 = .ok (.iload_n 2, 1) := by decide +kernel
theorem dX6_loudest_5 : decode cX6_loudest 5 = .ok (.aload_n 0, 1) := by decide +kernel
theorem dX6_loudest_6 : decode cX6_loudest 6 = .ok (.getfield 9, 3) := by decide +kernel
theorem dX6_loudest_9 : decode cX6_loudest 9 = .ok (.iconst 1, 1) := by decide +kernel
theorem dX6_loudest_10 : decode cX6_loudest 10 = .ok (.iaload, 1) := by decide +kernel
theorem dX6_loudest_11 : decode cX6_loudest 11 = .ok (.if_icmp .ge 36, 3) := by decide +kernel
theorem dX6_loudest_14 : decode cX6_loudest 14 = .ok (.aload_n 0, 1) := by decide +kernel
theorem dX6_loudest_15 : decode cX6_loudest 15 = .ok (.iload_n 2, 1) := by decide +kernel
theorem dX6_loudest_16 : decode cX6_loudest 16 = .ok (.invokevirtual 149, 3) := by decide +kernel
theorem dX6_loudest_19 : decode cX6_loudest 19 = .ok (.ifCond .ne 22, 3) := by decide +kernel
theorem dX6_loudest_22 : decode cX6_loudest 22 = .ok (.iload_n 1, 1) := by decide +kernel
theorem dX6_loudest_23 : decode cX6_loudest 23 = .ok (.ifCond .lt 16, 3) := by decide +kernel
theorem dX6_loudest_26 : decode cX6_loudest 26 = .ok (.aload_n 0, 1) := by decide +kernel
theorem dX6_loudest_27 : decode cX6_loudest 27 = .ok (.iload_n 2, 1) := by decide +kernel
theorem dX6_loudest_28 : decode cX6_loudest 28 = .ok (.invokevirtual 134, 3) := by decide +kernel
theorem dX6_loudest_31 : decode cX6_loudest 31 = .ok (.aload_n 0, 1) := by decide +kernel
theorem dX6_loudest_32 : decode cX6_loudest 32 = .ok (.iload_n 1, 1) := by decide +kernel
theorem dX6_loudest_33 : decode cX6_loudest 33 = .ok (.invokevirtual 134, 3) := by decide +kernel
theorem dX6_loudest_36 : decode cX6_loudest 36 = .ok (.if_icmp .le 5, 3) := by decide +kernel
theorem dX6_loudest_39 : decode cX6_loudest 39 = .ok (.iload_n 2, 1) := by decide +kernel
theorem dX6_loudest_40 : decode cX6_loudest 40 = .ok (.istore_n 1, 1) := by decide +kernel
theorem dX6_loudest_41 : decode cX6_loudest 41 = .ok (.iinc 2 1, 3) := by decide +kernel
theorem dX6_loudest_44 : decode cX6_loudest 44 = .ok (.goto (-40), 3) := by decide +kernel
theorem dX6_loudest_47 : decode cX6_loudest 47 = .ok (.iload_n 1, 1) := by decide +kernel
theorem dX6_loudest_48 : decode cX6_loudest 48 = .ok (.ireturn, 1) := by decide +kernel
theorem dX6_yearnings_0 : decode cX6_yearnings 0 = .ok (.iconst 0, 1) := by decide +kernel
theorem dX6_yearnings_1 : decode cX6_yearnings 1 = .ok (.istore_n 1, 1) := by decide +kernel
theorem dX6_yearnings_2 : decode cX6_yearnings 2 = .ok (.iconst 0, 1) := by decide +kernel
theorem dX6_yearnings_3 : decode cX6_yearnings 3 = .ok (.istore_n 2, 1) := by decide +kernel
theorem dX6_yearnings_4 : decode cX6_yearnings 4 = .ok (.iload_n 2, 1) := by decide +kernel
theorem dX6_yearnings_5 : decode cX6_yearnings 5 = .ok (.aload_n 0, 1) := by decide +kernel
theorem dX6_yearnings_6 : decode cX6_yearnings 6 = .ok (.getfield 9, 3) := by decide +kernel
theorem dX6_yearnings_9 : decode cX6_yearnings 9 = .ok (.iconst 1, 1) := by decide +kernel
theorem dX6_yearnings_10 : decode cX6_yearnings 10 = .ok (.iaload, 1) := by decide +kernel
theorem dX6_yearnings_11 : decode cX6_yearnings 11 = .ok (.if_icmp .ge 30, 3) := by decide +kernel
theorem dX6_yearnings_14 : decode cX6_yearnings 14 = .ok (.iload_n 1, 1) := by decide +kernel
theorem dX6_yearnings_15 : decode cX6_yearnings 15 = .ok (.aload_n 0, 1) := by decide +kernel
theorem dX6_yearnings_16 : decode cX6_yearnings 16 = .ok (.iload_n 2, 1) := by decide +kernel
theorem dX6_yearnings_17 : decode cX6_yearnings 17 = .ok (.invokevirtual 149, 3) := by decide +kernel
theorem dX6_yearnings_20 : decode cX6_yearnings 20 = .ok (.ifCond .eq 7, 3) := by decide +kernel
theorem dX6_yearnings_23 : decode cX6_yearnings 23 = .ok (.iconst 0, 1) := by decide +kernel
theorem dX6_yearnings_24 : decode cX6_yearnings 24 = .ok (.goto 9, 3) := by decide +kernel
theorem dX6_yearnings_27 : decode cX6_yearnings 27 = .ok (.aload_n 0, 1) := by decide +kernel
theorem dX6_yearnings_28 : decode cX6_yearnings 28 = .ok (.iload_n 2, 1) := by decide +kernel
theorem dX6_yearnings_29 : decode cX6_yearnings 29 = .ok (.iconst 4, 1) := by decide +kernel
theorem dX6_yearnings_30 : decode cX6_yearnings 30 = .ok (.invokevirtual 101, 3) := by decide +kernel
theorem dX6_yearnings_33 : decode cX6_yearnings 33 = .ok (.iadd, 1) := by decide +kernel
theorem dX6_yearnings_34 : decode cX6_yearnings 34 = .ok (.istore_n 1, 1) := by decide +kernel
theorem dX6_yearnings_35 : decode cX6_yearnings 35 = .ok (.iinc 2 1, 3) := by decide +kernel
theorem dX6_yearnings_38 : decode cX6_yearnings 38 = .ok (.goto (-34), 3) := by decide +kernel
theorem dX6_yearnings_41 : decode cX6_yearnings 41 = .ok (.iload_n 1, 1) := by decide +kernel
theorem dX6_yearnings_42 : decode cX6_yearnings 42 = .ok (.ireturn, 1) := by decide +kernel
theorem dX6_goneOnes_0 : decode cX6_goneOnes 0 = .ok (.iconst 0, 1) := by decide +kernel
theorem dX6_goneOnes_1 : decode cX6_goneOnes 1 = .ok (.istore_n 1, 1) := by decide +kernel
theorem dX6_goneOnes_2 : decode cX6_goneOnes 2 = .ok (.iconst 0, 1) := by decide +kernel
theorem dX6_goneOnes_3 : decode cX6_goneOnes 3 = .ok (.istore_n 2, 1) := by decide +kernel
theorem dX6_goneOnes_4 : decode cX6_goneOnes 4 = .ok (.iload_n 2, 1) := by decide +kernel
theorem dX6_goneOnes_5 : decode cX6_goneOnes 5 = .ok (.aload_n 0, 1) := by decide +kernel
theorem dX6_goneOnes_6 : decode cX6_goneOnes 6 = .ok (.getfield 9, 3) := by decide +kernel
theorem dX6_goneOnes_9 : decode cX6_goneOnes 9 = .ok (.iconst 1, 1) := by decide +kernel
theorem dX6_goneOnes_10 : decode cX6_goneOnes 10 = .ok (.iaload, 1) := by decide +kernel
theorem dX6_goneOnes_11 : decode cX6_goneOnes 11 = .ok (.if_icmp .ge 21, 3) := by decide +kernel
theorem dX6_goneOnes_14 : decode cX6_goneOnes 14 = .ok (.iload_n 1, 1) := by decide +kernel
theorem dX6_goneOnes_15 : decode cX6_goneOnes 15 = .ok (.aload_n 0, 1) := by decide +kernel
theorem dX6_goneOnes_16 : decode cX6_goneOnes 16 = .ok (.iload_n 2, 1) := by decide +kernel
theorem dX6_goneOnes_17 : decode cX6_goneOnes 17 = .ok (.bipush 6, 2) := by decide +kernel
theorem dX6_goneOnes_19 : decode cX6_goneOnes 19 = .ok (.invokevirtual 101, 3) := by decide +kernel
theorem dX6_goneOnes_22 : decode cX6_goneOnes 22 = .ok (.iload_n 2, 1) := by decide +kernel
theorem dX6_goneOnes_23 : decode cX6_goneOnes 23 = .ok (.ishl, 1) := by decide +kernel
theorem dX6_goneOnes_24 : decode cX6_goneOnes 24 = .ok (.ior, 1) := by decide +kernel
theorem dX6_goneOnes_25 : decode cX6_goneOnes 25 = .ok (.istore_n 1, 1) := by decide +kernel
theorem dX6_goneOnes_26 : decode cX6_goneOnes 26 = .ok (.iinc 2 1, 3) := by decide +kernel
theorem dX6_goneOnes_29 : decode cX6_goneOnes 29 = .ok (.goto (-25), 3) := by decide +kernel
theorem dX6_goneOnes_32 : decode cX6_goneOnes 32 = .ok (.iload_n 1, 1) := by decide +kernel
theorem dX6_goneOnes_33 : decode cX6_goneOnes 33 = .ok (.ireturn, 1) := by decide +kernel
theorem dX6_now_0 : decode cX6_now 0 = .ok (.iload_n 1, 1) := by decide +kernel
theorem dX6_now_1 : decode cX6_now 1 = .ok (.tableswitch 91 0 7 #[47, 54, 61, 66, 71, 76, 81, 86], 47) := by decide +kernel
theorem dX6_now_48 : decode cX6_now 48 = .ok (.aload_n 0, 1) := by decide +kernel
theorem dX6_now_49 : decode cX6_now 49 = .ok (.getfield 9, 3) := by decide +kernel
theorem dX6_now_52 : decode cX6_now 52 = .ok (.iconst 0, 1) := by decide +kernel
theorem dX6_now_53 : decode cX6_now 53 = .ok (.iaload, 1) := by decide +kernel
theorem dX6_now_54 : decode cX6_now 54 = .ok (.ireturn, 1) := by decide +kernel
theorem dX6_now_55 : decode cX6_now 55 = .ok (.aload_n 0, 1) := by decide +kernel
theorem dX6_now_56 : decode cX6_now 56 = .ok (.getfield 9, 3) := by decide +kernel
theorem dX6_now_59 : decode cX6_now 59 = .ok (.iconst 3, 1) := by decide +kernel
theorem dX6_now_60 : decode cX6_now 60 = .ok (.iaload, 1) := by decide +kernel
theorem dX6_now_61 : decode cX6_now 61 = .ok (.ireturn, 1) := by decide +kernel
theorem dX6_now_62 : decode cX6_now 62 = .ok (.aload_n 0, 1) := by decide +kernel
theorem dX6_now_63 : decode cX6_now 63 = .ok (.invokevirtual 187, 3) := by decide +kernel
theorem dX6_now_66 : decode cX6_now 66 = .ok (.ireturn, 1) := by decide +kernel
theorem dX6_now_67 : decode cX6_now 67 = .ok (.aload_n 0, 1) := by decide +kernel
theorem dX6_now_68 : decode cX6_now 68 = .ok (.invokevirtual 190, 3) := by decide +kernel
theorem dX6_now_71 : decode cX6_now 71 = .ok (.ireturn, 1) := by decide +kernel
theorem dX6_now_72 : decode cX6_now 72 = .ok (.aload_n 0, 1) := by decide +kernel
theorem dX6_now_73 : decode cX6_now 73 = .ok (.invokevirtual 193, 3) := by decide +kernel
theorem dX6_now_76 : decode cX6_now 76 = .ok (.ireturn, 1) := by decide +kernel
theorem dX6_now_77 : decode cX6_now 77 = .ok (.aload_n 0, 1) := by decide +kernel
theorem dX6_now_78 : decode cX6_now 78 = .ok (.invokevirtual 196, 3) := by decide +kernel
theorem dX6_now_81 : decode cX6_now 81 = .ok (.ireturn, 1) := by decide +kernel
theorem dX6_now_82 : decode cX6_now 82 = .ok (.aload_n 0, 1) := by decide +kernel
theorem dX6_now_83 : decode cX6_now 83 = .ok (.invokevirtual 199, 3) := by decide +kernel
theorem dX6_now_86 : decode cX6_now 86 = .ok (.ireturn, 1) := by decide +kernel
theorem dX6_now_87 : decode cX6_now 87 = .ok (.aload_n 0, 1) := by decide +kernel
theorem dX6_now_88 : decode cX6_now 88 = .ok (.invokevirtual 202, 3) := by decide +kernel
theorem dX6_now_91 : decode cX6_now 91 = .ok (.ireturn, 1) := by decide +kernel
theorem dX6_now_92 : decode cX6_now 92 = .ok (.aload_n 0, 1) := by decide +kernel
theorem dX6_now_93 : decode cX6_now 93 = .ok (.ldc 60, 2) := by decide +kernel
theorem dX6_now_95 : decode cX6_now 95 = .ok (.invokevirtual 66, 3) := by decide +kernel
theorem dX6_now_98 : decode cX6_now 98 = .ok (.ireturn, 1) := by decide +kernel
theorem dX6_behind_0 : decode cX6_behind 0 = .ok (.aload_n 0, 1) := by decide +kernel
theorem dX6_behind_1 : decode cX6_behind 1 = .ok (.getfield 9, 3) := by decide +kernel
theorem dX6_behind_4 : decode cX6_behind 4 = .ok (.aload_n 0, 1) := by decide +kernel
theorem dX6_behind_5 : decode cX6_behind 5 = .ok (.getfield 16, 3) := by decide +kernel
theorem dX6_behind_8 : decode cX6_behind 8 = .ok (.invokestatic 61, 3) := by decide +kernel
theorem dX6_behind_11 : decode cX6_behind 11 = .ok (.aload_n 0, 1) := by decide +kernel
theorem dX6_behind_12 : decode cX6_behind 12 = .ok (.iload_n 2, 1) := by decide +kernel
theorem dX6_behind_13 : decode cX6_behind 13 = .ok (.invokevirtual 184, 3) := by decide +kernel
theorem dX6_behind_16 : decode cX6_behind 16 = .ok (.aload_n 0, 1) := by decide +kernel
theorem dX6_behind_17 : decode cX6_behind 17 = .ok (.aload_n 0, 1) := by decide +kernel
theorem dX6_behind_18 : decode cX6_behind 18 = .ok (.getfield 9, 3) := by decide +kernel
theorem dX6_behind_21 : decode cX6_behind 21 = .ok (.iload_n 1, 1) := by decide +kernel
theorem dX6_behind_22 : decode cX6_behind 22 = .ok (.iaload, 1) := by decide +kernel
theorem dX6_behind_23 : decode cX6_behind 23 = .ok (.invokevirtual 205, 3) := by decide +kernel
theorem dX6_behind_26 : decode cX6_behind 26 = .ok (.ireturn, 1) := by decide +kernel
theorem dX6_toldBehind_0 : decode cX6_toldBehind 0 = .ok (.aload_n 0, 1) := by decide +kernel
theorem dX6_toldBehind_1 : decode cX6_toldBehind 1 = .ok (.getfield 9, 3) := by decide +kernel
theorem dX6_toldBehind_4 : decode cX6_toldBehind 4 = .ok (.aload_n 0, 1) := by decide +kernel
theorem dX6_toldBehind_5 : decode cX6_toldBehind 5 = .ok (.getfield 16, 3) := by decide +kernel
theorem dX6_toldBehind_8 : decode cX6_toldBehind 8 = .ok (.invokestatic 61, 3) := by decide +kernel
theorem dX6_toldBehind_11 : decode cX6_toldBehind 11 = .ok (.aload_n 0, 1) := by decide +kernel
theorem dX6_toldBehind_12 : decode cX6_toldBehind 12 = .ok (.iload_n 3, 1) := by decide +kernel
theorem dX6_toldBehind_13 : decode cX6_toldBehind 13 = .ok (.invokevirtual 184, 3) := by decide +kernel
theorem dX6_toldBehind_16 : decode cX6_toldBehind 16 = .ok (.aload_n 0, 1) := by decide +kernel
theorem dX6_toldBehind_17 : decode cX6_toldBehind 17 = .ok (.aload_n 0, 1) := by decide +kernel
theorem dX6_toldBehind_18 : decode cX6_toldBehind 18 = .ok (.iload_n 1, 1) := by decide +kernel
theorem dX6_toldBehind_19 : decode cX6_toldBehind 19 = .ok (.iload_n 2, 1) := by decide +kernel
theorem dX6_toldBehind_20 : decode cX6_toldBehind 20 = .ok (.invokevirtual 140, 3) := by decide +kernel
theorem dX6_toldBehind_23 : decode cX6_toldBehind 23 = .ok (.invokevirtual 205, 3) := by decide +kernel
theorem dX6_toldBehind_26 : decode cX6_toldBehind 26 = .ok (.ireturn, 1) := by decide +kernel
theorem dX6_ahead_0 : decode cX6_ahead 0 = .ok (.iload_n 2, 1) := by decide +kernel
theorem dX6_ahead_1 : decode cX6_ahead 1 = .ok (.iconst 2, 1) := by decide +kernel
theorem dX6_ahead_2 : decode cX6_ahead 2 = .ok (.iconst 4, 1) := by decide +kernel
theorem dX6_ahead_3 : decode cX6_ahead 3 = .ok (.invokestatic 70, 3) := by decide +kernel
theorem dX6_ahead_6 : decode cX6_ahead 6 = .ok (.ifCond .ne 15, 3) := by decide +kernel
theorem dX6_ahead_9 : decode cX6_ahead 9 = .ok (.iload_n 2, 1) := by decide +kernel
theorem dX6_ahead_10 : decode cX6_ahead 10 = .ok (.bipush 6, 2) := by decide +kernel
theorem dX6_ahead_12 : decode cX6_ahead 12 = .ok (.if_icmp .eq 9, 3) := by decide +kernel
theorem dX6_ahead_15 : decode cX6_ahead 15 = .ok (.iload_n 2, 1) := by decide +kernel
theorem dX6_ahead_16 : decode cX6_ahead 16 = .ok (.bipush 10, 2) := by decide +kernel
theorem dX6_ahead_18 : decode cX6_ahead 18 = .ok (.if_icmp .ne 7, 3) := by decide +kernel
theorem dX6_ahead_21 : decode cX6_ahead 21 = .ok (.iconst 1, 1) := by decide +kernel
theorem dX6_ahead_22 : decode cX6_ahead 22 = .ok (.goto 4, 3) := by decide +kernel
theorem dX6_ahead_25 : decode cX6_ahead 25 = .ok (.iconst 0, 1) := by decide +kernel
theorem dX6_ahead_26 : decode cX6_ahead 26 = .ok (.istore 4, 2) := by decide +kernel
theorem dX6_ahead_28 : decode cX6_ahead 28 = .ok (.aload_n 0, 1) := by decide +kernel
theorem dX6_ahead_29 : decode cX6_ahead 29 = .ok (.iload_n 1, 1) := by decide +kernel
theorem dX6_ahead_30 : decode cX6_ahead 30 = .ok (.invokevirtual 137, 3) := by decide +kernel
theorem dX6_ahead_33 : decode cX6_ahead 33 = .ok (.ifCond .eq 28, 3) := by decide +kernel
theorem dX6_ahead_36 : decode cX6_ahead 36 = .ok (.iload 4, 2) := by decide +kernel
theorem dX6_ahead_38 : decode cX6_ahead 38 = .ok (.ifCond .eq 23, 3) := by decide +kernel
theorem dX6_ahead_41 : decode cX6_ahead 41 = .ok (.iload_n 3, 1) := by decide +kernel
theorem dX6_ahead_42 : decode cX6_ahead 42 = .ok (.iconst 0, 1) := by decide +kernel
theorem dX6_ahead_43 : decode cX6_ahead 43 = .ok (.bipush 100, 2) := by decide +kernel
theorem dX6_ahead_45 : decode cX6_ahead 45 = .ok (.invokestatic 70, 3) := by decide +kernel
theorem dX6_ahead_48 : decode cX6_ahead 48 = .ok (.ifCond .eq 13, 3) := by decide +kernel
theorem dX6_ahead_51 : decode cX6_ahead 51 = .ok (.aload_n 0, 1) := by decide +kernel
theorem dX6_ahead_52 : decode cX6_ahead 52 = .ok (.iload_n 1, 1) := by decide +kernel
theorem dX6_ahead_53 : decode cX6_ahead 53 = .ok (.iload_n 2, 1) := by decide +kernel
theorem dX6_ahead_54 : decode cX6_ahead 54 = .ok (.iload_n 3, 1) := by decide +kernel
theorem dX6_ahead_55 : decode cX6_ahead 55 = .ok (.invokevirtual 208, 3) := by decide +kernel
theorem dX6_ahead_58 : decode cX6_ahead 58 = .ok (.goto 9, 3) := by decide +kernel
theorem dX6_ahead_61 : decode cX6_ahead 61 = .ok (.aload_n 0, 1) := by decide +kernel
theorem dX6_ahead_62 : decode cX6_ahead 62 = .ok (.ldc 60, 2) := by decide +kernel
theorem dX6_ahead_64 : decode cX6_ahead 64 = .ok (.invokevirtual 66, 3) := by decide +kernel
theorem dX6_ahead_67 : decode cX6_ahead 67 = .ok (.ireturn, 1) := by decide +kernel
theorem dX6_left_0 : decode cX6_left 0 = .ok (.iload_n 1, 1) := by decide +kernel
theorem dX6_left_1 : decode cX6_left 1 = .ok (.iconst 0, 1) := by decide +kernel
theorem dX6_left_2 : decode cX6_left 2 = .ok (.bipush 100, 2) := by decide +kernel
theorem dX6_left_4 : decode cX6_left 4 = .ok (.invokestatic 70, 3) := by decide +kernel
theorem dX6_left_7 : decode cX6_left 7 = .ok (.ifCond .eq 12, 3) := by decide +kernel
theorem dX6_left_10 : decode cX6_left 10 = .ok (.aload_n 0, 1) := by decide +kernel
theorem dX6_left_11 : decode cX6_left 11 = .ok (.iconst 3, 1) := by decide +kernel
theorem dX6_left_12 : decode cX6_left 12 = .ok (.iload_n 1, 1) := by decide +kernel
theorem dX6_left_13 : decode cX6_left 13 = .ok (.invokevirtual 212, 3) := by decide +kernel
theorem dX6_left_16 : decode cX6_left 16 = .ok (.goto 9, 3) := by decide +kernel
theorem dX6_left_19 : decode cX6_left 19 = .ok (.aload_n 0, 1) := by decide +kernel
theorem dX6_left_20 : decode cX6_left 20 = .ok (.ldc 60, 2) := by decide +kernel
theorem dX6_left_22 : decode cX6_left 22 = .ok (.invokevirtual 66, 3) := by decide +kernel
theorem dX6_left_25 : decode cX6_left 25 = .ok (.ireturn, 1) := by decide +kernel
theorem dX6_when_0 : decode cX6_when 0 = .ok (.aload_n 0, 1) := by decide +kernel
theorem dX6_when_1 : decode cX6_when 1 = .ok (.iload_n 1, 1) := by decide +kernel
theorem dX6_when_2 : decode cX6_when 2 = .ok (.invokevirtual 137, 3) := by decide +kernel
theorem dX6_when_5 : decode cX6_when 5 = .ok (.ifCond .eq 10, 3) := by decide +kernel
theorem dX6_when_8 : decode cX6_when 8 = .ok (.iload_n 2, 1) := by decide +kernel
theorem dX6_when_9 : decode cX6_when 9 = .ok (.invokestatic 85, 3) := by decide +kernel
theorem dX6_when_12 : decode cX6_when 12 = .ok (.ifCond .ne 10, 3) := by decide +kernel
theorem dX6_when_15 : decode cX6_when 15 = .ok (.aload_n 0, 1) := by decide +kernel
theorem dX6_when_16 : decode cX6_when 16 = .ok (.ldc 60, 2) := by decide +kernel
theorem dX6_when_18 : decode cX6_when 18 = .ok (.invokevirtual 66, 3) := by decide +kernel
theorem dX6_when_21 : decode cX6_when 21 = .ok (.ireturn, 1) := by decide +kernel
theorem dX6_when_22 : decode cX6_when 22 = .ok (.aload_n 0, 1) := by decide +kernel
theorem dX6_when_23 : decode cX6_when 23 = .ok (.getfield 9, 3) := by decide +kernel
theorem dX6_when_26 : decode cX6_when 26 = .ok (.aload_n 0, 1) := by decide +kernel
theorem dX6_when_27 : decode cX6_when 27 = .ok (.getfield 16, 3) := by decide +kernel
theorem dX6_when_30 : decode cX6_when 30 = .ok (.invokestatic 61, 3) := by decide +kernel
theorem dX6_when_33 : decode cX6_when 33 = .ok (.iconst 0, 1) := by decide +kernel
theorem dX6_when_34 : decode cX6_when 34 = .ok (.istore_n 3, 1) := by decide +kernel
theorem dX6_when_35 : decode cX6_when 35 = .ok (.iload_n 3, 1) := by decide +kernel
theorem dX6_when_36 : decode cX6_when 36 = .ok (.sipush 200, 3) := by decide +kernel
theorem dX6_when_39 : decode cX6_when 39 = .ok (.if_icmp .ge 22, 3) := by decide +kernel
theorem dX6_when_42 : decode cX6_when 42 = .ok (.aload_n 0, 1) := by decide +kernel
theorem dX6_when_43 : decode cX6_when 43 = .ok (.iload_n 1, 1) := by decide +kernel
theorem dX6_when_44 : decode cX6_when 44 = .ok (.iload_n 2, 1) := by decide +kernel
theorem dX6_when_45 : decode cX6_when 45 = .ok (.invokevirtual 104, 3) := by decide +kernel
theorem dX6_when_48 : decode cX6_when 48 = .ok (.ifCond .ne 13, 3) := by decide +kernel
theorem dX6_when_51 : decode cX6_when 51 = .ok (.aload_n 0, 1) := by decide +kernel
theorem dX6_when_52 : decode cX6_when 52 = .ok (.invokevirtual 181, 3) := by decide +kernel
theorem dX6_when_55 : decode cX6_when 55 = .ok (.iinc 3 1, 3) := by decide +kernel
theorem dX6_when_58 : decode cX6_when 58 = .ok (.goto (-23), 3) := by decide +kernel
theorem dX6_when_61 : decode cX6_when 61 = .ok (.aload_n 0, 1) := by decide +kernel
theorem dX6_when_62 : decode cX6_when 62 = .ok (.aload_n 0, 1) := by decide +kernel
theorem dX6_when_63 : decode cX6_when 63 = .ok (.aload_n 0, 1) := by decide +kernel
theorem dX6_when_64 : decode cX6_when 64 = .ok (.iload_n 1, 1) := by decide +kernel
theorem dX6_when_65 : decode cX6_when 65 = .ok (.iload_n 2, 1) := by decide +kernel
theorem dX6_when_66 : decode cX6_when 66 = .ok (.invokevirtual 104, 3) := by decide +kernel
theorem dX6_when_69 : decode cX6_when 69 = .ok (.ifCond .eq 7, 3) := by decide +kernel
theorem dX6_when_72 : decode cX6_when 72 = .ok (.iload_n 3, 1) := by decide +kernel
theorem dX6_when_73 : decode cX6_when 73 = .ok (.goto 4, 3) := by decide +kernel
theorem dX6_when_76 : decode cX6_when 76 = .ok (.iconst (-1), 1) := by decide +kernel
theorem dX6_when_77 : decode cX6_when 77 = .ok (.invokevirtual 205, 3) := by decide +kernel
theorem dX6_when_80 : decode cX6_when 80 = .ok (.invokevirtual 155, 3) := by decide +kernel
theorem dX6_when_83 : decode cX6_when 83 = .ok (.ireturn, 1) := by decide +kernel
theorem dX6_leaves_0 : decode cX6_leaves 0 = .ok (.aload_n 0, 1) := by decide +kernel
theorem dX6_leaves_1 : decode cX6_leaves 1 = .ok (.iload_n 1, 1) := by decide +kernel
theorem dX6_leaves_2 : decode cX6_leaves 2 = .ok (.invokevirtual 137, 3) := by decide +kernel
theorem dX6_leaves_5 : decode cX6_leaves 5 = .ok (.ifCond .ne 10, 3) := by decide +kernel
theorem dX6_leaves_8 : decode cX6_leaves 8 = .ok (.aload_n 0, 1) := by decide +kernel
theorem dX6_leaves_9 : decode cX6_leaves 9 = .ok (.ldc 60, 2) := by decide +kernel
theorem dX6_leaves_11 : decode cX6_leaves 11 = .ok (.invokevirtual 66, 3) := by decide +kernel
theorem dX6_leaves_14 : decode cX6_leaves 14 = .ok (.ireturn, 1) := by decide +kernel
theorem dX6_leaves_15 : decode cX6_leaves 15 = .ok (.aload_n 0, 1) := by decide +kernel
theorem dX6_leaves_16 : decode cX6_leaves 16 = .ok (.getfield 9, 3) := by decide +kernel
theorem dX6_leaves_19 : decode cX6_leaves 19 = .ok (.aload_n 0, 1) := by decide +kernel
theorem dX6_leaves_20 : decode cX6_leaves 20 = .ok (.getfield 16, 3) := by decide +kernel
theorem dX6_leaves_23 : decode cX6_leaves 23 = .ok (.invokestatic 61, 3) := by decide +kernel
theorem dX6_leaves_26 : decode cX6_leaves 26 = .ok (.iconst 0, 1) := by decide +kernel
theorem dX6_leaves_27 : decode cX6_leaves 27 = .ok (.istore_n 2, 1) := by decide +kernel
theorem dX6_leaves_28 : decode cX6_leaves 28 = .ok (.iload_n 2, 1) := by decide +kernel
theorem dX6_leaves_29 : decode cX6_leaves 29 = .ok (.sipush 200, 3) := by decide +kernel
theorem dX6_leaves_32 : decode cX6_leaves 32 = .ok (.if_icmp .ge 21, 3) := by decide +kernel
theorem dX6_leaves_35 : decode cX6_leaves 35 = .ok (.aload_n 0, 1) := by decide +kernel
theorem dX6_leaves_36 : decode cX6_leaves 36 = .ok (.iload_n 1, 1) := by decide +kernel
theorem dX6_leaves_37 : decode cX6_leaves 37 = .ok (.invokevirtual 149, 3) := by decide +kernel
theorem dX6_leaves_40 : decode cX6_leaves 40 = .ok (.ifCond .ne 13, 3) := by decide +kernel
theorem dX6_leaves_43 : decode cX6_leaves 43 = .ok (.aload_n 0, 1) := by decide +kernel
theorem dX6_leaves_44 : decode cX6_leaves 44 = .ok (.invokevirtual 181, 3) := by decide +kernel
theorem dX6_leaves_47 : decode cX6_leaves 47 = .ok (.iinc 2 1, 3) := by decide +kernel
theorem dX6_leaves_50 : decode cX6_leaves 50 = .ok (.goto (-22), 3) := by decide +kernel
theorem dX6_leaves_53 : decode cX6_leaves 53 = .ok (.aload_n 0, 1) := by decide +kernel
theorem dX6_leaves_54 : decode cX6_leaves 54 = .ok (.aload_n 0, 1) := by decide +kernel
theorem dX6_leaves_55 : decode cX6_leaves 55 = .ok (.aload_n 0, 1) := by decide +kernel
theorem dX6_leaves_56 : decode cX6_leaves 56 = .ok (.iload_n 1, 1) := by decide +kernel
theorem dX6_leaves_57 : decode cX6_leaves 57 = .ok (.invokevirtual 149, 3) := by decide +kernel
theorem dX6_leaves_60 : decode cX6_leaves 60 = .ok (.ifCond .eq 7, 3) := by decide +kernel
theorem dX6_leaves_63 : decode cX6_leaves 63 = .ok (.iload_n 2, 1) := by decide +kernel
theorem dX6_leaves_64 : decode cX6_leaves 64 = .ok (.goto 4, 3) := by decide +kernel
theorem dX6_leaves_67 : decode cX6_leaves 67 = .ok (.iconst (-1), 1) := by decide +kernel
theorem dX6_leaves_68 : decode cX6_leaves 68 = .ok (.invokevirtual 205, 3) := by decide +kernel
theorem dX6_leaves_71 : decode cX6_leaves 71 = .ok (.invokevirtual 155, 3) := by decide +kernel
theorem dX6_leaves_74 : decode cX6_leaves 74 = .ok (.ireturn, 1) := by decide +kernel
theorem dX6_voice_0 : decode cX6_voice 0 = .ok (.aload_n 0, 1) := by decide +kernel
theorem dX6_voice_1 : decode cX6_voice 1 = .ok (.iload_n 1, 1) := by decide +kernel
theorem dX6_voice_2 : decode cX6_voice 2 = .ok (.invokevirtual 137, 3) := by decide +kernel
theorem dX6_voice_5 : decode cX6_voice 5 = .ok (.ifCond .eq 14, 3) := by decide +kernel
theorem dX6_voice_8 : decode cX6_voice 8 = .ok (.iload_n 2, 1) := by decide +kernel
theorem dX6_voice_9 : decode cX6_voice 9 = .ok (.iconst 0, 1) := by decide +kernel
theorem dX6_voice_10 : decode cX6_voice 10 = .ok (.sipush 9999, 3) := by decide +kernel
theorem dX6_voice_13 : decode cX6_voice 13 = .ok (.invokestatic 70, 3) := by decide +kernel
theorem dX6_voice_16 : decode cX6_voice 16 = .ok (.ifCond .ne 10, 3) := by decide +kernel
theorem dX6_voice_19 : decode cX6_voice 19 = .ok (.aload_n 0, 1) := by decide +kernel
theorem dX6_voice_20 : decode cX6_voice 20 = .ok (.ldc 60, 2) := by decide +kernel
theorem dX6_voice_22 : decode cX6_voice 22 = .ok (.invokevirtual 66, 3) := by decide +kernel
theorem dX6_voice_25 : decode cX6_voice 25 = .ok (.ireturn, 1) := by decide +kernel
theorem dX6_voice_26 : decode cX6_voice 26 = .ok (.aload_n 0, 1) := by decide +kernel
theorem dX6_voice_27 : decode cX6_voice 27 = .ok (.getfield 9, 3) := by decide +kernel
theorem dX6_voice_30 : decode cX6_voice 30 = .ok (.aload_n 0, 1) := by decide +kernel
theorem dX6_voice_31 : decode cX6_voice 31 = .ok (.getfield 16, 3) := by decide +kernel
theorem dX6_voice_34 : decode cX6_voice 34 = .ok (.invokestatic 61, 3) := by decide +kernel
theorem dX6_voice_37 : decode cX6_voice 37 = .ok (.iconst 0, 1) := by decide +kernel
theorem dX6_voice_38 : decode cX6_voice 38 = .ok (.istore_n 3, 1) := by decide +kernel
theorem dX6_voice_39 : decode cX6_voice 39 = .ok (.iload_n 3, 1) := by decide +kernel
theorem dX6_voice_40 : decode cX6_voice 40 = .ok (.sipush 200, 3) := by decide +kernel
theorem dX6_voice_43 : decode cX6_voice 43 = .ok (.if_icmp .ge 22, 3) := by decide +kernel
theorem dX6_voice_46 : decode cX6_voice 46 = .ok (.aload_n 0, 1) := by decide +kernel
theorem dX6_voice_47 : decode cX6_voice 47 = .ok (.iload_n 1, 1) := by decide +kernel
theorem dX6_voice_48 : decode cX6_voice 48 = .ok (.invokevirtual 134, 3) := by decide +kernel
theorem dX6_voice_51 : decode cX6_voice 51 = .ok (.iload_n 2, 1) := by decide +kernel
theorem dX6_voice_52 : decode cX6_voice 52 = .ok (.if_icmp .ge 13, 3) := by decide +kernel
theorem dX6_voice_55 : decode cX6_voice 55 = .ok (.aload_n 0, 1) := by decide +kernel
theorem dX6_voice_56 : decode cX6_voice 56 = .ok (.invokevirtual 181, 3) := by decide +kernel
theorem dX6_voice_59 : decode cX6_voice 59 = .ok (.iinc 3 1, 3) := by decide +kernel
theorem dX6_voice_62 : decode cX6_voice 62 = .ok (.goto (-23), 3) := by decide +kernel
theorem dX6_voice_65 : decode cX6_voice 65 = .ok (.aload_n 0, 1) := by decide +kernel
theorem dX6_voice_66 : decode cX6_voice 66 = .ok (.aload_n 0, 1) := by decide +kernel
theorem dX6_voice_67 : decode cX6_voice 67 = .ok (.aload_n 0, 1) := by decide +kernel
theorem dX6_voice_68 : decode cX6_voice 68 = .ok (.iload_n 1, 1) := by decide +kernel
theorem dX6_voice_69 : decode cX6_voice 69 = .ok (.invokevirtual 134, 3) := by decide +kernel
theorem dX6_voice_72 : decode cX6_voice 72 = .ok (.iload_n 2, 1) := by decide +kernel
theorem dX6_voice_73 : decode cX6_voice 73 = .ok (.if_icmp .ge 7, 3) := by decide +kernel
theorem dX6_voice_76 : decode cX6_voice 76 = .ok (.iconst (-1), 1) := by decide +kernel
theorem dX6_voice_77 : decode cX6_voice 77 = .ok (.goto 4, 3) := by decide +kernel
theorem dX6_voice_80 : decode cX6_voice 80 = .ok (.iload_n 3, 1) := by decide +kernel
theorem dX6_voice_81 : decode cX6_voice 81 = .ok (.invokevirtual 205, 3) := by decide +kernel
theorem dX6_voice_84 : decode cX6_voice 84 = .ok (.invokevirtual 155, 3) := by decide +kernel
theorem dX6_voice_87 : decode cX6_voice 87 = .ok (.ireturn, 1) := by decide +kernel
theorem dX6_isThought_0 : decode cX6_isThought 0 = .ok (.iload_n 0, 1) := by decide +kernel
theorem dX6_isThought_1 : decode cX6_isThought 1 = .ok (.iconst 0, 1) := by decide +kernel
theorem dX6_isThought_2 : decode cX6_isThought 2 = .ok (.bipush 60, 2) := by decide +kernel
theorem dX6_isThought_4 : decode cX6_isThought 4 = .ok (.invokestatic 70, 3) := by decide +kernel
theorem dX6_isThought_7 : decode cX6_isThought 7 = .ok (.ireturn, 1) := by decide +kernel
theorem dX6_orderFor_0 : decode cX6_orderFor 0 = .ok (.iload_n 1, 1) := by decide +kernel
theorem dX6_orderFor_1 : decode cX6_orderFor 1 = .ok (.invokestatic 74, 3) := by decide +kernel
theorem dX6_orderFor_4 : decode cX6_orderFor 4 = .ok (.ifCond .eq 18, 3) := by decide +kernel
theorem dX6_orderFor_7 : decode cX6_orderFor 7 = .ok (.aload_n 0, 1) := by decide +kernel
theorem dX6_orderFor_8 : decode cX6_orderFor 8 = .ok (.iload_n 2, 1) := by decide +kernel
theorem dX6_orderFor_9 : decode cX6_orderFor 9 = .ok (.invokevirtual 137, 3) := by decide +kernel
theorem dX6_orderFor_12 : decode cX6_orderFor 12 = .ok (.ifCond .eq 10, 3) := by decide +kernel
theorem dX6_orderFor_15 : decode cX6_orderFor 15 = .ok (.iload_n 3, 1) := by decide +kernel
theorem dX6_orderFor_16 : decode cX6_orderFor 16 = .ok (.invokestatic 215, 3) := by decide +kernel
theorem dX6_orderFor_19 : decode cX6_orderFor 19 = .ok (.ifCond .ne 10, 3) := by decide +kernel
theorem dX6_orderFor_22 : decode cX6_orderFor 22 = .ok (.aload_n 0, 1) := by decide +kernel
theorem dX6_orderFor_23 : decode cX6_orderFor 23 = .ok (.ldc 60, 2) := by decide +kernel
theorem dX6_orderFor_25 : decode cX6_orderFor 25 = .ok (.invokevirtual 66, 3) := by decide +kernel
theorem dX6_orderFor_28 : decode cX6_orderFor 28 = .ok (.ireturn, 1) := by decide +kernel
theorem dX6_orderFor_29 : decode cX6_orderFor 29 = .ok (.aload_n 0, 1) := by decide +kernel
theorem dX6_orderFor_30 : decode cX6_orderFor 30 = .ok (.getfield 9, 3) := by decide +kernel
theorem dX6_orderFor_33 : decode cX6_orderFor 33 = .ok (.iconst 4, 1) := by decide +kernel
theorem dX6_orderFor_34 : decode cX6_orderFor 34 = .ok (.iload_n 1, 1) := by decide +kernel
theorem dX6_orderFor_35 : decode cX6_orderFor 35 = .ok (.iadd, 1) := by decide +kernel
theorem dX6_orderFor_36 : decode cX6_orderFor 36 = .ok (.iaload, 1) := by decide +kernel
theorem dX6_orderFor_37 : decode cX6_orderFor 37 = .ok (.istore 4, 2) := by decide +kernel
theorem dX6_orderFor_39 : decode cX6_orderFor 39 = .ok (.iconst 0, 1) := by decide +kernel
theorem dX6_orderFor_40 : decode cX6_orderFor 40 = .ok (.istore 5, 2) := by decide +kernel
theorem dX6_orderFor_42 : decode cX6_orderFor 42 = .ok (.iconst (-1), 1) := by decide +kernel
theorem dX6_orderFor_43 : decode cX6_orderFor 43 = .ok (.istore 6, 2) := by decide +kernel
theorem dX6_orderFor_45 : decode cX6_orderFor 45 = .ok (.iconst 0, 1) := by decide +kernel
theorem dX6_orderFor_46 : decode cX6_orderFor 46 = .ok (.istore 7, 2) := by decide +kernel
theorem dX6_orderFor_48 : decode cX6_orderFor 48 = .ok (.iload 7, 2) := by decide +kernel
theorem dX6_orderFor_50 : decode cX6_orderFor 50 = .ok (.bipush 12, 2) := by decide +kernel
theorem dX6_orderFor_52 : decode cX6_orderFor 52 = .ok (.if_icmp .ge 49, 3) := by decide +kernel
theorem dX6_orderFor_55 : decode cX6_orderFor 55 = .ok (.aload_n 0, 1) := by decide +kernel
theorem dX6_orderFor_56 : decode cX6_orderFor 56 = .ok (.getfield 9, 3) := by decide +kernel
theorem dX6_orderFor_59 : decode cX6_orderFor 59 = .ok (.iconst 4, 1) := by decide +kernel
theorem dX6_orderFor_60 : decode cX6_orderFor 60 = .ok (.iload_n 1, 1) := by decide +kernel
theorem dX6_orderFor_61 : decode cX6_orderFor 61 = .ok (.iadd, 1) := by decide +kernel
theorem dX6_orderFor_62 : decode cX6_orderFor 62 = .ok (.iload 7, 2) := by decide +kernel
theorem dX6_orderFor_64 : decode cX6_orderFor 64 = .ok (.iastore, 1) := by decide +kernel
theorem dX6_orderFor_65 : decode cX6_orderFor 65 = .ok (.aload_n 0, 1) := by decide +kernel
theorem dX6_orderFor_66 : decode cX6_orderFor 66 = .ok (.iload_n 2, 1) := by decide +kernel
theorem dX6_orderFor_67 : decode cX6_orderFor 67 = .ok (.iconst 2, 1) := by decide +kernel
theorem dX6_orderFor_68 : decode cX6_orderFor 68 = .ok (.invokestatic 88, 3) := by decide +kernel
theorem dX6_orderFor_71 : decode cX6_orderFor 71 = .ok (.iload_n 3, 1) := by decide +kernel
theorem dX6_orderFor_72 : decode cX6_orderFor 72 = .ok (.invokevirtual 212, 3) := by decide +kernel
theorem dX6_orderFor_75 : decode cX6_orderFor 75 = .ok (.invokestatic 111, 3) := by decide +kernel
theorem dX6_orderFor_78 : decode cX6_orderFor 78 = .ok (.istore 8, 2) := by decide +kernel
theorem dX6_orderFor_80 : decode cX6_orderFor 80 = .ok (.iload 8, 2) := by decide +kernel
theorem dX6_orderFor_82 : decode cX6_orderFor 82 = .ok (.iload 6, 2) := by decide +kernel
theorem dX6_orderFor_84 : decode cX6_orderFor 84 = .ok (.if_icmp .le 11, 3) := by decide +kernel
theorem dX6_orderFor_87 : decode cX6_orderFor 87 = .ok (.iload 7, 2) := by decide +kernel
theorem dX6_orderFor_89 : decode cX6_orderFor 89 = .ok (.istore 5, 2) := by decide +kernel
theorem dX6_orderFor_91 : decode cX6_orderFor 91 = .ok (.iload 8, 2) := by decide +kernel
theorem dX6_orderFor_93 : decode cX6_orderFor 93 = .ok (.istore 6, 2) := by decide +kernel
theorem dX6_orderFor_95 : decode cX6_orderFor 95 = .ok (.iinc 7 1, 3) := by decide +kernel
theorem dX6_orderFor_98 : decode cX6_orderFor 98 = .ok (.goto (-50), 3) := by decide +kernel
theorem dX6_orderFor_101 : decode cX6_orderFor 101 = .ok (.aload_n 0, 1) := by decide +kernel
theorem dX6_orderFor_102 : decode cX6_orderFor 102 = .ok (.getfield 9, 3) := by decide +kernel
theorem dX6_orderFor_105 : decode cX6_orderFor 105 = .ok (.iconst 4, 1) := by decide +kernel
theorem dX6_orderFor_106 : decode cX6_orderFor 106 = .ok (.iload_n 1, 1) := by decide +kernel
theorem dX6_orderFor_107 : decode cX6_orderFor 107 = .ok (.iadd, 1) := by decide +kernel
theorem dX6_orderFor_108 : decode cX6_orderFor 108 = .ok (.iload 4, 2) := by decide +kernel
theorem dX6_orderFor_110 : decode cX6_orderFor 110 = .ok (.iastore, 1) := by decide +kernel
theorem dX6_orderFor_111 : decode cX6_orderFor 111 = .ok (.iload 5, 2) := by decide +kernel
theorem dX6_orderFor_113 : decode cX6_orderFor 113 = .ok (.ireturn, 1) := by decide +kernel
theorem dX6_dateFor_0 : decode cX6_dateFor 0 = .ok (.aload_n 0, 1) := by decide +kernel
theorem dX6_dateFor_1 : decode cX6_dateFor 1 = .ok (.iload_n 1, 1) := by decide +kernel
theorem dX6_dateFor_2 : decode cX6_dateFor 2 = .ok (.invokevirtual 137, 3) := by decide +kernel
theorem dX6_dateFor_5 : decode cX6_dateFor 5 = .ok (.ifCond .eq 20, 3) := by decide +kernel
theorem dX6_dateFor_8 : decode cX6_dateFor 8 = .ok (.iload_n 2, 1) := by decide +kernel
theorem dX6_dateFor_9 : decode cX6_dateFor 9 = .ok (.invokestatic 85, 3) := by decide +kernel
theorem dX6_dateFor_12 : decode cX6_dateFor 12 = .ok (.ifCond .eq 13, 3) := by decide +kernel
theorem dX6_dateFor_15 : decode cX6_dateFor 15 = .ok (.iload_n 3, 1) := by decide +kernel
theorem dX6_dateFor_16 : decode cX6_dateFor 16 = .ok (.iconst 0, 1) := by decide +kernel
theorem dX6_dateFor_17 : decode cX6_dateFor 17 = .ok (.bipush 12, 2) := by decide +kernel
theorem dX6_dateFor_19 : decode cX6_dateFor 19 = .ok (.invokestatic 70, 3) := by decide +kernel
theorem dX6_dateFor_22 : decode cX6_dateFor 22 = .ok (.ifCond .ne 10, 3) := by decide +kernel
theorem dX6_dateFor_25 : decode cX6_dateFor 25 = .ok (.aload_n 0, 1) := by decide +kernel
theorem dX6_dateFor_26 : decode cX6_dateFor 26 = .ok (.ldc 60, 2) := by decide +kernel
theorem dX6_dateFor_28 : decode cX6_dateFor 28 = .ok (.invokevirtual 66, 3) := by decide +kernel
theorem dX6_dateFor_31 : decode cX6_dateFor 31 = .ok (.ireturn, 1) := by decide +kernel
theorem dX6_dateFor_32 : decode cX6_dateFor 32 = .ok (.iload_n 1, 1) := by decide +kernel
theorem dX6_dateFor_33 : decode cX6_dateFor 33 = .ok (.iconst 1, 1) := by decide +kernel
theorem dX6_dateFor_34 : decode cX6_dateFor 34 = .ok (.invokestatic 88, 3) := by decide +kernel
theorem dX6_dateFor_37 : decode cX6_dateFor 37 = .ok (.istore 4, 2) := by decide +kernel
theorem dX6_dateFor_39 : decode cX6_dateFor 39 = .ok (.aload_n 0, 1) := by decide +kernel
theorem dX6_dateFor_40 : decode cX6_dateFor 40 = .ok (.getfield 9, 3) := by decide +kernel
theorem dX6_dateFor_43 : decode cX6_dateFor 43 = .ok (.iload 4, 2) := by decide +kernel
theorem dX6_dateFor_45 : decode cX6_dateFor 45 = .ok (.iaload, 1) := by decide +kernel
theorem dX6_dateFor_46 : decode cX6_dateFor 46 = .ok (.istore 5, 2) := by decide +kernel
theorem dX6_dateFor_48 : decode cX6_dateFor 48 = .ok (.iconst (-1), 1) := by decide +kernel
theorem dX6_dateFor_49 : decode cX6_dateFor 49 = .ok (.istore 6, 2) := by decide +kernel
theorem dX6_dateFor_51 : decode cX6_dateFor 51 = .ok (.sipush 999, 3) := by decide +kernel
theorem dX6_dateFor_54 : decode cX6_dateFor 54 = .ok (.istore 7, 2) := by decide +kernel
theorem dX6_dateFor_56 : decode cX6_dateFor 56 = .ok (.iload 7, 2) := by decide +kernel
theorem dX6_dateFor_58 : decode cX6_dateFor 58 = .ok (.ifCond .lt 49, 3) := by decide +kernel
theorem dX6_dateFor_61 : decode cX6_dateFor 61 = .ok (.iload 6, 2) := by decide +kernel
theorem dX6_dateFor_63 : decode cX6_dateFor 63 = .ok (.ifCond .ge 44, 3) := by decide +kernel
theorem dX6_dateFor_66 : decode cX6_dateFor 66 = .ok (.aload_n 0, 1) := by decide +kernel
theorem dX6_dateFor_67 : decode cX6_dateFor 67 = .ok (.getfield 9, 3) := by decide +kernel
theorem dX6_dateFor_70 : decode cX6_dateFor 70 = .ok (.iload 4, 2) := by decide +kernel
theorem dX6_dateFor_72 : decode cX6_dateFor 72 = .ok (.iload 7, 2) := by decide +kernel
theorem dX6_dateFor_74 : decode cX6_dateFor 74 = .ok (.iastore, 1) := by decide +kernel
theorem dX6_dateFor_75 : decode cX6_dateFor 75 = .ok (.aload_n 0, 1) := by decide +kernel
theorem dX6_dateFor_76 : decode cX6_dateFor 76 = .ok (.iload_n 1, 1) := by decide +kernel
theorem dX6_dateFor_77 : decode cX6_dateFor 77 = .ok (.iconst 2, 1) := by decide +kernel
theorem dX6_dateFor_78 : decode cX6_dateFor 78 = .ok (.invokestatic 88, 3) := by decide +kernel
theorem dX6_dateFor_81 : decode cX6_dateFor 81 = .ok (.iload_n 3, 1) := by decide +kernel
theorem dX6_dateFor_82 : decode cX6_dateFor 82 = .ok (.invokevirtual 212, 3) := by decide +kernel
theorem dX6_dateFor_85 : decode cX6_dateFor 85 = .ok (.iload_n 2, 1) := by decide +kernel
theorem dX6_dateFor_86 : decode cX6_dateFor 86 = .ok (.ishr, 1) := by decide +kernel
theorem dX6_dateFor_87 : decode cX6_dateFor 87 = .ok (.iconst 1, 1) := by decide +kernel
theorem dX6_dateFor_88 : decode cX6_dateFor 88 = .ok (.iand, 1) := by decide +kernel
theorem dX6_dateFor_89 : decode cX6_dateFor 89 = .ok (.iconst 1, 1) := by decide +kernel
theorem dX6_dateFor_90 : decode cX6_dateFor 90 = .ok (.if_icmp .ne 8, 3) := by decide +kernel
theorem dX6_dateFor_93 : decode cX6_dateFor 93 = .ok (.iload 7, 2) := by decide +kernel
theorem dX6_dateFor_95 : decode cX6_dateFor 95 = .ok (.goto 4, 3) := by decide +kernel
theorem dX6_dateFor_98 : decode cX6_dateFor 98 = .ok (.iconst (-1), 1) := by decide +kernel
theorem dX6_dateFor_99 : decode cX6_dateFor 99 = .ok (.istore 6, 2) := by decide +kernel
theorem dX6_dateFor_101 : decode cX6_dateFor 101 = .ok (.iinc 7 (-1), 3) := by decide +kernel
theorem dX6_dateFor_104 : decode cX6_dateFor 104 = .ok (.goto (-48), 3) := by decide +kernel
theorem dX6_dateFor_107 : decode cX6_dateFor 107 = .ok (.aload_n 0, 1) := by decide +kernel
theorem dX6_dateFor_108 : decode cX6_dateFor 108 = .ok (.getfield 9, 3) := by decide +kernel
theorem dX6_dateFor_111 : decode cX6_dateFor 111 = .ok (.iload 4, 2) := by decide +kernel
theorem dX6_dateFor_113 : decode cX6_dateFor 113 = .ok (.iload 5, 2) := by decide +kernel
theorem dX6_dateFor_115 : decode cX6_dateFor 115 = .ok (.iastore, 1) := by decide +kernel
theorem dX6_dateFor_116 : decode cX6_dateFor 116 = .ok (.aload_n 0, 1) := by decide +kernel
theorem dX6_dateFor_117 : decode cX6_dateFor 117 = .ok (.iload 6, 2) := by decide +kernel
theorem dX6_dateFor_119 : decode cX6_dateFor 119 = .ok (.invokevirtual 155, 3) := by decide +kernel
theorem dX6_dateFor_122 : decode cX6_dateFor 122 = .ok (.ireturn, 1) := by decide +kernel
theorem dX6_kindFor_0 : decode cX6_kindFor 0 = .ok (.aload_n 0, 1) := by decide +kernel
theorem dX6_kindFor_1 : decode cX6_kindFor 1 = .ok (.iload_n 1, 1) := by decide +kernel
theorem dX6_kindFor_2 : decode cX6_kindFor 2 = .ok (.invokevirtual 137, 3) := by decide +kernel
theorem dX6_kindFor_5 : decode cX6_kindFor 5 = .ok (.ifCond .eq 10, 3) := by decide +kernel
theorem dX6_kindFor_8 : decode cX6_kindFor 8 = .ok (.iload_n 2, 1) := by decide +kernel
theorem dX6_kindFor_9 : decode cX6_kindFor 9 = .ok (.invokestatic 215, 3) := by decide +kernel
theorem dX6_kindFor_12 : decode cX6_kindFor 12 = .ok (.ifCond .ne 10, 3) := by decide +kernel
theorem dX6_kindFor_15 : decode cX6_kindFor 15 = .ok (.aload_n 0, 1) := by decide +kernel
theorem dX6_kindFor_16 : decode cX6_kindFor 16 = .ok (.ldc 60, 2) := by decide +kernel
theorem dX6_kindFor_18 : decode cX6_kindFor 18 = .ok (.invokevirtual 66, 3) := by decide +kernel
theorem dX6_kindFor_21 : decode cX6_kindFor 21 = .ok (.ireturn, 1) := by decide +kernel
theorem dX6_kindFor_22 : decode cX6_kindFor 22 = .ok (.iload_n 1, 1) := by decide +kernel
theorem dX6_kindFor_23 : decode cX6_kindFor 23 = .ok (.iconst 0, 1) := by decide +kernel
theorem dX6_kindFor_24 : decode cX6_kindFor 24 = .ok (.invokestatic 88, 3) := by decide +kernel
theorem dX6_kindFor_27 : decode cX6_kindFor 27 = .ok (.istore_n 3, 1) := by decide +kernel
theorem dX6_kindFor_28 : decode cX6_kindFor 28 = .ok (.aload_n 0, 1) := by decide +kernel
theorem dX6_kindFor_29 : decode cX6_kindFor 29 = .ok (.getfield 9, 3) := by decide +kernel
theorem dX6_kindFor_32 : decode cX6_kindFor 32 = .ok (.iload_n 3, 1) := by decide +kernel
theorem dX6_kindFor_33 : decode cX6_kindFor 33 = .ok (.iaload, 1) := by decide +kernel
theorem dX6_kindFor_34 : decode cX6_kindFor 34 = .ok (.istore 4, 2) := by decide +kernel
theorem dX6_kindFor_36 : decode cX6_kindFor 36 = .ok (.iconst 0, 1) := by decide +kernel
theorem dX6_kindFor_37 : decode cX6_kindFor 37 = .ok (.istore 5, 2) := by decide +kernel
theorem dX6_kindFor_39 : decode cX6_kindFor 39 = .ok (.iconst (-1), 1) := by decide +kernel
theorem dX6_kindFor_40 : decode cX6_kindFor 40 = .ok (.istore 6, 2) := by decide +kernel
theorem dX6_kindFor_42 : decode cX6_kindFor 42 = .ok (.iconst 0, 1) := by decide +kernel
theorem dX6_kindFor_43 : decode cX6_kindFor 43 = .ok (.istore 7, 2) := by decide +kernel
theorem dX6_kindFor_45 : decode cX6_kindFor 45 = .ok (.iload 7, 2) := by decide +kernel
theorem dX6_kindFor_47 : decode cX6_kindFor 47 = .ok (.bipush 6, 2) := by decide +kernel
theorem dX6_kindFor_49 : decode cX6_kindFor 49 = .ok (.if_icmp .gt 42, 3) := by decide +kernel
theorem dX6_kindFor_52 : decode cX6_kindFor 52 = .ok (.aload_n 0, 1) := by decide +kernel
theorem dX6_kindFor_53 : decode cX6_kindFor 53 = .ok (.getfield 9, 3) := by decide +kernel
theorem dX6_kindFor_56 : decode cX6_kindFor 56 = .ok (.iload_n 3, 1) := by decide +kernel
theorem dX6_kindFor_57 : decode cX6_kindFor 57 = .ok (.iload 7, 2) := by decide +kernel
theorem dX6_kindFor_59 : decode cX6_kindFor 59 = .ok (.iastore, 1) := by decide +kernel
theorem dX6_kindFor_60 : decode cX6_kindFor 60 = .ok (.aload_n 0, 1) := by decide +kernel
theorem dX6_kindFor_61 : decode cX6_kindFor 61 = .ok (.iload_n 1, 1) := by decide +kernel
theorem dX6_kindFor_62 : decode cX6_kindFor 62 = .ok (.bipush 10, 2) := by decide +kernel
theorem dX6_kindFor_64 : decode cX6_kindFor 64 = .ok (.iload_n 2, 1) := by decide +kernel
theorem dX6_kindFor_65 : decode cX6_kindFor 65 = .ok (.invokevirtual 208, 3) := by decide +kernel
theorem dX6_kindFor_68 : decode cX6_kindFor 68 = .ok (.istore 8, 2) := by decide +kernel
theorem dX6_kindFor_70 : decode cX6_kindFor 70 = .ok (.iload 8, 2) := by decide +kernel
theorem dX6_kindFor_72 : decode cX6_kindFor 72 = .ok (.iload 6, 2) := by decide +kernel
theorem dX6_kindFor_74 : decode cX6_kindFor 74 = .ok (.if_icmp .le 11, 3) := by decide +kernel
theorem dX6_kindFor_77 : decode cX6_kindFor 77 = .ok (.iload 7, 2) := by decide +kernel
theorem dX6_kindFor_79 : decode cX6_kindFor 79 = .ok (.istore 5, 2) := by decide +kernel
theorem dX6_kindFor_81 : decode cX6_kindFor 81 = .ok (.iload 8, 2) := by decide +kernel
theorem dX6_kindFor_83 : decode cX6_kindFor 83 = .ok (.istore 6, 2) := by decide +kernel
theorem dX6_kindFor_85 : decode cX6_kindFor 85 = .ok (.iinc 7 1, 3) := by decide +kernel
theorem dX6_kindFor_88 : decode cX6_kindFor 88 = .ok (.goto (-43), 3) := by decide +kernel
theorem dX6_kindFor_91 : decode cX6_kindFor 91 = .ok (.aload_n 0, 1) := by decide +kernel
theorem dX6_kindFor_92 : decode cX6_kindFor 92 = .ok (.getfield 9, 3) := by decide +kernel
theorem dX6_kindFor_95 : decode cX6_kindFor 95 = .ok (.iload_n 3, 1) := by decide +kernel
theorem dX6_kindFor_96 : decode cX6_kindFor 96 = .ok (.iload 4, 2) := by decide +kernel
theorem dX6_kindFor_98 : decode cX6_kindFor 98 = .ok (.iastore, 1) := by decide +kernel
theorem dX6_kindFor_99 : decode cX6_kindFor 99 = .ok (.iload 5, 2) := by decide +kernel
theorem dX6_kindFor_101 : decode cX6_kindFor 101 = .ok (.ireturn, 1) := by decide +kernel
theorem dX6_leadsTo_0 : decode cX6_leadsTo 0 = .ok (.iload_n 2, 1) := by decide +kernel
theorem dX6_leadsTo_1 : decode cX6_leadsTo 1 = .ok (.iconst 2, 1) := by decide +kernel
theorem dX6_leadsTo_2 : decode cX6_leadsTo 2 = .ok (.invokestatic 88, 3) := by decide +kernel
theorem dX6_leadsTo_5 : decode cX6_leadsTo 5 = .ok (.istore 4, 2) := by decide +kernel
theorem dX6_leadsTo_7 : decode cX6_leadsTo 7 = .ok (.aload_n 0, 1) := by decide +kernel
theorem dX6_leadsTo_8 : decode cX6_leadsTo 8 = .ok (.getfield 9, 3) := by decide +kernel
theorem dX6_leadsTo_11 : decode cX6_leadsTo 11 = .ok (.iload 4, 2) := by decide +kernel
theorem dX6_leadsTo_13 : decode cX6_leadsTo 13 = .ok (.iaload, 1) := by decide +kernel
theorem dX6_leadsTo_14 : decode cX6_leadsTo 14 = .ok (.istore 5, 2) := by decide +kernel
theorem dX6_leadsTo_16 : decode cX6_leadsTo 16 = .ok (.iconst 0, 1) := by decide +kernel
theorem dX6_leadsTo_17 : decode cX6_leadsTo 17 = .ok (.istore 6, 2) := by decide +kernel
theorem dX6_leadsTo_19 : decode cX6_leadsTo 19 = .ok (.iload 6, 2) := by decide +kernel
theorem dX6_leadsTo_21 : decode cX6_leadsTo 21 = .ok (.bipush 12, 2) := by decide +kernel
theorem dX6_leadsTo_23 : decode cX6_leadsTo 23 = .ok (.if_icmp .ge 37, 3) := by decide +kernel
theorem dX6_leadsTo_26 : decode cX6_leadsTo 26 = .ok (.iload_n 1, 1) := by decide +kernel
theorem dX6_leadsTo_27 : decode cX6_leadsTo 27 = .ok (.iload 6, 2) := by decide +kernel
theorem dX6_leadsTo_29 : decode cX6_leadsTo 29 = .ok (.ishr, 1) := by decide +kernel
theorem dX6_leadsTo_30 : decode cX6_leadsTo 30 = .ok (.iconst 1, 1) := by decide +kernel
theorem dX6_leadsTo_31 : decode cX6_leadsTo 31 = .ok (.iand, 1) := by decide +kernel
theorem dX6_leadsTo_32 : decode cX6_leadsTo 32 = .ok (.iconst 1, 1) := by decide +kernel
theorem dX6_leadsTo_33 : decode cX6_leadsTo 33 = .ok (.if_icmp .ne 21, 3) := by decide +kernel
theorem dX6_leadsTo_36 : decode cX6_leadsTo 36 = .ok (.aload_n 0, 1) := by decide +kernel
theorem dX6_leadsTo_37 : decode cX6_leadsTo 37 = .ok (.iload_n 2, 1) := by decide +kernel
theorem dX6_leadsTo_38 : decode cX6_leadsTo 38 = .ok (.iload 6, 2) := by decide +kernel
theorem dX6_leadsTo_40 : decode cX6_leadsTo 40 = .ok (.invokevirtual 146, 3) := by decide +kernel
theorem dX6_leadsTo_43 : decode cX6_leadsTo 43 = .ok (.ifCond .eq 11, 3) := by decide +kernel
theorem dX6_leadsTo_46 : decode cX6_leadsTo 46 = .ok (.aload_n 0, 1) := by decide +kernel
theorem dX6_leadsTo_47 : decode cX6_leadsTo 47 = .ok (.iload_n 2, 1) := by decide +kernel
theorem dX6_leadsTo_48 : decode cX6_leadsTo 48 = .ok (.iload 6, 2) := by decide +kernel
theorem dX6_leadsTo_50 : decode cX6_leadsTo 50 = .ok (.invokevirtual 159, 3) := by decide +kernel
theorem dX6_leadsTo_53 : decode cX6_leadsTo 53 = .ok (.pop, 1) := by decide +kernel
theorem dX6_leadsTo_54 : decode cX6_leadsTo 54 = .ok (.iinc 6 1, 3) := by decide +kernel
theorem dX6_leadsTo_57 : decode cX6_leadsTo 57 = .ok (.goto (-38), 3) := by decide +kernel
theorem dX6_leadsTo_60 : decode cX6_leadsTo 60 = .ok (.aload_n 0, 1) := by decide +kernel
theorem dX6_leadsTo_61 : decode cX6_leadsTo 61 = .ok (.iload_n 2, 1) := by decide +kernel
theorem dX6_leadsTo_62 : decode cX6_leadsTo 62 = .ok (.iload_n 3, 1) := by decide +kernel
theorem dX6_leadsTo_63 : decode cX6_leadsTo 63 = .ok (.invokevirtual 104, 3) := by decide +kernel
theorem dX6_leadsTo_66 : decode cX6_leadsTo 66 = .ok (.istore 6, 2) := by decide +kernel
theorem dX6_leadsTo_68 : decode cX6_leadsTo 68 = .ok (.aload_n 0, 1) := by decide +kernel
theorem dX6_leadsTo_69 : decode cX6_leadsTo 69 = .ok (.getfield 9, 3) := by decide +kernel
theorem dX6_leadsTo_72 : decode cX6_leadsTo 72 = .ok (.iload 4, 2) := by decide +kernel
theorem dX6_leadsTo_74 : decode cX6_leadsTo 74 = .ok (.iload 5, 2) := by decide +kernel
theorem dX6_leadsTo_76 : decode cX6_leadsTo 76 = .ok (.iastore, 1) := by decide +kernel
theorem dX6_leadsTo_77 : decode cX6_leadsTo 77 = .ok (.iload 6, 2) := by decide +kernel
theorem dX6_leadsTo_79 : decode cX6_leadsTo 79 = .ok (.ireturn, 1) := by decide +kernel
theorem dX6_pathTo_0 : decode cX6_pathTo 0 = .ok (.aload_n 0, 1) := by decide +kernel
theorem dX6_pathTo_1 : decode cX6_pathTo 1 = .ok (.iload_n 1, 1) := by decide +kernel
theorem dX6_pathTo_2 : decode cX6_pathTo 2 = .ok (.invokevirtual 137, 3) := by decide +kernel
theorem dX6_pathTo_5 : decode cX6_pathTo 5 = .ok (.ifCond .eq 10, 3) := by decide +kernel
theorem dX6_pathTo_8 : decode cX6_pathTo 8 = .ok (.iload_n 2, 1) := by decide +kernel
theorem dX6_pathTo_9 : decode cX6_pathTo 9 = .ok (.invokestatic 85, 3) := by decide +kernel
theorem dX6_pathTo_12 : decode cX6_pathTo 12 = .ok (.ifCond .ne 10, 3) := by decide +kernel
theorem dX6_pathTo_15 : decode cX6_pathTo 15 = .ok (.aload_n 0, 1) := by decide +kernel
theorem dX6_pathTo_16 : decode cX6_pathTo 16 = .ok (.ldc 60, 2) := by decide +kernel
theorem dX6_pathTo_18 : decode cX6_pathTo 18 = .ok (.invokevirtual 66, 3) := by decide +kernel
theorem dX6_pathTo_21 : decode cX6_pathTo 21 = .ok (.ireturn, 1) := by decide +kernel
theorem dX6_pathTo_22 : decode cX6_pathTo 22 = .ok (.iconst (-1), 1) := by decide +kernel
theorem dX6_pathTo_23 : decode cX6_pathTo 23 = .ok (.istore_n 3, 1) := by decide +kernel
theorem dX6_pathTo_24 : decode cX6_pathTo 24 = .ok (.sipush 4095, 3) := by decide +kernel
theorem dX6_pathTo_27 : decode cX6_pathTo 27 = .ok (.istore 4, 2) := by decide +kernel
theorem dX6_pathTo_29 : decode cX6_pathTo 29 = .ok (.iload 4, 2) := by decide +kernel
theorem dX6_pathTo_31 : decode cX6_pathTo 31 = .ok (.ifCond .lt 43, 3) := by decide +kernel
theorem dX6_pathTo_34 : decode cX6_pathTo 34 = .ok (.iload_n 3, 1) := by decide +kernel
theorem dX6_pathTo_35 : decode cX6_pathTo 35 = .ok (.ifCond .lt 15, 3) := by decide +kernel
theorem dX6_pathTo_38 : decode cX6_pathTo 38 = .ok (.iload 4, 2) := by decide +kernel
theorem dX6_pathTo_40 : decode cX6_pathTo 40 = .ok (.invokestatic 111, 3) := by decide +kernel
theorem dX6_pathTo_43 : decode cX6_pathTo 43 = .ok (.iload_n 3, 1) := by decide +kernel
theorem dX6_pathTo_44 : decode cX6_pathTo 44 = .ok (.invokestatic 111, 3) := by decide +kernel
theorem dX6_pathTo_47 : decode cX6_pathTo 47 = .ok (.if_icmp .gt 19, 3) := by decide +kernel
theorem dX6_pathTo_50 : decode cX6_pathTo 50 = .ok (.aload_n 0, 1) := by decide +kernel
theorem dX6_pathTo_51 : decode cX6_pathTo 51 = .ok (.iload 4, 2) := by decide +kernel
theorem dX6_pathTo_53 : decode cX6_pathTo 53 = .ok (.iload_n 1, 1) := by decide +kernel
theorem dX6_pathTo_54 : decode cX6_pathTo 54 = .ok (.iload_n 2, 1) := by decide +kernel
theorem dX6_pathTo_55 : decode cX6_pathTo 55 = .ok (.invokevirtual 218, 3) := by decide +kernel
theorem dX6_pathTo_58 : decode cX6_pathTo 58 = .ok (.ifCond .eq 8, 3) := by decide +kernel
theorem dX6_pathTo_61 : decode cX6_pathTo 61 = .ok (.iload 4, 2) := by decide +kernel
theorem dX6_pathTo_63 : decode cX6_pathTo 63 = .ok (.goto 4, 3) := by decide +kernel
theorem dX6_pathTo_66 : decode cX6_pathTo 66 = .ok (.iload_n 3, 1) := by decide +kernel
theorem dX6_pathTo_67 : decode cX6_pathTo 67 = .ok (.istore_n 3, 1) := by decide +kernel
theorem dX6_pathTo_68 : decode cX6_pathTo 68 = .ok (.iinc 4 (-1), 3) := by decide +kernel
theorem dX6_pathTo_71 : decode cX6_pathTo 71 = .ok (.goto (-42), 3) := by decide +kernel
theorem dX6_pathTo_74 : decode cX6_pathTo 74 = .ok (.aload_n 0, 1) := by decide +kernel
theorem dX6_pathTo_75 : decode cX6_pathTo 75 = .ok (.iload_n 3, 1) := by decide +kernel
theorem dX6_pathTo_76 : decode cX6_pathTo 76 = .ok (.invokevirtual 155, 3) := by decide +kernel
theorem dX6_pathTo_79 : decode cX6_pathTo 79 = .ok (.ireturn, 1) := by decide +kernel
theorem dX6_nobodyLeaves_0 : decode cX6_nobodyLeaves 0 = .ok (.aload_n 0, 1) := by decide +kernel
theorem dX6_nobodyLeaves_1 : decode cX6_nobodyLeaves 1 = .ok (.getfield 9, 3) := by decide +kernel
theorem dX6_nobodyLeaves_4 : decode cX6_nobodyLeaves 4 = .ok (.iconst 3, 1) := by decide +kernel
theorem dX6_nobodyLeaves_5 : decode cX6_nobodyLeaves 5 = .ok (.iaload, 1) := by decide +kernel
theorem dX6_nobodyLeaves_6 : decode cX6_nobodyLeaves 6 = .ok (.istore_n 3, 1) := by decide +kernel
theorem dX6_nobodyLeaves_7 : decode cX6_nobodyLeaves 7 = .ok (.aload_n 0, 1) := by decide +kernel
theorem dX6_nobodyLeaves_8 : decode cX6_nobodyLeaves 8 = .ok (.getfield 9, 3) := by decide +kernel
theorem dX6_nobodyLeaves_11 : decode cX6_nobodyLeaves 11 = .ok (.aload_n 0, 1) := by decide +kernel
theorem dX6_nobodyLeaves_12 : decode cX6_nobodyLeaves 12 = .ok (.getfield 16, 3) := by decide +kernel
theorem dX6_nobodyLeaves_15 : decode cX6_nobodyLeaves 15 = .ok (.invokestatic 61, 3) := by decide +kernel
theorem dX6_nobodyLeaves_18 : decode cX6_nobodyLeaves 18 = .ok (.iconst 0, 1) := by decide +kernel
theorem dX6_nobodyLeaves_19 : decode cX6_nobodyLeaves 19 = .ok (.istore 4, 2) := by decide +kernel
theorem dX6_nobodyLeaves_21 : decode cX6_nobodyLeaves 21 = .ok (.iload 4, 2) := by decide +kernel
theorem dX6_nobodyLeaves_23 : decode cX6_nobodyLeaves 23 = .ok (.aload_n 0, 1) := by decide +kernel
theorem dX6_nobodyLeaves_24 : decode cX6_nobodyLeaves 24 = .ok (.getfield 9, 3) := by decide +kernel
theorem dX6_nobodyLeaves_27 : decode cX6_nobodyLeaves 27 = .ok (.iconst 1, 1) := by decide +kernel
theorem dX6_nobodyLeaves_28 : decode cX6_nobodyLeaves 28 = .ok (.iaload, 1) := by decide +kernel
theorem dX6_nobodyLeaves_29 : decode cX6_nobodyLeaves 29 = .ok (.if_icmp .ge 31, 3) := by decide +kernel
theorem dX6_nobodyLeaves_32 : decode cX6_nobodyLeaves 32 = .ok (.iload_n 1, 1) := by decide +kernel
theorem dX6_nobodyLeaves_33 : decode cX6_nobodyLeaves 33 = .ok (.iload 4, 2) := by decide +kernel
theorem dX6_nobodyLeaves_35 : decode cX6_nobodyLeaves 35 = .ok (.ishr, 1) := by decide +kernel
theorem dX6_nobodyLeaves_36 : decode cX6_nobodyLeaves 36 = .ok (.iconst 1, 1) := by decide +kernel
theorem dX6_nobodyLeaves_37 : decode cX6_nobodyLeaves 37 = .ok (.iand, 1) := by decide +kernel
theorem dX6_nobodyLeaves_38 : decode cX6_nobodyLeaves 38 = .ok (.iconst 1, 1) := by decide +kernel
theorem dX6_nobodyLeaves_39 : decode cX6_nobodyLeaves 39 = .ok (.if_icmp .ne 15, 3) := by decide +kernel
theorem dX6_nobodyLeaves_42 : decode cX6_nobodyLeaves 42 = .ok (.aload_n 0, 1) := by decide +kernel
theorem dX6_nobodyLeaves_43 : decode cX6_nobodyLeaves 43 = .ok (.getfield 9, 3) := by decide +kernel
theorem dX6_nobodyLeaves_46 : decode cX6_nobodyLeaves 46 = .ok (.iload 4, 2) := by decide +kernel
theorem dX6_nobodyLeaves_48 : decode cX6_nobodyLeaves 48 = .ok (.iconst 5, 1) := by decide +kernel
theorem dX6_nobodyLeaves_49 : decode cX6_nobodyLeaves 49 = .ok (.invokestatic 88, 3) := by decide +kernel
theorem dX6_nobodyLeaves_52 : decode cX6_nobodyLeaves 52 = .ok (.iconst 1, 1) := by decide +kernel
theorem dX6_nobodyLeaves_53 : decode cX6_nobodyLeaves 53 = .ok (.iastore, 1) := by decide +kernel
theorem dX6_nobodyLeaves_54 : decode cX6_nobodyLeaves 54 = .ok (.iinc 4 1, 3) := by decide +kernel
theorem dX6_nobodyLeaves_57 : decode cX6_nobodyLeaves 57 = .ok (.goto (-36), 3) := by decide +kernel
theorem dX6_nobodyLeaves_60 : decode cX6_nobodyLeaves 60 = .ok (.aload_n 0, 1) := by decide +kernel
theorem dX6_nobodyLeaves_61 : decode cX6_nobodyLeaves 61 = .ok (.iload_n 2, 1) := by decide +kernel
theorem dX6_nobodyLeaves_62 : decode cX6_nobodyLeaves 62 = .ok (.invokevirtual 184, 3) := by decide +kernel
theorem dX6_nobodyLeaves_65 : decode cX6_nobodyLeaves 65 = .ok (.aload_n 0, 1) := by decide +kernel
theorem dX6_nobodyLeaves_66 : decode cX6_nobodyLeaves 66 = .ok (.getfield 9, 3) := by decide +kernel
theorem dX6_nobodyLeaves_69 : decode cX6_nobodyLeaves 69 = .ok (.iconst 3, 1) := by decide +kernel
theorem dX6_nobodyLeaves_70 : decode cX6_nobodyLeaves 70 = .ok (.iaload, 1) := by decide +kernel
theorem dX6_nobodyLeaves_71 : decode cX6_nobodyLeaves 71 = .ok (.iload_n 3, 1) := by decide +kernel
theorem dX6_nobodyLeaves_72 : decode cX6_nobodyLeaves 72 = .ok (.if_icmp .ne 7, 3) := by decide +kernel
theorem dX6_nobodyLeaves_75 : decode cX6_nobodyLeaves 75 = .ok (.iconst 1, 1) := by decide +kernel
theorem dX6_nobodyLeaves_76 : decode cX6_nobodyLeaves 76 = .ok (.goto 4, 3) := by decide +kernel
theorem dX6_nobodyLeaves_79 : decode cX6_nobodyLeaves 79 = .ok (.iconst 0, 1) := by decide +kernel
theorem dX6_nobodyLeaves_80 : decode cX6_nobodyLeaves 80 = .ok (.istore 4, 2) := by decide +kernel
theorem dX6_nobodyLeaves_82 : decode cX6_nobodyLeaves 82 = .ok (.aload_n 0, 1) := by decide +kernel
theorem dX6_nobodyLeaves_83 : decode cX6_nobodyLeaves 83 = .ok (.getfield 16, 3) := by decide +kernel
theorem dX6_nobodyLeaves_86 : decode cX6_nobodyLeaves 86 = .ok (.aload_n 0, 1) := by decide +kernel
theorem dX6_nobodyLeaves_87 : decode cX6_nobodyLeaves 87 = .ok (.getfield 9, 3) := by decide +kernel
theorem dX6_nobodyLeaves_90 : decode cX6_nobodyLeaves 90 = .ok (.invokestatic 61, 3) := by decide +kernel
theorem dX6_nobodyLeaves_93 : decode cX6_nobodyLeaves 93 = .ok (.iload 4, 2) := by decide +kernel
theorem dX6_nobodyLeaves_95 : decode cX6_nobodyLeaves 95 = .ok (.ireturn, 1) := by decide +kernel
theorem dX6_seal_0 : decode cX6_seal 0 = .ok (.iload_n 1, 1) := by decide +kernel
theorem dX6_seal_1 : decode cX6_seal 1 = .ok (.iconst 0, 1) := by decide +kernel
theorem dX6_seal_2 : decode cX6_seal 2 = .ok (.bipush 20, 2) := by decide +kernel
theorem dX6_seal_4 : decode cX6_seal 4 = .ok (.invokestatic 70, 3) := by decide +kernel
theorem dX6_seal_7 : decode cX6_seal 7 = .ok (.ifCond .ne 10, 3) := by decide +kernel
theorem dX6_seal_10 : decode cX6_seal 10 = .ok (.aload_n 0, 1) := by decide +kernel
theorem dX6_seal_11 : decode cX6_seal 11 = .ok (.ldc 60, 2) := by decide +kernel
theorem dX6_seal_13 : decode cX6_seal 13 = .ok (.invokevirtual 66, 3) := by decide +kernel
theorem dX6_seal_16 : decode cX6_seal 16 = .ok (.ireturn, 1) := by decide +kernel
theorem dX6_seal_17 : decode cX6_seal 17 = .ok (.iconst (-1), 1) := by decide +kernel
theorem dX6_seal_18 : decode cX6_seal 18 = .ok (.istore_n 2, 1) := by decide +kernel
theorem dX6_seal_19 : decode cX6_seal 19 = .ok (.iconst 1, 1) := by decide +kernel
theorem dX6_seal_20 : decode cX6_seal 20 = .ok (.aload_n 0, 1) := by decide +kernel
theorem dX6_seal_21 : decode cX6_seal 21 = .ok (.getfield 9, 3) := by decide +kernel
theorem dX6_seal_24 : decode cX6_seal 24 = .ok (.iconst 1, 1) := by decide +kernel
theorem dX6_seal_25 : decode cX6_seal 25 = .ok (.iaload, 1) := by decide +kernel
theorem dX6_seal_26 : decode cX6_seal 26 = .ok (.ishl, 1) := by decide +kernel
theorem dX6_seal_27 : decode cX6_seal 27 = .ok (.iconst 1, 1) := by decide +kernel
theorem dX6_seal_28 : decode cX6_seal 28 = .ok (.isub, 1) := by decide +kernel
theorem dX6_seal_29 : decode cX6_seal 29 = .ok (.istore_n 3, 1) := by decide +kernel
theorem dX6_seal_30 : decode cX6_seal 30 = .ok (.iload_n 3, 1) := by decide +kernel
theorem dX6_seal_31 : decode cX6_seal 31 = .ok (.ifCond .lt 39, 3) := by decide +kernel
theorem dX6_seal_34 : decode cX6_seal 34 = .ok (.iload_n 2, 1) := by decide +kernel
theorem dX6_seal_35 : decode cX6_seal 35 = .ok (.ifCond .lt 14, 3) := by decide +kernel
theorem dX6_seal_38 : decode cX6_seal 38 = .ok (.iload_n 3, 1) := by decide +kernel
theorem dX6_seal_39 : decode cX6_seal 39 = .ok (.invokestatic 111, 3) := by decide +kernel
theorem dX6_seal_42 : decode cX6_seal 42 = .ok (.iload_n 2, 1) := by decide +kernel
theorem dX6_seal_43 : decode cX6_seal 43 = .ok (.invokestatic 111, 3) := by decide +kernel
theorem dX6_seal_46 : decode cX6_seal 46 = .ok (.if_icmp .gt 16, 3) := by decide +kernel
theorem dX6_seal_49 : decode cX6_seal 49 = .ok (.aload_n 0, 1) := by decide +kernel
theorem dX6_seal_50 : decode cX6_seal 50 = .ok (.iload_n 3, 1) := by decide +kernel
theorem dX6_seal_51 : decode cX6_seal 51 = .ok (.iload_n 1, 1) := by decide +kernel
theorem dX6_seal_52 : decode cX6_seal 52 = .ok (.invokevirtual 221, 3) := by decide +kernel
theorem dX6_seal_55 : decode cX6_seal 55 = .ok (.ifCond .eq 7, 3) := by decide +kernel
theorem dX6_seal_58 : decode cX6_seal 58 = .ok (.iload_n 3, 1) := by decide +kernel
theorem dX6_seal_59 : decode cX6_seal 59 = .ok (.goto 4, 3) := by decide +kernel
theorem dX6_seal_62 : decode cX6_seal 62 = .ok (.iload_n 2, 1) := by decide +kernel
theorem dX6_seal_63 : decode cX6_seal 63 = .ok (.istore_n 2, 1) := by decide +kernel
theorem dX6_seal_64 : decode cX6_seal 64 = .ok (.iinc 3 (-1), 3) := by decide +kernel
theorem dX6_seal_67 : decode cX6_seal 67 = .ok (.goto (-37), 3) := by decide +kernel
theorem dX6_seal_70 : decode cX6_seal 70 = .ok (.aload_n 0, 1) := by decide +kernel
theorem dX6_seal_71 : decode cX6_seal 71 = .ok (.iload_n 2, 1) := by decide +kernel
theorem dX6_seal_72 : decode cX6_seal 72 = .ok (.invokevirtual 155, 3) := by decide +kernel
theorem dX6_seal_75 : decode cX6_seal 75 = .ok (.ireturn, 1) := by decide +kernel
theorem dX6_lacks_0 : decode cX6_lacks 0 = .ok (.iload_n 1, 1) := by decide +kernel
theorem dX6_lacks_1 : decode cX6_lacks 1 = .ok (.invokestatic 224, 3) := by decide +kernel
theorem dX6_lacks_4 : decode cX6_lacks 4 = .ok (.ifCond .ne 8, 3) := by decide +kernel
theorem dX6_lacks_7 : decode cX6_lacks 7 = .ok (.ldc 60, 2) := by decide +kernel
theorem dX6_lacks_9 : decode cX6_lacks 9 = .ok (.goto 27, 3) := by decide +kernel
theorem dX6_lacks_12 : decode cX6_lacks 12 = .ok (.aload_n 0, 1) := by decide +kernel
theorem dX6_lacks_13 : decode cX6_lacks 13 = .ok (.getfield 48, 3) := by decide +kernel
theorem dX6_lacks_16 : decode cX6_lacks 16 = .ok (.iload_n 1, 1) := by decide +kernel
theorem dX6_lacks_17 : decode cX6_lacks 17 = .ok (.iaload, 1) := by decide +kernel
theorem dX6_lacks_18 : decode cX6_lacks 18 = .ok (.ifCond .ne 8, 3) := by decide +kernel
theorem dX6_lacks_21 : decode cX6_lacks 21 = .ok (.ldc 227, 2) := by decide +kernel
theorem dX6_lacks_23 : decode cX6_lacks 23 = .ok (.goto 13, 3) := by decide +kernel
theorem dX6_lacks_26 : decode cX6_lacks 26 = .ok (.iload_n 2, 1) := by decide +kernel
theorem dX6_lacks_27 : decode cX6_lacks 27 = .ok (.ifCond .eq 7, 3) := by decide +kernel
theorem dX6_lacks_30 : decode cX6_lacks 30 = .ok (.iconst 0, 1) := by decide +kernel
theorem dX6_lacks_31 : decode cX6_lacks 31 = .ok (.goto 5, 3) := by decide +kernel
theorem dX6_lacks_34 : decode cX6_lacks 34 = .ok (.ldc 60, 2) := by decide +kernel
theorem dX6_lacks_36 : decode cX6_lacks 36 = .ok (.ireturn, 1) := by decide +kernel
theorem dX6_isSo_0 : decode cX6_isSo 0 = .ok (.aload_n 0, 1) := by decide +kernel
theorem dX6_isSo_1 : decode cX6_isSo 1 = .ok (.getfield 9, 3) := by decide +kernel
theorem dX6_isSo_4 : decode cX6_isSo 4 = .ok (.aload_n 0, 1) := by decide +kernel
theorem dX6_isSo_5 : decode cX6_isSo 5 = .ok (.getfield 16, 3) := by decide +kernel
theorem dX6_isSo_8 : decode cX6_isSo 8 = .ok (.invokestatic 61, 3) := by decide +kernel
theorem dX6_isSo_11 : decode cX6_isSo 11 = .ok (.iconst 1, 1) := by decide +kernel
theorem dX6_isSo_12 : decode cX6_isSo 12 = .ok (.istore_n 3, 1) := by decide +kernel
theorem dX6_isSo_13 : decode cX6_isSo 13 = .ok (.iconst 0, 1) := by decide +kernel
theorem dX6_isSo_14 : decode cX6_isSo 14 = .ok (.istore 4, 2) := by decide +kernel
theorem dX6_isSo_16 : decode cX6_isSo 16 = .ok (.iload 4, 2) := by decide +kernel
theorem dX6_isSo_18 : decode cX6_isSo 18 = .ok (.aload_n 0, 1) := by decide +kernel
theorem dX6_isSo_19 : decode cX6_isSo 19 = .ok (.getfield 51, 3) := by decide +kernel
theorem dX6_isSo_22 : decode cX6_isSo 22 = .ok (.iload_n 1, 1) := by decide +kernel
theorem dX6_isSo_23 : decode cX6_isSo 23 = .ok (.iaload, 1) := by decide +kernel
theorem dX6_isSo_24 : decode cX6_isSo 24 = .ok (.if_icmp .ge 53, 3) := by decide +kernel
theorem dX6_isSo_27 : decode cX6_isSo 27 = .ok (.iload_n 3, 1) := by decide +kernel
theorem dX6_isSo_28 : decode cX6_isSo 28 = .ok (.ifCond .eq 49, 3) := by decide +kernel
theorem dX6_isSo_31 : decode cX6_isSo 31 = .ok (.aload_n 0, 1) := by decide +kernel
theorem dX6_isSo_32 : decode cX6_isSo 32 = .ok (.getfield 54, 3) := by decide +kernel
theorem dX6_isSo_35 : decode cX6_isSo 35 = .ok (.bipush 40, 2) := by decide +kernel
theorem dX6_isSo_37 : decode cX6_isSo 37 = .ok (.iload_n 1, 1) := by decide +kernel
theorem dX6_isSo_38 : decode cX6_isSo 38 = .ok (.imul, 1) := by decide +kernel
theorem dX6_isSo_39 : decode cX6_isSo 39 = .ok (.iload 4, 2) := by decide +kernel
theorem dX6_isSo_41 : decode cX6_isSo 41 = .ok (.iadd, 1) := by decide +kernel
theorem dX6_isSo_42 : decode cX6_isSo 42 = .ok (.iaload, 1) := by decide +kernel
theorem dX6_isSo_43 : decode cX6_isSo 43 = .ok (.istore 5, 2) := by decide +kernel
theorem dX6_isSo_45 : decode cX6_isSo 45 = .ok (.iload 5, 2) := by decide +kernel
theorem dX6_isSo_47 : decode cX6_isSo 47 = .ok (.iconst (-1), 1) := by decide +kernel
theorem dX6_isSo_48 : decode cX6_isSo 48 = .ok (.if_icmp .eq 13, 3) := by decide +kernel
theorem dX6_isSo_51 : decode cX6_isSo 51 = .ok (.iload 5, 2) := by decide +kernel
theorem dX6_isSo_53 : decode cX6_isSo 53 = .ok (.aload_n 0, 1) := by decide +kernel
theorem dX6_isSo_54 : decode cX6_isSo 54 = .ok (.iload_n 2, 1) := by decide +kernel
theorem dX6_isSo_55 : decode cX6_isSo 55 = .ok (.invokevirtual 134, 3) := by decide +kernel
theorem dX6_isSo_58 : decode cX6_isSo 58 = .ok (.if_icmp .ne 7, 3) := by decide +kernel
theorem dX6_isSo_61 : decode cX6_isSo 61 = .ok (.iconst 1, 1) := by decide +kernel
theorem dX6_isSo_62 : decode cX6_isSo 62 = .ok (.goto 4, 3) := by decide +kernel
theorem dX6_isSo_65 : decode cX6_isSo 65 = .ok (.iconst 0, 1) := by decide +kernel
theorem dX6_isSo_66 : decode cX6_isSo 66 = .ok (.istore_n 3, 1) := by decide +kernel
theorem dX6_isSo_67 : decode cX6_isSo 67 = .ok (.aload_n 0, 1) := by decide +kernel
theorem dX6_isSo_68 : decode cX6_isSo 68 = .ok (.invokevirtual 181, 3) := by decide +kernel
theorem dX6_isSo_71 : decode cX6_isSo 71 = .ok (.iinc 4 1, 3) := by decide +kernel
theorem dX6_isSo_74 : decode cX6_isSo 74 = .ok (.goto (-58), 3) := by decide +kernel
theorem dX6_isSo_77 : decode cX6_isSo 77 = .ok (.aload_n 0, 1) := by decide +kernel
theorem dX6_isSo_78 : decode cX6_isSo 78 = .ok (.getfield 16, 3) := by decide +kernel
theorem dX6_isSo_81 : decode cX6_isSo 81 = .ok (.aload_n 0, 1) := by decide +kernel
theorem dX6_isSo_82 : decode cX6_isSo 82 = .ok (.getfield 9, 3) := by decide +kernel
theorem dX6_isSo_85 : decode cX6_isSo 85 = .ok (.invokestatic 61, 3) := by decide +kernel
theorem dX6_isSo_88 : decode cX6_isSo 88 = .ok (.iload_n 3, 1) := by decide +kernel
theorem dX6_isSo_89 : decode cX6_isSo 89 = .ok (.ireturn, 1) := by decide +kernel
theorem dX6_fitting_0 : decode cX6_fitting 0 = .ok (.aload_n 0, 1) := by decide +kernel
theorem dX6_fitting_1 : decode cX6_fitting 1 = .ok (.getfield 9, 3) := by decide +kernel
theorem dX6_fitting_4 : decode cX6_fitting 4 = .ok (.iload_n 3, 1) := by decide +kernel
theorem dX6_fitting_5 : decode cX6_fitting 5 = .ok (.iaload, 1) := by decide +kernel
theorem dX6_fitting_6 : decode cX6_fitting 6 = .ok (.istore 5, 2) := by decide +kernel
theorem dX6_fitting_8 : decode cX6_fitting 8 = .ok (.iconst 0, 1) := by decide +kernel
theorem dX6_fitting_9 : decode cX6_fitting 9 = .ok (.istore 6, 2) := by decide +kernel
theorem dX6_fitting_11 : decode cX6_fitting 11 = .ok (.iconst 0, 1) := by decide +kernel
theorem dX6_fitting_12 : decode cX6_fitting 12 = .ok (.istore 7, 2) := by decide +kernel
theorem dX6_fitting_14 : decode cX6_fitting 14 = .ok (.iload 7, 2) := by decide +kernel
theorem dX6_fitting_16 : decode cX6_fitting 16 = .ok (.iload 4, 2) := by decide +kernel
theorem dX6_fitting_18 : decode cX6_fitting 18 = .ok (.if_icmp .ge 39, 3) := by decide +kernel
theorem dX6_fitting_21 : decode cX6_fitting 21 = .ok (.aload_n 0, 1) := by decide +kernel
theorem dX6_fitting_22 : decode cX6_fitting 22 = .ok (.getfield 9, 3) := by decide +kernel
theorem dX6_fitting_25 : decode cX6_fitting 25 = .ok (.iload_n 3, 1) := by decide +kernel
theorem dX6_fitting_26 : decode cX6_fitting 26 = .ok (.iload 7, 2) := by decide +kernel
theorem dX6_fitting_28 : decode cX6_fitting 28 = .ok (.iastore, 1) := by decide +kernel
theorem dX6_fitting_29 : decode cX6_fitting 29 = .ok (.iload 6, 2) := by decide +kernel
theorem dX6_fitting_31 : decode cX6_fitting 31 = .ok (.aload_n 0, 1) := by decide +kernel
theorem dX6_fitting_32 : decode cX6_fitting 32 = .ok (.iload_n 1, 1) := by decide +kernel
theorem dX6_fitting_33 : decode cX6_fitting 33 = .ok (.iload_n 2, 1) := by decide +kernel
theorem dX6_fitting_34 : decode cX6_fitting 34 = .ok (.invokevirtual 228, 3) := by decide +kernel
theorem dX6_fitting_37 : decode cX6_fitting 37 = .ok (.ifCond .eq 10, 3) := by decide +kernel
theorem dX6_fitting_40 : decode cX6_fitting 40 = .ok (.iconst 1, 1) := by decide +kernel
theorem dX6_fitting_41 : decode cX6_fitting 41 = .ok (.iload 7, 2) := by decide +kernel
theorem dX6_fitting_43 : decode cX6_fitting 43 = .ok (.ishl, 1) := by decide +kernel
theorem dX6_fitting_44 : decode cX6_fitting 44 = .ok (.goto 4, 3) := by decide +kernel
theorem dX6_fitting_47 : decode cX6_fitting 47 = .ok (.iconst 0, 1) := by decide +kernel
theorem dX6_fitting_48 : decode cX6_fitting 48 = .ok (.ior, 1) := by decide +kernel
theorem dX6_fitting_49 : decode cX6_fitting 49 = .ok (.istore 6, 2) := by decide +kernel
theorem dX6_fitting_51 : decode cX6_fitting 51 = .ok (.iinc 7 1, 3) := by decide +kernel
theorem dX6_fitting_54 : decode cX6_fitting 54 = .ok (.goto (-40), 3) := by decide +kernel
theorem dX6_fitting_57 : decode cX6_fitting 57 = .ok (.aload_n 0, 1) := by decide +kernel
theorem dX6_fitting_58 : decode cX6_fitting 58 = .ok (.getfield 9, 3) := by decide +kernel
theorem dX6_fitting_61 : decode cX6_fitting 61 = .ok (.iload_n 3, 1) := by decide +kernel
theorem dX6_fitting_62 : decode cX6_fitting 62 = .ok (.iload 5, 2) := by decide +kernel
theorem dX6_fitting_64 : decode cX6_fitting 64 = .ok (.iastore, 1) := by decide +kernel
theorem dX6_fitting_65 : decode cX6_fitting 65 = .ok (.iload 6, 2) := by decide +kernel
theorem dX6_fitting_67 : decode cX6_fitting 67 = .ok (.ireturn, 1) := by decide +kernel
theorem dX6_fits_0 : decode cX6_fits 0 = .ok (.aload_n 0, 1) := by decide +kernel
theorem dX6_fits_1 : decode cX6_fits 1 = .ok (.iload_n 1, 1) := by decide +kernel
theorem dX6_fits_2 : decode cX6_fits 2 = .ok (.aload_n 0, 1) := by decide +kernel
theorem dX6_fits_3 : decode cX6_fits 3 = .ok (.iload_n 2, 1) := by decide +kernel
theorem dX6_fits_4 : decode cX6_fits 4 = .ok (.invokevirtual 137, 3) := by decide +kernel
theorem dX6_fits_7 : decode cX6_fits 7 = .ok (.invokevirtual 231, 3) := by decide +kernel
theorem dX6_fits_10 : decode cX6_fits 10 = .ok (.istore_n 3, 1) := by decide +kernel
theorem dX6_fits_11 : decode cX6_fits 11 = .ok (.iload_n 3, 1) := by decide +kernel
theorem dX6_fits_12 : decode cX6_fits 12 = .ok (.ifCond .eq 11, 3) := by decide +kernel
theorem dX6_fits_15 : decode cX6_fits 15 = .ok (.aload_n 0, 1) := by decide +kernel
theorem dX6_fits_16 : decode cX6_fits 16 = .ok (.iload_n 3, 1) := by decide +kernel
theorem dX6_fits_17 : decode cX6_fits 17 = .ok (.invokevirtual 66, 3) := by decide +kernel
theorem dX6_fits_20 : decode cX6_fits 20 = .ok (.goto 18, 3) := by decide +kernel
theorem dX6_fits_23 : decode cX6_fits 23 = .ok (.aload_n 0, 1) := by decide +kernel
theorem dX6_fits_24 : decode cX6_fits 24 = .ok (.iload_n 1, 1) := by decide +kernel
theorem dX6_fits_25 : decode cX6_fits 25 = .ok (.iload_n 2, 1) := by decide +kernel
theorem dX6_fits_26 : decode cX6_fits 26 = .ok (.aload_n 0, 1) := by decide +kernel
theorem dX6_fits_27 : decode cX6_fits 27 = .ok (.invokevirtual 172, 3) := by decide +kernel
theorem dX6_fits_30 : decode cX6_fits 30 = .ok (.bipush 13, 2) := by decide +kernel
theorem dX6_fits_32 : decode cX6_fits 32 = .ok (.invokevirtual 235, 3) := by decide +kernel
theorem dX6_fits_35 : decode cX6_fits 35 = .ok (.invokestatic 111, 3) := by decide +kernel
theorem dX6_fits_38 : decode cX6_fits 38 = .ok (.ireturn, 1) := by decide +kernel
theorem dX6_kinds_0 : decode cX6_kinds 0 = .ok (.aload_n 0, 1) := by decide +kernel
theorem dX6_kinds_1 : decode cX6_kinds 1 = .ok (.iload_n 1, 1) := by decide +kernel
theorem dX6_kinds_2 : decode cX6_kinds 2 = .ok (.aload_n 0, 1) := by decide +kernel
theorem dX6_kinds_3 : decode cX6_kinds 3 = .ok (.iload_n 2, 1) := by decide +kernel
theorem dX6_kinds_4 : decode cX6_kinds 4 = .ok (.invokevirtual 137, 3) := by decide +kernel
theorem dX6_kinds_7 : decode cX6_kinds 7 = .ok (.invokevirtual 231, 3) := by decide +kernel
theorem dX6_kinds_10 : decode cX6_kinds 10 = .ok (.istore_n 3, 1) := by decide +kernel
theorem dX6_kinds_11 : decode cX6_kinds 11 = .ok (.iload_n 3, 1) := by decide +kernel
theorem dX6_kinds_12 : decode cX6_kinds 12 = .ok (.ifCond .eq 11, 3) := by decide +kernel
theorem dX6_kinds_15 : decode cX6_kinds 15 = .ok (.aload_n 0, 1) := by decide +kernel
theorem dX6_kinds_16 : decode cX6_kinds 16 = .ok (.iload_n 3, 1) := by decide +kernel
theorem dX6_kinds_17 : decode cX6_kinds 17 = .ok (.invokevirtual 66, 3) := by decide +kernel
theorem dX6_kinds_20 : decode cX6_kinds 20 = .ok (.goto 16, 3) := by decide +kernel
theorem dX6_kinds_23 : decode cX6_kinds 23 = .ok (.aload_n 0, 1) := by decide +kernel
theorem dX6_kinds_24 : decode cX6_kinds 24 = .ok (.iload_n 1, 1) := by decide +kernel
theorem dX6_kinds_25 : decode cX6_kinds 25 = .ok (.iload_n 2, 1) := by decide +kernel
theorem dX6_kinds_26 : decode cX6_kinds 26 = .ok (.iload_n 2, 1) := by decide +kernel
theorem dX6_kinds_27 : decode cX6_kinds 27 = .ok (.iconst 0, 1) := by decide +kernel
theorem dX6_kinds_28 : decode cX6_kinds 28 = .ok (.invokestatic 88, 3) := by decide +kernel
theorem dX6_kinds_31 : decode cX6_kinds 31 = .ok (.bipush 7, 2) := by decide +kernel
theorem dX6_kinds_33 : decode cX6_kinds 33 = .ok (.invokevirtual 235, 3) := by decide +kernel
theorem dX6_kinds_36 : decode cX6_kinds 36 = .ok (.ireturn, 1) := by decide +kernel
theorem dX6_drawn_0 : decode cX6_drawn 0 = .ok (.aload_n 0, 1) := by decide +kernel
theorem dX6_drawn_1 : decode cX6_drawn 1 = .ok (.getfield 9, 3) := by decide +kernel
theorem dX6_drawn_4 : decode cX6_drawn 4 = .ok (.iconst 2, 1) := by decide +kernel
theorem dX6_drawn_5 : decode cX6_drawn 5 = .ok (.aload_n 0, 1) := by decide +kernel
theorem dX6_drawn_6 : decode cX6_drawn 6 = .ok (.getfield 9, 3) := by decide +kernel
theorem dX6_drawn_9 : decode cX6_drawn 9 = .ok (.iconst 2, 1) := by decide +kernel
theorem dX6_drawn_10 : decode cX6_drawn 10 = .ok (.iaload, 1) := by decide +kernel
theorem dX6_drawn_11 : decode cX6_drawn 11 = .ok (.ldc 239, 2) := by decide +kernel
theorem dX6_drawn_13 : decode cX6_drawn 13 = .ok (.imul, 1) := by decide +kernel
theorem dX6_drawn_14 : decode cX6_drawn 14 = .ok (.sipush 12345, 3) := by decide +kernel
theorem dX6_drawn_17 : decode cX6_drawn 17 = .ok (.iadd, 1) := by decide +kernel
theorem dX6_drawn_18 : decode cX6_drawn 18 = .ok (.iastore, 1) := by decide +kernel
theorem dX6_drawn_19 : decode cX6_drawn 19 = .ok (.aload_n 0, 1) := by decide +kernel
theorem dX6_drawn_20 : decode cX6_drawn 20 = .ok (.getfield 9, 3) := by decide +kernel
theorem dX6_drawn_23 : decode cX6_drawn 23 = .ok (.iconst 2, 1) := by decide +kernel
theorem dX6_drawn_24 : decode cX6_drawn 24 = .ok (.iaload, 1) := by decide +kernel
theorem dX6_drawn_25 : decode cX6_drawn 25 = .ok (.bipush 8, 2) := by decide +kernel
theorem dX6_drawn_27 : decode cX6_drawn 27 = .ok (.iushr, 1) := by decide +kernel
theorem dX6_drawn_28 : decode cX6_drawn 28 = .ok (.ireturn, 1) := by decide +kernel
theorem dX6_chance_0 : decode cX6_chance 0 = .ok (.iload_n 1, 1) := by decide +kernel
theorem dX6_chance_1 : decode cX6_chance 1 = .ok (.iconst 1, 1) := by decide +kernel
theorem dX6_chance_2 : decode cX6_chance 2 = .ok (.bipush 20, 2) := by decide +kernel
theorem dX6_chance_4 : decode cX6_chance 4 = .ok (.invokestatic 70, 3) := by decide +kernel
theorem dX6_chance_7 : decode cX6_chance 7 = .ok (.ifCond .ne 10, 3) := by decide +kernel
theorem dX6_chance_10 : decode cX6_chance 10 = .ok (.aload_n 0, 1) := by decide +kernel
theorem dX6_chance_11 : decode cX6_chance 11 = .ok (.ldc 60, 2) := by decide +kernel
theorem dX6_chance_13 : decode cX6_chance 13 = .ok (.invokevirtual 66, 3) := by decide +kernel
theorem dX6_chance_16 : decode cX6_chance 16 = .ok (.ireturn, 1) := by decide +kernel
theorem dX6_chance_17 : decode cX6_chance 17 = .ok (.aload_n 0, 1) := by decide +kernel
theorem dX6_chance_18 : decode cX6_chance 18 = .ok (.getfield 9, 3) := by decide +kernel
theorem dX6_chance_21 : decode cX6_chance 21 = .ok (.iconst 0, 1) := by decide +kernel
theorem dX6_chance_22 : decode cX6_chance 22 = .ok (.iaload, 1) := by decide +kernel
theorem dX6_chance_23 : decode cX6_chance 23 = .ok (.iload_n 1, 1) := by decide +kernel
theorem dX6_chance_24 : decode cX6_chance 24 = .ok (.iadd, 1) := by decide +kernel
theorem dX6_chance_25 : decode cX6_chance 25 = .ok (.ldc 180, 2) := by decide +kernel
theorem dX6_chance_27 : decode cX6_chance 27 = .ok (.if_icmp .le 10, 3) := by decide +kernel
theorem dX6_chance_30 : decode cX6_chance 30 = .ok (.aload_n 0, 1) := by decide +kernel
theorem dX6_chance_31 : decode cX6_chance 31 = .ok (.ldc 158, 2) := by decide +kernel
theorem dX6_chance_33 : decode cX6_chance 33 = .ok (.invokevirtual 66, 3) := by decide +kernel
theorem dX6_chance_36 : decode cX6_chance 36 = .ok (.ireturn, 1) := by decide +kernel
theorem dX6_chance_37 : decode cX6_chance 37 = .ok (.iconst 0, 1) := by decide +kernel
theorem dX6_chance_38 : decode cX6_chance 38 = .ok (.istore_n 2, 1) := by decide +kernel
theorem dX6_chance_39 : decode cX6_chance 39 = .ok (.iload_n 2, 1) := by decide +kernel
theorem dX6_chance_40 : decode cX6_chance 40 = .ok (.iload_n 1, 1) := by decide +kernel
theorem dX6_chance_41 : decode cX6_chance 41 = .ok (.if_icmp .ge 63, 3) := by decide +kernel
theorem dX6_chance_44 : decode cX6_chance 44 = .ok (.aload_n 0, 1) := by decide +kernel
theorem dX6_chance_45 : decode cX6_chance 45 = .ok (.invokevirtual 240, 3) := by decide +kernel
theorem dX6_chance_48 : decode cX6_chance 48 = .ok (.bipush 13, 2) := by decide +kernel
theorem dX6_chance_50 : decode cX6_chance 50 = .ok (.irem, 1) := by decide +kernel
theorem dX6_chance_51 : decode cX6_chance 51 = .ok (.istore_n 3, 1) := by decide +kernel
theorem dX6_chance_52 : decode cX6_chance 52 = .ok (.aload_n 0, 1) := by decide +kernel
theorem dX6_chance_53 : decode cX6_chance 53 = .ok (.getfield 9, 3) := by decide +kernel
theorem dX6_chance_56 : decode cX6_chance 56 = .ok (.aload_n 0, 1) := by decide +kernel
theorem dX6_chance_57 : decode cX6_chance 57 = .ok (.invokevirtual 172, 3) := by decide +kernel
theorem dX6_chance_60 : decode cX6_chance 60 = .ok (.iload_n 3, 1) := by decide +kernel
theorem dX6_chance_61 : decode cX6_chance 61 = .ok (.iastore, 1) := by decide +kernel
theorem dX6_chance_62 : decode cX6_chance 62 = .ok (.aload_n 0, 1) := by decide +kernel
theorem dX6_chance_63 : decode cX6_chance 63 = .ok (.invokevirtual 240, 3) := by decide +kernel
theorem dX6_chance_66 : decode cX6_chance 66 = .ok (.bipush 8, 2) := by decide +kernel
theorem dX6_chance_68 : decode cX6_chance 68 = .ok (.irem, 1) := by decide +kernel
theorem dX6_chance_69 : decode cX6_chance 69 = .ok (.istore 4, 2) := by decide +kernel
theorem dX6_chance_71 : decode cX6_chance 71 = .ok (.aload_n 0, 1) := by decide +kernel
theorem dX6_chance_72 : decode cX6_chance 72 = .ok (.iload 4, 2) := by decide +kernel
theorem dX6_chance_74 : decode cX6_chance 74 = .ok (.invokevirtual 137, 3) := by decide +kernel
theorem dX6_chance_77 : decode cX6_chance 77 = .ok (.ifCond .eq 17, 3) := by decide +kernel
theorem dX6_chance_80 : decode cX6_chance 80 = .ok (.aload_n 0, 1) := by decide +kernel
theorem dX6_chance_81 : decode cX6_chance 81 = .ok (.iload 4, 2) := by decide +kernel
theorem dX6_chance_83 : decode cX6_chance 83 = .ok (.iconst 4, 1) := by decide +kernel
theorem dX6_chance_84 : decode cX6_chance 84 = .ok (.invokestatic 88, 3) := by decide +kernel
theorem dX6_chance_87 : decode cX6_chance 87 = .ok (.bipush 10, 2) := by decide +kernel
theorem dX6_chance_89 : decode cX6_chance 89 = .ok (.bipush 99, 2) := by decide +kernel
theorem dX6_chance_91 : decode cX6_chance 91 = .ok (.invokevirtual 165, 3) := by decide +kernel
theorem dX6_chance_94 : decode cX6_chance 94 = .ok (.aload_n 0, 1) := by decide +kernel
theorem dX6_chance_95 : decode cX6_chance 95 = .ok (.invokevirtual 181, 3) := by decide +kernel
theorem dX6_chance_98 : decode cX6_chance 98 = .ok (.iinc 2 1, 3) := by decide +kernel
theorem dX6_chance_101 : decode cX6_chance 101 = .ok (.goto (-62), 3) := by decide +kernel
theorem dX6_chance_104 : decode cX6_chance 104 = .ok (.aload_n 0, 1) := by decide +kernel
theorem dX6_chance_105 : decode cX6_chance 105 = .ok (.getfield 9, 3) := by decide +kernel
theorem dX6_chance_108 : decode cX6_chance 108 = .ok (.iconst 3, 1) := by decide +kernel
theorem dX6_chance_109 : decode cX6_chance 109 = .ok (.iaload, 1) := by decide +kernel
theorem dX6_chance_110 : decode cX6_chance 110 = .ok (.ireturn, 1) := by decide +kernel
theorem dX6_odds_0 : decode cX6_odds 0 = .ok (.aload_n 0, 1) := by decide +kernel
theorem dX6_odds_1 : decode cX6_odds 1 = .ok (.iload_n 1, 1) := by decide +kernel
theorem dX6_odds_2 : decode cX6_odds 2 = .ok (.invokevirtual 137, 3) := by decide +kernel
theorem dX6_odds_5 : decode cX6_odds 5 = .ok (.ifCond .eq 22, 3) := by decide +kernel
theorem dX6_odds_8 : decode cX6_odds 8 = .ok (.iload_n 2, 1) := by decide +kernel
theorem dX6_odds_9 : decode cX6_odds 9 = .ok (.iconst 0, 1) := by decide +kernel
theorem dX6_odds_10 : decode cX6_odds 10 = .ok (.bipush 17, 2) := by decide +kernel
theorem dX6_odds_12 : decode cX6_odds 12 = .ok (.invokestatic 70, 3) := by decide +kernel
theorem dX6_odds_15 : decode cX6_odds 15 = .ok (.ifCond .eq 12, 3) := by decide +kernel
theorem dX6_odds_18 : decode cX6_odds 18 = .ok (.iload_n 3, 1) := by decide +kernel
theorem dX6_odds_19 : decode cX6_odds 19 = .ok (.iconst 0, 1) := by decide +kernel
theorem dX6_odds_20 : decode cX6_odds 20 = .ok (.iconst 1, 1) := by decide +kernel
theorem dX6_odds_21 : decode cX6_odds 21 = .ok (.invokestatic 70, 3) := by decide +kernel
theorem dX6_odds_24 : decode cX6_odds 24 = .ok (.ifCond .ne 11, 3) := by decide +kernel
theorem dX6_odds_27 : decode cX6_odds 27 = .ok (.aload_n 0, 1) := by decide +kernel
theorem dX6_odds_28 : decode cX6_odds 28 = .ok (.ldc 60, 2) := by decide +kernel
theorem dX6_odds_30 : decode cX6_odds 30 = .ok (.invokevirtual 66, 3) := by decide +kernel
theorem dX6_odds_33 : decode cX6_odds 33 = .ok (.i2l, 1) := by decide +kernel
theorem dX6_odds_34 : decode cX6_odds 34 = .ok (.lreturn, 1) := by decide +kernel
theorem dX6_odds_35 : decode cX6_odds 35 = .ok (.aload_n 0, 1) := by decide +kernel
theorem dX6_odds_36 : decode cX6_odds 36 = .ok (.iload_n 1, 1) := by decide +kernel
theorem dX6_odds_37 : decode cX6_odds 37 = .ok (.iconst 2, 1) := by decide +kernel
theorem dX6_odds_38 : decode cX6_odds 38 = .ok (.invokevirtual 101, 3) := by decide +kernel
theorem dX6_odds_41 : decode cX6_odds 41 = .ok (.invokestatic 111, 3) := by decide +kernel
theorem dX6_odds_44 : decode cX6_odds 44 = .ok (.istore 4, 2) := by decide +kernel
theorem dX6_odds_46 : decode cX6_odds 46 = .ok (.bipush 12, 2) := by decide +kernel
theorem dX6_odds_48 : decode cX6_odds 48 = .ok (.istore 5, 2) := by decide +kernel
theorem dX6_odds_50 : decode cX6_odds 50 = .ok (.iload 4, 2) := by decide +kernel
theorem dX6_odds_52 : decode cX6_odds 52 = .ok (.istore 6, 2) := by decide +kernel
theorem dX6_odds_54 : decode cX6_odds 54 = .ok (.iload 6, 2) := by decide +kernel
theorem dX6_odds_56 : decode cX6_odds 56 = .ok (.ifCond .eq 21, 3) := by decide +kernel
theorem dX6_odds_59 : decode cX6_odds 59 = .ok (.iload 5, 2) := by decide +kernel
theorem dX6_odds_61 : decode cX6_odds 61 = .ok (.iload 6, 2) := by decide +kernel
theorem dX6_odds_63 : decode cX6_odds 63 = .ok (.irem, 1) := by decide +kernel
theorem dX6_odds_64 : decode cX6_odds 64 = .ok (.istore 7, 2) := by decide +kernel
theorem dX6_odds_66 : decode cX6_odds 66 = .ok (.iload 6, 2) := by decide +kernel
theorem dX6_odds_68 : decode cX6_odds 68 = .ok (.istore 5, 2) := by decide +kernel
theorem dX6_odds_70 : decode cX6_odds 70 = .ok (.iload 7, 2) := by decide +kernel
theorem dX6_odds_72 : decode cX6_odds 72 = .ok (.istore 6, 2) := by decide +kernel
theorem dX6_odds_74 : decode cX6_odds 74 = .ok (.goto (-20), 3) := by decide +kernel
theorem dX6_odds_77 : decode cX6_odds 77 = .ok (.lconst 1, 1) := by decide +kernel
theorem dX6_odds_78 : decode cX6_odds 78 = .ok (.lstore 7, 2) := by decide +kernel
theorem dX6_odds_80 : decode cX6_odds 80 = .ok (.iconst 0, 1) := by decide +kernel
theorem dX6_odds_81 : decode cX6_odds 81 = .ok (.istore 9, 2) := by decide +kernel
theorem dX6_odds_83 : decode cX6_odds 83 = .ok (.iload 9, 2) := by decide +kernel
theorem dX6_odds_85 : decode cX6_odds 85 = .ok (.iload_n 2, 1) := by decide +kernel
theorem dX6_odds_86 : decode cX6_odds 86 = .ok (.if_icmp .ge 29, 3) := by decide +kernel
theorem dX6_odds_89 : decode cX6_odds 89 = .ok (.lload 7, 2) := by decide +kernel
theorem dX6_odds_91 : decode cX6_odds 91 = .ok (.iload_n 3, 1) := by decide +kernel
theorem dX6_odds_92 : decode cX6_odds 92 = .ok (.ifCond .ne 8, 3) := by decide +kernel
theorem dX6_odds_95 : decode cX6_odds 95 = .ok (.iload 4, 2) := by decide +kernel
theorem dX6_odds_97 : decode cX6_odds 97 = .ok (.goto 5, 3) := by decide +kernel
theorem dX6_odds_100 : decode cX6_odds 100 = .ok (.bipush 12, 2) := by decide +kernel
theorem dX6_odds_102 : decode cX6_odds 102 = .ok (.iload 5, 2) := by decide +kernel
theorem dX6_odds_104 : decode cX6_odds 104 = .ok (.idiv, 1) := by decide +kernel
theorem dX6_odds_105 : decode cX6_odds 105 = .ok (.i2l, 1) := by decide +kernel
theorem dX6_odds_106 : decode cX6_odds 106 = .ok (.lmul, 1) := by decide +kernel
theorem dX6_odds_107 : decode cX6_odds 107 = .ok (.lstore 7, 2) := by decide +kernel
theorem dX6_odds_109 : decode cX6_odds 109 = .ok (.iinc 9 1, 3) := by decide +kernel
theorem dX6_odds_112 : decode cX6_odds 112 = .ok (.goto (-29), 3) := by decide +kernel
theorem dX6_odds_115 : decode cX6_odds 115 = .ok (.lload 7, 2) := by decide +kernel
theorem dX6_odds_117 : decode cX6_odds 117 = .ok (.lreturn, 1) := by decide +kernel
theorem dX6_seed_0 : decode cX6_seed 0 = .ok (.aload_n 0, 1) := by decide +kernel
theorem dX6_seed_1 : decode cX6_seed 1 = .ok (.iconst 2, 1) := by decide +kernel
theorem dX6_seed_2 : decode cX6_seed 2 = .ok (.iload_n 1, 1) := by decide +kernel
theorem dX6_seed_3 : decode cX6_seed 3 = .ok (.invokevirtual 81, 3) := by decide +kernel
theorem dX6_seed_6 : decode cX6_seed 6 = .ok (.ireturn, 1) := by decide +kernel
theorem dX6_feed_0 : decode cX6_feed 0 = .ok (.iload_n 2, 1) := by decide +kernel
theorem dX6_feed_1 : decode cX6_feed 1 = .ok (.iconst 1, 1) := by decide +kernel
theorem dX6_feed_2 : decode cX6_feed 2 = .ok (.iconst 4, 1) := by decide +kernel
theorem dX6_feed_3 : decode cX6_feed 3 = .ok (.invokestatic 70, 3) := by decide +kernel
theorem dX6_feed_6 : decode cX6_feed 6 = .ok (.ifCond .ne 10, 3) := by decide +kernel
theorem dX6_feed_9 : decode cX6_feed 9 = .ok (.aload_n 0, 1) := by decide +kernel
theorem dX6_feed_10 : decode cX6_feed 10 = .ok (.ldc 60, 2) := by decide +kernel
theorem dX6_feed_12 : decode cX6_feed 12 = .ok (.invokevirtual 66, 3) := by decide +kernel
theorem dX6_feed_15 : decode cX6_feed 15 = .ok (.ireturn, 1) := by decide +kernel
theorem dX6_feed_16 : decode cX6_feed 16 = .ok (.aload_n 0, 1) := by decide +kernel
theorem dX6_feed_17 : decode cX6_feed 17 = .ok (.getfield 243, 3) := by decide +kernel
theorem dX6_feed_20 : decode cX6_feed 20 = .ok (.iload_n 2, 1) := by decide +kernel
theorem dX6_feed_21 : decode cX6_feed 21 = .ok (.iadd, 1) := by decide +kernel
theorem dX6_feed_22 : decode cX6_feed 22 = .ok (.bipush 120, 2) := by decide +kernel
theorem dX6_feed_24 : decode cX6_feed 24 = .ok (.if_icmp .le 10, 3) := by decide +kernel
theorem dX6_feed_27 : decode cX6_feed 27 = .ok (.aload_n 0, 1) := by decide +kernel
theorem dX6_feed_28 : decode cX6_feed 28 = .ok (.ldc 97, 2) := by decide +kernel
theorem dX6_feed_30 : decode cX6_feed 30 = .ok (.invokevirtual 66, 3) := by decide +kernel
theorem dX6_feed_33 : decode cX6_feed 33 = .ok (.ireturn, 1) := by decide +kernel
theorem dX6_feed_34 : decode cX6_feed 34 = .ok (.iload_n 2, 1) := by decide +kernel
theorem dX6_feed_35 : decode cX6_feed 35 = .ok (.iconst 1, 1) := by decide +kernel
theorem dX6_feed_36 : decode cX6_feed 36 = .ok (.isub, 1) := by decide +kernel
theorem dX6_feed_37 : decode cX6_feed 37 = .ok (.istore_n 3, 1) := by decide +kernel
theorem dX6_feed_38 : decode cX6_feed 38 = .ok (.iload_n 3, 1) := by decide +kernel
theorem dX6_feed_39 : decode cX6_feed 39 = .ok (.ifCond .lt 38, 3) := by decide +kernel
theorem dX6_feed_42 : decode cX6_feed 42 = .ok (.aload_n 0, 1) := by decide +kernel
theorem dX6_feed_43 : decode cX6_feed 43 = .ok (.getfield 22, 3) := by decide +kernel
theorem dX6_feed_46 : decode cX6_feed 46 = .ok (.aload_n 0, 1) := by decide +kernel
theorem dX6_feed_47 : decode cX6_feed 47 = .ok (.getfield 243, 3) := by decide +kernel
theorem dX6_feed_50 : decode cX6_feed 50 = .ok (.iload_n 1, 1) := by decide +kernel
theorem dX6_feed_51 : decode cX6_feed 51 = .ok (.bipush 8, 2) := by decide +kernel
theorem dX6_feed_53 : decode cX6_feed 53 = .ok (.iload_n 3, 1) := by decide +kernel
theorem dX6_feed_54 : decode cX6_feed 54 = .ok (.imul, 1) := by decide +kernel
theorem dX6_feed_55 : decode cX6_feed 55 = .ok (.ishr, 1) := by decide +kernel
theorem dX6_feed_56 : decode cX6_feed 56 = .ok (.sipush 255, 3) := by decide +kernel
theorem dX6_feed_59 : decode cX6_feed 59 = .ok (.iand, 1) := by decide +kernel
theorem dX6_feed_60 : decode cX6_feed 60 = .ok (.iastore, 1) := by decide +kernel
theorem dX6_feed_61 : decode cX6_feed 61 = .ok (.aload_n 0, 1) := by decide +kernel
theorem dX6_feed_62 : decode cX6_feed 62 = .ok (.dup, 1) := by decide +kernel
theorem dX6_feed_63 : decode cX6_feed 63 = .ok (.getfield 243, 3) := by decide +kernel
theorem dX6_feed_66 : decode cX6_feed 66 = .ok (.iconst 1, 1) := by decide +kernel
theorem dX6_feed_67 : decode cX6_feed 67 = .ok (.iadd, 1) := by decide +kernel
theorem dX6_feed_68 : decode cX6_feed 68 = .ok (.putfield 243, 3) := by decide +kernel
theorem dX6_feed_71 : decode cX6_feed 71 = .ok (.iinc 3 (-1), 3) := by decide +kernel
theorem dX6_feed_74 : decode cX6_feed 74 = .ok (.goto (-36), 3) := by decide +kernel
theorem dX6_feed_77 : decode cX6_feed 77 = .ok (.aload_n 0, 1) := by decide +kernel
theorem dX6_feed_78 : decode cX6_feed 78 = .ok (.getfield 243, 3) := by decide +kernel
theorem dX6_feed_81 : decode cX6_feed 81 = .ok (.ireturn, 1) := by decide +kernel
theorem dX6_wipe_0 : decode cX6_wipe 0 = .ok (.aload_n 0, 1) := by decide +kernel
theorem dX6_wipe_1 : decode cX6_wipe 1 = .ok (.getfield 243, 3) := by decide +kernel
theorem dX6_wipe_4 : decode cX6_wipe 4 = .ok (.istore_n 1, 1) := by decide +kernel
theorem dX6_wipe_5 : decode cX6_wipe 5 = .ok (.aload_n 0, 1) := by decide +kernel
theorem dX6_wipe_6 : decode cX6_wipe 6 = .ok (.iconst 0, 1) := by decide +kernel
theorem dX6_wipe_7 : decode cX6_wipe 7 = .ok (.putfield 243, 3) := by decide +kernel
theorem dX6_wipe_10 : decode cX6_wipe 10 = .ok (.iload_n 1, 1) := by decide +kernel
theorem dX6_wipe_11 : decode cX6_wipe 11 = .ok (.ireturn, 1) := by decide +kernel
theorem dX6_byteAt_0 : decode cX6_byteAt 0 = .ok (.iload_n 1, 1) := by decide +kernel
theorem dX6_byteAt_1 : decode cX6_byteAt 1 = .ok (.aload_n 0, 1) := by decide +kernel
theorem dX6_byteAt_2 : decode cX6_byteAt 2 = .ok (.getfield 243, 3) := by decide +kernel
theorem dX6_byteAt_5 : decode cX6_byteAt 5 = .ok (.if_icmp .ge 12, 3) := by decide +kernel
theorem dX6_byteAt_8 : decode cX6_byteAt 8 = .ok (.aload_n 0, 1) := by decide +kernel
theorem dX6_byteAt_9 : decode cX6_byteAt 9 = .ok (.getfield 22, 3) := by decide +kernel
theorem dX6_byteAt_12 : decode cX6_byteAt 12 = .ok (.iload_n 1, 1) := by decide +kernel
theorem dX6_byteAt_13 : decode cX6_byteAt 13 = .ok (.iaload, 1) := by decide +kernel
theorem dX6_byteAt_14 : decode cX6_byteAt 14 = .ok (.goto 4, 3) := by decide +kernel
theorem dX6_byteAt_17 : decode cX6_byteAt 17 = .ok (.iconst (-1), 1) := by decide +kernel
theorem dX6_byteAt_18 : decode cX6_byteAt 18 = .ok (.ireturn, 1) := by decide +kernel
theorem dX6_token_0 : decode cX6_token 0 = .ok (.aload_n 0, 1) := by decide +kernel
theorem dX6_token_1 : decode cX6_token 1 = .ok (.aload_n 0, 1) := by decide +kernel
theorem dX6_token_2 : decode cX6_token 2 = .ok (.getfield 247, 3) := by decide +kernel
theorem dX6_token_5 : decode cX6_token 5 = .ok (.putfield 250, 3) := by decide +kernel
theorem dX6_token_8 : decode cX6_token 8 = .ok (.aload_n 0, 1) := by decide +kernel
theorem dX6_token_9 : decode cX6_token 9 = .ok (.aload_n 0, 1) := by decide +kernel
theorem dX6_token_10 : decode cX6_token 10 = .ok (.getfield 250, 3) := by decide +kernel
theorem dX6_token_13 : decode cX6_token 13 = .ok (.invokevirtual 253, 3) := by decide +kernel
theorem dX6_token_16 : decode cX6_token 16 = .ok (.bipush 32, 2) := by decide +kernel
theorem dX6_token_18 : decode cX6_token 18 = .ok (.if_icmp .ne 16, 3) := by decide +kernel
theorem dX6_token_21 : decode cX6_token 21 = .ok (.aload_n 0, 1) := by decide +kernel
theorem dX6_token_22 : decode cX6_token 22 = .ok (.dup, 1) := by decide +kernel
theorem dX6_token_23 : decode cX6_token 23 = .ok (.getfield 250, 3) := by decide +kernel
theorem dX6_token_26 : decode cX6_token 26 = .ok (.iconst 1, 1) := by decide +kernel
theorem dX6_token_27 : decode cX6_token 27 = .ok (.iadd, 1) := by decide +kernel
theorem dX6_token_28 : decode cX6_token 28 = .ok (.putfield 250, 3) := by decide +kernel
theorem dX6_token_31 : decode cX6_token 31 = .ok (.goto (-23), 3) := by decide +kernel
theorem dX6_token_34 : decode cX6_token 34 = .ok (.aload_n 0, 1) := by decide +kernel
theorem dX6_token_35 : decode cX6_token 35 = .ok (.aload_n 0, 1) := by decide +kernel
theorem dX6_token_36 : decode cX6_token 36 = .ok (.getfield 250, 3) := by decide +kernel
theorem dX6_token_39 : decode cX6_token 39 = .ok (.invokevirtual 253, 3) := by decide +kernel
theorem dX6_token_42 : decode cX6_token 42 = .ok (.istore_n 1, 1) := by decide +kernel
theorem dX6_token_43 : decode cX6_token 43 = .ok (.aload_n 0, 1) := by decide +kernel
theorem dX6_token_44 : decode cX6_token 44 = .ok (.aload_n 0, 1) := by decide +kernel
theorem dX6_token_45 : decode cX6_token 45 = .ok (.getfield 250, 3) := by decide +kernel
theorem dX6_token_48 : decode cX6_token 48 = .ok (.putfield 247, 3) := by decide +kernel
theorem dX6_token_51 : decode cX6_token 51 = .ok (.aload_n 0, 1) := by decide +kernel
theorem dX6_token_52 : decode cX6_token 52 = .ok (.iconst 0, 1) := by decide +kernel
theorem dX6_token_53 : decode cX6_token 53 = .ok (.putfield 256, 3) := by decide +kernel
theorem dX6_token_56 : decode cX6_token 56 = .ok (.iload_n 1, 1) := by decide +kernel
theorem dX6_token_57 : decode cX6_token 57 = .ok (.ifCond .ge 11, 3) := by decide +kernel
theorem dX6_token_60 : decode cX6_token 60 = .ok (.aload_n 0, 1) := by decide +kernel
theorem dX6_token_61 : decode cX6_token 61 = .ok (.iconst 0, 1) := by decide +kernel
theorem dX6_token_62 : decode cX6_token 62 = .ok (.putfield 259, 3) := by decide +kernel
theorem dX6_token_65 : decode cX6_token 65 = .ok (.goto 141, 3) := by decide +kernel
theorem dX6_token_68 : decode cX6_token 68 = .ok (.iload_n 1, 1) := by decide +kernel
theorem dX6_token_69 : decode cX6_token 69 = .ok (.bipush 97, 2) := by decide +kernel
theorem dX6_token_71 : decode cX6_token 71 = .ok (.bipush 122, 2) := by decide +kernel
theorem dX6_token_73 : decode cX6_token 73 = .ok (.invokestatic 70, 3) := by decide +kernel
theorem dX6_token_76 : decode cX6_token 76 = .ok (.ifCond .eq 39, 3) := by decide +kernel
theorem dX6_token_79 : decode cX6_token 79 = .ok (.aload_n 0, 1) := by decide +kernel
theorem dX6_token_80 : decode cX6_token 80 = .ok (.iconst 1, 1) := by decide +kernel
theorem dX6_token_81 : decode cX6_token 81 = .ok (.putfield 259, 3) := by decide +kernel
theorem dX6_token_84 : decode cX6_token 84 = .ok (.aload_n 0, 1) := by decide +kernel
theorem dX6_token_85 : decode cX6_token 85 = .ok (.aload_n 0, 1) := by decide +kernel
theorem dX6_token_86 : decode cX6_token 86 = .ok (.getfield 247, 3) := by decide +kernel
theorem dX6_token_89 : decode cX6_token 89 = .ok (.invokevirtual 253, 3) := by decide +kernel
theorem dX6_token_92 : decode cX6_token 92 = .ok (.bipush 97, 2) := by decide +kernel
theorem dX6_token_94 : decode cX6_token 94 = .ok (.bipush 122, 2) := by decide +kernel
theorem dX6_token_96 : decode cX6_token 96 = .ok (.invokestatic 70, 3) := by decide +kernel
theorem dX6_token_99 : decode cX6_token 99 = .ok (.ifCond .eq 107, 3) := by decide +kernel
theorem dX6_token_102 : decode cX6_token 102 = .ok (.aload_n 0, 1) := by decide +kernel
theorem dX6_token_103 : decode cX6_token 103 = .ok (.dup, 1) := by decide +kernel
theorem dX6_token_104 : decode cX6_token 104 = .ok (.getfield 247, 3) := by decide +kernel
theorem dX6_token_107 : decode cX6_token 107 = .ok (.iconst 1, 1) := by decide +kernel
theorem dX6_token_108 : decode cX6_token 108 = .ok (.iadd, 1) := by decide +kernel
theorem dX6_token_109 : decode cX6_token 109 = .ok (.putfield 247, 3) := by decide +kernel
theorem dX6_token_112 : decode cX6_token 112 = .ok (.goto (-28), 3) := by decide +kernel
theorem dX6_token_115 : decode cX6_token 115 = .ok (.iload_n 1, 1) := by decide +kernel
theorem dX6_token_116 : decode cX6_token 116 = .ok (.bipush 48, 2) := by decide +kernel
theorem dX6_token_118 : decode cX6_token 118 = .ok (.bipush 57, 2) := by decide +kernel
theorem dX6_token_120 : decode cX6_token 120 = .ok (.invokestatic 70, 3) := by decide +kernel
theorem dX6_token_123 : decode cX6_token 123 = .ok (.ifCond .eq 68, 3) := by decide +kernel
theorem dX6_token_126 : decode cX6_token 126 = .ok (.aload_n 0, 1) := by decide +kernel
theorem dX6_token_127 : decode cX6_token 127 = .ok (.iconst 2, 1) := by decide +kernel
theorem dX6_token_128 : decode cX6_token 128 = .ok (.putfield 259, 3) := by decide +kernel
theorem dX6_token_131 : decode cX6_token 131 = .ok (.aload_n 0, 1) := by decide +kernel
theorem dX6_token_132 : decode cX6_token 132 = .ok (.aload_n 0, 1) := by decide +kernel
theorem dX6_token_133 : decode cX6_token 133 = .ok (.getfield 247, 3) := by decide +kernel
theorem dX6_token_136 : decode cX6_token 136 = .ok (.invokevirtual 253, 3) := by decide +kernel
theorem dX6_token_139 : decode cX6_token 139 = .ok (.bipush 48, 2) := by decide +kernel
theorem dX6_token_141 : decode cX6_token 141 = .ok (.bipush 57, 2) := by decide +kernel
theorem dX6_token_143 : decode cX6_token 143 = .ok (.invokestatic 70, 3) := by decide +kernel
theorem dX6_token_146 : decode cX6_token 146 = .ok (.ifCond .eq 60, 3) := by decide +kernel
theorem dX6_token_149 : decode cX6_token 149 = .ok (.aload_n 0, 1) := by decide +kernel
theorem dX6_token_150 : decode cX6_token 150 = .ok (.sipush 10000, 3) := by decide +kernel
theorem dX6_token_153 : decode cX6_token 153 = .ok (.bipush 10, 2) := by decide +kernel
theorem dX6_token_155 : decode cX6_token 155 = .ok (.aload_n 0, 1) := by decide +kernel
theorem dX6_token_156 : decode cX6_token 156 = .ok (.getfield 256, 3) := by decide +kernel
theorem dX6_token_159 : decode cX6_token 159 = .ok (.imul, 1) := by decide +kernel
theorem dX6_token_160 : decode cX6_token 160 = .ok (.aload_n 0, 1) := by decide +kernel
theorem dX6_token_161 : decode cX6_token 161 = .ok (.aload_n 0, 1) := by decide +kernel
theorem dX6_token_162 : decode cX6_token 162 = .ok (.getfield 247, 3) := by decide +kernel
theorem dX6_token_165 : decode cX6_token 165 = .ok (.invokevirtual 253, 3) := by decide +kernel
theorem dX6_token_168 : decode cX6_token 168 = .ok (.iadd, 1) := by decide +kernel
theorem dX6_token_169 : decode cX6_token 169 = .ok (.bipush 48, 2) := by decide +kernel
theorem dX6_token_171 : decode cX6_token 171 = .ok (.isub, 1) := by decide +kernel
theorem dX6_token_172 : decode cX6_token 172 = .ok (.invokestatic 162, 3) := by decide +kernel
theorem dX6_token_175 : decode cX6_token 175 = .ok (.putfield 256, 3) := by decide +kernel
theorem dX6_token_178 : decode cX6_token 178 = .ok (.aload_n 0, 1) := by decide +kernel
theorem dX6_token_179 : decode cX6_token 179 = .ok (.dup, 1) := by decide +kernel
theorem dX6_token_180 : decode cX6_token 180 = .ok (.getfield 247, 3) := by decide +kernel
theorem dX6_token_183 : decode cX6_token 183 = .ok (.iconst 1, 1) := by decide +kernel
theorem dX6_token_184 : decode cX6_token 184 = .ok (.iadd, 1) := by decide +kernel
theorem dX6_token_185 : decode cX6_token 185 = .ok (.putfield 247, 3) := by decide +kernel
theorem dX6_token_188 : decode cX6_token 188 = .ok (.goto (-57), 3) := by decide +kernel
theorem dX6_token_191 : decode cX6_token 191 = .ok (.aload_n 0, 1) := by decide +kernel
theorem dX6_token_192 : decode cX6_token 192 = .ok (.iconst 3, 1) := by decide +kernel
theorem dX6_token_193 : decode cX6_token 193 = .ok (.putfield 259, 3) := by decide +kernel
theorem dX6_token_196 : decode cX6_token 196 = .ok (.aload_n 0, 1) := by decide +kernel
theorem dX6_token_197 : decode cX6_token 197 = .ok (.dup, 1) := by decide +kernel
theorem dX6_token_198 : decode cX6_token 198 = .ok (.getfield 247, 3) := by decide +kernel
theorem dX6_token_201 : decode cX6_token 201 = .ok (.iconst 1, 1) := by decide +kernel
theorem dX6_token_202 : decode cX6_token 202 = .ok (.iadd, 1) := by decide +kernel
theorem dX6_token_203 : decode cX6_token 203 = .ok (.putfield 247, 3) := by decide +kernel
theorem dX6_token_206 : decode cX6_token 206 = .ok (.return_, 1) := by decide +kernel
theorem dX6_isWord_0 : decode cX6_isWord 0 = .ok (.aload_n 0, 1) := by decide +kernel
theorem dX6_isWord_1 : decode cX6_isWord 1 = .ok (.getfield 259, 3) := by decide +kernel
theorem dX6_isWord_4 : decode cX6_isWord 4 = .ok (.iconst 1, 1) := by decide +kernel
theorem dX6_isWord_5 : decode cX6_isWord 5 = .ok (.if_icmp .ne 23, 3) := by decide +kernel
theorem dX6_isWord_8 : decode cX6_isWord 8 = .ok (.aload_n 0, 1) := by decide +kernel
theorem dX6_isWord_9 : decode cX6_isWord 9 = .ok (.getfield 247, 3) := by decide +kernel
theorem dX6_isWord_12 : decode cX6_isWord 12 = .ok (.aload_n 0, 1) := by decide +kernel
theorem dX6_isWord_13 : decode cX6_isWord 13 = .ok (.getfield 250, 3) := by decide +kernel
theorem dX6_isWord_16 : decode cX6_isWord 16 = .ok (.isub, 1) := by decide +kernel
theorem dX6_isWord_17 : decode cX6_isWord 17 = .ok (.aload_n 1, 1) := by decide +kernel
theorem dX6_isWord_18 : decode cX6_isWord 18 = .ok (.invokevirtual 262, 3) := by decide +kernel
theorem dX6_isWord_21 : decode cX6_isWord 21 = .ok (.if_icmp .ne 7, 3) := by decide +kernel
theorem dX6_isWord_24 : decode cX6_isWord 24 = .ok (.iconst 1, 1) := by decide +kernel
theorem dX6_isWord_25 : decode cX6_isWord 25 = .ok (.goto 4, 3) := by decide +kernel
theorem dX6_isWord_28 : decode cX6_isWord 28 = .ok (.iconst 0, 1) := by decide +kernel
theorem dX6_isWord_29 : decode cX6_isWord 29 = .ok (.istore_n 2, 1) := by decide +kernel
theorem dX6_isWord_30 : decode cX6_isWord 30 = .ok (.iconst 0, 1) := by decide +kernel
theorem dX6_isWord_31 : decode cX6_isWord 31 = .ok (.istore_n 3, 1) := by decide +kernel
theorem dX6_isWord_32 : decode cX6_isWord 32 = .ok (.iload_n 3, 1) := by decide +kernel
theorem dX6_isWord_33 : decode cX6_isWord 33 = .ok (.aload_n 1, 1) := by decide +kernel
theorem dX6_isWord_34 : decode cX6_isWord 34 = .ok (.invokevirtual 262, 3) := by decide +kernel
theorem dX6_isWord_37 : decode cX6_isWord 37 = .ok (.if_icmp .ge 38, 3) := by decide +kernel
theorem dX6_isWord_40 : decode cX6_isWord 40 = .ok (.iload_n 2, 1) := by decide +kernel
theorem dX6_isWord_41 : decode cX6_isWord 41 = .ok (.ifCond .eq 34, 3) := by decide +kernel
theorem dX6_isWord_44 : decode cX6_isWord 44 = .ok (.aload_n 0, 1) := by decide +kernel
theorem dX6_isWord_45 : decode cX6_isWord 45 = .ok (.getfield 22, 3) := by decide +kernel
theorem dX6_isWord_48 : decode cX6_isWord 48 = .ok (.aload_n 0, 1) := by decide +kernel
theorem dX6_isWord_49 : decode cX6_isWord 49 = .ok (.getfield 250, 3) := by decide +kernel
theorem dX6_isWord_52 : decode cX6_isWord 52 = .ok (.iload_n 3, 1) := by decide +kernel
theorem dX6_isWord_53 : decode cX6_isWord 53 = .ok (.iadd, 1) := by decide +kernel
theorem dX6_isWord_54 : decode cX6_isWord 54 = .ok (.iaload, 1) := by decide +kernel
theorem dX6_isWord_55 : decode cX6_isWord 55 = .ok (.aload_n 1, 1) := by decide +kernel
theorem dX6_isWord_56 : decode cX6_isWord 56 = .ok (.iload_n 3, 1) := by decide +kernel
theorem dX6_isWord_57 : decode cX6_isWord 57 = .ok (.invokevirtual 265, 3) := by decide +kernel
theorem dX6_isWord_60 : decode cX6_isWord 60 = .ok (.if_icmp .ne 7, 3) := by decide +kernel
theorem dX6_isWord_63 : decode cX6_isWord 63 = .ok (.iconst 1, 1) := by decide +kernel
theorem dX6_isWord_64 : decode cX6_isWord 64 = .ok (.goto 4, 3) := by decide +kernel
theorem dX6_isWord_67 : decode cX6_isWord 67 = .ok (.iconst 0, 1) := by decide +kernel
theorem dX6_isWord_68 : decode cX6_isWord 68 = .ok (.istore_n 2, 1) := by decide +kernel
theorem dX6_isWord_69 : decode cX6_isWord 69 = .ok (.iinc 3 1, 3) := by decide +kernel
theorem dX6_isWord_72 : decode cX6_isWord 72 = .ok (.goto (-40), 3) := by decide +kernel
theorem dX6_isWord_75 : decode cX6_isWord 75 = .ok (.iload_n 2, 1) := by decide +kernel
theorem dX6_isWord_76 : decode cX6_isWord 76 = .ok (.ireturn, 1) := by decide +kernel
theorem dX6_must_0 : decode cX6_must 0 = .ok (.aload_n 0, 1) := by decide +kernel
theorem dX6_must_1 : decode cX6_must 1 = .ok (.aload_n 0, 1) := by decide +kernel
theorem dX6_must_2 : decode cX6_must 2 = .ok (.getfield 269, 3) := by decide +kernel
theorem dX6_must_5 : decode cX6_must 5 = .ok (.ifCond .ne 7, 3) := by decide +kernel
theorem dX6_must_8 : decode cX6_must 8 = .ok (.iload_n 1, 1) := by decide +kernel
theorem dX6_must_9 : decode cX6_must 9 = .ok (.ifCond .ne 7, 3) := by decide +kernel
theorem dX6_must_12 : decode cX6_must 12 = .ok (.iconst 1, 1) := by decide +kernel
theorem dX6_must_13 : decode cX6_must 13 = .ok (.goto 4, 3) := by decide +kernel
theorem dX6_must_16 : decode cX6_must 16 = .ok (.iconst 0, 1) := by decide +kernel
theorem dX6_must_17 : decode cX6_must 17 = .ok (.putfield 269, 3) := by decide +kernel
theorem dX6_must_20 : decode cX6_must 20 = .ok (.aload_n 0, 1) := by decide +kernel
theorem dX6_must_21 : decode cX6_must 21 = .ok (.getfield 269, 3) := by decide +kernel
theorem dX6_must_24 : decode cX6_must 24 = .ok (.ifCond .ne 7, 3) := by decide +kernel
theorem dX6_must_27 : decode cX6_must 27 = .ok (.aload_n 0, 1) := by decide +kernel
theorem dX6_must_28 : decode cX6_must 28 = .ok (.invokevirtual 273, 3) := by decide +kernel
theorem dX6_must_31 : decode cX6_must 31 = .ok (.return_, 1) := by decide +kernel
theorem dX6_number_0 : decode cX6_number 0 = .ok (.aload_n 0, 1) := by decide +kernel
theorem dX6_number_1 : decode cX6_number 1 = .ok (.getfield 256, 3) := by decide +kernel
theorem dX6_number_4 : decode cX6_number 4 = .ok (.istore_n 3, 1) := by decide +kernel
theorem dX6_number_5 : decode cX6_number 5 = .ok (.aload_n 0, 1) := by decide +kernel
theorem dX6_number_6 : decode cX6_number 6 = .ok (.aload_n 0, 1) := by decide +kernel
theorem dX6_number_7 : decode cX6_number 7 = .ok (.getfield 259, 3) := by decide +kernel
theorem dX6_number_10 : decode cX6_number 10 = .ok (.iconst 2, 1) := by decide +kernel
theorem dX6_number_11 : decode cX6_number 11 = .ok (.if_icmp .ne 16, 3) := by decide +kernel
theorem dX6_number_14 : decode cX6_number 14 = .ok (.iload_n 3, 1) := by decide +kernel
theorem dX6_number_15 : decode cX6_number 15 = .ok (.iload_n 1, 1) := by decide +kernel
theorem dX6_number_16 : decode cX6_number 16 = .ok (.iload_n 2, 1) := by decide +kernel
theorem dX6_number_17 : decode cX6_number 17 = .ok (.invokestatic 70, 3) := by decide +kernel
theorem dX6_number_20 : decode cX6_number 20 = .ok (.ifCond .eq 7, 3) := by decide +kernel
theorem dX6_number_23 : decode cX6_number 23 = .ok (.iconst 1, 1) := by decide +kernel
theorem dX6_number_24 : decode cX6_number 24 = .ok (.goto 4, 3) := by decide +kernel
theorem dX6_number_27 : decode cX6_number 27 = .ok (.iconst 0, 1) := by decide +kernel
theorem dX6_number_28 : decode cX6_number 28 = .ok (.invokevirtual 276, 3) := by decide +kernel
theorem dX6_number_31 : decode cX6_number 31 = .ok (.iload_n 3, 1) := by decide +kernel
theorem dX6_number_32 : decode cX6_number 32 = .ok (.ireturn, 1) := by decide +kernel
theorem dX6_addItem_0 : decode cX6_addItem 0 = .ok (.iconst 5, 1) := by decide +kernel
theorem dX6_addItem_1 : decode cX6_addItem 1 = .ok (.aload_n 0, 1) := by decide +kernel
theorem dX6_addItem_2 : decode cX6_addItem 2 = .ok (.getfield 280, 3) := by decide +kernel
theorem dX6_addItem_5 : decode cX6_addItem 5 = .ok (.imul, 1) := by decide +kernel
theorem dX6_addItem_6 : decode cX6_addItem 6 = .ok (.istore 6, 2) := by decide +kernel
theorem dX6_addItem_8 : decode cX6_addItem 8 = .ok (.aload_n 0, 1) := by decide +kernel
theorem dX6_addItem_9 : decode cX6_addItem 9 = .ok (.getfield 45, 3) := by decide +kernel
theorem dX6_addItem_12 : decode cX6_addItem 12 = .ok (.iload 6, 2) := by decide +kernel
theorem dX6_addItem_14 : decode cX6_addItem 14 = .ok (.iload_n 1, 1) := by decide +kernel
theorem dX6_addItem_15 : decode cX6_addItem 15 = .ok (.iastore, 1) := by decide +kernel
theorem dX6_addItem_16 : decode cX6_addItem 16 = .ok (.aload_n 0, 1) := by decide +kernel
theorem dX6_addItem_17 : decode cX6_addItem 17 = .ok (.getfield 45, 3) := by decide +kernel
theorem dX6_addItem_20 : decode cX6_addItem 20 = .ok (.iload 6, 2) := by decide +kernel
theorem dX6_addItem_22 : decode cX6_addItem 22 = .ok (.iconst 1, 1) := by decide +kernel
theorem dX6_addItem_23 : decode cX6_addItem 23 = .ok (.iadd, 1) := by decide +kernel
theorem dX6_addItem_24 : decode cX6_addItem 24 = .ok (.iload_n 2, 1) := by decide +kernel
theorem dX6_addItem_25 : decode cX6_addItem 25 = .ok (.iastore, 1) := by decide +kernel
theorem dX6_addItem_26 : decode cX6_addItem 26 = .ok (.aload_n 0, 1) := by decide +kernel
theorem dX6_addItem_27 : decode cX6_addItem 27 = .ok (.getfield 45, 3) := by decide +kernel
theorem dX6_addItem_30 : decode cX6_addItem 30 = .ok (.iload 6, 2) := by decide +kernel
theorem dX6_addItem_32 : decode cX6_addItem 32 = .ok (.iconst 2, 1) := by decide +kernel
theorem dX6_addItem_33 : decode cX6_addItem 33 = .ok (.iadd, 1) := by decide +kernel
theorem dX6_addItem_34 : decode cX6_addItem 34 = .ok (.iload_n 3, 1) := by decide +kernel
theorem dX6_addItem_35 : decode cX6_addItem 35 = .ok (.iastore, 1) := by decide +kernel
theorem dX6_addItem_36 : decode cX6_addItem 36 = .ok (.aload_n 0, 1) := by decide +kernel
theorem dX6_addItem_37 : decode cX6_addItem 37 = .ok (.getfield 45, 3) := by decide +kernel
theorem dX6_addItem_40 : decode cX6_addItem 40 = .ok (.iload 6, 2) := by decide +kernel
theorem dX6_addItem_42 : decode cX6_addItem 42 = .ok (.iconst 3, 1) := by decide +kernel
theorem dX6_addItem_43 : decode cX6_addItem 43 = .ok (.iadd, 1) := by decide +kernel
theorem dX6_addItem_44 : decode cX6_addItem 44 = .ok (.iload 4, 2) := by decide +kernel
theorem dX6_addItem_46 : decode cX6_addItem 46 = .ok (.iastore, 1) := by decide +kernel
theorem dX6_addItem_47 : decode cX6_addItem 47 = .ok (.aload_n 0, 1) := by decide +kernel
theorem dX6_addItem_48 : decode cX6_addItem 48 = .ok (.getfield 45, 3) := by decide +kernel
theorem dX6_addItem_51 : decode cX6_addItem 51 = .ok (.iload 6, 2) := by decide +kernel
theorem dX6_addItem_53 : decode cX6_addItem 53 = .ok (.iconst 4, 1) := by decide +kernel
theorem dX6_addItem_54 : decode cX6_addItem 54 = .ok (.iadd, 1) := by decide +kernel
theorem dX6_addItem_55 : decode cX6_addItem 55 = .ok (.iload 5, 2) := by decide +kernel
theorem dX6_addItem_57 : decode cX6_addItem 57 = .ok (.iastore, 1) := by decide +kernel
theorem dX6_addItem_58 : decode cX6_addItem 58 = .ok (.aload_n 0, 1) := by decide +kernel
theorem dX6_addItem_59 : decode cX6_addItem 59 = .ok (.dup, 1) := by decide +kernel
theorem dX6_addItem_60 : decode cX6_addItem 60 = .ok (.getfield 280, 3) := by decide +kernel
theorem dX6_addItem_63 : decode cX6_addItem 63 = .ok (.iconst 1, 1) := by decide +kernel
theorem dX6_addItem_64 : decode cX6_addItem 64 = .ok (.iadd, 1) := by decide +kernel
theorem dX6_addItem_65 : decode cX6_addItem 65 = .ok (.putfield 280, 3) := by decide +kernel
theorem dX6_addItem_68 : decode cX6_addItem 68 = .ok (.return_, 1) := by decide +kernel
theorem dX6_takesWord_0 : decode cX6_takesWord 0 = .ok (.aload_n 0, 1) := by decide +kernel
theorem dX6_takesWord_1 : decode cX6_takesWord 1 = .ok (.getfield 269, 3) := by decide +kernel
theorem dX6_takesWord_4 : decode cX6_takesWord 4 = .ok (.ifCond .ne 15, 3) := by decide +kernel
theorem dX6_takesWord_7 : decode cX6_takesWord 7 = .ok (.aload_n 0, 1) := by decide +kernel
theorem dX6_takesWord_8 : decode cX6_takesWord 8 = .ok (.aload_n 1, 1) := by decide +kernel
theorem dX6_takesWord_9 : decode cX6_takesWord 9 = .ok (.invokevirtual 283, 3) := by decide +kernel
theorem dX6_takesWord_12 : decode cX6_takesWord 12 = .ok (.ifCond .eq 7, 3) := by decide +kernel
theorem dX6_takesWord_15 : decode cX6_takesWord 15 = .ok (.iconst 1, 1) := by decide +kernel
theorem dX6_takesWord_16 : decode cX6_takesWord 16 = .ok (.goto 4, 3) := by decide +kernel
theorem dX6_takesWord_19 : decode cX6_takesWord 19 = .ok (.iconst 0, 1) := by decide +kernel
theorem dX6_takesWord_20 : decode cX6_takesWord 20 = .ok (.istore_n 2, 1) := by decide +kernel
theorem dX6_takesWord_21 : decode cX6_takesWord 21 = .ok (.iload_n 2, 1) := by decide +kernel
theorem dX6_takesWord_22 : decode cX6_takesWord 22 = .ok (.ifCond .eq 8, 3) := by decide +kernel
theorem dX6_takesWord_25 : decode cX6_takesWord 25 = .ok (.aload_n 0, 1) := by decide +kernel
theorem dX6_takesWord_26 : decode cX6_takesWord 26 = .ok (.iconst 1, 1) := by decide +kernel
theorem dX6_takesWord_27 : decode cX6_takesWord 27 = .ok (.invokevirtual 276, 3) := by decide +kernel
theorem dX6_takesWord_30 : decode cX6_takesWord 30 = .ok (.iload_n 2, 1) := by decide +kernel
theorem dX6_takesWord_31 : decode cX6_takesWord 31 = .ok (.ireturn, 1) := by decide +kernel
theorem dX6_readBust_0 : decode cX6_readBust 0 = .ok (.aload_n 0, 1) := by decide +kernel
theorem dX6_readBust_1 : decode cX6_readBust 1 = .ok (.aload_n 0, 1) := by decide +kernel
theorem dX6_readBust_2 : decode cX6_readBust 2 = .ok (.getfield 287, 3) := by decide +kernel
theorem dX6_readBust_5 : decode cX6_readBust 5 = .ok (.bipush 8, 2) := by decide +kernel
theorem dX6_readBust_7 : decode cX6_readBust 7 = .ok (.if_icmp .ge 7, 3) := by decide +kernel
theorem dX6_readBust_10 : decode cX6_readBust 10 = .ok (.iconst 1, 1) := by decide +kernel
theorem dX6_readBust_11 : decode cX6_readBust 11 = .ok (.goto 4, 3) := by decide +kernel
theorem dX6_readBust_14 : decode cX6_readBust 14 = .ok (.iconst 0, 1) := by decide +kernel
theorem dX6_readBust_15 : decode cX6_readBust 15 = .ok (.invokevirtual 276, 3) := by decide +kernel
theorem dX6_readBust_18 : decode cX6_readBust 18 = .ok (.aload_n 0, 1) := by decide +kernel
theorem dX6_readBust_19 : decode cX6_readBust 19 = .ok (.iconst 0, 1) := by decide +kernel
theorem dX6_readBust_20 : decode cX6_readBust 20 = .ok (.sipush 999, 3) := by decide +kernel
theorem dX6_readBust_23 : decode cX6_readBust 23 = .ok (.invokevirtual 290, 3) := by decide +kernel
theorem dX6_readBust_26 : decode cX6_readBust 26 = .ok (.istore_n 2, 1) := by decide +kernel
theorem dX6_readBust_27 : decode cX6_readBust 27 = .ok (.aload_n 0, 1) := by decide +kernel
theorem dX6_readBust_28 : decode cX6_readBust 28 = .ok (.ldc_w 293, 3) := by decide +kernel
theorem dX6_readBust_31 : decode cX6_readBust 31 = .ok (.invokevirtual 294, 3) := by decide +kernel
theorem dX6_readBust_34 : decode cX6_readBust 34 = .ok (.ifCond .eq 14, 3) := by decide +kernel
theorem dX6_readBust_37 : decode cX6_readBust 37 = .ok (.aload_n 0, 1) := by decide +kernel
theorem dX6_readBust_38 : decode cX6_readBust 38 = .ok (.iconst 0, 1) := by decide +kernel
theorem dX6_readBust_39 : decode cX6_readBust 39 = .ok (.sipush 4095, 3) := by decide +kernel
theorem dX6_readBust_42 : decode cX6_readBust 42 = .ok (.invokevirtual 290, 3) := by decide +kernel
theorem dX6_readBust_45 : decode cX6_readBust 45 = .ok (.goto 4, 3) := by decide +kernel
theorem dX6_readBust_48 : decode cX6_readBust 48 = .ok (.iconst 3, 1) := by decide +kernel
theorem dX6_readBust_49 : decode cX6_readBust 49 = .ok (.istore_n 3, 1) := by decide +kernel
theorem dX6_readBust_50 : decode cX6_readBust 50 = .ok (.aload_n 0, 1) := by decide +kernel
theorem dX6_readBust_51 : decode cX6_readBust 51 = .ok (.ldc_w 297, 3) := by decide +kernel
theorem dX6_readBust_54 : decode cX6_readBust 54 = .ok (.invokevirtual 294, 3) := by decide +kernel
theorem dX6_readBust_57 : decode cX6_readBust 57 = .ok (.ifCond .eq 13, 3) := by decide +kernel
theorem dX6_readBust_60 : decode cX6_readBust 60 = .ok (.aload_n 0, 1) := by decide +kernel
theorem dX6_readBust_61 : decode cX6_readBust 61 = .ok (.iconst 0, 1) := by decide +kernel
theorem dX6_readBust_62 : decode cX6_readBust 62 = .ok (.bipush 15, 2) := by decide +kernel
theorem dX6_readBust_64 : decode cX6_readBust 64 = .ok (.invokevirtual 290, 3) := by decide +kernel
theorem dX6_readBust_67 : decode cX6_readBust 67 = .ok (.goto 4, 3) := by decide +kernel
theorem dX6_readBust_70 : decode cX6_readBust 70 = .ok (.iconst 0, 1) := by decide +kernel
theorem dX6_readBust_71 : decode cX6_readBust 71 = .ok (.istore 4, 2) := by decide +kernel
theorem dX6_readBust_73 : decode cX6_readBust 73 = .ok (.aload_n 0, 1) := by decide +kernel
theorem dX6_readBust_74 : decode cX6_readBust 74 = .ok (.iload_n 1, 1) := by decide +kernel
theorem dX6_readBust_75 : decode cX6_readBust 75 = .ok (.iload_n 2, 1) := by decide +kernel
theorem dX6_readBust_76 : decode cX6_readBust 76 = .ok (.iload_n 3, 1) := by decide +kernel
theorem dX6_readBust_77 : decode cX6_readBust 77 = .ok (.iload 4, 2) := by decide +kernel
theorem dX6_readBust_79 : decode cX6_readBust 79 = .ok (.aload_n 0, 1) := by decide +kernel
theorem dX6_readBust_80 : decode cX6_readBust 80 = .ok (.ldc_w 299, 3) := by decide +kernel
theorem dX6_readBust_83 : decode cX6_readBust 83 = .ok (.invokevirtual 294, 3) := by decide +kernel
theorem dX6_readBust_86 : decode cX6_readBust 86 = .ok (.ifCond .eq 7, 3) := by decide +kernel
theorem dX6_readBust_89 : decode cX6_readBust 89 = .ok (.iconst 1, 1) := by decide +kernel
theorem dX6_readBust_90 : decode cX6_readBust 90 = .ok (.goto 4, 3) := by decide +kernel
theorem dX6_readBust_93 : decode cX6_readBust 93 = .ok (.iconst 0, 1) := by decide +kernel
theorem dX6_readBust_94 : decode cX6_readBust 94 = .ok (.invokevirtual 301, 3) := by decide +kernel
theorem dX6_readBust_97 : decode cX6_readBust 97 = .ok (.aload_n 0, 1) := by decide +kernel
theorem dX6_readBust_98 : decode cX6_readBust 98 = .ok (.dup, 1) := by decide +kernel
theorem dX6_readBust_99 : decode cX6_readBust 99 = .ok (.getfield 287, 3) := by decide +kernel
theorem dX6_readBust_102 : decode cX6_readBust 102 = .ok (.iconst 1, 1) := by decide +kernel
theorem dX6_readBust_103 : decode cX6_readBust 103 = .ok (.iadd, 1) := by decide +kernel
theorem dX6_readBust_104 : decode cX6_readBust 104 = .ok (.putfield 287, 3) := by decide +kernel
theorem dX6_readBust_107 : decode cX6_readBust 107 = .ok (.return_, 1) := by decide +kernel
theorem dX6_readItem_0 : decode cX6_readItem 0 = .ok (.iconst (-1), 1) := by decide +kernel
theorem dX6_readItem_1 : decode cX6_readItem 1 = .ok (.istore_n 1, 1) := by decide +kernel
theorem dX6_readItem_2 : decode cX6_readItem 2 = .ok (.iconst 0, 1) := by decide +kernel
theorem dX6_readItem_3 : decode cX6_readItem 3 = .ok (.istore_n 2, 1) := by decide +kernel
theorem dX6_readItem_4 : decode cX6_readItem 4 = .ok (.iload_n 2, 1) := by decide +kernel
theorem dX6_readItem_5 : decode cX6_readItem 5 = .ok (.aload_n 0, 1) := by decide +kernel
theorem dX6_readItem_6 : decode cX6_readItem 6 = .ok (.getfield 41, 3) := by decide +kernel
theorem dX6_readItem_9 : decode cX6_readItem 9 = .ok (.arraylength, 1) := by decide +kernel
theorem dX6_readItem_10 : decode cX6_readItem 10 = .ok (.if_icmp .ge 28, 3) := by decide +kernel
theorem dX6_readItem_13 : decode cX6_readItem 13 = .ok (.aload_n 0, 1) := by decide +kernel
theorem dX6_readItem_14 : decode cX6_readItem 14 = .ok (.aload_n 0, 1) := by decide +kernel
theorem dX6_readItem_15 : decode cX6_readItem 15 = .ok (.getfield 41, 3) := by decide +kernel
theorem dX6_readItem_18 : decode cX6_readItem 18 = .ok (.iload_n 2, 1) := by decide +kernel
theorem dX6_readItem_19 : decode cX6_readItem 19 = .ok (.aaload, 1) := by decide +kernel
theorem dX6_readItem_20 : decode cX6_readItem 20 = .ok (.invokevirtual 283, 3) := by decide +kernel
theorem dX6_readItem_23 : decode cX6_readItem 23 = .ok (.ifCond .eq 7, 3) := by decide +kernel
theorem dX6_readItem_26 : decode cX6_readItem 26 = .ok (.iload_n 2, 1) := by decide +kernel
theorem dX6_readItem_27 : decode cX6_readItem 27 = .ok (.goto 4, 3) := by decide +kernel
theorem dX6_readItem_30 : decode cX6_readItem 30 = .ok (.iload_n 1, 1) := by decide +kernel
theorem dX6_readItem_31 : decode cX6_readItem 31 = .ok (.istore_n 1, 1) := by decide +kernel
theorem dX6_readItem_32 : decode cX6_readItem 32 = .ok (.iinc 2 1, 3) := by decide +kernel
theorem dX6_readItem_35 : decode cX6_readItem 35 = .ok (.goto (-31), 3) := by decide +kernel
theorem dX6_readItem_38 : decode cX6_readItem 38 = .ok (.iload_n 1, 1) := by decide +kernel
theorem dX6_readItem_39 : decode cX6_readItem 39 = .ok (.ifCond .lt 11, 3) := by decide +kernel
theorem dX6_readItem_42 : decode cX6_readItem 42 = .ok (.aload_n 0, 1) := by decide +kernel
theorem dX6_readItem_43 : decode cX6_readItem 43 = .ok (.iload_n 1, 1) := by decide +kernel
theorem dX6_readItem_44 : decode cX6_readItem 44 = .ok (.invokevirtual 305, 3) := by decide +kernel
theorem dX6_readItem_47 : decode cX6_readItem 47 = .ok (.goto 81, 3) := by decide +kernel
theorem dX6_readItem_50 : decode cX6_readItem 50 = .ok (.aload_n 0, 1) := by decide +kernel
theorem dX6_readItem_51 : decode cX6_readItem 51 = .ok (.ldc_w 308, 3) := by decide +kernel
theorem dX6_readItem_54 : decode cX6_readItem 54 = .ok (.invokevirtual 294, 3) := by decide +kernel
theorem dX6_readItem_57 : decode cX6_readItem 57 = .ok (.ifCond .eq 29, 3) := by decide +kernel
theorem dX6_readItem_60 : decode cX6_readItem 60 = .ok (.aload_n 0, 1) := by decide +kernel
theorem dX6_readItem_61 : decode cX6_readItem 61 = .ok (.iconst 0, 1) := by decide +kernel
theorem dX6_readItem_62 : decode cX6_readItem 62 = .ok (.iconst 5, 1) := by decide +kernel
theorem dX6_readItem_63 : decode cX6_readItem 63 = .ok (.invokevirtual 290, 3) := by decide +kernel
theorem dX6_readItem_66 : decode cX6_readItem 66 = .ok (.istore_n 2, 1) := by decide +kernel
theorem dX6_readItem_67 : decode cX6_readItem 67 = .ok (.aload_n 0, 1) := by decide +kernel
theorem dX6_readItem_68 : decode cX6_readItem 68 = .ok (.bipush 10, 2) := by decide +kernel
theorem dX6_readItem_70 : decode cX6_readItem 70 = .ok (.iload_n 2, 1) := by decide +kernel
theorem dX6_readItem_71 : decode cX6_readItem 71 = .ok (.aload_n 0, 1) := by decide +kernel
theorem dX6_readItem_72 : decode cX6_readItem 72 = .ok (.iconst 0, 1) := by decide +kernel
theorem dX6_readItem_73 : decode cX6_readItem 73 = .ok (.bipush 12, 2) := by decide +kernel
theorem dX6_readItem_75 : decode cX6_readItem 75 = .ok (.invokevirtual 290, 3) := by decide +kernel
theorem dX6_readItem_78 : decode cX6_readItem 78 = .ok (.iconst 0, 1) := by decide +kernel
theorem dX6_readItem_79 : decode cX6_readItem 79 = .ok (.iconst 0, 1) := by decide +kernel
theorem dX6_readItem_80 : decode cX6_readItem 80 = .ok (.invokevirtual 301, 3) := by decide +kernel
theorem dX6_readItem_83 : decode cX6_readItem 83 = .ok (.goto 45, 3) := by decide +kernel
theorem dX6_readItem_86 : decode cX6_readItem 86 = .ok (.aload_n 0, 1) := by decide +kernel
theorem dX6_readItem_87 : decode cX6_readItem 87 = .ok (.ldc_w 310, 3) := by decide +kernel
theorem dX6_readItem_90 : decode cX6_readItem 90 = .ok (.invokevirtual 294, 3) := by decide +kernel
theorem dX6_readItem_93 : decode cX6_readItem 93 = .ok (.ifCond .eq 30, 3) := by decide +kernel
theorem dX6_readItem_96 : decode cX6_readItem 96 = .ok (.aload_n 0, 1) := by decide +kernel
theorem dX6_readItem_97 : decode cX6_readItem 97 = .ok (.iconst 0, 1) := by decide +kernel
theorem dX6_readItem_98 : decode cX6_readItem 98 = .ok (.bipush 11, 2) := by decide +kernel
theorem dX6_readItem_100 : decode cX6_readItem 100 = .ok (.invokevirtual 290, 3) := by decide +kernel
theorem dX6_readItem_103 : decode cX6_readItem 103 = .ok (.istore_n 2, 1) := by decide +kernel
theorem dX6_readItem_104 : decode cX6_readItem 104 = .ok (.aload_n 0, 1) := by decide +kernel
theorem dX6_readItem_105 : decode cX6_readItem 105 = .ok (.bipush 11, 2) := by decide +kernel
theorem dX6_readItem_107 : decode cX6_readItem 107 = .ok (.iload_n 2, 1) := by decide +kernel
theorem dX6_readItem_108 : decode cX6_readItem 108 = .ok (.aload_n 0, 1) := by decide +kernel
theorem dX6_readItem_109 : decode cX6_readItem 109 = .ok (.iconst 0, 1) := by decide +kernel
theorem dX6_readItem_110 : decode cX6_readItem 110 = .ok (.bipush 99, 2) := by decide +kernel
theorem dX6_readItem_112 : decode cX6_readItem 112 = .ok (.invokevirtual 290, 3) := by decide +kernel
theorem dX6_readItem_115 : decode cX6_readItem 115 = .ok (.iconst 0, 1) := by decide +kernel
theorem dX6_readItem_116 : decode cX6_readItem 116 = .ok (.iconst 0, 1) := by decide +kernel
theorem dX6_readItem_117 : decode cX6_readItem 117 = .ok (.invokevirtual 301, 3) := by decide +kernel
theorem dX6_readItem_120 : decode cX6_readItem 120 = .ok (.goto 8, 3) := by decide +kernel
theorem dX6_readItem_123 : decode cX6_readItem 123 = .ok (.aload_n 0, 1) := by decide +kernel
theorem dX6_readItem_124 : decode cX6_readItem 124 = .ok (.iconst 0, 1) := by decide +kernel
theorem dX6_readItem_125 : decode cX6_readItem 125 = .ok (.invokevirtual 276, 3) := by decide +kernel
theorem dX6_readItem_128 : decode cX6_readItem 128 = .ok (.return_, 1) := by decide +kernel
theorem dX6_isToldSo_0 : decode cX6_isToldSo 0 = .ok (.aload_n 0, 1) := by decide +kernel
theorem dX6_isToldSo_1 : decode cX6_isToldSo 1 = .ok (.getfield 45, 3) := by decide +kernel
theorem dX6_isToldSo_4 : decode cX6_isToldSo 4 = .ok (.iload_n 1, 1) := by decide +kernel
theorem dX6_isToldSo_5 : decode cX6_isToldSo 5 = .ok (.iconst 1, 1) := by decide +kernel
theorem dX6_isToldSo_6 : decode cX6_isToldSo 6 = .ok (.iadd, 1) := by decide +kernel
theorem dX6_isToldSo_7 : decode cX6_isToldSo 7 = .ok (.iaload, 1) := by decide +kernel
theorem dX6_isToldSo_8 : decode cX6_isToldSo 8 = .ok (.istore_n 2, 1) := by decide +kernel
theorem dX6_isToldSo_9 : decode cX6_isToldSo 9 = .ok (.aload_n 0, 1) := by decide +kernel
theorem dX6_isToldSo_10 : decode cX6_isToldSo 10 = .ok (.getfield 45, 3) := by decide +kernel
theorem dX6_isToldSo_13 : decode cX6_isToldSo 13 = .ok (.iload_n 1, 1) := by decide +kernel
theorem dX6_isToldSo_14 : decode cX6_isToldSo 14 = .ok (.iconst 2, 1) := by decide +kernel
theorem dX6_isToldSo_15 : decode cX6_isToldSo 15 = .ok (.iadd, 1) := by decide +kernel
theorem dX6_isToldSo_16 : decode cX6_isToldSo 16 = .ok (.iaload, 1) := by decide +kernel
theorem dX6_isToldSo_17 : decode cX6_isToldSo 17 = .ok (.istore_n 3, 1) := by decide +kernel
theorem dX6_isToldSo_18 : decode cX6_isToldSo 18 = .ok (.aload_n 0, 1) := by decide +kernel
theorem dX6_isToldSo_19 : decode cX6_isToldSo 19 = .ok (.getfield 45, 3) := by decide +kernel
theorem dX6_isToldSo_22 : decode cX6_isToldSo 22 = .ok (.iload_n 1, 1) := by decide +kernel
theorem dX6_isToldSo_23 : decode cX6_isToldSo 23 = .ok (.iaload, 1) := by decide +kernel
theorem dX6_isToldSo_24 : decode cX6_isToldSo 24 = .ok (.lookupswitch 53 #[(10, 28), (11, 40)], 28) := by decide +kernel
theorem dX6_isToldSo_52 : decode cX6_isToldSo 52 = .ok (.aload_n 0, 1) := by decide +kernel
theorem dX6_isToldSo_53 : decode cX6_isToldSo 53 = .ok (.getfield 9, 3) := by decide +kernel
theorem dX6_isToldSo_56 : decode cX6_isToldSo 56 = .ok (.iconst 4, 1) := by decide +kernel
theorem dX6_isToldSo_57 : decode cX6_isToldSo 57 = .ok (.iload_n 2, 1) := by decide +kernel
theorem dX6_isToldSo_58 : decode cX6_isToldSo 58 = .ok (.iadd, 1) := by decide +kernel
theorem dX6_isToldSo_59 : decode cX6_isToldSo 59 = .ok (.iload_n 3, 1) := by decide +kernel
theorem dX6_isToldSo_60 : decode cX6_isToldSo 60 = .ok (.iastore, 1) := by decide +kernel
theorem dX6_isToldSo_61 : decode cX6_isToldSo 61 = .ok (.goto 79, 3) := by decide +kernel
theorem dX6_isToldSo_64 : decode cX6_isToldSo 64 = .ok (.aload_n 0, 1) := by decide +kernel
theorem dX6_isToldSo_65 : decode cX6_isToldSo 65 = .ok (.getfield 9, 3) := by decide +kernel
theorem dX6_isToldSo_68 : decode cX6_isToldSo 68 = .ok (.bipush 10, 2) := by decide +kernel
theorem dX6_isToldSo_70 : decode cX6_isToldSo 70 = .ok (.iload_n 2, 1) := by decide +kernel
theorem dX6_isToldSo_71 : decode cX6_isToldSo 71 = .ok (.iadd, 1) := by decide +kernel
theorem dX6_isToldSo_72 : decode cX6_isToldSo 72 = .ok (.iload_n 3, 1) := by decide +kernel
theorem dX6_isToldSo_73 : decode cX6_isToldSo 73 = .ok (.iastore, 1) := by decide +kernel
theorem dX6_isToldSo_74 : decode cX6_isToldSo 74 = .ok (.goto 66, 3) := by decide +kernel
theorem dX6_isToldSo_77 : decode cX6_isToldSo 77 = .ok (.aload_n 0, 1) := by decide +kernel
theorem dX6_isToldSo_78 : decode cX6_isToldSo 78 = .ok (.aload_n 0, 1) := by decide +kernel
theorem dX6_isToldSo_79 : decode cX6_isToldSo 79 = .ok (.getfield 45, 3) := by decide +kernel
theorem dX6_isToldSo_82 : decode cX6_isToldSo 82 = .ok (.iload_n 1, 1) := by decide +kernel
theorem dX6_isToldSo_83 : decode cX6_isToldSo 83 = .ok (.iaload, 1) := by decide +kernel
theorem dX6_isToldSo_84 : decode cX6_isToldSo 84 = .ok (.iload_n 2, 1) := by decide +kernel
theorem dX6_isToldSo_85 : decode cX6_isToldSo 85 = .ok (.invokevirtual 98, 3) := by decide +kernel
theorem dX6_isToldSo_88 : decode cX6_isToldSo 88 = .ok (.istore 4, 2) := by decide +kernel
theorem dX6_isToldSo_90 : decode cX6_isToldSo 90 = .ok (.aload_n 0, 1) := by decide +kernel
theorem dX6_isToldSo_91 : decode cX6_isToldSo 91 = .ok (.getfield 9, 3) := by decide +kernel
theorem dX6_isToldSo_94 : decode cX6_isToldSo 94 = .ok (.iload 4, 2) := by decide +kernel
theorem dX6_isToldSo_96 : decode cX6_isToldSo 96 = .ok (.iconst 2, 1) := by decide +kernel
theorem dX6_isToldSo_97 : decode cX6_isToldSo 97 = .ok (.invokestatic 88, 3) := by decide +kernel
theorem dX6_isToldSo_100 : decode cX6_isToldSo 100 = .ok (.iload_n 3, 1) := by decide +kernel
theorem dX6_isToldSo_101 : decode cX6_isToldSo 101 = .ok (.iastore, 1) := by decide +kernel
theorem dX6_isToldSo_102 : decode cX6_isToldSo 102 = .ok (.aload_n 0, 1) := by decide +kernel
theorem dX6_isToldSo_103 : decode cX6_isToldSo 103 = .ok (.getfield 9, 3) := by decide +kernel
theorem dX6_isToldSo_106 : decode cX6_isToldSo 106 = .ok (.iload 4, 2) := by decide +kernel
theorem dX6_isToldSo_108 : decode cX6_isToldSo 108 = .ok (.iconst 3, 1) := by decide +kernel
theorem dX6_isToldSo_109 : decode cX6_isToldSo 109 = .ok (.invokestatic 88, 3) := by decide +kernel
theorem dX6_isToldSo_112 : decode cX6_isToldSo 112 = .ok (.aload_n 0, 1) := by decide +kernel
theorem dX6_isToldSo_113 : decode cX6_isToldSo 113 = .ok (.getfield 45, 3) := by decide +kernel
theorem dX6_isToldSo_116 : decode cX6_isToldSo 116 = .ok (.iload_n 1, 1) := by decide +kernel
theorem dX6_isToldSo_117 : decode cX6_isToldSo 117 = .ok (.iconst 3, 1) := by decide +kernel
theorem dX6_isToldSo_118 : decode cX6_isToldSo 118 = .ok (.iadd, 1) := by decide +kernel
theorem dX6_isToldSo_119 : decode cX6_isToldSo 119 = .ok (.iaload, 1) := by decide +kernel
theorem dX6_isToldSo_120 : decode cX6_isToldSo 120 = .ok (.iastore, 1) := by decide +kernel
theorem dX6_isToldSo_121 : decode cX6_isToldSo 121 = .ok (.aload_n 0, 1) := by decide +kernel
theorem dX6_isToldSo_122 : decode cX6_isToldSo 122 = .ok (.getfield 9, 3) := by decide +kernel
theorem dX6_isToldSo_125 : decode cX6_isToldSo 125 = .ok (.iload 4, 2) := by decide +kernel
theorem dX6_isToldSo_127 : decode cX6_isToldSo 127 = .ok (.iconst 5, 1) := by decide +kernel
theorem dX6_isToldSo_128 : decode cX6_isToldSo 128 = .ok (.invokestatic 88, 3) := by decide +kernel
theorem dX6_isToldSo_131 : decode cX6_isToldSo 131 = .ok (.aload_n 0, 1) := by decide +kernel
theorem dX6_isToldSo_132 : decode cX6_isToldSo 132 = .ok (.getfield 45, 3) := by decide +kernel
theorem dX6_isToldSo_135 : decode cX6_isToldSo 135 = .ok (.iload_n 1, 1) := by decide +kernel
theorem dX6_isToldSo_136 : decode cX6_isToldSo 136 = .ok (.iconst 4, 1) := by decide +kernel
theorem dX6_isToldSo_137 : decode cX6_isToldSo 137 = .ok (.iadd, 1) := by decide +kernel
theorem dX6_isToldSo_138 : decode cX6_isToldSo 138 = .ok (.iaload, 1) := by decide +kernel
theorem dX6_isToldSo_139 : decode cX6_isToldSo 139 = .ok (.iastore, 1) := by decide +kernel
theorem dX6_isToldSo_140 : decode cX6_isToldSo 140 = .ok (.return_, 1) := by decide +kernel
theorem dX6_text_0 : decode cX6_text 0 = .ok (.aload_n 0, 1) := by decide +kernel
theorem dX6_text_1 : decode cX6_text 1 = .ok (.iconst 0, 1) := by decide +kernel
theorem dX6_text_2 : decode cX6_text 2 = .ok (.putfield 247, 3) := by decide +kernel
theorem dX6_text_5 : decode cX6_text 5 = .ok (.aload_n 0, 1) := by decide +kernel
theorem dX6_text_6 : decode cX6_text 6 = .ok (.iconst 0, 1) := by decide +kernel
theorem dX6_text_7 : decode cX6_text 7 = .ok (.putfield 269, 3) := by decide +kernel
theorem dX6_text_10 : decode cX6_text 10 = .ok (.aload_n 0, 1) := by decide +kernel
theorem dX6_text_11 : decode cX6_text 11 = .ok (.iconst 0, 1) := by decide +kernel
theorem dX6_text_12 : decode cX6_text 12 = .ok (.putfield 280, 3) := by decide +kernel
theorem dX6_text_15 : decode cX6_text 15 = .ok (.aload_n 0, 1) := by decide +kernel
theorem dX6_text_16 : decode cX6_text 16 = .ok (.aload_n 0, 1) := by decide +kernel
theorem dX6_text_17 : decode cX6_text 17 = .ok (.getfield 9, 3) := by decide +kernel
theorem dX6_text_20 : decode cX6_text 20 = .ok (.iconst 1, 1) := by decide +kernel
theorem dX6_text_21 : decode cX6_text 21 = .ok (.iaload, 1) := by decide +kernel
theorem dX6_text_22 : decode cX6_text 22 = .ok (.putfield 287, 3) := by decide +kernel
theorem dX6_text_25 : decode cX6_text 25 = .ok (.aload_n 0, 1) := by decide +kernel
theorem dX6_text_26 : decode cX6_text 26 = .ok (.invokevirtual 273, 3) := by decide +kernel
theorem dX6_text_29 : decode cX6_text 29 = .ok (.aload_n 0, 1) := by decide +kernel
theorem dX6_text_30 : decode cX6_text 30 = .ok (.invokevirtual 312, 3) := by decide +kernel
theorem dX6_text_33 : decode cX6_text 33 = .ok (.aload_n 0, 1) := by decide +kernel
theorem dX6_text_34 : decode cX6_text 34 = .ok (.getfield 269, 3) := by decide +kernel
theorem dX6_text_37 : decode cX6_text 37 = .ok (.ifCond .ne 37, 3) := by decide +kernel
theorem dX6_text_40 : decode cX6_text 40 = .ok (.aload_n 0, 1) := by decide +kernel
theorem dX6_text_41 : decode cX6_text 41 = .ok (.getfield 259, 3) := by decide +kernel
theorem dX6_text_44 : decode cX6_text 44 = .ok (.iconst 3, 1) := by decide +kernel
theorem dX6_text_45 : decode cX6_text 45 = .ok (.if_icmp .ne 29, 3) := by decide +kernel
theorem dX6_text_48 : decode cX6_text 48 = .ok (.aload_n 0, 1) := by decide +kernel
theorem dX6_text_49 : decode cX6_text 49 = .ok (.getfield 22, 3) := by decide +kernel
theorem dX6_text_52 : decode cX6_text 52 = .ok (.aload_n 0, 1) := by decide +kernel
theorem dX6_text_53 : decode cX6_text 53 = .ok (.getfield 250, 3) := by decide +kernel
theorem dX6_text_56 : decode cX6_text 56 = .ok (.iaload, 1) := by decide +kernel
theorem dX6_text_57 : decode cX6_text 57 = .ok (.bipush 59, 2) := by decide +kernel
theorem dX6_text_59 : decode cX6_text 59 = .ok (.if_icmp .ne 15, 3) := by decide +kernel
theorem dX6_text_62 : decode cX6_text 62 = .ok (.aload_n 0, 1) := by decide +kernel
theorem dX6_text_63 : decode cX6_text 63 = .ok (.iconst 1, 1) := by decide +kernel
theorem dX6_text_64 : decode cX6_text 64 = .ok (.invokevirtual 276, 3) := by decide +kernel
theorem dX6_text_67 : decode cX6_text 67 = .ok (.aload_n 0, 1) := by decide +kernel
theorem dX6_text_68 : decode cX6_text 68 = .ok (.invokevirtual 312, 3) := by decide +kernel
theorem dX6_text_71 : decode cX6_text 71 = .ok (.goto (-38), 3) := by decide +kernel
theorem dX6_text_74 : decode cX6_text 74 = .ok (.aload_n 0, 1) := by decide +kernel
theorem dX6_text_75 : decode cX6_text 75 = .ok (.aload_n 0, 1) := by decide +kernel
theorem dX6_text_76 : decode cX6_text 76 = .ok (.getfield 259, 3) := by decide +kernel
theorem dX6_text_79 : decode cX6_text 79 = .ok (.ifCond .ne 7, 3) := by decide +kernel
theorem dX6_text_82 : decode cX6_text 82 = .ok (.iconst 1, 1) := by decide +kernel
theorem dX6_text_83 : decode cX6_text 83 = .ok (.goto 4, 3) := by decide +kernel
theorem dX6_text_86 : decode cX6_text 86 = .ok (.iconst 0, 1) := by decide +kernel
theorem dX6_text_87 : decode cX6_text 87 = .ok (.invokevirtual 276, 3) := by decide +kernel
theorem dX6_text_90 : decode cX6_text 90 = .ok (.aload_n 0, 1) := by decide +kernel
theorem dX6_text_91 : decode cX6_text 91 = .ok (.iconst 0, 1) := by decide +kernel
theorem dX6_text_92 : decode cX6_text 92 = .ok (.putfield 243, 3) := by decide +kernel
theorem dX6_text_95 : decode cX6_text 95 = .ok (.aload_n 0, 1) := by decide +kernel
theorem dX6_text_96 : decode cX6_text 96 = .ok (.getfield 269, 3) := by decide +kernel
theorem dX6_text_99 : decode cX6_text 99 = .ok (.ifCond .eq 10, 3) := by decide +kernel
theorem dX6_text_102 : decode cX6_text 102 = .ok (.iconst (-1), 1) := by decide +kernel
theorem dX6_text_103 : decode cX6_text 103 = .ok (.aload_n 0, 1) := by decide +kernel
theorem dX6_text_104 : decode cX6_text 104 = .ok (.getfield 250, 3) := by decide +kernel
theorem dX6_text_107 : decode cX6_text 107 = .ok (.isub, 1) := by decide +kernel
theorem dX6_text_108 : decode cX6_text 108 = .ok (.ireturn, 1) := by decide +kernel
theorem dX6_text_109 : decode cX6_text 109 = .ok (.iconst 0, 1) := by decide +kernel
theorem dX6_text_110 : decode cX6_text 110 = .ok (.istore_n 1, 1) := by decide +kernel
theorem dX6_text_111 : decode cX6_text 111 = .ok (.iload_n 1, 1) := by decide +kernel
theorem dX6_text_112 : decode cX6_text 112 = .ok (.aload_n 0, 1) := by decide +kernel
theorem dX6_text_113 : decode cX6_text 113 = .ok (.getfield 280, 3) := by decide +kernel
theorem dX6_text_116 : decode cX6_text 116 = .ok (.if_icmp .ge 16, 3) := by decide +kernel
theorem dX6_text_119 : decode cX6_text 119 = .ok (.aload_n 0, 1) := by decide +kernel
theorem dX6_text_120 : decode cX6_text 120 = .ok (.iconst 5, 1) := by decide +kernel
theorem dX6_text_121 : decode cX6_text 121 = .ok (.iload_n 1, 1) := by decide +kernel
theorem dX6_text_122 : decode cX6_text 122 = .ok (.imul, 1) := by decide +kernel
theorem dX6_text_123 : decode cX6_text 123 = .ok (.invokevirtual 315, 3) := by decide +kernel
theorem dX6_text_126 : decode cX6_text 126 = .ok (.iinc 1 1, 3) := by decide +kernel
theorem dX6_text_129 : decode cX6_text 129 = .ok (.goto (-18), 3) := by decide +kernel
theorem dX6_text_132 : decode cX6_text 132 = .ok (.aload_n 0, 1) := by decide +kernel
theorem dX6_text_133 : decode cX6_text 133 = .ok (.getfield 280, 3) := by decide +kernel
theorem dX6_text_136 : decode cX6_text 136 = .ok (.ireturn, 1) := by decide +kernel
theorem dX6_isSpot_0 : decode cX6_isSpot 0 = .ok (.iload_n 0, 1) := by decide +kernel
theorem dX6_isSpot_1 : decode cX6_isSpot 1 = .ok (.iconst 0, 1) := by decide +kernel
theorem dX6_isSpot_2 : decode cX6_isSpot 2 = .ok (.bipush 9, 2) := by decide +kernel
theorem dX6_isSpot_4 : decode cX6_isSpot 4 = .ok (.invokestatic 70, 3) := by decide +kernel
theorem dX6_isSpot_7 : decode cX6_isSpot 7 = .ok (.ireturn, 1) := by decide +kernel
theorem dX6_hold_0 : decode cX6_hold 0 = .ok (.iload_n 1, 1) := by decide +kernel
theorem dX6_hold_1 : decode cX6_hold 1 = .ok (.invokestatic 318, 3) := by decide +kernel
theorem dX6_hold_4 : decode cX6_hold 4 = .ok (.ifCond .eq 16, 3) := by decide +kernel
theorem dX6_hold_7 : decode cX6_hold 7 = .ok (.iload_n 2, 1) := by decide +kernel
theorem dX6_hold_8 : decode cX6_hold 8 = .ok (.iconst (-1), 1) := by decide +kernel
theorem dX6_hold_9 : decode cX6_hold 9 = .ok (.if_icmp .eq 18, 3) := by decide +kernel
theorem dX6_hold_12 : decode cX6_hold 12 = .ok (.aload_n 0, 1) := by decide +kernel
theorem dX6_hold_13 : decode cX6_hold 13 = .ok (.iload_n 2, 1) := by decide +kernel
theorem dX6_hold_14 : decode cX6_hold 14 = .ok (.invokevirtual 137, 3) := by decide +kernel
theorem dX6_hold_17 : decode cX6_hold 17 = .ok (.ifCond .ne 10, 3) := by decide +kernel
theorem dX6_hold_20 : decode cX6_hold 20 = .ok (.aload_n 0, 1) := by decide +kernel
theorem dX6_hold_21 : decode cX6_hold 21 = .ok (.ldc 60, 2) := by decide +kernel
theorem dX6_hold_23 : decode cX6_hold 23 = .ok (.invokevirtual 66, 3) := by decide +kernel
theorem dX6_hold_26 : decode cX6_hold 26 = .ok (.ireturn, 1) := by decide +kernel
theorem dX6_hold_27 : decode cX6_hold 27 = .ok (.aload_n 0, 1) := by decide +kernel
theorem dX6_hold_28 : decode cX6_hold 28 = .ok (.getfield 9, 3) := by decide +kernel
theorem dX6_hold_31 : decode cX6_hold 31 = .ok (.bipush 22, 2) := by decide +kernel
theorem dX6_hold_33 : decode cX6_hold 33 = .ok (.iload_n 1, 1) := by decide +kernel
theorem dX6_hold_34 : decode cX6_hold 34 = .ok (.iadd, 1) := by decide +kernel
theorem dX6_hold_35 : decode cX6_hold 35 = .ok (.iload_n 2, 1) := by decide +kernel
theorem dX6_hold_36 : decode cX6_hold 36 = .ok (.iastore, 1) := by decide +kernel
theorem dX6_hold_37 : decode cX6_hold 37 = .ok (.iconst 1, 1) := by decide +kernel
theorem dX6_hold_38 : decode cX6_hold 38 = .ok (.ireturn, 1) := by decide +kernel
theorem dX6_as_0 : decode cX6_as 0 = .ok (.iload_n 1, 1) := by decide +kernel
theorem dX6_as_1 : decode cX6_as 1 = .ok (.invokestatic 318, 3) := by decide +kernel
theorem dX6_as_4 : decode cX6_as 4 = .ok (.ifCond .eq 10, 3) := by decide +kernel
theorem dX6_as_7 : decode cX6_as 7 = .ok (.iload_n 2, 1) := by decide +kernel
theorem dX6_as_8 : decode cX6_as 8 = .ok (.invokestatic 91, 3) := by decide +kernel
theorem dX6_as_11 : decode cX6_as 11 = .ok (.ifCond .ne 10, 3) := by decide +kernel
theorem dX6_as_14 : decode cX6_as 14 = .ok (.aload_n 0, 1) := by decide +kernel
theorem dX6_as_15 : decode cX6_as 15 = .ok (.ldc 60, 2) := by decide +kernel
theorem dX6_as_17 : decode cX6_as 17 = .ok (.invokevirtual 66, 3) := by decide +kernel
theorem dX6_as_20 : decode cX6_as 20 = .ok (.ireturn, 1) := by decide +kernel
theorem dX6_as_21 : decode cX6_as 21 = .ok (.aload_n 0, 1) := by decide +kernel
theorem dX6_as_22 : decode cX6_as 22 = .ok (.getfield 9, 3) := by decide +kernel
theorem dX6_as_25 : decode cX6_as 25 = .ok (.bipush 22, 2) := by decide +kernel
theorem dX6_as_27 : decode cX6_as 27 = .ok (.iload_n 1, 1) := by decide +kernel
theorem dX6_as_28 : decode cX6_as 28 = .ok (.iadd, 1) := by decide +kernel
theorem dX6_as_29 : decode cX6_as 29 = .ok (.iaload, 1) := by decide +kernel
theorem dX6_as_30 : decode cX6_as 30 = .ok (.istore_n 3, 1) := by decide +kernel
theorem dX6_as_31 : decode cX6_as 31 = .ok (.iload_n 3, 1) := by decide +kernel
theorem dX6_as_32 : decode cX6_as 32 = .ok (.ifCond .ge 10, 3) := by decide +kernel
theorem dX6_as_35 : decode cX6_as 35 = .ok (.aload_n 0, 1) := by decide +kernel
theorem dX6_as_36 : decode cX6_as 36 = .ok (.ldc 227, 2) := by decide +kernel
theorem dX6_as_38 : decode cX6_as 38 = .ok (.invokevirtual 66, 3) := by decide +kernel
theorem dX6_as_41 : decode cX6_as 41 = .ok (.ireturn, 1) := by decide +kernel
theorem dX6_as_42 : decode cX6_as 42 = .ok (.aload_n 0, 1) := by decide +kernel
theorem dX6_as_43 : decode cX6_as 43 = .ok (.iload_n 3, 1) := by decide +kernel
theorem dX6_as_44 : decode cX6_as 44 = .ok (.iconst 0, 1) := by decide +kernel
theorem dX6_as_45 : decode cX6_as 45 = .ok (.invokevirtual 101, 3) := by decide +kernel
theorem dX6_as_48 : decode cX6_as 48 = .ok (.iload_n 2, 1) := by decide +kernel
theorem dX6_as_49 : decode cX6_as 49 = .ok (.invokestatic 321, 3) := by decide +kernel
theorem dX6_as_52 : decode cX6_as 52 = .ok (.ifCond .eq 7, 3) := by decide +kernel
theorem dX6_as_55 : decode cX6_as 55 = .ok (.iload_n 3, 1) := by decide +kernel
theorem dX6_as_56 : decode cX6_as 56 = .ok (.goto 10, 3) := by decide +kernel
theorem dX6_as_59 : decode cX6_as 59 = .ok (.aload_n 0, 1) := by decide +kernel
theorem dX6_as_60 : decode cX6_as 60 = .ok (.ldc_w 324, 3) := by decide +kernel
theorem dX6_as_63 : decode cX6_as 63 = .ok (.invokevirtual 66, 3) := by decide +kernel
theorem dX6_as_66 : decode cX6_as 66 = .ok (.ireturn, 1) := by decide +kernel
theorem dX6_isSheet_0 : decode cX6_isSheet 0 = .ok (.iload_n 0, 1) := by decide +kernel
theorem dX6_isSheet_1 : decode cX6_isSheet 1 = .ok (.iconst 0, 1) := by decide +kernel
theorem dX6_isSheet_2 : decode cX6_isSheet 2 = .ok (.iconst 3, 1) := by decide +kernel
theorem dX6_isSheet_3 : decode cX6_isSheet 3 = .ok (.invokestatic 70, 3) := by decide +kernel
theorem dX6_isSheet_6 : decode cX6_isSheet 6 = .ok (.ireturn, 1) := by decide +kernel
theorem dX6_cutTo_0 : decode cX6_cutTo 0 = .ok (.iload_n 1, 1) := by decide +kernel
theorem dX6_cutTo_1 : decode cX6_cutTo 1 = .ok (.bipush 8, 2) := by decide +kernel
theorem dX6_cutTo_3 : decode cX6_cutTo 3 = .ok (.if_icmp .ne 8, 3) := by decide +kernel
theorem dX6_cutTo_6 : decode cX6_cutTo 6 = .ok (.iload_n 0, 1) := by decide +kernel
theorem dX6_cutTo_7 : decode cX6_cutTo 7 = .ok (.i2b, 1) := by decide +kernel
theorem dX6_cutTo_8 : decode cX6_cutTo 8 = .ok (.goto 15, 3) := by decide +kernel
theorem dX6_cutTo_11 : decode cX6_cutTo 11 = .ok (.iload_n 1, 1) := by decide +kernel
theorem dX6_cutTo_12 : decode cX6_cutTo 12 = .ok (.bipush 16, 2) := by decide +kernel
theorem dX6_cutTo_14 : decode cX6_cutTo 14 = .ok (.if_icmp .ne 8, 3) := by decide +kernel
theorem dX6_cutTo_17 : decode cX6_cutTo 17 = .ok (.iload_n 0, 1) := by decide +kernel
theorem dX6_cutTo_18 : decode cX6_cutTo 18 = .ok (.i2s, 1) := by decide +kernel
theorem dX6_cutTo_19 : decode cX6_cutTo 19 = .ok (.goto 4, 3) := by decide +kernel
theorem dX6_cutTo_22 : decode cX6_cutTo 22 = .ok (.iload_n 0, 1) := by decide +kernel
theorem dX6_cutTo_23 : decode cX6_cutTo 23 = .ok (.ireturn, 1) := by decide +kernel
theorem dX6_sheet_0 : decode cX6_sheet 0 = .ok (.iload_n 1, 1) := by decide +kernel
theorem dX6_sheet_1 : decode cX6_sheet 1 = .ok (.invokestatic 224, 3) := by decide +kernel
theorem dX6_sheet_4 : decode cX6_sheet 4 = .ok (.ifCond .eq 25, 3) := by decide +kernel
theorem dX6_sheet_7 : decode cX6_sheet 7 = .ok (.iload_n 2, 1) := by decide +kernel
theorem dX6_sheet_8 : decode cX6_sheet 8 = .ok (.ifCond .eq 28, 3) := by decide +kernel
theorem dX6_sheet_11 : decode cX6_sheet 11 = .ok (.iload_n 2, 1) := by decide +kernel
theorem dX6_sheet_12 : decode cX6_sheet 12 = .ok (.bipush 8, 2) := by decide +kernel
theorem dX6_sheet_14 : decode cX6_sheet 14 = .ok (.if_icmp .eq 22, 3) := by decide +kernel
theorem dX6_sheet_17 : decode cX6_sheet 17 = .ok (.iload_n 2, 1) := by decide +kernel
theorem dX6_sheet_18 : decode cX6_sheet 18 = .ok (.bipush 16, 2) := by decide +kernel
theorem dX6_sheet_20 : decode cX6_sheet 20 = .ok (.if_icmp .eq 16, 3) := by decide +kernel
theorem dX6_sheet_23 : decode cX6_sheet 23 = .ok (.iload_n 2, 1) := by decide +kernel
theorem dX6_sheet_24 : decode cX6_sheet 24 = .ok (.bipush 32, 2) := by decide +kernel
theorem dX6_sheet_26 : decode cX6_sheet 26 = .ok (.if_icmp .eq 10, 3) := by decide +kernel
theorem dX6_sheet_29 : decode cX6_sheet 29 = .ok (.aload_n 0, 1) := by decide +kernel
theorem dX6_sheet_30 : decode cX6_sheet 30 = .ok (.ldc 60, 2) := by decide +kernel
theorem dX6_sheet_32 : decode cX6_sheet 32 = .ok (.invokevirtual 66, 3) := by decide +kernel
theorem dX6_sheet_35 : decode cX6_sheet 35 = .ok (.ireturn, 1) := by decide +kernel
theorem dX6_sheet_36 : decode cX6_sheet 36 = .ok (.iload_n 3, 1) := by decide +kernel
theorem dX6_sheet_37 : decode cX6_sheet 37 = .ok (.ifCond .ge 11, 3) := by decide +kernel
theorem dX6_sheet_40 : decode cX6_sheet 40 = .ok (.aload_n 0, 1) := by decide +kernel
theorem dX6_sheet_41 : decode cX6_sheet 41 = .ok (.ldc_w 325, 3) := by decide +kernel
theorem dX6_sheet_44 : decode cX6_sheet 44 = .ok (.invokevirtual 66, 3) := by decide +kernel
theorem dX6_sheet_47 : decode cX6_sheet 47 = .ok (.ireturn, 1) := by decide +kernel
theorem dX6_sheet_48 : decode cX6_sheet 48 = .ok (.iload_n 3, 1) := by decide +kernel
theorem dX6_sheet_49 : decode cX6_sheet 49 = .ok (.bipush 40, 2) := by decide +kernel
theorem dX6_sheet_51 : decode cX6_sheet 51 = .ok (.if_icmp .le 10, 3) := by decide +kernel
theorem dX6_sheet_54 : decode cX6_sheet 54 = .ok (.aload_n 0, 1) := by decide +kernel
theorem dX6_sheet_55 : decode cX6_sheet 55 = .ok (.ldc 60, 2) := by decide +kernel
theorem dX6_sheet_57 : decode cX6_sheet 57 = .ok (.invokevirtual 66, 3) := by decide +kernel
theorem dX6_sheet_60 : decode cX6_sheet 60 = .ok (.ireturn, 1) := by decide +kernel
theorem dX6_sheet_61 : decode cX6_sheet 61 = .ok (.aload_n 0, 1) := by decide +kernel
theorem dX6_sheet_62 : decode cX6_sheet 62 = .ok (.getfield 48, 3) := by decide +kernel
theorem dX6_sheet_65 : decode cX6_sheet 65 = .ok (.iload_n 1, 1) := by decide +kernel
theorem dX6_sheet_66 : decode cX6_sheet 66 = .ok (.iload_n 2, 1) := by decide +kernel
theorem dX6_sheet_67 : decode cX6_sheet 67 = .ok (.iastore, 1) := by decide +kernel
theorem dX6_sheet_68 : decode cX6_sheet 68 = .ok (.aload_n 0, 1) := by decide +kernel
theorem dX6_sheet_69 : decode cX6_sheet 69 = .ok (.getfield 51, 3) := by decide +kernel
theorem dX6_sheet_72 : decode cX6_sheet 72 = .ok (.iload_n 1, 1) := by decide +kernel
theorem dX6_sheet_73 : decode cX6_sheet 73 = .ok (.iload_n 2, 1) := by decide +kernel
theorem dX6_sheet_74 : decode cX6_sheet 74 = .ok (.ifCond .ne 7, 3) := by decide +kernel
theorem dX6_sheet_77 : decode cX6_sheet 77 = .ok (.iconst 0, 1) := by decide +kernel
theorem dX6_sheet_78 : decode cX6_sheet 78 = .ok (.goto 4, 3) := by decide +kernel
theorem dX6_sheet_81 : decode cX6_sheet 81 = .ok (.iload_n 3, 1) := by decide +kernel
theorem dX6_sheet_82 : decode cX6_sheet 82 = .ok (.iastore, 1) := by decide +kernel
theorem dX6_sheet_83 : decode cX6_sheet 83 = .ok (.iconst 0, 1) := by decide +kernel
theorem dX6_sheet_84 : decode cX6_sheet 84 = .ok (.istore 4, 2) := by decide +kernel
theorem dX6_sheet_86 : decode cX6_sheet 86 = .ok (.iload 4, 2) := by decide +kernel
theorem dX6_sheet_88 : decode cX6_sheet 88 = .ok (.bipush 40, 2) := by decide +kernel
theorem dX6_sheet_90 : decode cX6_sheet 90 = .ok (.if_icmp .ge 22, 3) := by decide +kernel
theorem dX6_sheet_93 : decode cX6_sheet 93 = .ok (.aload_n 0, 1) := by decide +kernel
theorem dX6_sheet_94 : decode cX6_sheet 94 = .ok (.getfield 54, 3) := by decide +kernel
theorem dX6_sheet_97 : decode cX6_sheet 97 = .ok (.bipush 40, 2) := by decide +kernel
theorem dX6_sheet_99 : decode cX6_sheet 99 = .ok (.iload_n 1, 1) := by decide +kernel
theorem dX6_sheet_100 : decode cX6_sheet 100 = .ok (.imul, 1) := by decide +kernel
theorem dX6_sheet_101 : decode cX6_sheet 101 = .ok (.iload 4, 2) := by decide +kernel
theorem dX6_sheet_103 : decode cX6_sheet 103 = .ok (.iadd, 1) := by decide +kernel
theorem dX6_sheet_104 : decode cX6_sheet 104 = .ok (.iconst 0, 1) := by decide +kernel
theorem dX6_sheet_105 : decode cX6_sheet 105 = .ok (.iastore, 1) := by decide +kernel
theorem dX6_sheet_106 : decode cX6_sheet 106 = .ok (.iinc 4 1, 3) := by decide +kernel
theorem dX6_sheet_109 : decode cX6_sheet 109 = .ok (.goto (-23), 3) := by decide +kernel
theorem dX6_sheet_112 : decode cX6_sheet 112 = .ok (.aload_n 0, 1) := by decide +kernel
theorem dX6_sheet_113 : decode cX6_sheet 113 = .ok (.getfield 51, 3) := by decide +kernel
theorem dX6_sheet_116 : decode cX6_sheet 116 = .ok (.iload_n 1, 1) := by decide +kernel
theorem dX6_sheet_117 : decode cX6_sheet 117 = .ok (.iaload, 1) := by decide +kernel
theorem dX6_sheet_118 : decode cX6_sheet 118 = .ok (.ireturn, 1) := by decide +kernel
theorem dX6_write_0 : decode cX6_write 0 = .ok (.iload_n 1, 1) := by decide +kernel
theorem dX6_write_1 : decode cX6_write 1 = .ok (.invokestatic 224, 3) := by decide +kernel
theorem dX6_write_4 : decode cX6_write 4 = .ok (.ifCond .ne 10, 3) := by decide +kernel
theorem dX6_write_7 : decode cX6_write 7 = .ok (.aload_n 0, 1) := by decide +kernel
theorem dX6_write_8 : decode cX6_write 8 = .ok (.ldc 60, 2) := by decide +kernel
theorem dX6_write_10 : decode cX6_write 10 = .ok (.invokevirtual 66, 3) := by decide +kernel
theorem dX6_write_13 : decode cX6_write 13 = .ok (.ireturn, 1) := by decide +kernel
theorem dX6_write_14 : decode cX6_write 14 = .ok (.aload_n 0, 1) := by decide +kernel
theorem dX6_write_15 : decode cX6_write 15 = .ok (.getfield 48, 3) := by decide +kernel
theorem dX6_write_18 : decode cX6_write 18 = .ok (.iload_n 1, 1) := by decide +kernel
theorem dX6_write_19 : decode cX6_write 19 = .ok (.iaload, 1) := by decide +kernel
theorem dX6_write_20 : decode cX6_write 20 = .ok (.ifCond .ne 10, 3) := by decide +kernel
theorem dX6_write_23 : decode cX6_write 23 = .ok (.aload_n 0, 1) := by decide +kernel
theorem dX6_write_24 : decode cX6_write 24 = .ok (.ldc 227, 2) := by decide +kernel
theorem dX6_write_26 : decode cX6_write 26 = .ok (.invokevirtual 66, 3) := by decide +kernel
theorem dX6_write_29 : decode cX6_write 29 = .ok (.ireturn, 1) := by decide +kernel
theorem dX6_write_30 : decode cX6_write 30 = .ok (.iload_n 2, 1) := by decide +kernel
theorem dX6_write_31 : decode cX6_write 31 = .ok (.iconst 0, 1) := by decide +kernel
theorem dX6_write_32 : decode cX6_write 32 = .ok (.aload_n 0, 1) := by decide +kernel
theorem dX6_write_33 : decode cX6_write 33 = .ok (.getfield 51, 3) := by decide +kernel
theorem dX6_write_36 : decode cX6_write 36 = .ok (.iload_n 1, 1) := by decide +kernel
theorem dX6_write_37 : decode cX6_write 37 = .ok (.iaload, 1) := by decide +kernel
theorem dX6_write_38 : decode cX6_write 38 = .ok (.iconst 1, 1) := by decide +kernel
theorem dX6_write_39 : decode cX6_write 39 = .ok (.isub, 1) := by decide +kernel
theorem dX6_write_40 : decode cX6_write 40 = .ok (.invokestatic 70, 3) := by decide +kernel
theorem dX6_write_43 : decode cX6_write 43 = .ok (.ifCond .ne 10, 3) := by decide +kernel
theorem dX6_write_46 : decode cX6_write 46 = .ok (.aload_n 0, 1) := by decide +kernel
theorem dX6_write_47 : decode cX6_write 47 = .ok (.ldc 60, 2) := by decide +kernel
theorem dX6_write_49 : decode cX6_write 49 = .ok (.invokevirtual 66, 3) := by decide +kernel
theorem dX6_write_52 : decode cX6_write 52 = .ok (.ireturn, 1) := by decide +kernel
theorem dX6_write_53 : decode cX6_write 53 = .ok (.aload_n 0, 1) := by decide +kernel
theorem dX6_write_54 : decode cX6_write 54 = .ok (.getfield 54, 3) := by decide +kernel
theorem dX6_write_57 : decode cX6_write 57 = .ok (.bipush 40, 2) := by decide +kernel
theorem dX6_write_59 : decode cX6_write 59 = .ok (.iload_n 1, 1) := by decide +kernel
theorem dX6_write_60 : decode cX6_write 60 = .ok (.imul, 1) := by decide +kernel
theorem dX6_write_61 : decode cX6_write 61 = .ok (.iload_n 2, 1) := by decide +kernel
theorem dX6_write_62 : decode cX6_write 62 = .ok (.iadd, 1) := by decide +kernel
theorem dX6_write_63 : decode cX6_write 63 = .ok (.iload_n 3, 1) := by decide +kernel
theorem dX6_write_64 : decode cX6_write 64 = .ok (.aload_n 0, 1) := by decide +kernel
theorem dX6_write_65 : decode cX6_write 65 = .ok (.getfield 48, 3) := by decide +kernel
theorem dX6_write_68 : decode cX6_write 68 = .ok (.iload_n 1, 1) := by decide +kernel
theorem dX6_write_69 : decode cX6_write 69 = .ok (.iaload, 1) := by decide +kernel
theorem dX6_write_70 : decode cX6_write 70 = .ok (.invokestatic 326, 3) := by decide +kernel
theorem dX6_write_73 : decode cX6_write 73 = .ok (.iastore, 1) := by decide +kernel
theorem dX6_write_74 : decode cX6_write 74 = .ok (.iconst 1, 1) := by decide +kernel
theorem dX6_write_75 : decode cX6_write 75 = .ok (.ireturn, 1) := by decide +kernel
theorem dX6_copy_0 : decode cX6_copy 0 = .ok (.iload_n 1, 1) := by decide +kernel
theorem dX6_copy_1 : decode cX6_copy 1 = .ok (.invokestatic 224, 3) := by decide +kernel
theorem dX6_copy_4 : decode cX6_copy 4 = .ok (.ifCond .eq 10, 3) := by decide +kernel
theorem dX6_copy_7 : decode cX6_copy 7 = .ok (.iload_n 3, 1) := by decide +kernel
theorem dX6_copy_8 : decode cX6_copy 8 = .ok (.invokestatic 224, 3) := by decide +kernel
theorem dX6_copy_11 : decode cX6_copy 11 = .ok (.ifCond .ne 10, 3) := by decide +kernel
theorem dX6_copy_14 : decode cX6_copy 14 = .ok (.aload_n 0, 1) := by decide +kernel
theorem dX6_copy_15 : decode cX6_copy 15 = .ok (.ldc 60, 2) := by decide +kernel
theorem dX6_copy_17 : decode cX6_copy 17 = .ok (.invokevirtual 66, 3) := by decide +kernel
theorem dX6_copy_20 : decode cX6_copy 20 = .ok (.ireturn, 1) := by decide +kernel
theorem dX6_copy_21 : decode cX6_copy 21 = .ok (.aload_n 0, 1) := by decide +kernel
theorem dX6_copy_22 : decode cX6_copy 22 = .ok (.getfield 48, 3) := by decide +kernel
theorem dX6_copy_25 : decode cX6_copy 25 = .ok (.iload_n 1, 1) := by decide +kernel
theorem dX6_copy_26 : decode cX6_copy 26 = .ok (.iaload, 1) := by decide +kernel
theorem dX6_copy_27 : decode cX6_copy 27 = .ok (.ifCond .eq 12, 3) := by decide +kernel
theorem dX6_copy_30 : decode cX6_copy 30 = .ok (.aload_n 0, 1) := by decide +kernel
theorem dX6_copy_31 : decode cX6_copy 31 = .ok (.getfield 48, 3) := by decide +kernel
theorem dX6_copy_34 : decode cX6_copy 34 = .ok (.iload_n 3, 1) := by decide +kernel
theorem dX6_copy_35 : decode cX6_copy 35 = .ok (.iaload, 1) := by decide +kernel
theorem dX6_copy_36 : decode cX6_copy 36 = .ok (.ifCond .ne 10, 3) := by decide +kernel
theorem dX6_copy_39 : decode cX6_copy 39 = .ok (.aload_n 0, 1) := by decide +kernel
theorem dX6_copy_40 : decode cX6_copy 40 = .ok (.ldc 227, 2) := by decide +kernel
theorem dX6_copy_42 : decode cX6_copy 42 = .ok (.invokevirtual 66, 3) := by decide +kernel
theorem dX6_copy_45 : decode cX6_copy 45 = .ok (.ireturn, 1) := by decide +kernel
theorem dX6_copy_46 : decode cX6_copy 46 = .ok (.aload_n 0, 1) := by decide +kernel
theorem dX6_copy_47 : decode cX6_copy 47 = .ok (.getfield 48, 3) := by decide +kernel
theorem dX6_copy_50 : decode cX6_copy 50 = .ok (.iload_n 1, 1) := by decide +kernel
theorem dX6_copy_51 : decode cX6_copy 51 = .ok (.iaload, 1) := by decide +kernel
theorem dX6_copy_52 : decode cX6_copy 52 = .ok (.aload_n 0, 1) := by decide +kernel
theorem dX6_copy_53 : decode cX6_copy 53 = .ok (.getfield 48, 3) := by decide +kernel
theorem dX6_copy_56 : decode cX6_copy 56 = .ok (.iload_n 3, 1) := by decide +kernel
theorem dX6_copy_57 : decode cX6_copy 57 = .ok (.iaload, 1) := by decide +kernel
theorem dX6_copy_58 : decode cX6_copy 58 = .ok (.if_icmp .eq 11, 3) := by decide +kernel
theorem dX6_copy_61 : decode cX6_copy 61 = .ok (.aload_n 0, 1) := by decide +kernel
theorem dX6_copy_62 : decode cX6_copy 62 = .ok (.ldc_w 324, 3) := by decide +kernel
theorem dX6_copy_65 : decode cX6_copy 65 = .ok (.invokevirtual 66, 3) := by decide +kernel
theorem dX6_copy_68 : decode cX6_copy 68 = .ok (.ireturn, 1) := by decide +kernel
theorem dX6_copy_69 : decode cX6_copy 69 = .ok (.iload_n 2, 1) := by decide +kernel
theorem dX6_copy_70 : decode cX6_copy 70 = .ok (.ifCond .lt 48, 3) := by decide +kernel
theorem dX6_copy_73 : decode cX6_copy 73 = .ok (.iload 4, 2) := by decide +kernel
theorem dX6_copy_75 : decode cX6_copy 75 = .ok (.ifCond .lt 43, 3) := by decide +kernel
theorem dX6_copy_78 : decode cX6_copy 78 = .ok (.iload 5, 2) := by decide +kernel
theorem dX6_copy_80 : decode cX6_copy 80 = .ok (.ifCond .lt 38, 3) := by decide +kernel
theorem dX6_copy_83 : decode cX6_copy 83 = .ok (.iload_n 2, 1) := by decide +kernel
theorem dX6_copy_84 : decode cX6_copy 84 = .ok (.i2l, 1) := by decide +kernel
theorem dX6_copy_85 : decode cX6_copy 85 = .ok (.iload 5, 2) := by decide +kernel
theorem dX6_copy_87 : decode cX6_copy 87 = .ok (.i2l, 1) := by decide +kernel
theorem dX6_copy_88 : decode cX6_copy 88 = .ok (.ladd, 1) := by decide +kernel
theorem dX6_copy_89 : decode cX6_copy 89 = .ok (.aload_n 0, 1) := by decide +kernel
theorem dX6_copy_90 : decode cX6_copy 90 = .ok (.getfield 51, 3) := by decide +kernel
theorem dX6_copy_93 : decode cX6_copy 93 = .ok (.iload_n 1, 1) := by decide +kernel
theorem dX6_copy_94 : decode cX6_copy 94 = .ok (.iaload, 1) := by decide +kernel
theorem dX6_copy_95 : decode cX6_copy 95 = .ok (.i2l, 1) := by decide +kernel
theorem dX6_copy_96 : decode cX6_copy 96 = .ok (.lcmp, 1) := by decide +kernel
theorem dX6_copy_97 : decode cX6_copy 97 = .ok (.ifCond .gt 21, 3) := by decide +kernel
theorem dX6_copy_100 : decode cX6_copy 100 = .ok (.iload 4, 2) := by decide +kernel
theorem dX6_copy_102 : decode cX6_copy 102 = .ok (.i2l, 1) := by decide +kernel
theorem dX6_copy_103 : decode cX6_copy 103 = .ok (.iload 5, 2) := by decide +kernel
theorem dX6_copy_105 : decode cX6_copy 105 = .ok (.i2l, 1) := by decide +kernel
theorem dX6_copy_106 : decode cX6_copy 106 = .ok (.ladd, 1) := by decide +kernel
theorem dX6_copy_107 : decode cX6_copy 107 = .ok (.aload_n 0, 1) := by decide +kernel
theorem dX6_copy_108 : decode cX6_copy 108 = .ok (.getfield 51, 3) := by decide +kernel
theorem dX6_copy_111 : decode cX6_copy 111 = .ok (.iload_n 3, 1) := by decide +kernel
theorem dX6_copy_112 : decode cX6_copy 112 = .ok (.iaload, 1) := by decide +kernel
theorem dX6_copy_113 : decode cX6_copy 113 = .ok (.i2l, 1) := by decide +kernel
theorem dX6_copy_114 : decode cX6_copy 114 = .ok (.lcmp, 1) := by decide +kernel
theorem dX6_copy_115 : decode cX6_copy 115 = .ok (.ifCond .le 10, 3) := by decide +kernel
theorem dX6_copy_118 : decode cX6_copy 118 = .ok (.aload_n 0, 1) := by decide +kernel
theorem dX6_copy_119 : decode cX6_copy 119 = .ok (.ldc 60, 2) := by decide +kernel
theorem dX6_copy_121 : decode cX6_copy 121 = .ok (.invokevirtual 66, 3) := by decide +kernel
theorem dX6_copy_124 : decode cX6_copy 124 = .ok (.ireturn, 1) := by decide +kernel
theorem dX6_copy_125 : decode cX6_copy 125 = .ok (.iconst 0, 1) := by decide +kernel
theorem dX6_copy_126 : decode cX6_copy 126 = .ok (.istore 6, 2) := by decide +kernel
theorem dX6_copy_128 : decode cX6_copy 128 = .ok (.iload 6, 2) := by decide +kernel
theorem dX6_copy_130 : decode cX6_copy 130 = .ok (.iload 5, 2) := by decide +kernel
theorem dX6_copy_132 : decode cX6_copy 132 = .ok (.if_icmp .ge 30, 3) := by decide +kernel
theorem dX6_copy_135 : decode cX6_copy 135 = .ok (.aload_n 0, 1) := by decide +kernel
theorem dX6_copy_136 : decode cX6_copy 136 = .ok (.getfield 57, 3) := by decide +kernel
theorem dX6_copy_139 : decode cX6_copy 139 = .ok (.iload 6, 2) := by decide +kernel
theorem dX6_copy_141 : decode cX6_copy 141 = .ok (.aload_n 0, 1) := by decide +kernel
theorem dX6_copy_142 : decode cX6_copy 142 = .ok (.getfield 54, 3) := by decide +kernel
theorem dX6_copy_145 : decode cX6_copy 145 = .ok (.bipush 40, 2) := by decide +kernel
theorem dX6_copy_147 : decode cX6_copy 147 = .ok (.iload_n 1, 1) := by decide +kernel
theorem dX6_copy_148 : decode cX6_copy 148 = .ok (.imul, 1) := by decide +kernel
theorem dX6_copy_149 : decode cX6_copy 149 = .ok (.iload_n 2, 1) := by decide +kernel
theorem dX6_copy_150 : decode cX6_copy 150 = .ok (.iadd, 1) := by decide +kernel
theorem dX6_copy_151 : decode cX6_copy 151 = .ok (.iload 6, 2) := by decide +kernel
theorem dX6_copy_153 : decode cX6_copy 153 = .ok (.iadd, 1) := by decide +kernel
theorem dX6_copy_154 : decode cX6_copy 154 = .ok (.iaload, 1) := by decide +kernel
theorem dX6_copy_155 : decode cX6_copy 155 = .ok (.iastore, 1) := by decide +kernel
theorem dX6_copy_156 : decode cX6_copy 156 = .ok (.iinc 6 1, 3) := by decide +kernel
theorem dX6_copy_159 : decode cX6_copy 159 = .ok (.goto (-31), 3) := by decide +kernel
theorem dX6_copy_162 : decode cX6_copy 162 = .ok (.iconst 0, 1) := by decide +kernel
theorem dX6_copy_163 : decode cX6_copy 163 = .ok (.istore 6, 2) := by decide +kernel
theorem dX6_copy_165 : decode cX6_copy 165 = .ok (.iload 6, 2) := by decide +kernel
theorem dX6_copy_167 : decode cX6_copy 167 = .ok (.iload 5, 2) := by decide +kernel
theorem dX6_copy_169 : decode cX6_copy 169 = .ok (.if_icmp .ge 31, 3) := by decide +kernel
theorem dX6_copy_172 : decode cX6_copy 172 = .ok (.aload_n 0, 1) := by decide +kernel
theorem dX6_copy_173 : decode cX6_copy 173 = .ok (.getfield 54, 3) := by decide +kernel
theorem dX6_copy_176 : decode cX6_copy 176 = .ok (.bipush 40, 2) := by decide +kernel
theorem dX6_copy_178 : decode cX6_copy 178 = .ok (.iload_n 3, 1) := by decide +kernel
theorem dX6_copy_179 : decode cX6_copy 179 = .ok (.imul, 1) := by decide +kernel
theorem dX6_copy_180 : decode cX6_copy 180 = .ok (.iload 4, 2) := by decide +kernel
theorem dX6_copy_182 : decode cX6_copy 182 = .ok (.iadd, 1) := by decide +kernel
theorem dX6_copy_183 : decode cX6_copy 183 = .ok (.iload 6, 2) := by decide +kernel
theorem dX6_copy_185 : decode cX6_copy 185 = .ok (.iadd, 1) := by decide +kernel
theorem dX6_copy_186 : decode cX6_copy 186 = .ok (.aload_n 0, 1) := by decide +kernel
theorem dX6_copy_187 : decode cX6_copy 187 = .ok (.getfield 57, 3) := by decide +kernel
theorem dX6_copy_190 : decode cX6_copy 190 = .ok (.iload 6, 2) := by decide +kernel
theorem dX6_copy_192 : decode cX6_copy 192 = .ok (.iaload, 1) := by decide +kernel
theorem dX6_copy_193 : decode cX6_copy 193 = .ok (.iastore, 1) := by decide +kernel
theorem dX6_copy_194 : decode cX6_copy 194 = .ok (.iinc 6 1, 3) := by decide +kernel
theorem dX6_copy_197 : decode cX6_copy 197 = .ok (.goto (-32), 3) := by decide +kernel
theorem dX6_copy_200 : decode cX6_copy 200 = .ok (.iload 5, 2) := by decide +kernel
theorem dX6_copy_202 : decode cX6_copy 202 = .ok (.ireturn, 1) := by decide +kernel
theorem dX6_above_0 : decode cX6_above 0 = .ok (.iload_n 0, 1) := by decide +kernel
theorem dX6_above_1 : decode cX6_above 1 = .ok (.ifCond .ne 7, 3) := by decide +kernel
theorem dX6_above_4 : decode cX6_above 4 = .ok (.iconst (-1), 1) := by decide +kernel
theorem dX6_above_5 : decode cX6_above 5 = .ok (.goto 32, 3) := by decide +kernel
theorem dX6_above_8 : decode cX6_above 8 = .ok (.iload_n 0, 1) := by decide +kernel
theorem dX6_above_9 : decode cX6_above 9 = .ok (.iconst 3, 1) := by decide +kernel
theorem dX6_above_10 : decode cX6_above 10 = .ok (.if_icmp .ne 7, 3) := by decide +kernel
theorem dX6_above_13 : decode cX6_above 13 = .ok (.iconst 2, 1) := by decide +kernel
theorem dX6_above_14 : decode cX6_above 14 = .ok (.goto 23, 3) := by decide +kernel
theorem dX6_above_17 : decode cX6_above 17 = .ok (.iload_n 0, 1) := by decide +kernel
theorem dX6_above_18 : decode cX6_above 18 = .ok (.iconst 4, 1) := by decide +kernel
theorem dX6_above_19 : decode cX6_above 19 = .ok (.if_icmp .ne 7, 3) := by decide +kernel
theorem dX6_above_22 : decode cX6_above 22 = .ok (.iconst 3, 1) := by decide +kernel
theorem dX6_above_23 : decode cX6_above 23 = .ok (.goto 14, 3) := by decide +kernel
theorem dX6_above_26 : decode cX6_above 26 = .ok (.iload_n 0, 1) := by decide +kernel
theorem dX6_above_27 : decode cX6_above 27 = .ok (.bipush 6, 2) := by decide +kernel
theorem dX6_above_29 : decode cX6_above 29 = .ok (.if_icmp .ne 7, 3) := by decide +kernel
theorem dX6_above_32 : decode cX6_above 32 = .ok (.iconst 1, 1) := by decide +kernel
theorem dX6_above_33 : decode cX6_above 33 = .ok (.goto 4, 3) := by decide +kernel
theorem dX6_above_36 : decode cX6_above 36 = .ok (.iconst 0, 1) := by decide +kernel
theorem dX6_above_37 : decode cX6_above 37 = .ok (.ireturn, 1) := by decide +kernel
theorem dX6_isUnder_0 : decode cX6_isUnder 0 = .ok (.iload_n 0, 1) := by decide +kernel
theorem dX6_isUnder_1 : decode cX6_isUnder 1 = .ok (.istore_n 2, 1) := by decide +kernel
theorem dX6_isUnder_2 : decode cX6_isUnder 2 = .ok (.iload_n 2, 1) := by decide +kernel
theorem dX6_isUnder_3 : decode cX6_isUnder 3 = .ok (.ifCond .lt 16, 3) := by decide +kernel
theorem dX6_isUnder_6 : decode cX6_isUnder 6 = .ok (.iload_n 2, 1) := by decide +kernel
theorem dX6_isUnder_7 : decode cX6_isUnder 7 = .ok (.iload_n 1, 1) := by decide +kernel
theorem dX6_isUnder_8 : decode cX6_isUnder 8 = .ok (.if_icmp .eq 11, 3) := by decide +kernel
theorem dX6_isUnder_11 : decode cX6_isUnder 11 = .ok (.iload_n 2, 1) := by decide +kernel
theorem dX6_isUnder_12 : decode cX6_isUnder 12 = .ok (.invokestatic 329, 3) := by decide +kernel
theorem dX6_isUnder_15 : decode cX6_isUnder 15 = .ok (.istore_n 2, 1) := by decide +kernel
theorem dX6_isUnder_16 : decode cX6_isUnder 16 = .ok (.goto (-14), 3) := by decide +kernel
theorem dX6_isUnder_19 : decode cX6_isUnder 19 = .ok (.iload_n 2, 1) := by decide +kernel
theorem dX6_isUnder_20 : decode cX6_isUnder 20 = .ok (.ifCond .lt 7, 3) := by decide +kernel
theorem dX6_isUnder_23 : decode cX6_isUnder 23 = .ok (.iconst 1, 1) := by decide +kernel
theorem dX6_isUnder_24 : decode cX6_isUnder 24 = .ok (.goto 4, 3) := by decide +kernel
theorem dX6_isUnder_27 : decode cX6_isUnder 27 = .ok (.iconst 0, 1) := by decide +kernel
theorem dX6_isUnder_28 : decode cX6_isUnder 28 = .ok (.ireturn, 1) := by decide +kernel
theorem dX6_load_0 : decode cX6_load 0 = .ok (.aload_n 0, 1) := by decide +kernel
theorem dX6_load_1 : decode cX6_load 1 = .ok (.iload_n 1, 1) := by decide +kernel
theorem dX6_load_2 : decode cX6_load 2 = .ok (.iconst 1, 1) := by decide +kernel
theorem dX6_load_3 : decode cX6_load 3 = .ok (.invokevirtual 231, 3) := by decide +kernel
theorem dX6_load_6 : decode cX6_load 6 = .ok (.ifCond .eq 14, 3) := by decide +kernel
theorem dX6_load_9 : decode cX6_load 9 = .ok (.aload_n 0, 1) := by decide +kernel
theorem dX6_load_10 : decode cX6_load 10 = .ok (.aload_n 0, 1) := by decide +kernel
theorem dX6_load_11 : decode cX6_load 11 = .ok (.iload_n 1, 1) := by decide +kernel
theorem dX6_load_12 : decode cX6_load 12 = .ok (.iconst 1, 1) := by decide +kernel
theorem dX6_load_13 : decode cX6_load 13 = .ok (.invokevirtual 231, 3) := by decide +kernel
theorem dX6_load_16 : decode cX6_load 16 = .ok (.invokevirtual 66, 3) := by decide +kernel
theorem dX6_load_19 : decode cX6_load 19 = .ok (.ireturn, 1) := by decide +kernel
theorem dX6_load_20 : decode cX6_load 20 = .ok (.iconst 0, 1) := by decide +kernel
theorem dX6_load_21 : decode cX6_load 21 = .ok (.istore_n 2, 1) := by decide +kernel
theorem dX6_load_22 : decode cX6_load 22 = .ok (.iload_n 2, 1) := by decide +kernel
theorem dX6_load_23 : decode cX6_load 23 = .ok (.aload_n 0, 1) := by decide +kernel
theorem dX6_load_24 : decode cX6_load 24 = .ok (.getfield 51, 3) := by decide +kernel
theorem dX6_load_27 : decode cX6_load 27 = .ok (.iload_n 1, 1) := by decide +kernel
theorem dX6_load_28 : decode cX6_load 28 = .ok (.iaload, 1) := by decide +kernel
theorem dX6_load_29 : decode cX6_load 29 = .ok (.if_icmp .ge 52, 3) := by decide +kernel
theorem dX6_load_32 : decode cX6_load 32 = .ok (.iload_n 2, 1) := by decide +kernel
theorem dX6_load_33 : decode cX6_load 33 = .ok (.invokestatic 74, 3) := by decide +kernel
theorem dX6_load_36 : decode cX6_load 36 = .ok (.ifCond .eq 45, 3) := by decide +kernel
theorem dX6_load_39 : decode cX6_load 39 = .ok (.aload_n 0, 1) := by decide +kernel
theorem dX6_load_40 : decode cX6_load 40 = .ok (.getfield 54, 3) := by decide +kernel
theorem dX6_load_43 : decode cX6_load 43 = .ok (.bipush 40, 2) := by decide +kernel
theorem dX6_load_45 : decode cX6_load 45 = .ok (.iload_n 1, 1) := by decide +kernel
theorem dX6_load_46 : decode cX6_load 46 = .ok (.imul, 1) := by decide +kernel
theorem dX6_load_47 : decode cX6_load 47 = .ok (.iload_n 2, 1) := by decide +kernel
theorem dX6_load_48 : decode cX6_load 48 = .ok (.iadd, 1) := by decide +kernel
theorem dX6_load_49 : decode cX6_load 49 = .ok (.iaload, 1) := by decide +kernel
theorem dX6_load_50 : decode cX6_load 50 = .ok (.invokestatic 78, 3) := by decide +kernel
theorem dX6_load_53 : decode cX6_load 53 = .ok (.ifCond .eq 28, 3) := by decide +kernel
theorem dX6_load_56 : decode cX6_load 56 = .ok (.aload_n 0, 1) := by decide +kernel
theorem dX6_load_57 : decode cX6_load 57 = .ok (.getfield 9, 3) := by decide +kernel
theorem dX6_load_60 : decode cX6_load 60 = .ok (.iconst 4, 1) := by decide +kernel
theorem dX6_load_61 : decode cX6_load 61 = .ok (.iload_n 2, 1) := by decide +kernel
theorem dX6_load_62 : decode cX6_load 62 = .ok (.iadd, 1) := by decide +kernel
theorem dX6_load_63 : decode cX6_load 63 = .ok (.aload_n 0, 1) := by decide +kernel
theorem dX6_load_64 : decode cX6_load 64 = .ok (.getfield 54, 3) := by decide +kernel
theorem dX6_load_67 : decode cX6_load 67 = .ok (.bipush 40, 2) := by decide +kernel
theorem dX6_load_69 : decode cX6_load 69 = .ok (.iload_n 1, 1) := by decide +kernel
theorem dX6_load_70 : decode cX6_load 70 = .ok (.imul, 1) := by decide +kernel
theorem dX6_load_71 : decode cX6_load 71 = .ok (.iload_n 2, 1) := by decide +kernel
theorem dX6_load_72 : decode cX6_load 72 = .ok (.iadd, 1) := by decide +kernel
theorem dX6_load_73 : decode cX6_load 73 = .ok (.iaload, 1) := by decide +kernel
theorem dX6_load_74 : decode cX6_load 74 = .ok (.iastore, 1) := by decide +kernel
theorem dX6_load_75 : decode cX6_load 75 = .ok (.iinc 2 1, 3) := by decide +kernel
theorem dX6_load_78 : decode cX6_load 78 = .ok (.goto (-56), 3) := by decide +kernel
theorem dX6_load_81 : decode cX6_load 81 = .ok (.iload_n 2, 1) := by decide +kernel
theorem dX6_load_82 : decode cX6_load 82 = .ok (.ireturn, 1) := by decide +kernel
theorem dX6_judge_0 : decode cX6_judge 0 = .ok (.aload_n 0, 1) := by decide +kernel
theorem dX6_judge_1 : decode cX6_judge 1 = .ok (.iload_n 1, 1) := by decide +kernel
theorem dX6_judge_2 : decode cX6_judge 2 = .ok (.iconst 1, 1) := by decide +kernel
theorem dX6_judge_3 : decode cX6_judge 3 = .ok (.invokevirtual 231, 3) := by decide +kernel
theorem dX6_judge_6 : decode cX6_judge 6 = .ok (.ifCond .eq 14, 3) := by decide +kernel
theorem dX6_judge_9 : decode cX6_judge 9 = .ok (.aload_n 0, 1) := by decide +kernel
theorem dX6_judge_10 : decode cX6_judge 10 = .ok (.aload_n 0, 1) := by decide +kernel
theorem dX6_judge_11 : decode cX6_judge 11 = .ok (.iload_n 1, 1) := by decide +kernel
theorem dX6_judge_12 : decode cX6_judge 12 = .ok (.iconst 1, 1) := by decide +kernel
theorem dX6_judge_13 : decode cX6_judge 13 = .ok (.invokevirtual 231, 3) := by decide +kernel
theorem dX6_judge_16 : decode cX6_judge 16 = .ok (.invokevirtual 66, 3) := by decide +kernel
theorem dX6_judge_19 : decode cX6_judge 19 = .ok (.ireturn, 1) := by decide +kernel
theorem dX6_judge_20 : decode cX6_judge 20 = .ok (.iconst 0, 1) := by decide +kernel
theorem dX6_judge_21 : decode cX6_judge 21 = .ok (.istore_n 2, 1) := by decide +kernel
theorem dX6_judge_22 : decode cX6_judge 22 = .ok (.iload_n 2, 1) := by decide +kernel
theorem dX6_judge_23 : decode cX6_judge 23 = .ok (.aload_n 0, 1) := by decide +kernel
theorem dX6_judge_24 : decode cX6_judge 24 = .ok (.getfield 51, 3) := by decide +kernel
theorem dX6_judge_27 : decode cX6_judge 27 = .ok (.iload_n 1, 1) := by decide +kernel
theorem dX6_judge_28 : decode cX6_judge 28 = .ok (.iaload, 1) := by decide +kernel
theorem dX6_judge_29 : decode cX6_judge 29 = .ok (.if_icmp .ge 36, 3) := by decide +kernel
theorem dX6_judge_32 : decode cX6_judge 32 = .ok (.aload_n 0, 1) := by decide +kernel
theorem dX6_judge_33 : decode cX6_judge 33 = .ok (.iload_n 2, 1) := by decide +kernel
theorem dX6_judge_34 : decode cX6_judge 34 = .ok (.invokevirtual 137, 3) := by decide +kernel
theorem dX6_judge_37 : decode cX6_judge 37 = .ok (.ifCond .eq 28, 3) := by decide +kernel
theorem dX6_judge_40 : decode cX6_judge 40 = .ok (.aload_n 0, 1) := by decide +kernel
theorem dX6_judge_41 : decode cX6_judge 41 = .ok (.getfield 54, 3) := by decide +kernel
theorem dX6_judge_44 : decode cX6_judge 44 = .ok (.bipush 40, 2) := by decide +kernel
theorem dX6_judge_46 : decode cX6_judge 46 = .ok (.iload_n 1, 1) := by decide +kernel
theorem dX6_judge_47 : decode cX6_judge 47 = .ok (.imul, 1) := by decide +kernel
theorem dX6_judge_48 : decode cX6_judge 48 = .ok (.iload_n 2, 1) := by decide +kernel
theorem dX6_judge_49 : decode cX6_judge 49 = .ok (.iadd, 1) := by decide +kernel
theorem dX6_judge_50 : decode cX6_judge 50 = .ok (.iaload, 1) := by decide +kernel
theorem dX6_judge_51 : decode cX6_judge 51 = .ok (.aload_n 0, 1) := by decide +kernel
theorem dX6_judge_52 : decode cX6_judge 52 = .ok (.iload_n 2, 1) := by decide +kernel
theorem dX6_judge_53 : decode cX6_judge 53 = .ok (.invokevirtual 134, 3) := by decide +kernel
theorem dX6_judge_56 : decode cX6_judge 56 = .ok (.if_icmp .ne 9, 3) := by decide +kernel
theorem dX6_judge_59 : decode cX6_judge 59 = .ok (.iinc 2 1, 3) := by decide +kernel
theorem dX6_judge_62 : decode cX6_judge 62 = .ok (.goto (-40), 3) := by decide +kernel
theorem dX6_judge_65 : decode cX6_judge 65 = .ok (.iload_n 2, 1) := by decide +kernel
theorem dX6_judge_66 : decode cX6_judge 66 = .ok (.aload_n 0, 1) := by decide +kernel
theorem dX6_judge_67 : decode cX6_judge 67 = .ok (.getfield 51, 3) := by decide +kernel
theorem dX6_judge_70 : decode cX6_judge 70 = .ok (.iload_n 1, 1) := by decide +kernel
theorem dX6_judge_71 : decode cX6_judge 71 = .ok (.iaload, 1) := by decide +kernel
theorem dX6_judge_72 : decode cX6_judge 72 = .ok (.if_icmp .ne 7, 3) := by decide +kernel
theorem dX6_judge_75 : decode cX6_judge 75 = .ok (.iconst 0, 1) := by decide +kernel
theorem dX6_judge_76 : decode cX6_judge 76 = .ok (.goto 6, 3) := by decide +kernel
theorem dX6_judge_79 : decode cX6_judge 79 = .ok (.iconst 1, 1) := by decide +kernel
theorem dX6_judge_80 : decode cX6_judge 80 = .ok (.iload_n 2, 1) := by decide +kernel
theorem dX6_judge_81 : decode cX6_judge 81 = .ok (.iadd, 1) := by decide +kernel
theorem dX6_judge_82 : decode cX6_judge 82 = .ok (.ireturn, 1) := by decide +kernel
theorem dX6_image_0 : decode cX6_image 0 = .ok (.aload_n 0, 1) := by decide +kernel
theorem dX6_image_1 : decode cX6_image 1 = .ok (.getfield 9, 3) := by decide +kernel
theorem dX6_image_4 : decode cX6_image 4 = .ok (.aload_n 0, 1) := by decide +kernel
theorem dX6_image_5 : decode cX6_image 5 = .ok (.getfield 13, 3) := by decide +kernel
theorem dX6_image_8 : decode cX6_image 8 = .ok (.invokestatic 61, 3) := by decide +kernel
theorem dX6_image_11 : decode cX6_image 11 = .ok (.aload_n 0, 1) := by decide +kernel
theorem dX6_image_12 : decode cX6_image 12 = .ok (.iconst 1, 1) := by decide +kernel
theorem dX6_image_13 : decode cX6_image 13 = .ok (.putfield 332, 3) := by decide +kernel
theorem dX6_image_16 : decode cX6_image 16 = .ok (.iconst 1, 1) := by decide +kernel
theorem dX6_image_17 : decode cX6_image 17 = .ok (.ireturn, 1) := by decide +kernel
theorem dX6_undo_0 : decode cX6_undo 0 = .ok (.aload_n 0, 1) := by decide +kernel
theorem dX6_undo_1 : decode cX6_undo 1 = .ok (.getfield 332, 3) := by decide +kernel
theorem dX6_undo_4 : decode cX6_undo 4 = .ok (.ifCond .ne 10, 3) := by decide +kernel
theorem dX6_undo_7 : decode cX6_undo 7 = .ok (.aload_n 0, 1) := by decide +kernel
theorem dX6_undo_8 : decode cX6_undo 8 = .ok (.ldc 65, 2) := by decide +kernel
theorem dX6_undo_10 : decode cX6_undo 10 = .ok (.invokevirtual 66, 3) := by decide +kernel
theorem dX6_undo_13 : decode cX6_undo 13 = .ok (.ireturn, 1) := by decide +kernel
theorem dX6_undo_14 : decode cX6_undo 14 = .ok (.aload_n 0, 1) := by decide +kernel
theorem dX6_undo_15 : decode cX6_undo 15 = .ok (.getfield 13, 3) := by decide +kernel
theorem dX6_undo_18 : decode cX6_undo 18 = .ok (.aload_n 0, 1) := by decide +kernel
theorem dX6_undo_19 : decode cX6_undo 19 = .ok (.getfield 9, 3) := by decide +kernel
theorem dX6_undo_22 : decode cX6_undo 22 = .ok (.invokestatic 61, 3) := by decide +kernel
theorem dX6_undo_25 : decode cX6_undo 25 = .ok (.aload_n 0, 1) := by decide +kernel
theorem dX6_undo_26 : decode cX6_undo 26 = .ok (.getfield 9, 3) := by decide +kernel
theorem dX6_undo_29 : decode cX6_undo 29 = .ok (.iconst 0, 1) := by decide +kernel
theorem dX6_undo_30 : decode cX6_undo 30 = .ok (.iaload, 1) := by decide +kernel
theorem dX6_undo_31 : decode cX6_undo 31 = .ok (.ireturn, 1) := by decide +kernel
theorem dX6_tear_0 : decode cX6_tear 0 = .ok (.aload_n 0, 1) := by decide +kernel
theorem dX6_tear_1 : decode cX6_tear 1 = .ok (.getfield 332, 3) := by decide +kernel
theorem dX6_tear_4 : decode cX6_tear 4 = .ok (.ifCond .eq 7, 3) := by decide +kernel
theorem dX6_tear_7 : decode cX6_tear 7 = .ok (.iconst 1, 1) := by decide +kernel
theorem dX6_tear_8 : decode cX6_tear 8 = .ok (.goto 4, 3) := by decide +kernel
theorem dX6_tear_11 : decode cX6_tear 11 = .ok (.iconst 0, 1) := by decide +kernel
theorem dX6_tear_12 : decode cX6_tear 12 = .ok (.istore_n 1, 1) := by decide +kernel
theorem dX6_tear_13 : decode cX6_tear 13 = .ok (.aload_n 0, 1) := by decide +kernel
theorem dX6_tear_14 : decode cX6_tear 14 = .ok (.iconst 0, 1) := by decide +kernel
theorem dX6_tear_15 : decode cX6_tear 15 = .ok (.putfield 332, 3) := by decide +kernel
theorem dX6_tear_18 : decode cX6_tear 18 = .ok (.iload_n 1, 1) := by decide +kernel
theorem dX6_tear_19 : decode cX6_tear 19 = .ok (.ireturn, 1) := by decide +kernel
theorem dX6_count_0 : decode cX6_count 0 = .ok (.iconst 0, 1) := by decide +kernel
theorem dX6_count_1 : decode cX6_count 1 = .ok (.istore_n 2, 1) := by decide +kernel
theorem dX6_count_2 : decode cX6_count 2 = .ok (.iload_n 1, 1) := by decide +kernel
theorem dX6_count_3 : decode cX6_count 3 = .ok (.tableswitch 127 0 7 #[45, 52, 59, 66, 71, 79, 84, 91], 45) := by decide +kernel
theorem dX6_count_48 : decode cX6_count 48 = .ok (.aload_n 0, 1) := by decide +kernel
theorem dX6_count_49 : decode cX6_count 49 = .ok (.getfield 9, 3) := by decide +kernel
theorem dX6_count_52 : decode cX6_count 52 = .ok (.iconst 0, 1) := by decide +kernel
theorem dX6_count_53 : decode cX6_count 53 = .ok (.iaload, 1) := by decide +kernel
theorem dX6_count_54 : decode cX6_count 54 = .ok (.ireturn, 1) := by decide +kernel
theorem dX6_count_55 : decode cX6_count 55 = .ok (.aload_n 0, 1) := by decide +kernel
theorem dX6_count_56 : decode cX6_count 56 = .ok (.getfield 9, 3) := by decide +kernel
theorem dX6_count_59 : decode cX6_count 59 = .ok (.iconst 1, 1) := by decide +kernel
theorem dX6_count_60 : decode cX6_count 60 = .ok (.iaload, 1) := by decide +kernel
theorem dX6_count_61 : decode cX6_count 61 = .ok (.ireturn, 1) := by decide +kernel
theorem dX6_count_62 : decode cX6_count 62 = .ok (.aload_n 0, 1) := by decide +kernel
theorem dX6_count_63 : decode cX6_count 63 = .ok (.getfield 9, 3) := by decide +kernel
theorem dX6_count_66 : decode cX6_count 66 = .ok (.iconst 3, 1) := by decide +kernel
theorem dX6_count_67 : decode cX6_count 67 = .ok (.iaload, 1) := by decide +kernel
theorem dX6_count_68 : decode cX6_count 68 = .ok (.ireturn, 1) := by decide +kernel
theorem dX6_count_69 : decode cX6_count 69 = .ok (.aload_n 0, 1) := by decide +kernel
theorem dX6_count_70 : decode cX6_count 70 = .ok (.invokevirtual 187, 3) := by decide +kernel
theorem dX6_count_73 : decode cX6_count 73 = .ok (.ireturn, 1) := by decide +kernel
theorem dX6_count_74 : decode cX6_count 74 = .ok (.aload_n 0, 1) := by decide +kernel
theorem dX6_count_75 : decode cX6_count 75 = .ok (.invokevirtual 202, 3) := by decide +kernel
theorem dX6_count_78 : decode cX6_count 78 = .ok (.invokestatic 111, 3) := by decide +kernel
theorem dX6_count_81 : decode cX6_count 81 = .ok (.ireturn, 1) := by decide +kernel
theorem dX6_count_82 : decode cX6_count 82 = .ok (.aload_n 0, 1) := by decide +kernel
theorem dX6_count_83 : decode cX6_count 83 = .ok (.getfield 243, 3) := by decide +kernel
theorem dX6_count_86 : decode cX6_count 86 = .ok (.ireturn, 1) := by decide +kernel
theorem dX6_count_87 : decode cX6_count 87 = .ok (.aload_n 0, 1) := by decide +kernel
theorem dX6_count_88 : decode cX6_count 88 = .ok (.getfield 9, 3) := by decide +kernel
theorem dX6_count_91 : decode cX6_count 91 = .ok (.iconst 2, 1) := by decide +kernel
theorem dX6_count_92 : decode cX6_count 92 = .ok (.iaload, 1) := by decide +kernel
theorem dX6_count_93 : decode cX6_count 93 = .ok (.ireturn, 1) := by decide +kernel
theorem dX6_count_94 : decode cX6_count 94 = .ok (.iconst 0, 1) := by decide +kernel
theorem dX6_count_95 : decode cX6_count 95 = .ok (.istore_n 3, 1) := by decide +kernel
theorem dX6_count_96 : decode cX6_count 96 = .ok (.iload_n 3, 1) := by decide +kernel
theorem dX6_count_97 : decode cX6_count 97 = .ok (.bipush 10, 2) := by decide +kernel
theorem dX6_count_99 : decode cX6_count 99 = .ok (.if_icmp .ge 29, 3) := by decide +kernel
theorem dX6_count_102 : decode cX6_count 102 = .ok (.iload_n 2, 1) := by decide +kernel
theorem dX6_count_103 : decode cX6_count 103 = .ok (.aload_n 0, 1) := by decide +kernel
theorem dX6_count_104 : decode cX6_count 104 = .ok (.getfield 9, 3) := by decide +kernel
theorem dX6_count_107 : decode cX6_count 107 = .ok (.bipush 22, 2) := by decide +kernel
theorem dX6_count_109 : decode cX6_count 109 = .ok (.iload_n 3, 1) := by decide +kernel
theorem dX6_count_110 : decode cX6_count 110 = .ok (.iadd, 1) := by decide +kernel
theorem dX6_count_111 : decode cX6_count 111 = .ok (.iaload, 1) := by decide +kernel
theorem dX6_count_112 : decode cX6_count 112 = .ok (.ifCond .ge 7, 3) := by decide +kernel
theorem dX6_count_115 : decode cX6_count 115 = .ok (.iconst 0, 1) := by decide +kernel
theorem dX6_count_116 : decode cX6_count 116 = .ok (.goto 4, 3) := by decide +kernel
theorem dX6_count_119 : decode cX6_count 119 = .ok (.iconst 1, 1) := by decide +kernel
theorem dX6_count_120 : decode cX6_count 120 = .ok (.iadd, 1) := by decide +kernel
theorem dX6_count_121 : decode cX6_count 121 = .ok (.istore_n 2, 1) := by decide +kernel
theorem dX6_count_122 : decode cX6_count 122 = .ok (.iinc 3 1, 3) := by decide +kernel
theorem dX6_count_125 : decode cX6_count 125 = .ok (.goto (-29), 3) := by decide +kernel
theorem dX6_count_128 : decode cX6_count 128 = .ok (.iload_n 2, 1) := by decide +kernel
theorem dX6_count_129 : decode cX6_count 129 = .ok (.ireturn, 1) := by decide +kernel
theorem dX6_count_130 : decode cX6_count 130 = .ok (.aload_n 0, 1) := by decide +kernel
theorem dX6_count_131 : decode cX6_count 131 = .ok (.ldc 60, 2) := by decide +kernel
theorem dX6_count_133 : decode cX6_count 133 = .ok (.invokevirtual 66, 3) := by decide +kernel
theorem dX6_count_136 : decode cX6_count 136 = .ok (.ireturn, 1) := by decide +kernel
theorem dX6_status_0 : decode cX6_status 0 = .ok (.iload_n 1, 1) := by decide +kernel
theorem dX6_status_1 : decode cX6_status 1 = .ok (.iconst (-1), 1) := by decide +kernel
theorem dX6_status_2 : decode cX6_status 2 = .ok (.bipush 6, 2) := by decide +kernel
theorem dX6_status_4 : decode cX6_status 4 = .ok (.invokestatic 70, 3) := by decide +kernel
theorem dX6_status_7 : decode cX6_status 7 = .ok (.ifCond .eq 14, 3) := by decide +kernel
theorem dX6_status_10 : decode cX6_status 10 = .ok (.aload_n 0, 1) := by decide +kernel
theorem dX6_status_11 : decode cX6_status 11 = .ok (.getfield 19, 3) := by decide +kernel
theorem dX6_status_14 : decode cX6_status 14 = .ok (.iload_n 1, 1) := by decide +kernel
theorem dX6_status_15 : decode cX6_status 15 = .ok (.iconst 1, 1) := by decide +kernel
theorem dX6_status_16 : decode cX6_status 16 = .ok (.iadd, 1) := by decide +kernel
theorem dX6_status_17 : decode cX6_status 17 = .ok (.iaload, 1) := by decide +kernel
theorem dX6_status_18 : decode cX6_status 18 = .ok (.goto 9, 3) := by decide +kernel
theorem dX6_status_21 : decode cX6_status 21 = .ok (.aload_n 0, 1) := by decide +kernel
theorem dX6_status_22 : decode cX6_status 22 = .ok (.ldc 60, 2) := by decide +kernel
theorem dX6_status_24 : decode cX6_status 24 = .ok (.invokevirtual 66, 3) := by decide +kernel
theorem dX6_status_27 : decode cX6_status 27 = .ok (.ireturn, 1) := by decide +kernel
theorem dJ0_length_8abf5_0 : decode cJ0_length_8abf5 0 = .ok (.aload_n 0, 1) := by decide +kernel
theorem dJ0_length_8abf5_1 : decode cJ0_length_8abf5 1 = .ok (.getfield 9, 3) := by decide +kernel
theorem dJ0_length_8abf5_4 : decode cJ0_length_8abf5 4 = .ok (.arraylength, 1) := by decide +kernel
theorem dJ0_length_8abf5_5 : decode cJ0_length_8abf5 5 = .ok (.aload_n 0, 1) := by decide +kernel
theorem dJ0_length_8abf5_6 : decode cJ0_length_8abf5 6 = .ok (.invokevirtual 335, 3) := by decide +kernel
theorem dJ0_length_8abf5_9 : decode cJ0_length_8abf5 9 = .ok (.ishr, 1) := by decide +kernel
theorem dJ0_length_8abf5_10 : decode cJ0_length_8abf5 10 = .ok (.ireturn, 1) := by decide +kernel
theorem dJ0_charAt_5068e_0 : decode cJ0_charAt_5068e 0 = .ok (.aload_n 0, 1) := by decide +kernel
theorem dJ0_charAt_5068e_1 : decode cJ0_charAt_5068e 1 = .ok (.invokevirtual 492, 3) := by decide +kernel
theorem dJ0_charAt_5068e_4 : decode cJ0_charAt_5068e 4 = .ok (.ifCond .eq 12, 3) := by decide +kernel
theorem dJ0_charAt_5068e_7 : decode cJ0_charAt_5068e 7 = .ok (.aload_n 0, 1) := by decide +kernel
theorem dJ0_charAt_5068e_8 : decode cJ0_charAt_5068e 8 = .ok (.getfield 9, 3) := by decide +kernel
theorem dJ0_charAt_5068e_11 : decode cJ0_charAt_5068e 11 = .ok (.iload_n 1, 1) := by decide +kernel
theorem dJ0_charAt_5068e_12 : decode cJ0_charAt_5068e 12 = .ok (.invokestatic 495, 3) := by decide +kernel
theorem dJ0_charAt_5068e_15 : decode cJ0_charAt_5068e 15 = .ok (.ireturn, 1) := by decide +kernel
theorem dJ0_charAt_5068e_16 : decode cJ0_charAt_5068e 16 = .ok (.aload_n 0, 1) := by decide +kernel
theorem dJ0_charAt_5068e_17 : decode cJ0_charAt_5068e 17 = .ok (.getfield 9, 3) := by decide +kernel
theorem dJ0_charAt_5068e_20 : decode cJ0_charAt_5068e 20 = .ok (.iload_n 1, 1) := by decide +kernel
theorem dJ0_charAt_5068e_21 : decode cJ0_charAt_5068e 21 = .ok (.invokestatic 498, 3) := by decide +kernel
theorem dJ0_charAt_5068e_24 : decode cJ0_charAt_5068e 24 = .ok (.ireturn, 1) := by decide +kernel
theorem dJ0_coder_7d493_0 : decode cJ0_coder_7d493 0 = .ok (.getstatic 38, 3) := by decide +kernel
theorem dJ0_coder_7d493_3 : decode cJ0_coder_7d493 3 = .ok (.ifCond .eq 10, 3) := by decide +kernel
theorem dJ0_coder_7d493_6 : decode cJ0_coder_7d493 6 = .ok (.aload_n 0, 1) := by decide +kernel
theorem dJ0_coder_7d493_7 : decode cJ0_coder_7d493 7 = .ok (.getfield 15, 3) := by decide +kernel
theorem dJ0_coder_7d493_10 : decode cJ0_coder_7d493 10 = .ok (.goto 4, 3) := by decide +kernel
theorem dJ0_coder_7d493_13 : decode cJ0_coder_7d493 13 = .ok (.iconst 1, 1) := by decide +kernel
theorem dJ0_coder_7d493_14 : decode cJ0_coder_7d493 14 = .ok (.ireturn, 1) := by decide +kernel
theorem dJ0_isLatin1_aae02_0 : decode cJ0_isLatin1_aae02 0 = .ok (.getstatic 38, 3) := by decide +kernel
theorem dJ0_isLatin1_aae02_3 : decode cJ0_isLatin1_aae02 3 = .ok (.ifCond .eq 14, 3) := by decide +kernel
theorem dJ0_isLatin1_aae02_6 : decode cJ0_isLatin1_aae02 6 = .ok (.aload_n 0, 1) := by decide +kernel
theorem dJ0_isLatin1_aae02_7 : decode cJ0_isLatin1_aae02 7 = .ok (.getfield 15, 3) := by decide +kernel
theorem dJ0_isLatin1_aae02_10 : decode cJ0_isLatin1_aae02 10 = .ok (.ifCond .ne 7, 3) := by decide +kernel
theorem dJ0_isLatin1_aae02_13 : decode cJ0_isLatin1_aae02 13 = .ok (.iconst 1, 1) := by decide +kernel
theorem dJ0_isLatin1_aae02_14 : decode cJ0_isLatin1_aae02 14 = .ok (.goto 4, 3) := by decide +kernel
theorem dJ0_isLatin1_aae02_17 : decode cJ0_isLatin1_aae02 17 = .ok (.iconst 0, 1) := by decide +kernel
theorem dJ0_isLatin1_aae02_18 : decode cJ0_isLatin1_aae02 18 = .ok (.ireturn, 1) := by decide +kernel
theorem dJ0_checkIndex_df160_0 : decode cJ0_checkIndex_df160 0 = .ok (.iload_n 0, 1) := by decide +kernel
theorem dJ0_checkIndex_df160_1 : decode cJ0_checkIndex_df160 1 = .ok (.iload_n 1, 1) := by decide +kernel
theorem dJ0_checkIndex_df160_2 : decode cJ0_checkIndex_df160 2 = .ok (.getstatic 1053, 3) := by decide +kernel
theorem dJ0_checkIndex_df160_5 : decode cJ0_checkIndex_df160 5 = .ok (.invokestatic 1059, 3) := by decide +kernel
theorem dJ0_checkIndex_df160_8 : decode cJ0_checkIndex_df160 8 = .ok (.pop, 1) := by decide +kernel
theorem dJ0_checkIndex_df160_9 : decode cJ0_checkIndex_df160 9 = .ok (.return_, 1) := by decide +kernel
theorem dJ1_charAt_3b067_0 : decode cJ1_charAt_3b067 0 = .ok (.iload_n 1, 1) := by decide +kernel
theorem dJ1_charAt_3b067_1 : decode cJ1_charAt_3b067 1 = .ok (.aload_n 0, 1) := by decide +kernel
theorem dJ1_charAt_3b067_2 : decode cJ1_charAt_3b067 2 = .ok (.arraylength, 1) := by decide +kernel
theorem dJ1_charAt_3b067_3 : decode cJ1_charAt_3b067 3 = .ok (.invokestatic 9, 3) := by decide +kernel
theorem dJ1_charAt_3b067_6 : decode cJ1_charAt_3b067 6 = .ok (.aload_n 0, 1) := by decide +kernel
theorem dJ1_charAt_3b067_7 : decode cJ1_charAt_3b067 7 = .ok (.iload_n 1, 1) := by decide +kernel
theorem dJ1_charAt_3b067_8 : decode cJ1_charAt_3b067 8 = .ok (.baload, 1) := by decide +kernel
theorem dJ1_charAt_3b067_9 : decode cJ1_charAt_3b067 9 = .ok (.sipush 255, 3) := by decide +kernel
theorem dJ1_charAt_3b067_12 : decode cJ1_charAt_3b067 12 = .ok (.iand, 1) := by decide +kernel
theorem dJ1_charAt_3b067_13 : decode cJ1_charAt_3b067 13 = .ok (.i2c, 1) := by decide +kernel
theorem dJ1_charAt_3b067_14 : decode cJ1_charAt_3b067 14 = .ok (.ireturn, 1) := by decide +kernel
theorem dJ3_checkIndex_8e157_0 : decode cJ3_checkIndex_8e157 0 = .ok (.iload_n 0, 1) := by decide +kernel
theorem dJ3_checkIndex_8e157_1 : decode cJ3_checkIndex_8e157 1 = .ok (.ifCond .lt 8, 3) := by decide +kernel
theorem dJ3_checkIndex_8e157_4 : decode cJ3_checkIndex_8e157 4 = .ok (.iload_n 0, 1) := by decide +kernel
theorem dJ3_checkIndex_8e157_5 : decode cJ3_checkIndex_8e157 5 = .ok (.iload_n 1, 1) := by decide +kernel
theorem dJ3_checkIndex_8e157_6 : decode cJ3_checkIndex_8e157 6 = .ok (.if_icmp .lt 10, 3) := by decide +kernel
theorem dJ3_checkIndex_8e157_9 : decode cJ3_checkIndex_8e157 9 = .ok (.aload_n 2, 1) := by decide +kernel
theorem dJ3_checkIndex_8e157_10 : decode cJ3_checkIndex_8e157 10 = .ok (.iload_n 0, 1) := by decide +kernel
theorem dJ3_checkIndex_8e157_11 : decode cJ3_checkIndex_8e157 11 = .ok (.iload_n 1, 1) := by decide +kernel
theorem dJ3_checkIndex_8e157_12 : decode cJ3_checkIndex_8e157 12 = .ok (.invokestatic 95, 3) := by decide +kernel
theorem dJ3_checkIndex_8e157_15 : decode cJ3_checkIndex_8e157 15 = .ok (.athrow, 1) := by decide +kernel
theorem dJ3_checkIndex_8e157_16 : decode cJ3_checkIndex_8e157 16 = .ok (.iload_n 0, 1) := by decide +kernel
theorem dJ3_checkIndex_8e157_17 : decode cJ3_checkIndex_8e157 17 = .ok (.ireturn, 1) := by decide +kernel
theorem dJ6_bitCount_0f7a4_0 : decode cJ6_bitCount_0f7a4 0 = .ok (.iload_n 0, 1) := by decide +kernel
theorem dJ6_bitCount_0f7a4_1 : decode cJ6_bitCount_0f7a4 1 = .ok (.iload_n 0, 1) := by decide +kernel
theorem dJ6_bitCount_0f7a4_2 : decode cJ6_bitCount_0f7a4 2 = .ok (.iconst 1, 1) := by decide +kernel
theorem dJ6_bitCount_0f7a4_3 : decode cJ6_bitCount_0f7a4 3 = .ok (.iushr, 1) := by decide +kernel
theorem dJ6_bitCount_0f7a4_4 : decode cJ6_bitCount_0f7a4 4 = .ok (.ldc_w 265, 3) := by decide +kernel
theorem dJ6_bitCount_0f7a4_7 : decode cJ6_bitCount_0f7a4 7 = .ok (.iand, 1) := by decide +kernel
theorem dJ6_bitCount_0f7a4_8 : decode cJ6_bitCount_0f7a4 8 = .ok (.isub, 1) := by decide +kernel
theorem dJ6_bitCount_0f7a4_9 : decode cJ6_bitCount_0f7a4 9 = .ok (.istore_n 0, 1) := by decide +kernel
theorem dJ6_bitCount_0f7a4_10 : decode cJ6_bitCount_0f7a4 10 = .ok (.iload_n 0, 1) := by decide +kernel
theorem dJ6_bitCount_0f7a4_11 : decode cJ6_bitCount_0f7a4 11 = .ok (.ldc_w 266, 3) := by decide +kernel
theorem dJ6_bitCount_0f7a4_14 : decode cJ6_bitCount_0f7a4 14 = .ok (.iand, 1) := by decide +kernel
theorem dJ6_bitCount_0f7a4_15 : decode cJ6_bitCount_0f7a4 15 = .ok (.iload_n 0, 1) := by decide +kernel
theorem dJ6_bitCount_0f7a4_16 : decode cJ6_bitCount_0f7a4 16 = .ok (.iconst 2, 1) := by decide +kernel
theorem dJ6_bitCount_0f7a4_17 : decode cJ6_bitCount_0f7a4 17 = .ok (.iushr, 1) := by decide +kernel
theorem dJ6_bitCount_0f7a4_18 : decode cJ6_bitCount_0f7a4 18 = .ok (.ldc_w 266, 3) := by decide +kernel
theorem dJ6_bitCount_0f7a4_21 : decode cJ6_bitCount_0f7a4 21 = .ok (.iand, 1) := by decide +kernel
theorem dJ6_bitCount_0f7a4_22 : decode cJ6_bitCount_0f7a4 22 = .ok (.iadd, 1) := by decide +kernel
theorem dJ6_bitCount_0f7a4_23 : decode cJ6_bitCount_0f7a4 23 = .ok (.istore_n 0, 1) := by decide +kernel
theorem dJ6_bitCount_0f7a4_24 : decode cJ6_bitCount_0f7a4 24 = .ok (.iload_n 0, 1) := by decide +kernel
theorem dJ6_bitCount_0f7a4_25 : decode cJ6_bitCount_0f7a4 25 = .ok (.iload_n 0, 1) := by decide +kernel
theorem dJ6_bitCount_0f7a4_26 : decode cJ6_bitCount_0f7a4 26 = .ok (.iconst 4, 1) := by decide +kernel
theorem dJ6_bitCount_0f7a4_27 : decode cJ6_bitCount_0f7a4 27 = .ok (.iushr, 1) := by decide +kernel
theorem dJ6_bitCount_0f7a4_28 : decode cJ6_bitCount_0f7a4 28 = .ok (.iadd, 1) := by decide +kernel
theorem dJ6_bitCount_0f7a4_29 : decode cJ6_bitCount_0f7a4 29 = .ok (.ldc_w 267, 3) := by decide +kernel
theorem dJ6_bitCount_0f7a4_32 : decode cJ6_bitCount_0f7a4 32 = .ok (.iand, 1) := by decide +kernel
theorem dJ6_bitCount_0f7a4_33 : decode cJ6_bitCount_0f7a4 33 = .ok (.istore_n 0, 1) := by decide +kernel
theorem dJ6_bitCount_0f7a4_34 : decode cJ6_bitCount_0f7a4 34 = .ok (.iload_n 0, 1) := by decide +kernel
theorem dJ6_bitCount_0f7a4_35 : decode cJ6_bitCount_0f7a4 35 = .ok (.iload_n 0, 1) := by decide +kernel
theorem dJ6_bitCount_0f7a4_36 : decode cJ6_bitCount_0f7a4 36 = .ok (.bipush 8, 2) := by decide +kernel
theorem dJ6_bitCount_0f7a4_38 : decode cJ6_bitCount_0f7a4 38 = .ok (.iushr, 1) := by decide +kernel
theorem dJ6_bitCount_0f7a4_39 : decode cJ6_bitCount_0f7a4 39 = .ok (.iadd, 1) := by decide +kernel
theorem dJ6_bitCount_0f7a4_40 : decode cJ6_bitCount_0f7a4 40 = .ok (.istore_n 0, 1) := by decide +kernel
theorem dJ6_bitCount_0f7a4_41 : decode cJ6_bitCount_0f7a4 41 = .ok (.iload_n 0, 1) := by decide +kernel
theorem dJ6_bitCount_0f7a4_42 : decode cJ6_bitCount_0f7a4 42 = .ok (.iload_n 0, 1) := by decide +kernel
theorem dJ6_bitCount_0f7a4_43 : decode cJ6_bitCount_0f7a4 43 = .ok (.bipush 16, 2) := by decide +kernel
theorem dJ6_bitCount_0f7a4_45 : decode cJ6_bitCount_0f7a4 45 = .ok (.iushr, 1) := by decide +kernel
theorem dJ6_bitCount_0f7a4_46 : decode cJ6_bitCount_0f7a4 46 = .ok (.iadd, 1) := by decide +kernel
theorem dJ6_bitCount_0f7a4_47 : decode cJ6_bitCount_0f7a4 47 = .ok (.istore_n 0, 1) := by decide +kernel
theorem dJ6_bitCount_0f7a4_48 : decode cJ6_bitCount_0f7a4 48 = .ok (.iload_n 0, 1) := by decide +kernel
theorem dJ6_bitCount_0f7a4_49 : decode cJ6_bitCount_0f7a4 49 = .ok (.bipush 63, 2) := by decide +kernel
theorem dJ6_bitCount_0f7a4_51 : decode cJ6_bitCount_0f7a4 51 = .ok (.iand, 1) := by decide +kernel
theorem dJ6_bitCount_0f7a4_52 : decode cJ6_bitCount_0f7a4 52 = .ok (.ireturn, 1) := by decide +kernel
theorem dL_law_0 : decode cL_law 0 = .ok (.new 7, 3) := by decide +kernel
theorem dL_law_3 : decode cL_law 3 = .ok (.dup, 1) := by decide +kernel
theorem dL_law_4 : decode cL_law 4 = .ok (.invokespecial 9, 3) := by decide +kernel
theorem dL_law_7 : decode cL_law 7 = .ok (.astore_n 1, 1) := by decide +kernel
theorem dL_law_8 : decode cL_law 8 = .ok (.new 10, 3) := by decide +kernel
theorem dL_law_11 : decode cL_law 11 = .ok (.dup, 1) := by decide +kernel
theorem dL_law_12 : decode cL_law 12 = .ok (.invokespecial 12, 3) := by decide +kernel
theorem dL_law_15 : decode cL_law 15 = .ok (.astore_n 2, 1) := by decide +kernel
theorem dL_law_16 : decode cL_law 16 = .ok (.iconst 0, 1) := by decide +kernel
theorem dL_law_17 : decode cL_law 17 = .ok (.istore_n 3, 1) := by decide +kernel
theorem dL_law_18 : decode cL_law 18 = .ok (.iload_n 3, 1) := by decide +kernel
theorem dL_law_19 : decode cL_law 19 = .ok (.aload_n 0, 1) := by decide +kernel
theorem dL_law_20 : decode cL_law 20 = .ok (.arraylength, 1) := by decide +kernel
theorem dL_law_21 : decode cL_law 21 = .ok (.bipush 6, 2) := by decide +kernel
theorem dL_law_23 : decode cL_law 23 = .ok (.isub, 1) := by decide +kernel
theorem dL_law_24 : decode cL_law 24 = .ok (.if_icmp .gt 1408, 3) := by decide +kernel
theorem dL_law_27 : decode cL_law 27 = .ok (.aload_n 0, 1) := by decide +kernel
theorem dL_law_28 : decode cL_law 28 = .ok (.iload_n 3, 1) := by decide +kernel
theorem dL_law_29 : decode cL_law 29 = .ok (.iaload, 1) := by decide +kernel
theorem dL_law_30 : decode cL_law 30 = .ok (.bipush 63, 2) := by decide +kernel
theorem dL_law_32 : decode cL_law 32 = .ok (.iand, 1) := by decide +kernel
theorem dL_law_33 : decode cL_law 33 = .ok (.tableswitch 1393 0 40 #[179, 212, 235, 258, 291, 324, 367, 400, 423, 456, 479, 502, 545, 568, 601, 624, 657, 700, 743, 776, 809, 832, 865, 898, 921, 965, 988, 1021, 1034, 1047, 1080, 1113, 1156, 1199, 1262, 1285, 1308, 1321, 1334, 1347, 1370], 179) := by decide +kernel
theorem dL_law_212 : decode cL_law 212 = .ok (.aload_n 1, 1) := by decide +kernel
theorem dL_law_213 : decode cL_law 213 = .ok (.aload_n 0, 1) := by decide +kernel
theorem dL_law_214 : decode cL_law 214 = .ok (.iload_n 3, 1) := by decide +kernel
theorem dL_law_215 : decode cL_law 215 = .ok (.iconst 1, 1) := by decide +kernel
theorem dL_law_216 : decode cL_law 216 = .ok (.iadd, 1) := by decide +kernel
theorem dL_law_217 : decode cL_law 217 = .ok (.iaload, 1) := by decide +kernel
theorem dL_law_218 : decode cL_law 218 = .ok (.aload_n 0, 1) := by decide +kernel
theorem dL_law_219 : decode cL_law 219 = .ok (.iload_n 3, 1) := by decide +kernel
theorem dL_law_220 : decode cL_law 220 = .ok (.iconst 2, 1) := by decide +kernel
theorem dL_law_221 : decode cL_law 221 = .ok (.iadd, 1) := by decide +kernel
theorem dL_law_222 : decode cL_law 222 = .ok (.iaload, 1) := by decide +kernel
theorem dL_law_223 : decode cL_law 223 = .ok (.invokevirtual 13, 3) := by decide +kernel
theorem dL_law_226 : decode cL_law 226 = .ok (.aload_n 2, 1) := by decide +kernel
theorem dL_law_227 : decode cL_law 227 = .ok (.aload_n 0, 1) := by decide +kernel
theorem dL_law_228 : decode cL_law 228 = .ok (.iload_n 3, 1) := by decide +kernel
theorem dL_law_229 : decode cL_law 229 = .ok (.iconst 1, 1) := by decide +kernel
theorem dL_law_230 : decode cL_law 230 = .ok (.iadd, 1) := by decide +kernel
theorem dL_law_231 : decode cL_law 231 = .ok (.iaload, 1) := by decide +kernel
theorem dL_law_232 : decode cL_law 232 = .ok (.aload_n 0, 1) := by decide +kernel
theorem dL_law_233 : decode cL_law 233 = .ok (.iload_n 3, 1) := by decide +kernel
theorem dL_law_234 : decode cL_law 234 = .ok (.iconst 2, 1) := by decide +kernel
theorem dL_law_235 : decode cL_law 235 = .ok (.iadd, 1) := by decide +kernel
theorem dL_law_236 : decode cL_law 236 = .ok (.iaload, 1) := by decide +kernel
theorem dL_law_237 : decode cL_law 237 = .ok (.invokevirtual 17, 3) := by decide +kernel
theorem dL_law_240 : decode cL_law 240 = .ok (.if_icmp .eq 1186, 3) := by decide +kernel
theorem dL_law_243 : decode cL_law 243 = .ok (.iconst 0, 1) := by decide +kernel
theorem dL_law_244 : decode cL_law 244 = .ok (.ireturn, 1) := by decide +kernel
theorem dL_law_245 : decode cL_law 245 = .ok (.aload_n 1, 1) := by decide +kernel
theorem dL_law_246 : decode cL_law 246 = .ok (.aload_n 0, 1) := by decide +kernel
theorem dL_law_247 : decode cL_law 247 = .ok (.iload_n 3, 1) := by decide +kernel
theorem dL_law_248 : decode cL_law 248 = .ok (.iconst 1, 1) := by decide +kernel
theorem dL_law_249 : decode cL_law 249 = .ok (.iadd, 1) := by decide +kernel
theorem dL_law_250 : decode cL_law 250 = .ok (.iaload, 1) := by decide +kernel
theorem dL_law_251 : decode cL_law 251 = .ok (.invokevirtual 18, 3) := by decide +kernel
theorem dL_law_254 : decode cL_law 254 = .ok (.aload_n 2, 1) := by decide +kernel
theorem dL_law_255 : decode cL_law 255 = .ok (.aload_n 0, 1) := by decide +kernel
theorem dL_law_256 : decode cL_law 256 = .ok (.iload_n 3, 1) := by decide +kernel
theorem dL_law_257 : decode cL_law 257 = .ok (.iconst 1, 1) := by decide +kernel
theorem dL_law_258 : decode cL_law 258 = .ok (.iadd, 1) := by decide +kernel
theorem dL_law_259 : decode cL_law 259 = .ok (.iaload, 1) := by decide +kernel
theorem dL_law_260 : decode cL_law 260 = .ok (.invokevirtual 22, 3) := by decide +kernel
theorem dL_law_263 : decode cL_law 263 = .ok (.if_icmp .eq 1163, 3) := by decide +kernel
theorem dL_law_266 : decode cL_law 266 = .ok (.iconst 0, 1) := by decide +kernel
theorem dL_law_267 : decode cL_law 267 = .ok (.ireturn, 1) := by decide +kernel
theorem dL_law_268 : decode cL_law 268 = .ok (.aload_n 1, 1) := by decide +kernel
theorem dL_law_269 : decode cL_law 269 = .ok (.aload_n 0, 1) := by decide +kernel
theorem dL_law_270 : decode cL_law 270 = .ok (.iload_n 3, 1) := by decide +kernel
theorem dL_law_271 : decode cL_law 271 = .ok (.iconst 1, 1) := by decide +kernel
theorem dL_law_272 : decode cL_law 272 = .ok (.iadd, 1) := by decide +kernel
theorem dL_law_273 : decode cL_law 273 = .ok (.iaload, 1) := by decide +kernel
theorem dL_law_274 : decode cL_law 274 = .ok (.invokevirtual 23, 3) := by decide +kernel
theorem dL_law_277 : decode cL_law 277 = .ok (.aload_n 2, 1) := by decide +kernel
theorem dL_law_278 : decode cL_law 278 = .ok (.aload_n 0, 1) := by decide +kernel
theorem dL_law_279 : decode cL_law 279 = .ok (.iload_n 3, 1) := by decide +kernel
theorem dL_law_280 : decode cL_law 280 = .ok (.iconst 1, 1) := by decide +kernel
theorem dL_law_281 : decode cL_law 281 = .ok (.iadd, 1) := by decide +kernel
theorem dL_law_282 : decode cL_law 282 = .ok (.iaload, 1) := by decide +kernel
theorem dL_law_283 : decode cL_law 283 = .ok (.invokevirtual 26, 3) := by decide +kernel
theorem dL_law_286 : decode cL_law 286 = .ok (.if_icmp .eq 1140, 3) := by decide +kernel
theorem dL_law_289 : decode cL_law 289 = .ok (.iconst 0, 1) := by decide +kernel
theorem dL_law_290 : decode cL_law 290 = .ok (.ireturn, 1) := by decide +kernel
theorem dL_law_291 : decode cL_law 291 = .ok (.aload_n 1, 1) := by decide +kernel
theorem dL_law_292 : decode cL_law 292 = .ok (.aload_n 0, 1) := by decide +kernel
theorem dL_law_293 : decode cL_law 293 = .ok (.iload_n 3, 1) := by decide +kernel
theorem dL_law_294 : decode cL_law 294 = .ok (.iconst 1, 1) := by decide +kernel
theorem dL_law_295 : decode cL_law 295 = .ok (.iadd, 1) := by decide +kernel
theorem dL_law_296 : decode cL_law 296 = .ok (.iaload, 1) := by decide +kernel
theorem dL_law_297 : decode cL_law 297 = .ok (.aload_n 0, 1) := by decide +kernel
theorem dL_law_298 : decode cL_law 298 = .ok (.iload_n 3, 1) := by decide +kernel
theorem dL_law_299 : decode cL_law 299 = .ok (.iconst 2, 1) := by decide +kernel
theorem dL_law_300 : decode cL_law 300 = .ok (.iadd, 1) := by decide +kernel
theorem dL_law_301 : decode cL_law 301 = .ok (.iaload, 1) := by decide +kernel
theorem dL_law_302 : decode cL_law 302 = .ok (.invokevirtual 27, 3) := by decide +kernel
theorem dL_law_305 : decode cL_law 305 = .ok (.aload_n 2, 1) := by decide +kernel
theorem dL_law_306 : decode cL_law 306 = .ok (.aload_n 0, 1) := by decide +kernel
theorem dL_law_307 : decode cL_law 307 = .ok (.iload_n 3, 1) := by decide +kernel
theorem dL_law_308 : decode cL_law 308 = .ok (.iconst 1, 1) := by decide +kernel
theorem dL_law_309 : decode cL_law 309 = .ok (.iadd, 1) := by decide +kernel
theorem dL_law_310 : decode cL_law 310 = .ok (.iaload, 1) := by decide +kernel
theorem dL_law_311 : decode cL_law 311 = .ok (.aload_n 0, 1) := by decide +kernel
theorem dL_law_312 : decode cL_law 312 = .ok (.iload_n 3, 1) := by decide +kernel
theorem dL_law_313 : decode cL_law 313 = .ok (.iconst 2, 1) := by decide +kernel
theorem dL_law_314 : decode cL_law 314 = .ok (.iadd, 1) := by decide +kernel
theorem dL_law_315 : decode cL_law 315 = .ok (.iaload, 1) := by decide +kernel
theorem dL_law_316 : decode cL_law 316 = .ok (.invokevirtual 30, 3) := by decide +kernel
theorem dL_law_319 : decode cL_law 319 = .ok (.if_icmp .eq 1107, 3) := by decide +kernel
theorem dL_law_322 : decode cL_law 322 = .ok (.iconst 0, 1) := by decide +kernel
theorem dL_law_323 : decode cL_law 323 = .ok (.ireturn, 1) := by decide +kernel
theorem dL_law_324 : decode cL_law 324 = .ok (.aload_n 1, 1) := by decide +kernel
theorem dL_law_325 : decode cL_law 325 = .ok (.aload_n 0, 1) := by decide +kernel
theorem dL_law_326 : decode cL_law 326 = .ok (.iload_n 3, 1) := by decide +kernel
theorem dL_law_327 : decode cL_law 327 = .ok (.iconst 1, 1) := by decide +kernel
theorem dL_law_328 : decode cL_law 328 = .ok (.iadd, 1) := by decide +kernel
theorem dL_law_329 : decode cL_law 329 = .ok (.iaload, 1) := by decide +kernel
theorem dL_law_330 : decode cL_law 330 = .ok (.aload_n 0, 1) := by decide +kernel
theorem dL_law_331 : decode cL_law 331 = .ok (.iload_n 3, 1) := by decide +kernel
theorem dL_law_332 : decode cL_law 332 = .ok (.iconst 2, 1) := by decide +kernel
theorem dL_law_333 : decode cL_law 333 = .ok (.iadd, 1) := by decide +kernel
theorem dL_law_334 : decode cL_law 334 = .ok (.iaload, 1) := by decide +kernel
theorem dL_law_335 : decode cL_law 335 = .ok (.invokevirtual 31, 3) := by decide +kernel
theorem dL_law_338 : decode cL_law 338 = .ok (.aload_n 2, 1) := by decide +kernel
theorem dL_law_339 : decode cL_law 339 = .ok (.aload_n 0, 1) := by decide +kernel
theorem dL_law_340 : decode cL_law 340 = .ok (.iload_n 3, 1) := by decide +kernel
theorem dL_law_341 : decode cL_law 341 = .ok (.iconst 1, 1) := by decide +kernel
theorem dL_law_342 : decode cL_law 342 = .ok (.iadd, 1) := by decide +kernel
theorem dL_law_343 : decode cL_law 343 = .ok (.iaload, 1) := by decide +kernel
theorem dL_law_344 : decode cL_law 344 = .ok (.aload_n 0, 1) := by decide +kernel
theorem dL_law_345 : decode cL_law 345 = .ok (.iload_n 3, 1) := by decide +kernel
theorem dL_law_346 : decode cL_law 346 = .ok (.iconst 2, 1) := by decide +kernel
theorem dL_law_347 : decode cL_law 347 = .ok (.iadd, 1) := by decide +kernel
theorem dL_law_348 : decode cL_law 348 = .ok (.iaload, 1) := by decide +kernel
theorem dL_law_349 : decode cL_law 349 = .ok (.invokevirtual 34, 3) := by decide +kernel
theorem dL_law_352 : decode cL_law 352 = .ok (.if_icmp .eq 1074, 3) := by decide +kernel
theorem dL_law_355 : decode cL_law 355 = .ok (.iconst 0, 1) := by decide +kernel
theorem dL_law_356 : decode cL_law 356 = .ok (.ireturn, 1) := by decide +kernel
theorem dL_law_357 : decode cL_law 357 = .ok (.aload_n 1, 1) := by decide +kernel
theorem dL_law_358 : decode cL_law 358 = .ok (.aload_n 0, 1) := by decide +kernel
theorem dL_law_359 : decode cL_law 359 = .ok (.iload_n 3, 1) := by decide +kernel
theorem dL_law_360 : decode cL_law 360 = .ok (.iconst 1, 1) := by decide +kernel
theorem dL_law_361 : decode cL_law 361 = .ok (.iadd, 1) := by decide +kernel
theorem dL_law_362 : decode cL_law 362 = .ok (.iaload, 1) := by decide +kernel
theorem dL_law_363 : decode cL_law 363 = .ok (.aload_n 0, 1) := by decide +kernel
theorem dL_law_364 : decode cL_law 364 = .ok (.iload_n 3, 1) := by decide +kernel
theorem dL_law_365 : decode cL_law 365 = .ok (.iconst 2, 1) := by decide +kernel
theorem dL_law_366 : decode cL_law 366 = .ok (.iadd, 1) := by decide +kernel
theorem dL_law_367 : decode cL_law 367 = .ok (.iaload, 1) := by decide +kernel
theorem dL_law_368 : decode cL_law 368 = .ok (.aload_n 0, 1) := by decide +kernel
theorem dL_law_369 : decode cL_law 369 = .ok (.iload_n 3, 1) := by decide +kernel
theorem dL_law_370 : decode cL_law 370 = .ok (.iconst 3, 1) := by decide +kernel
theorem dL_law_371 : decode cL_law 371 = .ok (.iadd, 1) := by decide +kernel
theorem dL_law_372 : decode cL_law 372 = .ok (.iaload, 1) := by decide +kernel
theorem dL_law_373 : decode cL_law 373 = .ok (.invokevirtual 35, 3) := by decide +kernel
theorem dL_law_376 : decode cL_law 376 = .ok (.aload_n 2, 1) := by decide +kernel
theorem dL_law_377 : decode cL_law 377 = .ok (.aload_n 0, 1) := by decide +kernel
theorem dL_law_378 : decode cL_law 378 = .ok (.iload_n 3, 1) := by decide +kernel
theorem dL_law_379 : decode cL_law 379 = .ok (.iconst 1, 1) := by decide +kernel
theorem dL_law_380 : decode cL_law 380 = .ok (.iadd, 1) := by decide +kernel
theorem dL_law_381 : decode cL_law 381 = .ok (.iaload, 1) := by decide +kernel
theorem dL_law_382 : decode cL_law 382 = .ok (.aload_n 0, 1) := by decide +kernel
theorem dL_law_383 : decode cL_law 383 = .ok (.iload_n 3, 1) := by decide +kernel
theorem dL_law_384 : decode cL_law 384 = .ok (.iconst 2, 1) := by decide +kernel
theorem dL_law_385 : decode cL_law 385 = .ok (.iadd, 1) := by decide +kernel
theorem dL_law_386 : decode cL_law 386 = .ok (.iaload, 1) := by decide +kernel
theorem dL_law_387 : decode cL_law 387 = .ok (.aload_n 0, 1) := by decide +kernel
theorem dL_law_388 : decode cL_law 388 = .ok (.iload_n 3, 1) := by decide +kernel
theorem dL_law_389 : decode cL_law 389 = .ok (.iconst 3, 1) := by decide +kernel
theorem dL_law_390 : decode cL_law 390 = .ok (.iadd, 1) := by decide +kernel
theorem dL_law_391 : decode cL_law 391 = .ok (.iaload, 1) := by decide +kernel
theorem dL_law_392 : decode cL_law 392 = .ok (.invokevirtual 39, 3) := by decide +kernel
theorem dL_law_395 : decode cL_law 395 = .ok (.if_icmp .eq 1031, 3) := by decide +kernel
theorem dL_law_398 : decode cL_law 398 = .ok (.iconst 0, 1) := by decide +kernel
theorem dL_law_399 : decode cL_law 399 = .ok (.ireturn, 1) := by decide +kernel
theorem dL_law_400 : decode cL_law 400 = .ok (.aload_n 1, 1) := by decide +kernel
theorem dL_law_401 : decode cL_law 401 = .ok (.aload_n 0, 1) := by decide +kernel
theorem dL_law_402 : decode cL_law 402 = .ok (.iload_n 3, 1) := by decide +kernel
theorem dL_law_403 : decode cL_law 403 = .ok (.iconst 1, 1) := by decide +kernel
theorem dL_law_404 : decode cL_law 404 = .ok (.iadd, 1) := by decide +kernel
theorem dL_law_405 : decode cL_law 405 = .ok (.iaload, 1) := by decide +kernel
theorem dL_law_406 : decode cL_law 406 = .ok (.aload_n 0, 1) := by decide +kernel
theorem dL_law_407 : decode cL_law 407 = .ok (.iload_n 3, 1) := by decide +kernel
theorem dL_law_408 : decode cL_law 408 = .ok (.iconst 2, 1) := by decide +kernel
theorem dL_law_409 : decode cL_law 409 = .ok (.iadd, 1) := by decide +kernel
theorem dL_law_410 : decode cL_law 410 = .ok (.iaload, 1) := by decide +kernel
theorem dL_law_411 : decode cL_law 411 = .ok (.invokevirtual 40, 3) := by decide +kernel
theorem dL_law_414 : decode cL_law 414 = .ok (.aload_n 2, 1) := by decide +kernel
theorem dL_law_415 : decode cL_law 415 = .ok (.aload_n 0, 1) := by decide +kernel
theorem dL_law_416 : decode cL_law 416 = .ok (.iload_n 3, 1) := by decide +kernel
theorem dL_law_417 : decode cL_law 417 = .ok (.iconst 1, 1) := by decide +kernel
theorem dL_law_418 : decode cL_law 418 = .ok (.iadd, 1) := by decide +kernel
theorem dL_law_419 : decode cL_law 419 = .ok (.iaload, 1) := by decide +kernel
theorem dL_law_420 : decode cL_law 420 = .ok (.aload_n 0, 1) := by decide +kernel
theorem dL_law_421 : decode cL_law 421 = .ok (.iload_n 3, 1) := by decide +kernel
theorem dL_law_422 : decode cL_law 422 = .ok (.iconst 2, 1) := by decide +kernel
theorem dL_law_423 : decode cL_law 423 = .ok (.iadd, 1) := by decide +kernel
theorem dL_law_424 : decode cL_law 424 = .ok (.iaload, 1) := by decide +kernel
theorem dL_law_425 : decode cL_law 425 = .ok (.invokevirtual 43, 3) := by decide +kernel
theorem dL_law_428 : decode cL_law 428 = .ok (.if_icmp .eq 998, 3) := by decide +kernel
theorem dL_law_431 : decode cL_law 431 = .ok (.iconst 0, 1) := by decide +kernel
theorem dL_law_432 : decode cL_law 432 = .ok (.ireturn, 1) := by decide +kernel
theorem dL_law_433 : decode cL_law 433 = .ok (.aload_n 1, 1) := by decide +kernel
theorem dL_law_434 : decode cL_law 434 = .ok (.aload_n 0, 1) := by decide +kernel
theorem dL_law_435 : decode cL_law 435 = .ok (.iload_n 3, 1) := by decide +kernel
theorem dL_law_436 : decode cL_law 436 = .ok (.iconst 1, 1) := by decide +kernel
theorem dL_law_437 : decode cL_law 437 = .ok (.iadd, 1) := by decide +kernel
theorem dL_law_438 : decode cL_law 438 = .ok (.iaload, 1) := by decide +kernel
theorem dL_law_439 : decode cL_law 439 = .ok (.invokevirtual 44, 3) := by decide +kernel
theorem dL_law_442 : decode cL_law 442 = .ok (.aload_n 2, 1) := by decide +kernel
theorem dL_law_443 : decode cL_law 443 = .ok (.aload_n 0, 1) := by decide +kernel
theorem dL_law_444 : decode cL_law 444 = .ok (.iload_n 3, 1) := by decide +kernel
theorem dL_law_445 : decode cL_law 445 = .ok (.iconst 1, 1) := by decide +kernel
theorem dL_law_446 : decode cL_law 446 = .ok (.iadd, 1) := by decide +kernel
theorem dL_law_447 : decode cL_law 447 = .ok (.iaload, 1) := by decide +kernel
theorem dL_law_448 : decode cL_law 448 = .ok (.invokevirtual 47, 3) := by decide +kernel
theorem dL_law_451 : decode cL_law 451 = .ok (.if_icmp .eq 975, 3) := by decide +kernel
theorem dL_law_454 : decode cL_law 454 = .ok (.iconst 0, 1) := by decide +kernel
theorem dL_law_455 : decode cL_law 455 = .ok (.ireturn, 1) := by decide +kernel
theorem dL_law_456 : decode cL_law 456 = .ok (.aload_n 1, 1) := by decide +kernel
theorem dL_law_457 : decode cL_law 457 = .ok (.aload_n 0, 1) := by decide +kernel
theorem dL_law_458 : decode cL_law 458 = .ok (.iload_n 3, 1) := by decide +kernel
theorem dL_law_459 : decode cL_law 459 = .ok (.iconst 1, 1) := by decide +kernel
theorem dL_law_460 : decode cL_law 460 = .ok (.iadd, 1) := by decide +kernel
theorem dL_law_461 : decode cL_law 461 = .ok (.iaload, 1) := by decide +kernel
theorem dL_law_462 : decode cL_law 462 = .ok (.aload_n 0, 1) := by decide +kernel
theorem dL_law_463 : decode cL_law 463 = .ok (.iload_n 3, 1) := by decide +kernel
theorem dL_law_464 : decode cL_law 464 = .ok (.iconst 2, 1) := by decide +kernel
theorem dL_law_465 : decode cL_law 465 = .ok (.iadd, 1) := by decide +kernel
theorem dL_law_466 : decode cL_law 466 = .ok (.iaload, 1) := by decide +kernel
theorem dL_law_467 : decode cL_law 467 = .ok (.invokevirtual 48, 3) := by decide +kernel
theorem dL_law_470 : decode cL_law 470 = .ok (.aload_n 2, 1) := by decide +kernel
theorem dL_law_471 : decode cL_law 471 = .ok (.aload_n 0, 1) := by decide +kernel
theorem dL_law_472 : decode cL_law 472 = .ok (.iload_n 3, 1) := by decide +kernel
theorem dL_law_473 : decode cL_law 473 = .ok (.iconst 1, 1) := by decide +kernel
theorem dL_law_474 : decode cL_law 474 = .ok (.iadd, 1) := by decide +kernel
theorem dL_law_475 : decode cL_law 475 = .ok (.iaload, 1) := by decide +kernel
theorem dL_law_476 : decode cL_law 476 = .ok (.aload_n 0, 1) := by decide +kernel
theorem dL_law_477 : decode cL_law 477 = .ok (.iload_n 3, 1) := by decide +kernel
theorem dL_law_478 : decode cL_law 478 = .ok (.iconst 2, 1) := by decide +kernel
theorem dL_law_479 : decode cL_law 479 = .ok (.iadd, 1) := by decide +kernel
theorem dL_law_480 : decode cL_law 480 = .ok (.iaload, 1) := by decide +kernel
theorem dL_law_481 : decode cL_law 481 = .ok (.invokevirtual 51, 3) := by decide +kernel
theorem dL_law_484 : decode cL_law 484 = .ok (.if_icmp .eq 942, 3) := by decide +kernel
theorem dL_law_487 : decode cL_law 487 = .ok (.iconst 0, 1) := by decide +kernel
theorem dL_law_488 : decode cL_law 488 = .ok (.ireturn, 1) := by decide +kernel
theorem dL_law_489 : decode cL_law 489 = .ok (.aload_n 1, 1) := by decide +kernel
theorem dL_law_490 : decode cL_law 490 = .ok (.aload_n 0, 1) := by decide +kernel
theorem dL_law_491 : decode cL_law 491 = .ok (.iload_n 3, 1) := by decide +kernel
theorem dL_law_492 : decode cL_law 492 = .ok (.iconst 1, 1) := by decide +kernel
theorem dL_law_493 : decode cL_law 493 = .ok (.iadd, 1) := by decide +kernel
theorem dL_law_494 : decode cL_law 494 = .ok (.iaload, 1) := by decide +kernel
theorem dL_law_495 : decode cL_law 495 = .ok (.invokevirtual 52, 3) := by decide +kernel
theorem dL_law_498 : decode cL_law 498 = .ok (.aload_n 2, 1) := by decide +kernel
theorem dL_law_499 : decode cL_law 499 = .ok (.aload_n 0, 1) := by decide +kernel
theorem dL_law_500 : decode cL_law 500 = .ok (.iload_n 3, 1) := by decide +kernel
theorem dL_law_501 : decode cL_law 501 = .ok (.iconst 1, 1) := by decide +kernel
theorem dL_law_502 : decode cL_law 502 = .ok (.iadd, 1) := by decide +kernel
theorem dL_law_503 : decode cL_law 503 = .ok (.iaload, 1) := by decide +kernel
theorem dL_law_504 : decode cL_law 504 = .ok (.invokevirtual 55, 3) := by decide +kernel
theorem dL_law_507 : decode cL_law 507 = .ok (.if_icmp .eq 919, 3) := by decide +kernel
theorem dL_law_510 : decode cL_law 510 = .ok (.iconst 0, 1) := by decide +kernel
theorem dL_law_511 : decode cL_law 511 = .ok (.ireturn, 1) := by decide +kernel
theorem dL_law_512 : decode cL_law 512 = .ok (.aload_n 1, 1) := by decide +kernel
theorem dL_law_513 : decode cL_law 513 = .ok (.aload_n 0, 1) := by decide +kernel
theorem dL_law_514 : decode cL_law 514 = .ok (.iload_n 3, 1) := by decide +kernel
theorem dL_law_515 : decode cL_law 515 = .ok (.iconst 1, 1) := by decide +kernel
theorem dL_law_516 : decode cL_law 516 = .ok (.iadd, 1) := by decide +kernel
theorem dL_law_517 : decode cL_law 517 = .ok (.iaload, 1) := by decide +kernel
theorem dL_law_518 : decode cL_law 518 = .ok (.invokevirtual 56, 3) := by decide +kernel
theorem dL_law_521 : decode cL_law 521 = .ok (.aload_n 2, 1) := by decide +kernel
theorem dL_law_522 : decode cL_law 522 = .ok (.aload_n 0, 1) := by decide +kernel
theorem dL_law_523 : decode cL_law 523 = .ok (.iload_n 3, 1) := by decide +kernel
theorem dL_law_524 : decode cL_law 524 = .ok (.iconst 1, 1) := by decide +kernel
theorem dL_law_525 : decode cL_law 525 = .ok (.iadd, 1) := by decide +kernel
theorem dL_law_526 : decode cL_law 526 = .ok (.iaload, 1) := by decide +kernel
theorem dL_law_527 : decode cL_law 527 = .ok (.invokevirtual 59, 3) := by decide +kernel
theorem dL_law_530 : decode cL_law 530 = .ok (.if_icmp .eq 896, 3) := by decide +kernel
theorem dL_law_533 : decode cL_law 533 = .ok (.iconst 0, 1) := by decide +kernel
theorem dL_law_534 : decode cL_law 534 = .ok (.ireturn, 1) := by decide +kernel
theorem dL_law_535 : decode cL_law 535 = .ok (.aload_n 1, 1) := by decide +kernel
theorem dL_law_536 : decode cL_law 536 = .ok (.aload_n 0, 1) := by decide +kernel
theorem dL_law_537 : decode cL_law 537 = .ok (.iload_n 3, 1) := by decide +kernel
theorem dL_law_538 : decode cL_law 538 = .ok (.iconst 1, 1) := by decide +kernel
theorem dL_law_539 : decode cL_law 539 = .ok (.iadd, 1) := by decide +kernel
theorem dL_law_540 : decode cL_law 540 = .ok (.iaload, 1) := by decide +kernel
theorem dL_law_541 : decode cL_law 541 = .ok (.aload_n 0, 1) := by decide +kernel
theorem dL_law_542 : decode cL_law 542 = .ok (.iload_n 3, 1) := by decide +kernel
theorem dL_law_543 : decode cL_law 543 = .ok (.iconst 2, 1) := by decide +kernel
theorem dL_law_544 : decode cL_law 544 = .ok (.iadd, 1) := by decide +kernel
theorem dL_law_545 : decode cL_law 545 = .ok (.iaload, 1) := by decide +kernel
theorem dL_law_546 : decode cL_law 546 = .ok (.aload_n 0, 1) := by decide +kernel
theorem dL_law_547 : decode cL_law 547 = .ok (.iload_n 3, 1) := by decide +kernel
theorem dL_law_548 : decode cL_law 548 = .ok (.iconst 3, 1) := by decide +kernel
theorem dL_law_549 : decode cL_law 549 = .ok (.iadd, 1) := by decide +kernel
theorem dL_law_550 : decode cL_law 550 = .ok (.iaload, 1) := by decide +kernel
theorem dL_law_551 : decode cL_law 551 = .ok (.invokevirtual 60, 3) := by decide +kernel
theorem dL_law_554 : decode cL_law 554 = .ok (.aload_n 2, 1) := by decide +kernel
theorem dL_law_555 : decode cL_law 555 = .ok (.aload_n 0, 1) := by decide +kernel
theorem dL_law_556 : decode cL_law 556 = .ok (.iload_n 3, 1) := by decide +kernel
theorem dL_law_557 : decode cL_law 557 = .ok (.iconst 1, 1) := by decide +kernel
theorem dL_law_558 : decode cL_law 558 = .ok (.iadd, 1) := by decide +kernel
theorem dL_law_559 : decode cL_law 559 = .ok (.iaload, 1) := by decide +kernel
theorem dL_law_560 : decode cL_law 560 = .ok (.aload_n 0, 1) := by decide +kernel
theorem dL_law_561 : decode cL_law 561 = .ok (.iload_n 3, 1) := by decide +kernel
theorem dL_law_562 : decode cL_law 562 = .ok (.iconst 2, 1) := by decide +kernel
theorem dL_law_563 : decode cL_law 563 = .ok (.iadd, 1) := by decide +kernel
theorem dL_law_564 : decode cL_law 564 = .ok (.iaload, 1) := by decide +kernel
theorem dL_law_565 : decode cL_law 565 = .ok (.aload_n 0, 1) := by decide +kernel
theorem dL_law_566 : decode cL_law 566 = .ok (.iload_n 3, 1) := by decide +kernel
theorem dL_law_567 : decode cL_law 567 = .ok (.iconst 3, 1) := by decide +kernel
theorem dL_law_568 : decode cL_law 568 = .ok (.iadd, 1) := by decide +kernel
theorem dL_law_569 : decode cL_law 569 = .ok (.iaload, 1) := by decide +kernel
theorem dL_law_570 : decode cL_law 570 = .ok (.invokevirtual 63, 3) := by decide +kernel
theorem dL_law_573 : decode cL_law 573 = .ok (.if_icmp .eq 853, 3) := by decide +kernel
theorem dL_law_576 : decode cL_law 576 = .ok (.iconst 0, 1) := by decide +kernel
theorem dL_law_577 : decode cL_law 577 = .ok (.ireturn, 1) := by decide +kernel
theorem dL_law_578 : decode cL_law 578 = .ok (.aload_n 1, 1) := by decide +kernel
theorem dL_law_579 : decode cL_law 579 = .ok (.aload_n 0, 1) := by decide +kernel
theorem dL_law_580 : decode cL_law 580 = .ok (.iload_n 3, 1) := by decide +kernel
theorem dL_law_581 : decode cL_law 581 = .ok (.iconst 1, 1) := by decide +kernel
theorem dL_law_582 : decode cL_law 582 = .ok (.iadd, 1) := by decide +kernel
theorem dL_law_583 : decode cL_law 583 = .ok (.iaload, 1) := by decide +kernel
theorem dL_law_584 : decode cL_law 584 = .ok (.invokevirtual 64, 3) := by decide +kernel
theorem dL_law_587 : decode cL_law 587 = .ok (.aload_n 2, 1) := by decide +kernel
theorem dL_law_588 : decode cL_law 588 = .ok (.aload_n 0, 1) := by decide +kernel
theorem dL_law_589 : decode cL_law 589 = .ok (.iload_n 3, 1) := by decide +kernel
theorem dL_law_590 : decode cL_law 590 = .ok (.iconst 1, 1) := by decide +kernel
theorem dL_law_591 : decode cL_law 591 = .ok (.iadd, 1) := by decide +kernel
theorem dL_law_592 : decode cL_law 592 = .ok (.iaload, 1) := by decide +kernel
theorem dL_law_593 : decode cL_law 593 = .ok (.invokevirtual 67, 3) := by decide +kernel
theorem dL_law_596 : decode cL_law 596 = .ok (.if_icmp .eq 830, 3) := by decide +kernel
theorem dL_law_599 : decode cL_law 599 = .ok (.iconst 0, 1) := by decide +kernel
theorem dL_law_600 : decode cL_law 600 = .ok (.ireturn, 1) := by decide +kernel
theorem dL_law_601 : decode cL_law 601 = .ok (.aload_n 1, 1) := by decide +kernel
theorem dL_law_602 : decode cL_law 602 = .ok (.aload_n 0, 1) := by decide +kernel
theorem dL_law_603 : decode cL_law 603 = .ok (.iload_n 3, 1) := by decide +kernel
theorem dL_law_604 : decode cL_law 604 = .ok (.iconst 1, 1) := by decide +kernel
theorem dL_law_605 : decode cL_law 605 = .ok (.iadd, 1) := by decide +kernel
theorem dL_law_606 : decode cL_law 606 = .ok (.iaload, 1) := by decide +kernel
theorem dL_law_607 : decode cL_law 607 = .ok (.aload_n 0, 1) := by decide +kernel
theorem dL_law_608 : decode cL_law 608 = .ok (.iload_n 3, 1) := by decide +kernel
theorem dL_law_609 : decode cL_law 609 = .ok (.iconst 2, 1) := by decide +kernel
theorem dL_law_610 : decode cL_law 610 = .ok (.iadd, 1) := by decide +kernel
theorem dL_law_611 : decode cL_law 611 = .ok (.iaload, 1) := by decide +kernel
theorem dL_law_612 : decode cL_law 612 = .ok (.invokevirtual 68, 3) := by decide +kernel
theorem dL_law_615 : decode cL_law 615 = .ok (.aload_n 2, 1) := by decide +kernel
theorem dL_law_616 : decode cL_law 616 = .ok (.aload_n 0, 1) := by decide +kernel
theorem dL_law_617 : decode cL_law 617 = .ok (.iload_n 3, 1) := by decide +kernel
theorem dL_law_618 : decode cL_law 618 = .ok (.iconst 1, 1) := by decide +kernel
theorem dL_law_619 : decode cL_law 619 = .ok (.iadd, 1) := by decide +kernel
theorem dL_law_620 : decode cL_law 620 = .ok (.iaload, 1) := by decide +kernel
theorem dL_law_621 : decode cL_law 621 = .ok (.aload_n 0, 1) := by decide +kernel
theorem dL_law_622 : decode cL_law 622 = .ok (.iload_n 3, 1) := by decide +kernel
theorem dL_law_623 : decode cL_law 623 = .ok (.iconst 2, 1) := by decide +kernel
theorem dL_law_624 : decode cL_law 624 = .ok (.iadd, 1) := by decide +kernel
theorem dL_law_625 : decode cL_law 625 = .ok (.iaload, 1) := by decide +kernel
theorem dL_law_626 : decode cL_law 626 = .ok (.invokevirtual 71, 3) := by decide +kernel
theorem dL_law_629 : decode cL_law 629 = .ok (.if_icmp .eq 797, 3) := by decide +kernel
theorem dL_law_632 : decode cL_law 632 = .ok (.iconst 0, 1) := by decide +kernel
theorem dL_law_633 : decode cL_law 633 = .ok (.ireturn, 1) := by decide +kernel
theorem dL_law_634 : decode cL_law 634 = .ok (.aload_n 1, 1) := by decide +kernel
theorem dL_law_635 : decode cL_law 635 = .ok (.aload_n 0, 1) := by decide +kernel
theorem dL_law_636 : decode cL_law 636 = .ok (.iload_n 3, 1) := by decide +kernel
theorem dL_law_637 : decode cL_law 637 = .ok (.iconst 1, 1) := by decide +kernel
theorem dL_law_638 : decode cL_law 638 = .ok (.iadd, 1) := by decide +kernel
theorem dL_law_639 : decode cL_law 639 = .ok (.iaload, 1) := by decide +kernel
theorem dL_law_640 : decode cL_law 640 = .ok (.invokevirtual 72, 3) := by decide +kernel
theorem dL_law_643 : decode cL_law 643 = .ok (.aload_n 2, 1) := by decide +kernel
theorem dL_law_644 : decode cL_law 644 = .ok (.aload_n 0, 1) := by decide +kernel
theorem dL_law_645 : decode cL_law 645 = .ok (.iload_n 3, 1) := by decide +kernel
theorem dL_law_646 : decode cL_law 646 = .ok (.iconst 1, 1) := by decide +kernel
theorem dL_law_647 : decode cL_law 647 = .ok (.iadd, 1) := by decide +kernel
theorem dL_law_648 : decode cL_law 648 = .ok (.iaload, 1) := by decide +kernel
theorem dL_law_649 : decode cL_law 649 = .ok (.invokevirtual 75, 3) := by decide +kernel
theorem dL_law_652 : decode cL_law 652 = .ok (.if_icmp .eq 774, 3) := by decide +kernel
theorem dL_law_655 : decode cL_law 655 = .ok (.iconst 0, 1) := by decide +kernel
theorem dL_law_656 : decode cL_law 656 = .ok (.ireturn, 1) := by decide +kernel
theorem dL_law_657 : decode cL_law 657 = .ok (.aload_n 1, 1) := by decide +kernel
theorem dL_law_658 : decode cL_law 658 = .ok (.aload_n 0, 1) := by decide +kernel
theorem dL_law_659 : decode cL_law 659 = .ok (.iload_n 3, 1) := by decide +kernel
theorem dL_law_660 : decode cL_law 660 = .ok (.iconst 1, 1) := by decide +kernel
theorem dL_law_661 : decode cL_law 661 = .ok (.iadd, 1) := by decide +kernel
theorem dL_law_662 : decode cL_law 662 = .ok (.iaload, 1) := by decide +kernel
theorem dL_law_663 : decode cL_law 663 = .ok (.aload_n 0, 1) := by decide +kernel
theorem dL_law_664 : decode cL_law 664 = .ok (.iload_n 3, 1) := by decide +kernel
theorem dL_law_665 : decode cL_law 665 = .ok (.iconst 2, 1) := by decide +kernel
theorem dL_law_666 : decode cL_law 666 = .ok (.iadd, 1) := by decide +kernel
theorem dL_law_667 : decode cL_law 667 = .ok (.iaload, 1) := by decide +kernel
theorem dL_law_668 : decode cL_law 668 = .ok (.invokevirtual 76, 3) := by decide +kernel
theorem dL_law_671 : decode cL_law 671 = .ok (.aload_n 2, 1) := by decide +kernel
theorem dL_law_672 : decode cL_law 672 = .ok (.aload_n 0, 1) := by decide +kernel
theorem dL_law_673 : decode cL_law 673 = .ok (.iload_n 3, 1) := by decide +kernel
theorem dL_law_674 : decode cL_law 674 = .ok (.iconst 1, 1) := by decide +kernel
theorem dL_law_675 : decode cL_law 675 = .ok (.iadd, 1) := by decide +kernel
theorem dL_law_676 : decode cL_law 676 = .ok (.iaload, 1) := by decide +kernel
theorem dL_law_677 : decode cL_law 677 = .ok (.aload_n 0, 1) := by decide +kernel
theorem dL_law_678 : decode cL_law 678 = .ok (.iload_n 3, 1) := by decide +kernel
theorem dL_law_679 : decode cL_law 679 = .ok (.iconst 2, 1) := by decide +kernel
theorem dL_law_680 : decode cL_law 680 = .ok (.iadd, 1) := by decide +kernel
theorem dL_law_681 : decode cL_law 681 = .ok (.iaload, 1) := by decide +kernel
theorem dL_law_682 : decode cL_law 682 = .ok (.invokevirtual 79, 3) := by decide +kernel
theorem dL_law_685 : decode cL_law 685 = .ok (.if_icmp .eq 741, 3) := by decide +kernel
theorem dL_law_688 : decode cL_law 688 = .ok (.iconst 0, 1) := by decide +kernel
theorem dL_law_689 : decode cL_law 689 = .ok (.ireturn, 1) := by decide +kernel
theorem dL_law_690 : decode cL_law 690 = .ok (.aload_n 1, 1) := by decide +kernel
theorem dL_law_691 : decode cL_law 691 = .ok (.aload_n 0, 1) := by decide +kernel
theorem dL_law_692 : decode cL_law 692 = .ok (.iload_n 3, 1) := by decide +kernel
theorem dL_law_693 : decode cL_law 693 = .ok (.iconst 1, 1) := by decide +kernel
theorem dL_law_694 : decode cL_law 694 = .ok (.iadd, 1) := by decide +kernel
theorem dL_law_695 : decode cL_law 695 = .ok (.iaload, 1) := by decide +kernel
theorem dL_law_696 : decode cL_law 696 = .ok (.aload_n 0, 1) := by decide +kernel
theorem dL_law_697 : decode cL_law 697 = .ok (.iload_n 3, 1) := by decide +kernel
theorem dL_law_698 : decode cL_law 698 = .ok (.iconst 2, 1) := by decide +kernel
theorem dL_law_699 : decode cL_law 699 = .ok (.iadd, 1) := by decide +kernel
theorem dL_law_700 : decode cL_law 700 = .ok (.iaload, 1) := by decide +kernel
theorem dL_law_701 : decode cL_law 701 = .ok (.aload_n 0, 1) := by decide +kernel
theorem dL_law_702 : decode cL_law 702 = .ok (.iload_n 3, 1) := by decide +kernel
theorem dL_law_703 : decode cL_law 703 = .ok (.iconst 3, 1) := by decide +kernel
theorem dL_law_704 : decode cL_law 704 = .ok (.iadd, 1) := by decide +kernel
theorem dL_law_705 : decode cL_law 705 = .ok (.iaload, 1) := by decide +kernel
theorem dL_law_706 : decode cL_law 706 = .ok (.invokevirtual 80, 3) := by decide +kernel
theorem dL_law_709 : decode cL_law 709 = .ok (.aload_n 2, 1) := by decide +kernel
theorem dL_law_710 : decode cL_law 710 = .ok (.aload_n 0, 1) := by decide +kernel
theorem dL_law_711 : decode cL_law 711 = .ok (.iload_n 3, 1) := by decide +kernel
theorem dL_law_712 : decode cL_law 712 = .ok (.iconst 1, 1) := by decide +kernel
theorem dL_law_713 : decode cL_law 713 = .ok (.iadd, 1) := by decide +kernel
theorem dL_law_714 : decode cL_law 714 = .ok (.iaload, 1) := by decide +kernel
theorem dL_law_715 : decode cL_law 715 = .ok (.aload_n 0, 1) := by decide +kernel
theorem dL_law_716 : decode cL_law 716 = .ok (.iload_n 3, 1) := by decide +kernel
theorem dL_law_717 : decode cL_law 717 = .ok (.iconst 2, 1) := by decide +kernel
theorem dL_law_718 : decode cL_law 718 = .ok (.iadd, 1) := by decide +kernel
theorem dL_law_719 : decode cL_law 719 = .ok (.iaload, 1) := by decide +kernel
theorem dL_law_720 : decode cL_law 720 = .ok (.aload_n 0, 1) := by decide +kernel
theorem dL_law_721 : decode cL_law 721 = .ok (.iload_n 3, 1) := by decide +kernel
theorem dL_law_722 : decode cL_law 722 = .ok (.iconst 3, 1) := by decide +kernel
theorem dL_law_723 : decode cL_law 723 = .ok (.iadd, 1) := by decide +kernel
theorem dL_law_724 : decode cL_law 724 = .ok (.iaload, 1) := by decide +kernel
theorem dL_law_725 : decode cL_law 725 = .ok (.invokevirtual 83, 3) := by decide +kernel
theorem dL_law_728 : decode cL_law 728 = .ok (.if_icmp .eq 698, 3) := by decide +kernel
theorem dL_law_731 : decode cL_law 731 = .ok (.iconst 0, 1) := by decide +kernel
theorem dL_law_732 : decode cL_law 732 = .ok (.ireturn, 1) := by decide +kernel
theorem dL_law_733 : decode cL_law 733 = .ok (.aload_n 1, 1) := by decide +kernel
theorem dL_law_734 : decode cL_law 734 = .ok (.aload_n 0, 1) := by decide +kernel
theorem dL_law_735 : decode cL_law 735 = .ok (.iload_n 3, 1) := by decide +kernel
theorem dL_law_736 : decode cL_law 736 = .ok (.iconst 1, 1) := by decide +kernel
theorem dL_law_737 : decode cL_law 737 = .ok (.iadd, 1) := by decide +kernel
theorem dL_law_738 : decode cL_law 738 = .ok (.iaload, 1) := by decide +kernel
theorem dL_law_739 : decode cL_law 739 = .ok (.aload_n 0, 1) := by decide +kernel
theorem dL_law_740 : decode cL_law 740 = .ok (.iload_n 3, 1) := by decide +kernel
theorem dL_law_741 : decode cL_law 741 = .ok (.iconst 2, 1) := by decide +kernel
theorem dL_law_742 : decode cL_law 742 = .ok (.iadd, 1) := by decide +kernel
theorem dL_law_743 : decode cL_law 743 = .ok (.iaload, 1) := by decide +kernel
theorem dL_law_744 : decode cL_law 744 = .ok (.aload_n 0, 1) := by decide +kernel
theorem dL_law_745 : decode cL_law 745 = .ok (.iload_n 3, 1) := by decide +kernel
theorem dL_law_746 : decode cL_law 746 = .ok (.iconst 3, 1) := by decide +kernel
theorem dL_law_747 : decode cL_law 747 = .ok (.iadd, 1) := by decide +kernel
theorem dL_law_748 : decode cL_law 748 = .ok (.iaload, 1) := by decide +kernel
theorem dL_law_749 : decode cL_law 749 = .ok (.invokevirtual 84, 3) := by decide +kernel
theorem dL_law_752 : decode cL_law 752 = .ok (.aload_n 2, 1) := by decide +kernel
theorem dL_law_753 : decode cL_law 753 = .ok (.aload_n 0, 1) := by decide +kernel
theorem dL_law_754 : decode cL_law 754 = .ok (.iload_n 3, 1) := by decide +kernel
theorem dL_law_755 : decode cL_law 755 = .ok (.iconst 1, 1) := by decide +kernel
theorem dL_law_756 : decode cL_law 756 = .ok (.iadd, 1) := by decide +kernel
theorem dL_law_757 : decode cL_law 757 = .ok (.iaload, 1) := by decide +kernel
theorem dL_law_758 : decode cL_law 758 = .ok (.aload_n 0, 1) := by decide +kernel
theorem dL_law_759 : decode cL_law 759 = .ok (.iload_n 3, 1) := by decide +kernel
theorem dL_law_760 : decode cL_law 760 = .ok (.iconst 2, 1) := by decide +kernel
theorem dL_law_761 : decode cL_law 761 = .ok (.iadd, 1) := by decide +kernel
theorem dL_law_762 : decode cL_law 762 = .ok (.iaload, 1) := by decide +kernel
theorem dL_law_763 : decode cL_law 763 = .ok (.aload_n 0, 1) := by decide +kernel
theorem dL_law_764 : decode cL_law 764 = .ok (.iload_n 3, 1) := by decide +kernel
theorem dL_law_765 : decode cL_law 765 = .ok (.iconst 3, 1) := by decide +kernel
theorem dL_law_766 : decode cL_law 766 = .ok (.iadd, 1) := by decide +kernel
theorem dL_law_767 : decode cL_law 767 = .ok (.iaload, 1) := by decide +kernel
theorem dL_law_768 : decode cL_law 768 = .ok (.invokevirtual 87, 3) := by decide +kernel
theorem dL_law_771 : decode cL_law 771 = .ok (.if_icmp .eq 655, 3) := by decide +kernel
theorem dL_law_774 : decode cL_law 774 = .ok (.iconst 0, 1) := by decide +kernel
theorem dL_law_775 : decode cL_law 775 = .ok (.ireturn, 1) := by decide +kernel
theorem dL_law_776 : decode cL_law 776 = .ok (.aload_n 1, 1) := by decide +kernel
theorem dL_law_777 : decode cL_law 777 = .ok (.aload_n 0, 1) := by decide +kernel
theorem dL_law_778 : decode cL_law 778 = .ok (.iload_n 3, 1) := by decide +kernel
theorem dL_law_779 : decode cL_law 779 = .ok (.iconst 1, 1) := by decide +kernel
theorem dL_law_780 : decode cL_law 780 = .ok (.iadd, 1) := by decide +kernel
theorem dL_law_781 : decode cL_law 781 = .ok (.iaload, 1) := by decide +kernel
theorem dL_law_782 : decode cL_law 782 = .ok (.aload_n 0, 1) := by decide +kernel
theorem dL_law_783 : decode cL_law 783 = .ok (.iload_n 3, 1) := by decide +kernel
theorem dL_law_784 : decode cL_law 784 = .ok (.iconst 2, 1) := by decide +kernel
theorem dL_law_785 : decode cL_law 785 = .ok (.iadd, 1) := by decide +kernel
theorem dL_law_786 : decode cL_law 786 = .ok (.iaload, 1) := by decide +kernel
theorem dL_law_787 : decode cL_law 787 = .ok (.invokevirtual 88, 3) := by decide +kernel
theorem dL_law_790 : decode cL_law 790 = .ok (.aload_n 2, 1) := by decide +kernel
theorem dL_law_791 : decode cL_law 791 = .ok (.aload_n 0, 1) := by decide +kernel
theorem dL_law_792 : decode cL_law 792 = .ok (.iload_n 3, 1) := by decide +kernel
theorem dL_law_793 : decode cL_law 793 = .ok (.iconst 1, 1) := by decide +kernel
theorem dL_law_794 : decode cL_law 794 = .ok (.iadd, 1) := by decide +kernel
theorem dL_law_795 : decode cL_law 795 = .ok (.iaload, 1) := by decide +kernel
theorem dL_law_796 : decode cL_law 796 = .ok (.aload_n 0, 1) := by decide +kernel
theorem dL_law_797 : decode cL_law 797 = .ok (.iload_n 3, 1) := by decide +kernel
theorem dL_law_798 : decode cL_law 798 = .ok (.iconst 2, 1) := by decide +kernel
theorem dL_law_799 : decode cL_law 799 = .ok (.iadd, 1) := by decide +kernel
theorem dL_law_800 : decode cL_law 800 = .ok (.iaload, 1) := by decide +kernel
theorem dL_law_801 : decode cL_law 801 = .ok (.invokevirtual 91, 3) := by decide +kernel
theorem dL_law_804 : decode cL_law 804 = .ok (.if_icmp .eq 622, 3) := by decide +kernel
theorem dL_law_807 : decode cL_law 807 = .ok (.iconst 0, 1) := by decide +kernel
theorem dL_law_808 : decode cL_law 808 = .ok (.ireturn, 1) := by decide +kernel
theorem dL_law_809 : decode cL_law 809 = .ok (.aload_n 1, 1) := by decide +kernel
theorem dL_law_810 : decode cL_law 810 = .ok (.aload_n 0, 1) := by decide +kernel
theorem dL_law_811 : decode cL_law 811 = .ok (.iload_n 3, 1) := by decide +kernel
theorem dL_law_812 : decode cL_law 812 = .ok (.iconst 1, 1) := by decide +kernel
theorem dL_law_813 : decode cL_law 813 = .ok (.iadd, 1) := by decide +kernel
theorem dL_law_814 : decode cL_law 814 = .ok (.iaload, 1) := by decide +kernel
theorem dL_law_815 : decode cL_law 815 = .ok (.aload_n 0, 1) := by decide +kernel
theorem dL_law_816 : decode cL_law 816 = .ok (.iload_n 3, 1) := by decide +kernel
theorem dL_law_817 : decode cL_law 817 = .ok (.iconst 2, 1) := by decide +kernel
theorem dL_law_818 : decode cL_law 818 = .ok (.iadd, 1) := by decide +kernel
theorem dL_law_819 : decode cL_law 819 = .ok (.iaload, 1) := by decide +kernel
theorem dL_law_820 : decode cL_law 820 = .ok (.invokevirtual 92, 3) := by decide +kernel
theorem dL_law_823 : decode cL_law 823 = .ok (.aload_n 2, 1) := by decide +kernel
theorem dL_law_824 : decode cL_law 824 = .ok (.aload_n 0, 1) := by decide +kernel
theorem dL_law_825 : decode cL_law 825 = .ok (.iload_n 3, 1) := by decide +kernel
theorem dL_law_826 : decode cL_law 826 = .ok (.iconst 1, 1) := by decide +kernel
theorem dL_law_827 : decode cL_law 827 = .ok (.iadd, 1) := by decide +kernel
theorem dL_law_828 : decode cL_law 828 = .ok (.iaload, 1) := by decide +kernel
theorem dL_law_829 : decode cL_law 829 = .ok (.aload_n 0, 1) := by decide +kernel
theorem dL_law_830 : decode cL_law 830 = .ok (.iload_n 3, 1) := by decide +kernel
theorem dL_law_831 : decode cL_law 831 = .ok (.iconst 2, 1) := by decide +kernel
theorem dL_law_832 : decode cL_law 832 = .ok (.iadd, 1) := by decide +kernel
theorem dL_law_833 : decode cL_law 833 = .ok (.iaload, 1) := by decide +kernel
theorem dL_law_834 : decode cL_law 834 = .ok (.invokevirtual 95, 3) := by decide +kernel
theorem dL_law_837 : decode cL_law 837 = .ok (.if_icmp .eq 589, 3) := by decide +kernel
theorem dL_law_840 : decode cL_law 840 = .ok (.iconst 0, 1) := by decide +kernel
theorem dL_law_841 : decode cL_law 841 = .ok (.ireturn, 1) := by decide +kernel
theorem dL_law_842 : decode cL_law 842 = .ok (.aload_n 1, 1) := by decide +kernel
theorem dL_law_843 : decode cL_law 843 = .ok (.aload_n 0, 1) := by decide +kernel
theorem dL_law_844 : decode cL_law 844 = .ok (.iload_n 3, 1) := by decide +kernel
theorem dL_law_845 : decode cL_law 845 = .ok (.iconst 1, 1) := by decide +kernel
theorem dL_law_846 : decode cL_law 846 = .ok (.iadd, 1) := by decide +kernel
theorem dL_law_847 : decode cL_law 847 = .ok (.iaload, 1) := by decide +kernel
theorem dL_law_848 : decode cL_law 848 = .ok (.invokevirtual 96, 3) := by decide +kernel
theorem dL_law_851 : decode cL_law 851 = .ok (.aload_n 2, 1) := by decide +kernel
theorem dL_law_852 : decode cL_law 852 = .ok (.aload_n 0, 1) := by decide +kernel
theorem dL_law_853 : decode cL_law 853 = .ok (.iload_n 3, 1) := by decide +kernel
theorem dL_law_854 : decode cL_law 854 = .ok (.iconst 1, 1) := by decide +kernel
theorem dL_law_855 : decode cL_law 855 = .ok (.iadd, 1) := by decide +kernel
theorem dL_law_856 : decode cL_law 856 = .ok (.iaload, 1) := by decide +kernel
theorem dL_law_857 : decode cL_law 857 = .ok (.invokevirtual 99, 3) := by decide +kernel
theorem dL_law_860 : decode cL_law 860 = .ok (.if_icmp .eq 566, 3) := by decide +kernel
theorem dL_law_863 : decode cL_law 863 = .ok (.iconst 0, 1) := by decide +kernel
theorem dL_law_864 : decode cL_law 864 = .ok (.ireturn, 1) := by decide +kernel
theorem dL_law_865 : decode cL_law 865 = .ok (.aload_n 1, 1) := by decide +kernel
theorem dL_law_866 : decode cL_law 866 = .ok (.aload_n 0, 1) := by decide +kernel
theorem dL_law_867 : decode cL_law 867 = .ok (.iload_n 3, 1) := by decide +kernel
theorem dL_law_868 : decode cL_law 868 = .ok (.iconst 1, 1) := by decide +kernel
theorem dL_law_869 : decode cL_law 869 = .ok (.iadd, 1) := by decide +kernel
theorem dL_law_870 : decode cL_law 870 = .ok (.iaload, 1) := by decide +kernel
theorem dL_law_871 : decode cL_law 871 = .ok (.aload_n 0, 1) := by decide +kernel
theorem dL_law_872 : decode cL_law 872 = .ok (.iload_n 3, 1) := by decide +kernel
theorem dL_law_873 : decode cL_law 873 = .ok (.iconst 2, 1) := by decide +kernel
theorem dL_law_874 : decode cL_law 874 = .ok (.iadd, 1) := by decide +kernel
theorem dL_law_875 : decode cL_law 875 = .ok (.iaload, 1) := by decide +kernel
theorem dL_law_876 : decode cL_law 876 = .ok (.invokevirtual 100, 3) := by decide +kernel
theorem dL_law_879 : decode cL_law 879 = .ok (.aload_n 2, 1) := by decide +kernel
theorem dL_law_880 : decode cL_law 880 = .ok (.aload_n 0, 1) := by decide +kernel
theorem dL_law_881 : decode cL_law 881 = .ok (.iload_n 3, 1) := by decide +kernel
theorem dL_law_882 : decode cL_law 882 = .ok (.iconst 1, 1) := by decide +kernel
theorem dL_law_883 : decode cL_law 883 = .ok (.iadd, 1) := by decide +kernel
theorem dL_law_884 : decode cL_law 884 = .ok (.iaload, 1) := by decide +kernel
theorem dL_law_885 : decode cL_law 885 = .ok (.aload_n 0, 1) := by decide +kernel
theorem dL_law_886 : decode cL_law 886 = .ok (.iload_n 3, 1) := by decide +kernel
theorem dL_law_887 : decode cL_law 887 = .ok (.iconst 2, 1) := by decide +kernel
theorem dL_law_888 : decode cL_law 888 = .ok (.iadd, 1) := by decide +kernel
theorem dL_law_889 : decode cL_law 889 = .ok (.iaload, 1) := by decide +kernel
theorem dL_law_890 : decode cL_law 890 = .ok (.invokevirtual 103, 3) := by decide +kernel
theorem dL_law_893 : decode cL_law 893 = .ok (.if_icmp .eq 533, 3) := by decide +kernel
theorem dL_law_896 : decode cL_law 896 = .ok (.iconst 0, 1) := by decide +kernel
theorem dL_law_897 : decode cL_law 897 = .ok (.ireturn, 1) := by decide +kernel
theorem dL_law_898 : decode cL_law 898 = .ok (.aload_n 1, 1) := by decide +kernel
theorem dL_law_899 : decode cL_law 899 = .ok (.aload_n 0, 1) := by decide +kernel
theorem dL_law_900 : decode cL_law 900 = .ok (.iload_n 3, 1) := by decide +kernel
theorem dL_law_901 : decode cL_law 901 = .ok (.iconst 1, 1) := by decide +kernel
theorem dL_law_902 : decode cL_law 902 = .ok (.iadd, 1) := by decide +kernel
theorem dL_law_903 : decode cL_law 903 = .ok (.iaload, 1) := by decide +kernel
theorem dL_law_904 : decode cL_law 904 = .ok (.aload_n 0, 1) := by decide +kernel
theorem dL_law_905 : decode cL_law 905 = .ok (.iload_n 3, 1) := by decide +kernel
theorem dL_law_906 : decode cL_law 906 = .ok (.iconst 2, 1) := by decide +kernel
theorem dL_law_907 : decode cL_law 907 = .ok (.iadd, 1) := by decide +kernel
theorem dL_law_908 : decode cL_law 908 = .ok (.iaload, 1) := by decide +kernel
theorem dL_law_909 : decode cL_law 909 = .ok (.invokevirtual 104, 3) := by decide +kernel
theorem dL_law_912 : decode cL_law 912 = .ok (.aload_n 2, 1) := by decide +kernel
theorem dL_law_913 : decode cL_law 913 = .ok (.aload_n 0, 1) := by decide +kernel
theorem dL_law_914 : decode cL_law 914 = .ok (.iload_n 3, 1) := by decide +kernel
theorem dL_law_915 : decode cL_law 915 = .ok (.iconst 1, 1) := by decide +kernel
theorem dL_law_916 : decode cL_law 916 = .ok (.iadd, 1) := by decide +kernel
theorem dL_law_917 : decode cL_law 917 = .ok (.iaload, 1) := by decide +kernel
theorem dL_law_918 : decode cL_law 918 = .ok (.aload_n 0, 1) := by decide +kernel
theorem dL_law_919 : decode cL_law 919 = .ok (.iload_n 3, 1) := by decide +kernel
theorem dL_law_920 : decode cL_law 920 = .ok (.iconst 2, 1) := by decide +kernel
theorem dL_law_921 : decode cL_law 921 = .ok (.iadd, 1) := by decide +kernel
theorem dL_law_922 : decode cL_law 922 = .ok (.iaload, 1) := by decide +kernel
theorem dL_law_923 : decode cL_law 923 = .ok (.invokevirtual 107, 3) := by decide +kernel
theorem dL_law_926 : decode cL_law 926 = .ok (.if_icmp .eq 500, 3) := by decide +kernel
theorem dL_law_929 : decode cL_law 929 = .ok (.iconst 0, 1) := by decide +kernel
theorem dL_law_930 : decode cL_law 930 = .ok (.ireturn, 1) := by decide +kernel
theorem dL_law_931 : decode cL_law 931 = .ok (.aload_n 1, 1) := by decide +kernel
theorem dL_law_932 : decode cL_law 932 = .ok (.aload_n 0, 1) := by decide +kernel
theorem dL_law_933 : decode cL_law 933 = .ok (.iload_n 3, 1) := by decide +kernel
theorem dL_law_934 : decode cL_law 934 = .ok (.iconst 1, 1) := by decide +kernel
theorem dL_law_935 : decode cL_law 935 = .ok (.iadd, 1) := by decide +kernel
theorem dL_law_936 : decode cL_law 936 = .ok (.iaload, 1) := by decide +kernel
theorem dL_law_937 : decode cL_law 937 = .ok (.invokevirtual 108, 3) := by decide +kernel
theorem dL_law_940 : decode cL_law 940 = .ok (.aload_n 2, 1) := by decide +kernel
theorem dL_law_941 : decode cL_law 941 = .ok (.aload_n 0, 1) := by decide +kernel
theorem dL_law_942 : decode cL_law 942 = .ok (.iload_n 3, 1) := by decide +kernel
theorem dL_law_943 : decode cL_law 943 = .ok (.iconst 1, 1) := by decide +kernel
theorem dL_law_944 : decode cL_law 944 = .ok (.iadd, 1) := by decide +kernel
theorem dL_law_945 : decode cL_law 945 = .ok (.iaload, 1) := by decide +kernel
theorem dL_law_946 : decode cL_law 946 = .ok (.invokevirtual 111, 3) := by decide +kernel
theorem dL_law_949 : decode cL_law 949 = .ok (.if_icmp .eq 477, 3) := by decide +kernel
theorem dL_law_952 : decode cL_law 952 = .ok (.iconst 0, 1) := by decide +kernel
theorem dL_law_953 : decode cL_law 953 = .ok (.ireturn, 1) := by decide +kernel
theorem dL_law_954 : decode cL_law 954 = .ok (.aload_n 1, 1) := by decide +kernel
theorem dL_law_955 : decode cL_law 955 = .ok (.aload_n 0, 1) := by decide +kernel
theorem dL_law_956 : decode cL_law 956 = .ok (.iload_n 3, 1) := by decide +kernel
theorem dL_law_957 : decode cL_law 957 = .ok (.iconst 1, 1) := by decide +kernel
theorem dL_law_958 : decode cL_law 958 = .ok (.iadd, 1) := by decide +kernel
theorem dL_law_959 : decode cL_law 959 = .ok (.iaload, 1) := by decide +kernel
theorem dL_law_960 : decode cL_law 960 = .ok (.aload_n 0, 1) := by decide +kernel
theorem dL_law_961 : decode cL_law 961 = .ok (.iload_n 3, 1) := by decide +kernel
theorem dL_law_962 : decode cL_law 962 = .ok (.iconst 2, 1) := by decide +kernel
theorem dL_law_963 : decode cL_law 963 = .ok (.iadd, 1) := by decide +kernel
theorem dL_law_964 : decode cL_law 964 = .ok (.iaload, 1) := by decide +kernel
theorem dL_law_965 : decode cL_law 965 = .ok (.aload_n 0, 1) := by decide +kernel
theorem dL_law_966 : decode cL_law 966 = .ok (.iload_n 3, 1) := by decide +kernel
theorem dL_law_967 : decode cL_law 967 = .ok (.iconst 3, 1) := by decide +kernel
theorem dL_law_968 : decode cL_law 968 = .ok (.iadd, 1) := by decide +kernel
theorem dL_law_969 : decode cL_law 969 = .ok (.iaload, 1) := by decide +kernel
theorem dL_law_970 : decode cL_law 970 = .ok (.invokevirtual 112, 3) := by decide +kernel
theorem dL_law_973 : decode cL_law 973 = .ok (.aload_n 2, 1) := by decide +kernel
theorem dL_law_974 : decode cL_law 974 = .ok (.aload_n 0, 1) := by decide +kernel
theorem dL_law_975 : decode cL_law 975 = .ok (.iload_n 3, 1) := by decide +kernel
theorem dL_law_976 : decode cL_law 976 = .ok (.iconst 1, 1) := by decide +kernel
theorem dL_law_977 : decode cL_law 977 = .ok (.iadd, 1) := by decide +kernel
theorem dL_law_978 : decode cL_law 978 = .ok (.iaload, 1) := by decide +kernel
theorem dL_law_979 : decode cL_law 979 = .ok (.aload_n 0, 1) := by decide +kernel
theorem dL_law_980 : decode cL_law 980 = .ok (.iload_n 3, 1) := by decide +kernel
theorem dL_law_981 : decode cL_law 981 = .ok (.iconst 2, 1) := by decide +kernel
theorem dL_law_982 : decode cL_law 982 = .ok (.iadd, 1) := by decide +kernel
theorem dL_law_983 : decode cL_law 983 = .ok (.iaload, 1) := by decide +kernel
theorem dL_law_984 : decode cL_law 984 = .ok (.aload_n 0, 1) := by decide +kernel
theorem dL_law_985 : decode cL_law 985 = .ok (.iload_n 3, 1) := by decide +kernel
theorem dL_law_986 : decode cL_law 986 = .ok (.iconst 3, 1) := by decide +kernel
theorem dL_law_987 : decode cL_law 987 = .ok (.iadd, 1) := by decide +kernel
theorem dL_law_988 : decode cL_law 988 = .ok (.iaload, 1) := by decide +kernel
theorem dL_law_989 : decode cL_law 989 = .ok (.invokevirtual 116, 3) := by decide +kernel
theorem dL_law_992 : decode cL_law 992 = .ok (.lcmp, 1) := by decide +kernel
theorem dL_law_993 : decode cL_law 993 = .ok (.ifCond .eq 433, 3) := by decide +kernel
theorem dL_law_996 : decode cL_law 996 = .ok (.iconst 0, 1) := by decide +kernel
theorem dL_law_997 : decode cL_law 997 = .ok (.ireturn, 1) := by decide +kernel
theorem dL_law_998 : decode cL_law 998 = .ok (.aload_n 1, 1) := by decide +kernel
theorem dL_law_999 : decode cL_law 999 = .ok (.aload_n 0, 1) := by decide +kernel
theorem dL_law_1000 : decode cL_law 1000 = .ok (.iload_n 3, 1) := by decide +kernel
theorem dL_law_1001 : decode cL_law 1001 = .ok (.iconst 1, 1) := by decide +kernel
theorem dL_law_1002 : decode cL_law 1002 = .ok (.iadd, 1) := by decide +kernel
theorem dL_law_1003 : decode cL_law 1003 = .ok (.iaload, 1) := by decide +kernel
theorem dL_law_1004 : decode cL_law 1004 = .ok (.invokevirtual 117, 3) := by decide +kernel
theorem dL_law_1007 : decode cL_law 1007 = .ok (.aload_n 2, 1) := by decide +kernel
theorem dL_law_1008 : decode cL_law 1008 = .ok (.aload_n 0, 1) := by decide +kernel
theorem dL_law_1009 : decode cL_law 1009 = .ok (.iload_n 3, 1) := by decide +kernel
theorem dL_law_1010 : decode cL_law 1010 = .ok (.iconst 1, 1) := by decide +kernel
theorem dL_law_1011 : decode cL_law 1011 = .ok (.iadd, 1) := by decide +kernel
theorem dL_law_1012 : decode cL_law 1012 = .ok (.iaload, 1) := by decide +kernel
theorem dL_law_1013 : decode cL_law 1013 = .ok (.invokevirtual 120, 3) := by decide +kernel
theorem dL_law_1016 : decode cL_law 1016 = .ok (.if_icmp .eq 410, 3) := by decide +kernel
theorem dL_law_1019 : decode cL_law 1019 = .ok (.iconst 0, 1) := by decide +kernel
theorem dL_law_1020 : decode cL_law 1020 = .ok (.ireturn, 1) := by decide +kernel
theorem dL_law_1021 : decode cL_law 1021 = .ok (.aload_n 1, 1) := by decide +kernel
theorem dL_law_1022 : decode cL_law 1022 = .ok (.aload_n 0, 1) := by decide +kernel
theorem dL_law_1023 : decode cL_law 1023 = .ok (.iload_n 3, 1) := by decide +kernel
theorem dL_law_1024 : decode cL_law 1024 = .ok (.iconst 1, 1) := by decide +kernel
theorem dL_law_1025 : decode cL_law 1025 = .ok (.iadd, 1) := by decide +kernel
theorem dL_law_1026 : decode cL_law 1026 = .ok (.iaload, 1) := by decide +kernel
theorem dL_law_1027 : decode cL_law 1027 = .ok (.aload_n 0, 1) := by decide +kernel
theorem dL_law_1028 : decode cL_law 1028 = .ok (.iload_n 3, 1) := by decide +kernel
theorem dL_law_1029 : decode cL_law 1029 = .ok (.iconst 2, 1) := by decide +kernel
theorem dL_law_1030 : decode cL_law 1030 = .ok (.iadd, 1) := by decide +kernel
theorem dL_law_1031 : decode cL_law 1031 = .ok (.iaload, 1) := by decide +kernel
theorem dL_law_1032 : decode cL_law 1032 = .ok (.invokevirtual 121, 3) := by decide +kernel
theorem dL_law_1035 : decode cL_law 1035 = .ok (.aload_n 2, 1) := by decide +kernel
theorem dL_law_1036 : decode cL_law 1036 = .ok (.aload_n 0, 1) := by decide +kernel
theorem dL_law_1037 : decode cL_law 1037 = .ok (.iload_n 3, 1) := by decide +kernel
theorem dL_law_1038 : decode cL_law 1038 = .ok (.iconst 1, 1) := by decide +kernel
theorem dL_law_1039 : decode cL_law 1039 = .ok (.iadd, 1) := by decide +kernel
theorem dL_law_1040 : decode cL_law 1040 = .ok (.iaload, 1) := by decide +kernel
theorem dL_law_1041 : decode cL_law 1041 = .ok (.aload_n 0, 1) := by decide +kernel
theorem dL_law_1042 : decode cL_law 1042 = .ok (.iload_n 3, 1) := by decide +kernel
theorem dL_law_1043 : decode cL_law 1043 = .ok (.iconst 2, 1) := by decide +kernel
theorem dL_law_1044 : decode cL_law 1044 = .ok (.iadd, 1) := by decide +kernel
theorem dL_law_1045 : decode cL_law 1045 = .ok (.iaload, 1) := by decide +kernel
theorem dL_law_1046 : decode cL_law 1046 = .ok (.invokevirtual 124, 3) := by decide +kernel
theorem dL_law_1049 : decode cL_law 1049 = .ok (.if_icmp .eq 377, 3) := by decide +kernel
theorem dL_law_1052 : decode cL_law 1052 = .ok (.iconst 0, 1) := by decide +kernel
theorem dL_law_1053 : decode cL_law 1053 = .ok (.ireturn, 1) := by decide +kernel
theorem dL_law_1054 : decode cL_law 1054 = .ok (.aload_n 1, 1) := by decide +kernel
theorem dL_law_1055 : decode cL_law 1055 = .ok (.invokevirtual 125, 3) := by decide +kernel
theorem dL_law_1058 : decode cL_law 1058 = .ok (.aload_n 2, 1) := by decide +kernel
theorem dL_law_1059 : decode cL_law 1059 = .ok (.invokevirtual 129, 3) := by decide +kernel
theorem dL_law_1062 : decode cL_law 1062 = .ok (.if_icmp .eq 364, 3) := by decide +kernel
theorem dL_law_1065 : decode cL_law 1065 = .ok (.iconst 0, 1) := by decide +kernel
theorem dL_law_1066 : decode cL_law 1066 = .ok (.ireturn, 1) := by decide +kernel
theorem dL_law_1067 : decode cL_law 1067 = .ok (.aload_n 1, 1) := by decide +kernel
theorem dL_law_1068 : decode cL_law 1068 = .ok (.invokevirtual 130, 3) := by decide +kernel
theorem dL_law_1071 : decode cL_law 1071 = .ok (.aload_n 2, 1) := by decide +kernel
theorem dL_law_1072 : decode cL_law 1072 = .ok (.invokevirtual 133, 3) := by decide +kernel
theorem dL_law_1075 : decode cL_law 1075 = .ok (.if_icmp .eq 351, 3) := by decide +kernel
theorem dL_law_1078 : decode cL_law 1078 = .ok (.iconst 0, 1) := by decide +kernel
theorem dL_law_1079 : decode cL_law 1079 = .ok (.ireturn, 1) := by decide +kernel
theorem dL_law_1080 : decode cL_law 1080 = .ok (.aload_n 1, 1) := by decide +kernel
theorem dL_law_1081 : decode cL_law 1081 = .ok (.aload_n 0, 1) := by decide +kernel
theorem dL_law_1082 : decode cL_law 1082 = .ok (.iload_n 3, 1) := by decide +kernel
theorem dL_law_1083 : decode cL_law 1083 = .ok (.iconst 1, 1) := by decide +kernel
theorem dL_law_1084 : decode cL_law 1084 = .ok (.iadd, 1) := by decide +kernel
theorem dL_law_1085 : decode cL_law 1085 = .ok (.iaload, 1) := by decide +kernel
theorem dL_law_1086 : decode cL_law 1086 = .ok (.aload_n 0, 1) := by decide +kernel
theorem dL_law_1087 : decode cL_law 1087 = .ok (.iload_n 3, 1) := by decide +kernel
theorem dL_law_1088 : decode cL_law 1088 = .ok (.iconst 2, 1) := by decide +kernel
theorem dL_law_1089 : decode cL_law 1089 = .ok (.iadd, 1) := by decide +kernel
theorem dL_law_1090 : decode cL_law 1090 = .ok (.iaload, 1) := by decide +kernel
theorem dL_law_1091 : decode cL_law 1091 = .ok (.invokevirtual 134, 3) := by decide +kernel
theorem dL_law_1094 : decode cL_law 1094 = .ok (.aload_n 2, 1) := by decide +kernel
theorem dL_law_1095 : decode cL_law 1095 = .ok (.aload_n 0, 1) := by decide +kernel
theorem dL_law_1096 : decode cL_law 1096 = .ok (.iload_n 3, 1) := by decide +kernel
theorem dL_law_1097 : decode cL_law 1097 = .ok (.iconst 1, 1) := by decide +kernel
theorem dL_law_1098 : decode cL_law 1098 = .ok (.iadd, 1) := by decide +kernel
theorem dL_law_1099 : decode cL_law 1099 = .ok (.iaload, 1) := by decide +kernel
theorem dL_law_1100 : decode cL_law 1100 = .ok (.aload_n 0, 1) := by decide +kernel
theorem dL_law_1101 : decode cL_law 1101 = .ok (.iload_n 3, 1) := by decide +kernel
theorem dL_law_1102 : decode cL_law 1102 = .ok (.iconst 2, 1) := by decide +kernel
theorem dL_law_1103 : decode cL_law 1103 = .ok (.iadd, 1) := by decide +kernel
theorem dL_law_1104 : decode cL_law 1104 = .ok (.iaload, 1) := by decide +kernel
theorem dL_law_1105 : decode cL_law 1105 = .ok (.invokevirtual 137, 3) := by decide +kernel
theorem dL_law_1108 : decode cL_law 1108 = .ok (.if_icmp .eq 318, 3) := by decide +kernel
theorem dL_law_1111 : decode cL_law 1111 = .ok (.iconst 0, 1) := by decide +kernel
theorem dL_law_1112 : decode cL_law 1112 = .ok (.ireturn, 1) := by decide +kernel
theorem dL_law_1113 : decode cL_law 1113 = .ok (.aload_n 1, 1) := by decide +kernel
theorem dL_law_1114 : decode cL_law 1114 = .ok (.aload_n 0, 1) := by decide +kernel
theorem dL_law_1115 : decode cL_law 1115 = .ok (.iload_n 3, 1) := by decide +kernel
theorem dL_law_1116 : decode cL_law 1116 = .ok (.iconst 1, 1) := by decide +kernel
theorem dL_law_1117 : decode cL_law 1117 = .ok (.iadd, 1) := by decide +kernel
theorem dL_law_1118 : decode cL_law 1118 = .ok (.iaload, 1) := by decide +kernel
theorem dL_law_1119 : decode cL_law 1119 = .ok (.aload_n 0, 1) := by decide +kernel
theorem dL_law_1120 : decode cL_law 1120 = .ok (.iload_n 3, 1) := by decide +kernel
theorem dL_law_1121 : decode cL_law 1121 = .ok (.iconst 2, 1) := by decide +kernel
theorem dL_law_1122 : decode cL_law 1122 = .ok (.iadd, 1) := by decide +kernel
theorem dL_law_1123 : decode cL_law 1123 = .ok (.iaload, 1) := by decide +kernel
theorem dL_law_1124 : decode cL_law 1124 = .ok (.invokevirtual 138, 3) := by decide +kernel
theorem dL_law_1127 : decode cL_law 1127 = .ok (.aload_n 2, 1) := by decide +kernel
theorem dL_law_1128 : decode cL_law 1128 = .ok (.aload_n 0, 1) := by decide +kernel
theorem dL_law_1129 : decode cL_law 1129 = .ok (.iload_n 3, 1) := by decide +kernel
theorem dL_law_1130 : decode cL_law 1130 = .ok (.iconst 1, 1) := by decide +kernel
theorem dL_law_1131 : decode cL_law 1131 = .ok (.iadd, 1) := by decide +kernel
theorem dL_law_1132 : decode cL_law 1132 = .ok (.iaload, 1) := by decide +kernel
theorem dL_law_1133 : decode cL_law 1133 = .ok (.aload_n 0, 1) := by decide +kernel
theorem dL_law_1134 : decode cL_law 1134 = .ok (.iload_n 3, 1) := by decide +kernel
theorem dL_law_1135 : decode cL_law 1135 = .ok (.iconst 2, 1) := by decide +kernel
theorem dL_law_1136 : decode cL_law 1136 = .ok (.iadd, 1) := by decide +kernel
theorem dL_law_1137 : decode cL_law 1137 = .ok (.iaload, 1) := by decide +kernel
theorem dL_law_1138 : decode cL_law 1138 = .ok (.invokevirtual 141, 3) := by decide +kernel
theorem dL_law_1141 : decode cL_law 1141 = .ok (.if_icmp .eq 285, 3) := by decide +kernel
theorem dL_law_1144 : decode cL_law 1144 = .ok (.iconst 0, 1) := by decide +kernel
theorem dL_law_1145 : decode cL_law 1145 = .ok (.ireturn, 1) := by decide +kernel
theorem dL_law_1146 : decode cL_law 1146 = .ok (.aload_n 1, 1) := by decide +kernel
theorem dL_law_1147 : decode cL_law 1147 = .ok (.aload_n 0, 1) := by decide +kernel
theorem dL_law_1148 : decode cL_law 1148 = .ok (.iload_n 3, 1) := by decide +kernel
theorem dL_law_1149 : decode cL_law 1149 = .ok (.iconst 1, 1) := by decide +kernel
theorem dL_law_1150 : decode cL_law 1150 = .ok (.iadd, 1) := by decide +kernel
theorem dL_law_1151 : decode cL_law 1151 = .ok (.iaload, 1) := by decide +kernel
theorem dL_law_1152 : decode cL_law 1152 = .ok (.aload_n 0, 1) := by decide +kernel
theorem dL_law_1153 : decode cL_law 1153 = .ok (.iload_n 3, 1) := by decide +kernel
theorem dL_law_1154 : decode cL_law 1154 = .ok (.iconst 2, 1) := by decide +kernel
theorem dL_law_1155 : decode cL_law 1155 = .ok (.iadd, 1) := by decide +kernel
theorem dL_law_1156 : decode cL_law 1156 = .ok (.iaload, 1) := by decide +kernel
theorem dL_law_1157 : decode cL_law 1157 = .ok (.aload_n 0, 1) := by decide +kernel
theorem dL_law_1158 : decode cL_law 1158 = .ok (.iload_n 3, 1) := by decide +kernel
theorem dL_law_1159 : decode cL_law 1159 = .ok (.iconst 3, 1) := by decide +kernel
theorem dL_law_1160 : decode cL_law 1160 = .ok (.iadd, 1) := by decide +kernel
theorem dL_law_1161 : decode cL_law 1161 = .ok (.iaload, 1) := by decide +kernel
theorem dL_law_1162 : decode cL_law 1162 = .ok (.invokevirtual 142, 3) := by decide +kernel
theorem dL_law_1165 : decode cL_law 1165 = .ok (.aload_n 2, 1) := by decide +kernel
theorem dL_law_1166 : decode cL_law 1166 = .ok (.aload_n 0, 1) := by decide +kernel
theorem dL_law_1167 : decode cL_law 1167 = .ok (.iload_n 3, 1) := by decide +kernel
theorem dL_law_1168 : decode cL_law 1168 = .ok (.iconst 1, 1) := by decide +kernel
theorem dL_law_1169 : decode cL_law 1169 = .ok (.iadd, 1) := by decide +kernel
theorem dL_law_1170 : decode cL_law 1170 = .ok (.iaload, 1) := by decide +kernel
theorem dL_law_1171 : decode cL_law 1171 = .ok (.aload_n 0, 1) := by decide +kernel
theorem dL_law_1172 : decode cL_law 1172 = .ok (.iload_n 3, 1) := by decide +kernel
theorem dL_law_1173 : decode cL_law 1173 = .ok (.iconst 2, 1) := by decide +kernel
theorem dL_law_1174 : decode cL_law 1174 = .ok (.iadd, 1) := by decide +kernel
theorem dL_law_1175 : decode cL_law 1175 = .ok (.iaload, 1) := by decide +kernel
theorem dL_law_1176 : decode cL_law 1176 = .ok (.aload_n 0, 1) := by decide +kernel
theorem dL_law_1177 : decode cL_law 1177 = .ok (.iload_n 3, 1) := by decide +kernel
theorem dL_law_1178 : decode cL_law 1178 = .ok (.iconst 3, 1) := by decide +kernel
theorem dL_law_1179 : decode cL_law 1179 = .ok (.iadd, 1) := by decide +kernel
theorem dL_law_1180 : decode cL_law 1180 = .ok (.iaload, 1) := by decide +kernel
theorem dL_law_1181 : decode cL_law 1181 = .ok (.invokevirtual 145, 3) := by decide +kernel
theorem dL_law_1184 : decode cL_law 1184 = .ok (.if_icmp .eq 242, 3) := by decide +kernel
theorem dL_law_1187 : decode cL_law 1187 = .ok (.iconst 0, 1) := by decide +kernel
theorem dL_law_1188 : decode cL_law 1188 = .ok (.ireturn, 1) := by decide +kernel
theorem dL_law_1189 : decode cL_law 1189 = .ok (.aload_n 1, 1) := by decide +kernel
theorem dL_law_1190 : decode cL_law 1190 = .ok (.aload_n 0, 1) := by decide +kernel
theorem dL_law_1191 : decode cL_law 1191 = .ok (.iload_n 3, 1) := by decide +kernel
theorem dL_law_1192 : decode cL_law 1192 = .ok (.iconst 1, 1) := by decide +kernel
theorem dL_law_1193 : decode cL_law 1193 = .ok (.iadd, 1) := by decide +kernel
theorem dL_law_1194 : decode cL_law 1194 = .ok (.iaload, 1) := by decide +kernel
theorem dL_law_1195 : decode cL_law 1195 = .ok (.aload_n 0, 1) := by decide +kernel
theorem dL_law_1196 : decode cL_law 1196 = .ok (.iload_n 3, 1) := by decide +kernel
theorem dL_law_1197 : decode cL_law 1197 = .ok (.iconst 2, 1) := by decide +kernel
theorem dL_law_1198 : decode cL_law 1198 = .ok (.iadd, 1) := by decide +kernel
theorem dL_law_1199 : decode cL_law 1199 = .ok (.iaload, 1) := by decide +kernel
theorem dL_law_1200 : decode cL_law 1200 = .ok (.aload_n 0, 1) := by decide +kernel
theorem dL_law_1201 : decode cL_law 1201 = .ok (.iload_n 3, 1) := by decide +kernel
theorem dL_law_1202 : decode cL_law 1202 = .ok (.iconst 3, 1) := by decide +kernel
theorem dL_law_1203 : decode cL_law 1203 = .ok (.iadd, 1) := by decide +kernel
theorem dL_law_1204 : decode cL_law 1204 = .ok (.iaload, 1) := by decide +kernel
theorem dL_law_1205 : decode cL_law 1205 = .ok (.invokevirtual 146, 3) := by decide +kernel
theorem dL_law_1208 : decode cL_law 1208 = .ok (.aload_n 2, 1) := by decide +kernel
theorem dL_law_1209 : decode cL_law 1209 = .ok (.aload_n 0, 1) := by decide +kernel
theorem dL_law_1210 : decode cL_law 1210 = .ok (.iload_n 3, 1) := by decide +kernel
theorem dL_law_1211 : decode cL_law 1211 = .ok (.iconst 1, 1) := by decide +kernel
theorem dL_law_1212 : decode cL_law 1212 = .ok (.iadd, 1) := by decide +kernel
theorem dL_law_1213 : decode cL_law 1213 = .ok (.iaload, 1) := by decide +kernel
theorem dL_law_1214 : decode cL_law 1214 = .ok (.aload_n 0, 1) := by decide +kernel
theorem dL_law_1215 : decode cL_law 1215 = .ok (.iload_n 3, 1) := by decide +kernel
theorem dL_law_1216 : decode cL_law 1216 = .ok (.iconst 2, 1) := by decide +kernel
theorem dL_law_1217 : decode cL_law 1217 = .ok (.iadd, 1) := by decide +kernel
theorem dL_law_1218 : decode cL_law 1218 = .ok (.iaload, 1) := by decide +kernel
theorem dL_law_1219 : decode cL_law 1219 = .ok (.aload_n 0, 1) := by decide +kernel
theorem dL_law_1220 : decode cL_law 1220 = .ok (.iload_n 3, 1) := by decide +kernel
theorem dL_law_1221 : decode cL_law 1221 = .ok (.iconst 3, 1) := by decide +kernel
theorem dL_law_1222 : decode cL_law 1222 = .ok (.iadd, 1) := by decide +kernel
theorem dL_law_1223 : decode cL_law 1223 = .ok (.iaload, 1) := by decide +kernel
theorem dL_law_1224 : decode cL_law 1224 = .ok (.invokevirtual 149, 3) := by decide +kernel
theorem dL_law_1227 : decode cL_law 1227 = .ok (.if_icmp .eq 199, 3) := by decide +kernel
theorem dL_law_1230 : decode cL_law 1230 = .ok (.iconst 0, 1) := by decide +kernel
theorem dL_law_1231 : decode cL_law 1231 = .ok (.ireturn, 1) := by decide +kernel
theorem dL_law_1232 : decode cL_law 1232 = .ok (.aload_n 1, 1) := by decide +kernel
theorem dL_law_1233 : decode cL_law 1233 = .ok (.aload_n 0, 1) := by decide +kernel
theorem dL_law_1234 : decode cL_law 1234 = .ok (.iload_n 3, 1) := by decide +kernel
theorem dL_law_1235 : decode cL_law 1235 = .ok (.iconst 1, 1) := by decide +kernel
theorem dL_law_1236 : decode cL_law 1236 = .ok (.iadd, 1) := by decide +kernel
theorem dL_law_1237 : decode cL_law 1237 = .ok (.iaload, 1) := by decide +kernel
theorem dL_law_1238 : decode cL_law 1238 = .ok (.aload_n 0, 1) := by decide +kernel
theorem dL_law_1239 : decode cL_law 1239 = .ok (.iload_n 3, 1) := by decide +kernel
theorem dL_law_1240 : decode cL_law 1240 = .ok (.iconst 2, 1) := by decide +kernel
theorem dL_law_1241 : decode cL_law 1241 = .ok (.iadd, 1) := by decide +kernel
theorem dL_law_1242 : decode cL_law 1242 = .ok (.iaload, 1) := by decide +kernel
theorem dL_law_1243 : decode cL_law 1243 = .ok (.aload_n 0, 1) := by decide +kernel
theorem dL_law_1244 : decode cL_law 1244 = .ok (.iload_n 3, 1) := by decide +kernel
theorem dL_law_1245 : decode cL_law 1245 = .ok (.iconst 3, 1) := by decide +kernel
theorem dL_law_1246 : decode cL_law 1246 = .ok (.iadd, 1) := by decide +kernel
theorem dL_law_1247 : decode cL_law 1247 = .ok (.iaload, 1) := by decide +kernel
theorem dL_law_1248 : decode cL_law 1248 = .ok (.aload_n 0, 1) := by decide +kernel
theorem dL_law_1249 : decode cL_law 1249 = .ok (.iload_n 3, 1) := by decide +kernel
theorem dL_law_1250 : decode cL_law 1250 = .ok (.iconst 4, 1) := by decide +kernel
theorem dL_law_1251 : decode cL_law 1251 = .ok (.iadd, 1) := by decide +kernel
theorem dL_law_1252 : decode cL_law 1252 = .ok (.iaload, 1) := by decide +kernel
theorem dL_law_1253 : decode cL_law 1253 = .ok (.aload_n 0, 1) := by decide +kernel
theorem dL_law_1254 : decode cL_law 1254 = .ok (.iload_n 3, 1) := by decide +kernel
theorem dL_law_1255 : decode cL_law 1255 = .ok (.iconst 5, 1) := by decide +kernel
theorem dL_law_1256 : decode cL_law 1256 = .ok (.iadd, 1) := by decide +kernel
theorem dL_law_1257 : decode cL_law 1257 = .ok (.iaload, 1) := by decide +kernel
theorem dL_law_1258 : decode cL_law 1258 = .ok (.invokevirtual 150, 3) := by decide +kernel
theorem dL_law_1261 : decode cL_law 1261 = .ok (.aload_n 2, 1) := by decide +kernel
theorem dL_law_1262 : decode cL_law 1262 = .ok (.aload_n 0, 1) := by decide +kernel
theorem dL_law_1263 : decode cL_law 1263 = .ok (.iload_n 3, 1) := by decide +kernel
theorem dL_law_1264 : decode cL_law 1264 = .ok (.iconst 1, 1) := by decide +kernel
theorem dL_law_1265 : decode cL_law 1265 = .ok (.iadd, 1) := by decide +kernel
theorem dL_law_1266 : decode cL_law 1266 = .ok (.iaload, 1) := by decide +kernel
theorem dL_law_1267 : decode cL_law 1267 = .ok (.aload_n 0, 1) := by decide +kernel
theorem dL_law_1268 : decode cL_law 1268 = .ok (.iload_n 3, 1) := by decide +kernel
theorem dL_law_1269 : decode cL_law 1269 = .ok (.iconst 2, 1) := by decide +kernel
theorem dL_law_1270 : decode cL_law 1270 = .ok (.iadd, 1) := by decide +kernel
theorem dL_law_1271 : decode cL_law 1271 = .ok (.iaload, 1) := by decide +kernel
theorem dL_law_1272 : decode cL_law 1272 = .ok (.aload_n 0, 1) := by decide +kernel
theorem dL_law_1273 : decode cL_law 1273 = .ok (.iload_n 3, 1) := by decide +kernel
theorem dL_law_1274 : decode cL_law 1274 = .ok (.iconst 3, 1) := by decide +kernel
theorem dL_law_1275 : decode cL_law 1275 = .ok (.iadd, 1) := by decide +kernel
theorem dL_law_1276 : decode cL_law 1276 = .ok (.iaload, 1) := by decide +kernel
theorem dL_law_1277 : decode cL_law 1277 = .ok (.aload_n 0, 1) := by decide +kernel
theorem dL_law_1278 : decode cL_law 1278 = .ok (.iload_n 3, 1) := by decide +kernel
theorem dL_law_1279 : decode cL_law 1279 = .ok (.iconst 4, 1) := by decide +kernel
theorem dL_law_1280 : decode cL_law 1280 = .ok (.iadd, 1) := by decide +kernel
theorem dL_law_1281 : decode cL_law 1281 = .ok (.iaload, 1) := by decide +kernel
theorem dL_law_1282 : decode cL_law 1282 = .ok (.aload_n 0, 1) := by decide +kernel
theorem dL_law_1283 : decode cL_law 1283 = .ok (.iload_n 3, 1) := by decide +kernel
theorem dL_law_1284 : decode cL_law 1284 = .ok (.iconst 5, 1) := by decide +kernel
theorem dL_law_1285 : decode cL_law 1285 = .ok (.iadd, 1) := by decide +kernel
theorem dL_law_1286 : decode cL_law 1286 = .ok (.iaload, 1) := by decide +kernel
theorem dL_law_1287 : decode cL_law 1287 = .ok (.invokevirtual 154, 3) := by decide +kernel
theorem dL_law_1290 : decode cL_law 1290 = .ok (.if_icmp .eq 136, 3) := by decide +kernel
theorem dL_law_1293 : decode cL_law 1293 = .ok (.iconst 0, 1) := by decide +kernel
theorem dL_law_1294 : decode cL_law 1294 = .ok (.ireturn, 1) := by decide +kernel
theorem dL_law_1295 : decode cL_law 1295 = .ok (.aload_n 1, 1) := by decide +kernel
theorem dL_law_1296 : decode cL_law 1296 = .ok (.aload_n 0, 1) := by decide +kernel
theorem dL_law_1297 : decode cL_law 1297 = .ok (.iload_n 3, 1) := by decide +kernel
theorem dL_law_1298 : decode cL_law 1298 = .ok (.iconst 1, 1) := by decide +kernel
theorem dL_law_1299 : decode cL_law 1299 = .ok (.iadd, 1) := by decide +kernel
theorem dL_law_1300 : decode cL_law 1300 = .ok (.iaload, 1) := by decide +kernel
theorem dL_law_1301 : decode cL_law 1301 = .ok (.invokevirtual 155, 3) := by decide +kernel
theorem dL_law_1304 : decode cL_law 1304 = .ok (.aload_n 2, 1) := by decide +kernel
theorem dL_law_1305 : decode cL_law 1305 = .ok (.aload_n 0, 1) := by decide +kernel
theorem dL_law_1306 : decode cL_law 1306 = .ok (.iload_n 3, 1) := by decide +kernel
theorem dL_law_1307 : decode cL_law 1307 = .ok (.iconst 1, 1) := by decide +kernel
theorem dL_law_1308 : decode cL_law 1308 = .ok (.iadd, 1) := by decide +kernel
theorem dL_law_1309 : decode cL_law 1309 = .ok (.iaload, 1) := by decide +kernel
theorem dL_law_1310 : decode cL_law 1310 = .ok (.invokevirtual 158, 3) := by decide +kernel
theorem dL_law_1313 : decode cL_law 1313 = .ok (.if_icmp .eq 113, 3) := by decide +kernel
theorem dL_law_1316 : decode cL_law 1316 = .ok (.iconst 0, 1) := by decide +kernel
theorem dL_law_1317 : decode cL_law 1317 = .ok (.ireturn, 1) := by decide +kernel
theorem dL_law_1318 : decode cL_law 1318 = .ok (.aload_n 1, 1) := by decide +kernel
theorem dL_law_1319 : decode cL_law 1319 = .ok (.aload_n 0, 1) := by decide +kernel
theorem dL_law_1320 : decode cL_law 1320 = .ok (.iload_n 3, 1) := by decide +kernel
theorem dL_law_1321 : decode cL_law 1321 = .ok (.iconst 1, 1) := by decide +kernel
theorem dL_law_1322 : decode cL_law 1322 = .ok (.iadd, 1) := by decide +kernel
theorem dL_law_1323 : decode cL_law 1323 = .ok (.iaload, 1) := by decide +kernel
theorem dL_law_1324 : decode cL_law 1324 = .ok (.invokevirtual 159, 3) := by decide +kernel
theorem dL_law_1327 : decode cL_law 1327 = .ok (.aload_n 2, 1) := by decide +kernel
theorem dL_law_1328 : decode cL_law 1328 = .ok (.aload_n 0, 1) := by decide +kernel
theorem dL_law_1329 : decode cL_law 1329 = .ok (.iload_n 3, 1) := by decide +kernel
theorem dL_law_1330 : decode cL_law 1330 = .ok (.iconst 1, 1) := by decide +kernel
theorem dL_law_1331 : decode cL_law 1331 = .ok (.iadd, 1) := by decide +kernel
theorem dL_law_1332 : decode cL_law 1332 = .ok (.iaload, 1) := by decide +kernel
theorem dL_law_1333 : decode cL_law 1333 = .ok (.invokevirtual 162, 3) := by decide +kernel
theorem dL_law_1336 : decode cL_law 1336 = .ok (.if_icmp .eq 90, 3) := by decide +kernel
theorem dL_law_1339 : decode cL_law 1339 = .ok (.iconst 0, 1) := by decide +kernel
theorem dL_law_1340 : decode cL_law 1340 = .ok (.ireturn, 1) := by decide +kernel
theorem dL_law_1341 : decode cL_law 1341 = .ok (.aload_n 1, 1) := by decide +kernel
theorem dL_law_1342 : decode cL_law 1342 = .ok (.invokevirtual 163, 3) := by decide +kernel
theorem dL_law_1345 : decode cL_law 1345 = .ok (.aload_n 2, 1) := by decide +kernel
theorem dL_law_1346 : decode cL_law 1346 = .ok (.invokevirtual 166, 3) := by decide +kernel
theorem dL_law_1349 : decode cL_law 1349 = .ok (.if_icmp .eq 77, 3) := by decide +kernel
theorem dL_law_1352 : decode cL_law 1352 = .ok (.iconst 0, 1) := by decide +kernel
theorem dL_law_1353 : decode cL_law 1353 = .ok (.ireturn, 1) := by decide +kernel
theorem dL_law_1354 : decode cL_law 1354 = .ok (.aload_n 1, 1) := by decide +kernel
theorem dL_law_1355 : decode cL_law 1355 = .ok (.invokevirtual 167, 3) := by decide +kernel
theorem dL_law_1358 : decode cL_law 1358 = .ok (.aload_n 2, 1) := by decide +kernel
theorem dL_law_1359 : decode cL_law 1359 = .ok (.invokevirtual 170, 3) := by decide +kernel
theorem dL_law_1362 : decode cL_law 1362 = .ok (.if_icmp .eq 64, 3) := by decide +kernel
theorem dL_law_1365 : decode cL_law 1365 = .ok (.iconst 0, 1) := by decide +kernel
theorem dL_law_1366 : decode cL_law 1366 = .ok (.ireturn, 1) := by decide +kernel
theorem dL_law_1367 : decode cL_law 1367 = .ok (.aload_n 1, 1) := by decide +kernel
theorem dL_law_1368 : decode cL_law 1368 = .ok (.invokevirtual 171, 3) := by decide +kernel
theorem dL_law_1371 : decode cL_law 1371 = .ok (.aload_n 2, 1) := by decide +kernel
theorem dL_law_1372 : decode cL_law 1372 = .ok (.invokevirtual 174, 3) := by decide +kernel
theorem dL_law_1375 : decode cL_law 1375 = .ok (.if_icmp .eq 51, 3) := by decide +kernel
theorem dL_law_1378 : decode cL_law 1378 = .ok (.iconst 0, 1) := by decide +kernel
theorem dL_law_1379 : decode cL_law 1379 = .ok (.ireturn, 1) := by decide +kernel
theorem dL_law_1380 : decode cL_law 1380 = .ok (.aload_n 1, 1) := by decide +kernel
theorem dL_law_1381 : decode cL_law 1381 = .ok (.aload_n 0, 1) := by decide +kernel
theorem dL_law_1382 : decode cL_law 1382 = .ok (.iload_n 3, 1) := by decide +kernel
theorem dL_law_1383 : decode cL_law 1383 = .ok (.iconst 1, 1) := by decide +kernel
theorem dL_law_1384 : decode cL_law 1384 = .ok (.iadd, 1) := by decide +kernel
theorem dL_law_1385 : decode cL_law 1385 = .ok (.iaload, 1) := by decide +kernel
theorem dL_law_1386 : decode cL_law 1386 = .ok (.invokevirtual 175, 3) := by decide +kernel
theorem dL_law_1389 : decode cL_law 1389 = .ok (.aload_n 2, 1) := by decide +kernel
theorem dL_law_1390 : decode cL_law 1390 = .ok (.aload_n 0, 1) := by decide +kernel
theorem dL_law_1391 : decode cL_law 1391 = .ok (.iload_n 3, 1) := by decide +kernel
theorem dL_law_1392 : decode cL_law 1392 = .ok (.iconst 1, 1) := by decide +kernel
theorem dL_law_1393 : decode cL_law 1393 = .ok (.iadd, 1) := by decide +kernel
theorem dL_law_1394 : decode cL_law 1394 = .ok (.iaload, 1) := by decide +kernel
theorem dL_law_1395 : decode cL_law 1395 = .ok (.invokevirtual 178, 3) := by decide +kernel
theorem dL_law_1398 : decode cL_law 1398 = .ok (.if_icmp .eq 28, 3) := by decide +kernel
theorem dL_law_1401 : decode cL_law 1401 = .ok (.iconst 0, 1) := by decide +kernel
theorem dL_law_1402 : decode cL_law 1402 = .ok (.ireturn, 1) := by decide +kernel
theorem dL_law_1403 : decode cL_law 1403 = .ok (.aload_n 1, 1) := by decide +kernel
theorem dL_law_1404 : decode cL_law 1404 = .ok (.aload_n 0, 1) := by decide +kernel
theorem dL_law_1405 : decode cL_law 1405 = .ok (.iload_n 3, 1) := by decide +kernel
theorem dL_law_1406 : decode cL_law 1406 = .ok (.iconst 1, 1) := by decide +kernel
theorem dL_law_1407 : decode cL_law 1407 = .ok (.iadd, 1) := by decide +kernel
theorem dL_law_1408 : decode cL_law 1408 = .ok (.iaload, 1) := by decide +kernel
theorem dL_law_1409 : decode cL_law 1409 = .ok (.invokevirtual 179, 3) := by decide +kernel
theorem dL_law_1412 : decode cL_law 1412 = .ok (.aload_n 2, 1) := by decide +kernel
theorem dL_law_1413 : decode cL_law 1413 = .ok (.aload_n 0, 1) := by decide +kernel
theorem dL_law_1414 : decode cL_law 1414 = .ok (.iload_n 3, 1) := by decide +kernel
theorem dL_law_1415 : decode cL_law 1415 = .ok (.iconst 1, 1) := by decide +kernel
theorem dL_law_1416 : decode cL_law 1416 = .ok (.iadd, 1) := by decide +kernel
theorem dL_law_1417 : decode cL_law 1417 = .ok (.iaload, 1) := by decide +kernel
theorem dL_law_1418 : decode cL_law 1418 = .ok (.invokevirtual 182, 3) := by decide +kernel
theorem dL_law_1421 : decode cL_law 1421 = .ok (.if_icmp .eq 5, 3) := by decide +kernel
theorem dL_law_1424 : decode cL_law 1424 = .ok (.iconst 0, 1) := by decide +kernel
theorem dL_law_1425 : decode cL_law 1425 = .ok (.ireturn, 1) := by decide +kernel
theorem dL_law_1426 : decode cL_law 1426 = .ok (.iinc 3 6, 3) := by decide +kernel
theorem dL_law_1429 : decode cL_law 1429 = .ok (.goto (-1411), 3) := by decide +kernel
theorem dL_law_1432 : decode cL_law 1432 = .ok (.iconst 1, 1) := by decide +kernel
theorem dL_law_1433 : decode cL_law 1433 = .ok (.ireturn, 1) := by decide +kernel
