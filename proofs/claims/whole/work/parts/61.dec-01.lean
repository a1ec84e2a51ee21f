/-! Instructions -/
theorem d_Pt_repeat_0 : decode m_Pt_repeat.2.1 0 = .ok (.aload_n 0, 1) := by decide +kernel
theorem d_Pt_repeat_1 : decode m_Pt_repeat.2.1 1 = .ok (.getfield 28, 3) := by decide +kernel
theorem d_Pt_repeat_4 : decode m_Pt_repeat.2.1 4 = .ok (.iload_n 1, 1) := by decide +kernel
theorem d_Pt_repeat_5 : decode m_Pt_repeat.2.1 5 = .ok (.isub, 1) := by decide +kernel
theorem d_Pt_repeat_6 : decode m_Pt_repeat.2.1 6 = .ok (.istore 4, 2) := by decide +kernel
theorem d_Pt_repeat_8 : decode m_Pt_repeat.2.1 8 = .ok (.iload_n 2, 1) := by decide +kernel
theorem d_Pt_repeat_9 : decode m_Pt_repeat.2.1 9 = .ok (.bipush (43), 2) := by decide +kernel
theorem d_Pt_repeat_11 : decode m_Pt_repeat.2.1 11 = .ok (.if_icmp .ne (19), 3) := by decide +kernel
theorem d_Pt_repeat_14 : decode m_Pt_repeat.2.1 14 = .ok (.aload_n 0, 1) := by decide +kernel
theorem d_Pt_repeat_15 : decode m_Pt_repeat.2.1 15 = .ok (.aload_n 0, 1) := by decide +kernel
theorem d_Pt_repeat_16 : decode m_Pt_repeat.2.1 16 = .ok (.getfield 28, 3) := by decide +kernel
theorem d_Pt_repeat_19 : decode m_Pt_repeat.2.1 19 = .ok (.iload 4, 2) := by decide +kernel
theorem d_Pt_repeat_21 : decode m_Pt_repeat.2.1 21 = .ok (.ineg, 1) := by decide +kernel
theorem d_Pt_repeat_22 : decode m_Pt_repeat.2.1 22 = .ok (.iconst 1, 1) := by decide +kernel
theorem d_Pt_repeat_23 : decode m_Pt_repeat.2.1 23 = .ok (.iload_n 3, 1) := by decide +kernel
theorem d_Pt_repeat_24 : decode m_Pt_repeat.2.1 24 = .ok (.invokevirtual 43, 3) := by decide +kernel
theorem d_Pt_repeat_27 : decode m_Pt_repeat.2.1 27 = .ok (.goto (45), 3) := by decide +kernel
theorem d_Pt_repeat_30 : decode m_Pt_repeat.2.1 30 = .ok (.iload_n 2, 1) := by decide +kernel
theorem d_Pt_repeat_31 : decode m_Pt_repeat.2.1 31 = .ok (.bipush (63), 2) := by decide +kernel
theorem d_Pt_repeat_33 : decode m_Pt_repeat.2.1 33 = .ok (.if_icmp .ne (17), 3) := by decide +kernel
theorem d_Pt_repeat_36 : decode m_Pt_repeat.2.1 36 = .ok (.aload_n 0, 1) := by decide +kernel
theorem d_Pt_repeat_37 : decode m_Pt_repeat.2.1 37 = .ok (.iload_n 1, 1) := by decide +kernel
theorem d_Pt_repeat_38 : decode m_Pt_repeat.2.1 38 = .ok (.iconst 1, 1) := by decide +kernel
theorem d_Pt_repeat_39 : decode m_Pt_repeat.2.1 39 = .ok (.iload 4, 2) := by decide +kernel
theorem d_Pt_repeat_41 : decode m_Pt_repeat.2.1 41 = .ok (.iconst 1, 1) := by decide +kernel
theorem d_Pt_repeat_42 : decode m_Pt_repeat.2.1 42 = .ok (.iadd, 1) := by decide +kernel
theorem d_Pt_repeat_43 : decode m_Pt_repeat.2.1 43 = .ok (.iload_n 3, 1) := by decide +kernel
theorem d_Pt_repeat_44 : decode m_Pt_repeat.2.1 44 = .ok (.invokevirtual 43, 3) := by decide +kernel
theorem d_Pt_repeat_47 : decode m_Pt_repeat.2.1 47 = .ok (.goto (25), 3) := by decide +kernel
theorem d_Pt_repeat_50 : decode m_Pt_repeat.2.1 50 = .ok (.aload_n 0, 1) := by decide +kernel
theorem d_Pt_repeat_51 : decode m_Pt_repeat.2.1 51 = .ok (.iload_n 1, 1) := by decide +kernel
theorem d_Pt_repeat_52 : decode m_Pt_repeat.2.1 52 = .ok (.iconst 1, 1) := by decide +kernel
theorem d_Pt_repeat_53 : decode m_Pt_repeat.2.1 53 = .ok (.iload 4, 2) := by decide +kernel
theorem d_Pt_repeat_55 : decode m_Pt_repeat.2.1 55 = .ok (.iconst 2, 1) := by decide +kernel
theorem d_Pt_repeat_56 : decode m_Pt_repeat.2.1 56 = .ok (.iadd, 1) := by decide +kernel
theorem d_Pt_repeat_57 : decode m_Pt_repeat.2.1 57 = .ok (.iload_n 3, 1) := by decide +kernel
theorem d_Pt_repeat_58 : decode m_Pt_repeat.2.1 58 = .ok (.invokevirtual 43, 3) := by decide +kernel
theorem d_Pt_repeat_61 : decode m_Pt_repeat.2.1 61 = .ok (.aload_n 0, 1) := by decide +kernel
theorem d_Pt_repeat_62 : decode m_Pt_repeat.2.1 62 = .ok (.bipush (7), 2) := by decide +kernel
theorem d_Pt_repeat_64 : decode m_Pt_repeat.2.1 64 = .ok (.iload 4, 2) := by decide +kernel
theorem d_Pt_repeat_66 : decode m_Pt_repeat.2.1 66 = .ok (.iconst 1, 1) := by decide +kernel
theorem d_Pt_repeat_67 : decode m_Pt_repeat.2.1 67 = .ok (.iadd, 1) := by decide +kernel
theorem d_Pt_repeat_68 : decode m_Pt_repeat.2.1 68 = .ok (.ineg, 1) := by decide +kernel
theorem d_Pt_repeat_69 : decode m_Pt_repeat.2.1 69 = .ok (.invokevirtual 39, 3) := by decide +kernel
theorem d_Pt_repeat_72 : decode m_Pt_repeat.2.1 72 = .ok (.return_, 1) := by decide +kernel
theorem d_Pr_readQuantifier_0 : decode m_Pr_readQuantifier.2.1 0 = .ok (.iload_n 2, 1) := by decide +kernel
theorem d_Pr_readQuantifier_1 : decode m_Pr_readQuantifier.2.1 1 = .ok (.istore 4, 2) := by decide +kernel
theorem d_Pr_readQuantifier_3 : decode m_Pr_readQuantifier.2.1 3 = .ok (.aload_n 0, 1) := by decide +kernel
theorem d_Pr_readQuantifier_4 : decode m_Pr_readQuantifier.2.1 4 = .ok (.getfield 45, 3) := by decide +kernel
theorem d_Pr_readQuantifier_7 : decode m_Pr_readQuantifier.2.1 7 = .ok (.aload_n 0, 1) := by decide +kernel
theorem d_Pr_readQuantifier_8 : decode m_Pr_readQuantifier.2.1 8 = .ok (.getfield 35, 3) := by decide +kernel
theorem d_Pr_readQuantifier_11 : decode m_Pr_readQuantifier.2.1 11 = .ok (.if_icmp .ge (15), 3) := by decide +kernel
theorem d_Pr_readQuantifier_14 : decode m_Pr_readQuantifier.2.1 14 = .ok (.aload_n 0, 1) := by decide +kernel
theorem d_Pr_readQuantifier_15 : decode m_Pr_readQuantifier.2.1 15 = .ok (.getfield 9, 3) := by decide +kernel
theorem d_Pr_readQuantifier_18 : decode m_Pr_readQuantifier.2.1 18 = .ok (.aload_n 0, 1) := by decide +kernel
theorem d_Pr_readQuantifier_19 : decode m_Pr_readQuantifier.2.1 19 = .ok (.getfield 45, 3) := by decide +kernel
theorem d_Pr_readQuantifier_22 : decode m_Pr_readQuantifier.2.1 22 = .ok (.caload, 1) := by decide +kernel
theorem d_Pr_readQuantifier_23 : decode m_Pr_readQuantifier.2.1 23 = .ok (.goto (5), 3) := by decide +kernel
theorem d_Pr_readQuantifier_26 : decode m_Pr_readQuantifier.2.1 26 = .ok (.bipush (32), 2) := by decide +kernel
theorem d_Pr_readQuantifier_28 : decode m_Pr_readQuantifier.2.1 28 = .ok (.istore 5, 2) := by decide +kernel
theorem d_Pr_readQuantifier_30 : decode m_Pr_readQuantifier.2.1 30 = .ok (.aload_n 0, 1) := by decide +kernel
theorem d_Pr_readQuantifier_31 : decode m_Pr_readQuantifier.2.1 31 = .ok (.getfield 56, 3) := by decide +kernel
theorem d_Pr_readQuantifier_34 : decode m_Pr_readQuantifier.2.1 34 = .ok (.ifCond .ne (138), 3) := by decide +kernel
theorem d_Pr_readQuantifier_37 : decode m_Pr_readQuantifier.2.1 37 = .ok (.iload 5, 2) := by decide +kernel
theorem d_Pr_readQuantifier_39 : decode m_Pr_readQuantifier.2.1 39 = .ok (.bipush (42), 2) := by decide +kernel
theorem d_Pr_readQuantifier_41 : decode m_Pr_readQuantifier.2.1 41 = .ok (.if_icmp .eq (17), 3) := by decide +kernel
theorem d_Pr_readQuantifier_44 : decode m_Pr_readQuantifier.2.1 44 = .ok (.iload 5, 2) := by decide +kernel
theorem d_Pr_readQuantifier_46 : decode m_Pr_readQuantifier.2.1 46 = .ok (.bipush (43), 2) := by decide +kernel
theorem d_Pr_readQuantifier_48 : decode m_Pr_readQuantifier.2.1 48 = .ok (.if_icmp .eq (10), 3) := by decide +kernel
theorem d_Pr_readQuantifier_51 : decode m_Pr_readQuantifier.2.1 51 = .ok (.iload 5, 2) := by decide +kernel
theorem d_Pr_readQuantifier_53 : decode m_Pr_readQuantifier.2.1 53 = .ok (.bipush (63), 2) := by decide +kernel
theorem d_Pr_readQuantifier_55 : decode m_Pr_readQuantifier.2.1 55 = .ok (.if_icmp .ne (117), 3) := by decide +kernel
theorem d_Pr_readQuantifier_58 : decode m_Pr_readQuantifier.2.1 58 = .ok (.aload_n 0, 1) := by decide +kernel
theorem d_Pr_readQuantifier_59 : decode m_Pr_readQuantifier.2.1 59 = .ok (.dup, 1) := by decide +kernel
theorem d_Pr_readQuantifier_60 : decode m_Pr_readQuantifier.2.1 60 = .ok (.getfield 45, 3) := by decide +kernel
theorem d_Pr_readQuantifier_63 : decode m_Pr_readQuantifier.2.1 63 = .ok (.iconst 1, 1) := by decide +kernel
theorem d_Pr_readQuantifier_64 : decode m_Pr_readQuantifier.2.1 64 = .ok (.iadd, 1) := by decide +kernel
theorem d_Pr_readQuantifier_65 : decode m_Pr_readQuantifier.2.1 65 = .ok (.putfield 45, 3) := by decide +kernel
theorem d_Pr_readQuantifier_68 : decode m_Pr_readQuantifier.2.1 68 = .ok (.aload_n 0, 1) := by decide +kernel
theorem d_Pr_readQuantifier_69 : decode m_Pr_readQuantifier.2.1 69 = .ok (.getfield 45, 3) := by decide +kernel
theorem d_Pr_readQuantifier_72 : decode m_Pr_readQuantifier.2.1 72 = .ok (.aload_n 0, 1) := by decide +kernel
theorem d_Pr_readQuantifier_73 : decode m_Pr_readQuantifier.2.1 73 = .ok (.getfield 35, 3) := by decide +kernel
theorem d_Pr_readQuantifier_76 : decode m_Pr_readQuantifier.2.1 76 = .ok (.if_icmp .ge (21), 3) := by decide +kernel
theorem d_Pr_readQuantifier_79 : decode m_Pr_readQuantifier.2.1 79 = .ok (.aload_n 0, 1) := by decide +kernel
theorem d_Pr_readQuantifier_80 : decode m_Pr_readQuantifier.2.1 80 = .ok (.getfield 9, 3) := by decide +kernel
theorem d_Pr_readQuantifier_83 : decode m_Pr_readQuantifier.2.1 83 = .ok (.aload_n 0, 1) := by decide +kernel
theorem d_Pr_readQuantifier_84 : decode m_Pr_readQuantifier.2.1 84 = .ok (.getfield 45, 3) := by decide +kernel
theorem d_Pr_readQuantifier_87 : decode m_Pr_readQuantifier.2.1 87 = .ok (.caload, 1) := by decide +kernel
theorem d_Pr_readQuantifier_88 : decode m_Pr_readQuantifier.2.1 88 = .ok (.bipush (63), 2) := by decide +kernel
theorem d_Pr_readQuantifier_90 : decode m_Pr_readQuantifier.2.1 90 = .ok (.if_icmp .ne (7), 3) := by decide +kernel
theorem d_Pr_readQuantifier_93 : decode m_Pr_readQuantifier.2.1 93 = .ok (.iconst 1, 1) := by decide +kernel
theorem d_Pr_readQuantifier_94 : decode m_Pr_readQuantifier.2.1 94 = .ok (.goto (4), 3) := by decide +kernel
theorem d_Pr_readQuantifier_97 : decode m_Pr_readQuantifier.2.1 97 = .ok (.iconst 0, 1) := by decide +kernel
theorem d_Pr_readQuantifier_98 : decode m_Pr_readQuantifier.2.1 98 = .ok (.istore 6, 2) := by decide +kernel
theorem d_Pr_readQuantifier_100 : decode m_Pr_readQuantifier.2.1 100 = .ok (.aload_n 0, 1) := by decide +kernel
theorem d_Pr_readQuantifier_101 : decode m_Pr_readQuantifier.2.1 101 = .ok (.dup, 1) := by decide +kernel
theorem d_Pr_readQuantifier_102 : decode m_Pr_readQuantifier.2.1 102 = .ok (.getfield 45, 3) := by decide +kernel
theorem d_Pr_readQuantifier_105 : decode m_Pr_readQuantifier.2.1 105 = .ok (.iload 6, 2) := by decide +kernel
theorem d_Pr_readQuantifier_107 : decode m_Pr_readQuantifier.2.1 107 = .ok (.ifCond .eq (7), 3) := by decide +kernel
theorem d_Pr_readQuantifier_110 : decode m_Pr_readQuantifier.2.1 110 = .ok (.iconst 1, 1) := by decide +kernel
theorem d_Pr_readQuantifier_111 : decode m_Pr_readQuantifier.2.1 111 = .ok (.goto (4), 3) := by decide +kernel
theorem d_Pr_readQuantifier_114 : decode m_Pr_readQuantifier.2.1 114 = .ok (.iconst 0, 1) := by decide +kernel
theorem d_Pr_readQuantifier_115 : decode m_Pr_readQuantifier.2.1 115 = .ok (.iadd, 1) := by decide +kernel
theorem d_Pr_readQuantifier_116 : decode m_Pr_readQuantifier.2.1 116 = .ok (.putfield 45, 3) := by decide +kernel
theorem d_Pr_readQuantifier_119 : decode m_Pr_readQuantifier.2.1 119 = .ok (.aload_n 0, 1) := by decide +kernel
theorem d_Pr_readQuantifier_120 : decode m_Pr_readQuantifier.2.1 120 = .ok (.aload_n 3, 1) := by decide +kernel
theorem d_Pr_readQuantifier_121 : decode m_Pr_readQuantifier.2.1 121 = .ok (.getfield 131, 3) := by decide +kernel
theorem d_Pr_readQuantifier_124 : decode m_Pr_readQuantifier.2.1 124 = .ok (.iload_n 1, 1) := by decide +kernel
theorem d_Pr_readQuantifier_125 : decode m_Pr_readQuantifier.2.1 125 = .ok (.iaload, 1) := by decide +kernel
theorem d_Pr_readQuantifier_126 : decode m_Pr_readQuantifier.2.1 126 = .ok (.iconst 5, 1) := by decide +kernel
theorem d_Pr_readQuantifier_127 : decode m_Pr_readQuantifier.2.1 127 = .ok (.if_icmp .eq (14), 3) := by decide +kernel
theorem d_Pr_readQuantifier_130 : decode m_Pr_readQuantifier.2.1 130 = .ok (.iload_n 2, 1) := by decide +kernel
theorem d_Pr_readQuantifier_131 : decode m_Pr_readQuantifier.2.1 131 = .ok (.ifCond .eq (14), 3) := by decide +kernel
theorem d_Pr_readQuantifier_134 : decode m_Pr_readQuantifier.2.1 134 = .ok (.iload 5, 2) := by decide +kernel
theorem d_Pr_readQuantifier_136 : decode m_Pr_readQuantifier.2.1 136 = .ok (.bipush (63), 2) := by decide +kernel
theorem d_Pr_readQuantifier_138 : decode m_Pr_readQuantifier.2.1 138 = .ok (.if_icmp .eq (7), 3) := by decide +kernel
theorem d_Pr_readQuantifier_141 : decode m_Pr_readQuantifier.2.1 141 = .ok (.iconst 1, 1) := by decide +kernel
theorem d_Pr_readQuantifier_142 : decode m_Pr_readQuantifier.2.1 142 = .ok (.goto (4), 3) := by decide +kernel
theorem d_Pr_readQuantifier_145 : decode m_Pr_readQuantifier.2.1 145 = .ok (.iconst 0, 1) := by decide +kernel
theorem d_Pr_readQuantifier_146 : decode m_Pr_readQuantifier.2.1 146 = .ok (.putfield 56, 3) := by decide +kernel
theorem d_Pr_readQuantifier_149 : decode m_Pr_readQuantifier.2.1 149 = .ok (.aload_n 3, 1) := by decide +kernel
theorem d_Pr_readQuantifier_150 : decode m_Pr_readQuantifier.2.1 150 = .ok (.iload_n 1, 1) := by decide +kernel
theorem d_Pr_readQuantifier_151 : decode m_Pr_readQuantifier.2.1 151 = .ok (.iload 5, 2) := by decide +kernel
theorem d_Pr_readQuantifier_153 : decode m_Pr_readQuantifier.2.1 153 = .ok (.iload 6, 2) := by decide +kernel
theorem d_Pr_readQuantifier_155 : decode m_Pr_readQuantifier.2.1 155 = .ok (.invokevirtual 134, 3) := by decide +kernel
theorem d_Pr_readQuantifier_158 : decode m_Pr_readQuantifier.2.1 158 = .ok (.iload 5, 2) := by decide +kernel
theorem d_Pr_readQuantifier_160 : decode m_Pr_readQuantifier.2.1 160 = .ok (.bipush (43), 2) := by decide +kernel
theorem d_Pr_readQuantifier_162 : decode m_Pr_readQuantifier.2.1 162 = .ok (.if_icmp .eq (7), 3) := by decide +kernel
theorem d_Pr_readQuantifier_165 : decode m_Pr_readQuantifier.2.1 165 = .ok (.iconst 1, 1) := by decide +kernel
theorem d_Pr_readQuantifier_166 : decode m_Pr_readQuantifier.2.1 166 = .ok (.goto (4), 3) := by decide +kernel
theorem d_Pr_readQuantifier_169 : decode m_Pr_readQuantifier.2.1 169 = .ok (.iconst 0, 1) := by decide +kernel
theorem d_Pr_readQuantifier_170 : decode m_Pr_readQuantifier.2.1 170 = .ok (.istore 4, 2) := by decide +kernel
theorem d_Pr_readQuantifier_172 : decode m_Pr_readQuantifier.2.1 172 = .ok (.aload_n 0, 1) := by decide +kernel
theorem d_Pr_readQuantifier_173 : decode m_Pr_readQuantifier.2.1 173 = .ok (.getfield 28, 3) := by decide +kernel
theorem d_Pr_readQuantifier_176 : decode m_Pr_readQuantifier.2.1 176 = .ok (.aload_n 0, 1) := by decide +kernel
theorem d_Pr_readQuantifier_177 : decode m_Pr_readQuantifier.2.1 177 = .ok (.getfield 62, 3) := by decide +kernel
theorem d_Pr_readQuantifier_180 : decode m_Pr_readQuantifier.2.1 180 = .ok (.aload_n 0, 1) := by decide +kernel
theorem d_Pr_readQuantifier_181 : decode m_Pr_readQuantifier.2.1 181 = .ok (.getfield 28, 3) := by decide +kernel
theorem d_Pr_readQuantifier_184 : decode m_Pr_readQuantifier.2.1 184 = .ok (.aload_n 0, 1) := by decide +kernel
theorem d_Pr_readQuantifier_185 : decode m_Pr_readQuantifier.2.1 185 = .ok (.getfield 62, 3) := by decide +kernel
theorem d_Pr_readQuantifier_188 : decode m_Pr_readQuantifier.2.1 188 = .ok (.baload, 1) := by decide +kernel
theorem d_Pr_readQuantifier_189 : decode m_Pr_readQuantifier.2.1 189 = .ok (.ifCond .eq (12), 3) := by decide +kernel
theorem d_Pr_readQuantifier_192 : decode m_Pr_readQuantifier.2.1 192 = .ok (.iload 4, 2) := by decide +kernel
theorem d_Pr_readQuantifier_194 : decode m_Pr_readQuantifier.2.1 194 = .ok (.ifCond .eq (7), 3) := by decide +kernel
theorem d_Pr_readQuantifier_197 : decode m_Pr_readQuantifier.2.1 197 = .ok (.iconst 1, 1) := by decide +kernel
theorem d_Pr_readQuantifier_198 : decode m_Pr_readQuantifier.2.1 198 = .ok (.goto (4), 3) := by decide +kernel
theorem d_Pr_readQuantifier_201 : decode m_Pr_readQuantifier.2.1 201 = .ok (.iconst 0, 1) := by decide +kernel
theorem d_Pr_readQuantifier_202 : decode m_Pr_readQuantifier.2.1 202 = .ok (.bastore, 1) := by decide +kernel
theorem d_Pr_readQuantifier_203 : decode m_Pr_readQuantifier.2.1 203 = .ok (.return_, 1) := by decide +kernel
theorem d_Pr_closeGroup_0 : decode m_Pr_closeGroup.2.1 0 = .ok (.aload_n 0, 1) := by decide +kernel
theorem d_Pr_closeGroup_1 : decode m_Pr_closeGroup.2.1 1 = .ok (.getfield 62, 3) := by decide +kernel
theorem d_Pr_closeGroup_4 : decode m_Pr_closeGroup.2.1 4 = .ok (.ifCond .ne (9), 3) := by decide +kernel
theorem d_Pr_closeGroup_7 : decode m_Pr_closeGroup.2.1 7 = .ok (.aload_n 0, 1) := by decide +kernel
theorem d_Pr_closeGroup_8 : decode m_Pr_closeGroup.2.1 8 = .ok (.iconst 1, 1) := by decide +kernel
theorem d_Pr_closeGroup_9 : decode m_Pr_closeGroup.2.1 9 = .ok (.putfield 56, 3) := by decide +kernel
theorem d_Pr_closeGroup_12 : decode m_Pr_closeGroup.2.1 12 = .ok (.return_, 1) := by decide +kernel
theorem d_Pr_closeGroup_13 : decode m_Pr_closeGroup.2.1 13 = .ok (.aload_n 0, 1) := by decide +kernel
theorem d_Pr_closeGroup_14 : decode m_Pr_closeGroup.2.1 14 = .ok (.aload_n 1, 1) := by decide +kernel
theorem d_Pr_closeGroup_15 : decode m_Pr_closeGroup.2.1 15 = .ok (.invokevirtual 78, 3) := by decide +kernel
theorem d_Pr_closeGroup_18 : decode m_Pr_closeGroup.2.1 18 = .ok (.istore_n 2, 1) := by decide +kernel
theorem d_Pr_closeGroup_19 : decode m_Pr_closeGroup.2.1 19 = .ok (.aload_n 1, 1) := by decide +kernel
theorem d_Pr_closeGroup_20 : decode m_Pr_closeGroup.2.1 20 = .ok (.bipush (8), 2) := by decide +kernel
theorem d_Pr_closeGroup_22 : decode m_Pr_closeGroup.2.1 22 = .ok (.iconst 2, 1) := by decide +kernel
theorem d_Pr_closeGroup_23 : decode m_Pr_closeGroup.2.1 23 = .ok (.aload_n 0, 1) := by decide +kernel
theorem d_Pr_closeGroup_24 : decode m_Pr_closeGroup.2.1 24 = .ok (.getfield 15, 3) := by decide +kernel
theorem d_Pr_closeGroup_27 : decode m_Pr_closeGroup.2.1 27 = .ok (.aload_n 0, 1) := by decide +kernel
theorem d_Pr_closeGroup_28 : decode m_Pr_closeGroup.2.1 28 = .ok (.getfield 62, 3) := by decide +kernel
theorem d_Pr_closeGroup_31 : decode m_Pr_closeGroup.2.1 31 = .ok (.iaload, 1) := by decide +kernel
theorem d_Pr_closeGroup_32 : decode m_Pr_closeGroup.2.1 32 = .ok (.imul, 1) := by decide +kernel
theorem d_Pr_closeGroup_33 : decode m_Pr_closeGroup.2.1 33 = .ok (.iconst 1, 1) := by decide +kernel
theorem d_Pr_closeGroup_34 : decode m_Pr_closeGroup.2.1 34 = .ok (.isub, 1) := by decide +kernel
theorem d_Pr_closeGroup_35 : decode m_Pr_closeGroup.2.1 35 = .ok (.invokevirtual 82, 3) := by decide +kernel
theorem d_Pr_closeGroup_38 : decode m_Pr_closeGroup.2.1 38 = .ok (.aload_n 0, 1) := by decide +kernel
theorem d_Pr_closeGroup_39 : decode m_Pr_closeGroup.2.1 39 = .ok (.getfield 19, 3) := by decide +kernel
theorem d_Pr_closeGroup_42 : decode m_Pr_closeGroup.2.1 42 = .ok (.aload_n 0, 1) := by decide +kernel
theorem d_Pr_closeGroup_43 : decode m_Pr_closeGroup.2.1 43 = .ok (.getfield 62, 3) := by decide +kernel
theorem d_Pr_closeGroup_46 : decode m_Pr_closeGroup.2.1 46 = .ok (.iaload, 1) := by decide +kernel
theorem d_Pr_closeGroup_47 : decode m_Pr_closeGroup.2.1 47 = .ok (.iconst 1, 1) := by decide +kernel
theorem d_Pr_closeGroup_48 : decode m_Pr_closeGroup.2.1 48 = .ok (.isub, 1) := by decide +kernel
theorem d_Pr_closeGroup_49 : decode m_Pr_closeGroup.2.1 49 = .ok (.istore_n 3, 1) := by decide +kernel
theorem d_Pr_closeGroup_50 : decode m_Pr_closeGroup.2.1 50 = .ok (.aload_n 0, 1) := by decide +kernel
theorem d_Pr_closeGroup_51 : decode m_Pr_closeGroup.2.1 51 = .ok (.dup, 1) := by decide +kernel
theorem d_Pr_closeGroup_52 : decode m_Pr_closeGroup.2.1 52 = .ok (.getfield 62, 3) := by decide +kernel
theorem d_Pr_closeGroup_55 : decode m_Pr_closeGroup.2.1 55 = .ok (.iconst 1, 1) := by decide +kernel
theorem d_Pr_closeGroup_56 : decode m_Pr_closeGroup.2.1 56 = .ok (.isub, 1) := by decide +kernel
theorem d_Pr_closeGroup_57 : decode m_Pr_closeGroup.2.1 57 = .ok (.putfield 62, 3) := by decide +kernel
theorem d_Pr_closeGroup_60 : decode m_Pr_closeGroup.2.1 60 = .ok (.aload_n 0, 1) := by decide +kernel
theorem d_Pr_closeGroup_61 : decode m_Pr_closeGroup.2.1 61 = .ok (.iload_n 3, 1) := by decide +kernel
theorem d_Pr_closeGroup_62 : decode m_Pr_closeGroup.2.1 62 = .ok (.iload_n 2, 1) := by decide +kernel
theorem d_Pr_closeGroup_63 : decode m_Pr_closeGroup.2.1 63 = .ok (.aload_n 1, 1) := by decide +kernel
theorem d_Pr_closeGroup_64 : decode m_Pr_closeGroup.2.1 64 = .ok (.invokevirtual 100, 3) := by decide +kernel
theorem d_Pr_closeGroup_67 : decode m_Pr_closeGroup.2.1 67 = .ok (.return_, 1) := by decide +kernel
theorem d_Pr_readItem_0 : decode m_Pr_readItem.2.1 0 = .ok (.aload_n 0, 1) := by decide +kernel
theorem d_Pr_readItem_1 : decode m_Pr_readItem.2.1 1 = .ok (.getfield 9, 3) := by decide +kernel
theorem d_Pr_readItem_4 : decode m_Pr_readItem.2.1 4 = .ok (.aload_n 0, 1) := by decide +kernel
theorem d_Pr_readItem_5 : decode m_Pr_readItem.2.1 5 = .ok (.getfield 45, 3) := by decide +kernel
theorem d_Pr_readItem_8 : decode m_Pr_readItem.2.1 8 = .ok (.caload, 1) := by decide +kernel
theorem d_Pr_readItem_9 : decode m_Pr_readItem.2.1 9 = .ok (.istore_n 1, 1) := by decide +kernel
theorem d_Pr_readItem_10 : decode m_Pr_readItem.2.1 10 = .ok (.aload_n 0, 1) := by decide +kernel
theorem d_Pr_readItem_11 : decode m_Pr_readItem.2.1 11 = .ok (.getfield 45, 3) := by decide +kernel
theorem d_Pr_readItem_14 : decode m_Pr_readItem.2.1 14 = .ok (.iconst 2, 1) := by decide +kernel
theorem d_Pr_readItem_15 : decode m_Pr_readItem.2.1 15 = .ok (.iadd, 1) := by decide +kernel
theorem d_Pr_readItem_16 : decode m_Pr_readItem.2.1 16 = .ok (.aload_n 0, 1) := by decide +kernel
theorem d_Pr_readItem_17 : decode m_Pr_readItem.2.1 17 = .ok (.getfield 35, 3) := by decide +kernel
theorem d_Pr_readItem_20 : decode m_Pr_readItem.2.1 20 = .ok (.if_icmp .ge (39), 3) := by decide +kernel
theorem d_Pr_readItem_23 : decode m_Pr_readItem.2.1 23 = .ok (.aload_n 0, 1) := by decide +kernel
theorem d_Pr_readItem_24 : decode m_Pr_readItem.2.1 24 = .ok (.getfield 9, 3) := by decide +kernel
theorem d_Pr_readItem_27 : decode m_Pr_readItem.2.1 27 = .ok (.aload_n 0, 1) := by decide +kernel
theorem d_Pr_readItem_28 : decode m_Pr_readItem.2.1 28 = .ok (.getfield 45, 3) := by decide +kernel
theorem d_Pr_readItem_31 : decode m_Pr_readItem.2.1 31 = .ok (.iconst 1, 1) := by decide +kernel
theorem d_Pr_readItem_32 : decode m_Pr_readItem.2.1 32 = .ok (.iadd, 1) := by decide +kernel
theorem d_Pr_readItem_33 : decode m_Pr_readItem.2.1 33 = .ok (.caload, 1) := by decide +kernel
theorem d_Pr_readItem_34 : decode m_Pr_readItem.2.1 34 = .ok (.bipush (45), 2) := by decide +kernel
theorem d_Pr_readItem_36 : decode m_Pr_readItem.2.1 36 = .ok (.if_icmp .ne (23), 3) := by decide +kernel
theorem d_Pr_readItem_39 : decode m_Pr_readItem.2.1 39 = .ok (.aload_n 0, 1) := by decide +kernel
theorem d_Pr_readItem_40 : decode m_Pr_readItem.2.1 40 = .ok (.getfield 9, 3) := by decide +kernel
theorem d_Pr_readItem_43 : decode m_Pr_readItem.2.1 43 = .ok (.aload_n 0, 1) := by decide +kernel
theorem d_Pr_readItem_44 : decode m_Pr_readItem.2.1 44 = .ok (.getfield 45, 3) := by decide +kernel
theorem d_Pr_readItem_47 : decode m_Pr_readItem.2.1 47 = .ok (.iconst 2, 1) := by decide +kernel
theorem d_Pr_readItem_48 : decode m_Pr_readItem.2.1 48 = .ok (.iadd, 1) := by decide +kernel
theorem d_Pr_readItem_49 : decode m_Pr_readItem.2.1 49 = .ok (.caload, 1) := by decide +kernel
theorem d_Pr_readItem_50 : decode m_Pr_readItem.2.1 50 = .ok (.bipush (93), 2) := by decide +kernel
theorem d_Pr_readItem_52 : decode m_Pr_readItem.2.1 52 = .ok (.if_icmp .eq (7), 3) := by decide +kernel
theorem d_Pr_readItem_55 : decode m_Pr_readItem.2.1 55 = .ok (.iconst 1, 1) := by decide +kernel
theorem d_Pr_readItem_56 : decode m_Pr_readItem.2.1 56 = .ok (.goto (4), 3) := by decide +kernel
theorem d_Pr_readItem_59 : decode m_Pr_readItem.2.1 59 = .ok (.iconst 0, 1) := by decide +kernel
theorem d_Pr_readItem_60 : decode m_Pr_readItem.2.1 60 = .ok (.istore_n 2, 1) := by decide +kernel
theorem d_Pr_readItem_61 : decode m_Pr_readItem.2.1 61 = .ok (.iload_n 2, 1) := by decide +kernel
theorem d_Pr_readItem_62 : decode m_Pr_readItem.2.1 62 = .ok (.ifCond .eq (17), 3) := by decide +kernel
theorem d_Pr_readItem_65 : decode m_Pr_readItem.2.1 65 = .ok (.aload_n 0, 1) := by decide +kernel
theorem d_Pr_readItem_66 : decode m_Pr_readItem.2.1 66 = .ok (.getfield 9, 3) := by decide +kernel
theorem d_Pr_readItem_69 : decode m_Pr_readItem.2.1 69 = .ok (.aload_n 0, 1) := by decide +kernel
theorem d_Pr_readItem_70 : decode m_Pr_readItem.2.1 70 = .ok (.getfield 45, 3) := by decide +kernel
theorem d_Pr_readItem_73 : decode m_Pr_readItem.2.1 73 = .ok (.iconst 2, 1) := by decide +kernel
theorem d_Pr_readItem_74 : decode m_Pr_readItem.2.1 74 = .ok (.iadd, 1) := by decide +kernel
theorem d_Pr_readItem_75 : decode m_Pr_readItem.2.1 75 = .ok (.caload, 1) := by decide +kernel
theorem d_Pr_readItem_76 : decode m_Pr_readItem.2.1 76 = .ok (.goto (4), 3) := by decide +kernel
theorem d_Pr_readItem_79 : decode m_Pr_readItem.2.1 79 = .ok (.iload_n 1, 1) := by decide +kernel
theorem d_Pr_readItem_80 : decode m_Pr_readItem.2.1 80 = .ok (.istore_n 3, 1) := by decide +kernel
theorem d_Pr_readItem_81 : decode m_Pr_readItem.2.1 81 = .ok (.aload_n 0, 1) := by decide +kernel
theorem d_Pr_readItem_82 : decode m_Pr_readItem.2.1 82 = .ok (.dup, 1) := by decide +kernel
theorem d_Pr_readItem_83 : decode m_Pr_readItem.2.1 83 = .ok (.getfield 45, 3) := by decide +kernel
theorem d_Pr_readItem_86 : decode m_Pr_readItem.2.1 86 = .ok (.iload_n 2, 1) := by decide +kernel
theorem d_Pr_readItem_87 : decode m_Pr_readItem.2.1 87 = .ok (.ifCond .eq (7), 3) := by decide +kernel
theorem d_Pr_readItem_90 : decode m_Pr_readItem.2.1 90 = .ok (.iconst 3, 1) := by decide +kernel
theorem d_Pr_readItem_91 : decode m_Pr_readItem.2.1 91 = .ok (.goto (4), 3) := by decide +kernel
theorem d_Pr_readItem_94 : decode m_Pr_readItem.2.1 94 = .ok (.iconst 1, 1) := by decide +kernel
theorem d_Pr_readItem_95 : decode m_Pr_readItem.2.1 95 = .ok (.iadd, 1) := by decide +kernel
theorem d_Pr_readItem_96 : decode m_Pr_readItem.2.1 96 = .ok (.putfield 45, 3) := by decide +kernel
theorem d_Pr_readItem_99 : decode m_Pr_readItem.2.1 99 = .ok (.aload_n 0, 1) := by decide +kernel
theorem d_Pr_readItem_100 : decode m_Pr_readItem.2.1 100 = .ok (.aload_n 0, 1) := by decide +kernel
theorem d_Pr_readItem_101 : decode m_Pr_readItem.2.1 101 = .ok (.getfield 56, 3) := by decide +kernel
theorem d_Pr_readItem_104 : decode m_Pr_readItem.2.1 104 = .ok (.ifCond .ne (8), 3) := by decide +kernel
theorem d_Pr_readItem_107 : decode m_Pr_readItem.2.1 107 = .ok (.iload_n 1, 1) := by decide +kernel
theorem d_Pr_readItem_108 : decode m_Pr_readItem.2.1 108 = .ok (.iload_n 3, 1) := by decide +kernel
theorem d_Pr_readItem_109 : decode m_Pr_readItem.2.1 109 = .ok (.if_icmp .le (7), 3) := by decide +kernel
theorem d_Pr_readItem_112 : decode m_Pr_readItem.2.1 112 = .ok (.iconst 1, 1) := by decide +kernel
theorem d_Pr_readItem_113 : decode m_Pr_readItem.2.1 113 = .ok (.goto (4), 3) := by decide +kernel
theorem d_Pr_readItem_116 : decode m_Pr_readItem.2.1 116 = .ok (.iconst 0, 1) := by decide +kernel
theorem d_Pr_readItem_117 : decode m_Pr_readItem.2.1 117 = .ok (.putfield 56, 3) := by decide +kernel
theorem d_Pr_readItem_120 : decode m_Pr_readItem.2.1 120 = .ok (.iload_n 1, 1) := by decide +kernel
theorem d_Pr_readItem_121 : decode m_Pr_readItem.2.1 121 = .ok (.istore 4, 2) := by decide +kernel
theorem d_Pr_readItem_123 : decode m_Pr_readItem.2.1 123 = .ok (.iload 4, 2) := by decide +kernel
theorem d_Pr_readItem_125 : decode m_Pr_readItem.2.1 125 = .ok (.iload_n 3, 1) := by decide +kernel
theorem d_Pr_readItem_126 : decode m_Pr_readItem.2.1 126 = .ok (.if_icmp .gt (67), 3) := by decide +kernel
theorem d_Pr_readItem_129 : decode m_Pr_readItem.2.1 129 = .ok (.iload 4, 2) := by decide +kernel
theorem d_Pr_readItem_131 : decode m_Pr_readItem.2.1 131 = .ok (.bipush (32), 2) := by decide +kernel
theorem d_Pr_readItem_133 : decode m_Pr_readItem.2.1 133 = .ok (.isub, 1) := by decide +kernel
theorem d_Pr_readItem_134 : decode m_Pr_readItem.2.1 134 = .ok (.istore 5, 2) := by decide +kernel
theorem d_Pr_readItem_136 : decode m_Pr_readItem.2.1 136 = .ok (.aload_n 0, 1) := by decide +kernel
theorem d_Pr_readItem_137 : decode m_Pr_readItem.2.1 137 = .ok (.dup, 1) := by decide +kernel
theorem d_Pr_readItem_138 : decode m_Pr_readItem.2.1 138 = .ok (.getfield 115, 3) := by decide +kernel
theorem d_Pr_readItem_141 : decode m_Pr_readItem.2.1 141 = .ok (.iload 5, 2) := by decide +kernel
theorem d_Pr_readItem_143 : decode m_Pr_readItem.2.1 143 = .ok (.bipush (64), 2) := by decide +kernel
theorem d_Pr_readItem_145 : decode m_Pr_readItem.2.1 145 = .ok (.if_icmp .ge (10), 3) := by decide +kernel
theorem d_Pr_readItem_148 : decode m_Pr_readItem.2.1 148 = .ok (.lconst 1, 1) := by decide +kernel
theorem d_Pr_readItem_149 : decode m_Pr_readItem.2.1 149 = .ok (.iload 5, 2) := by decide +kernel
theorem d_Pr_readItem_151 : decode m_Pr_readItem.2.1 151 = .ok (.lshl, 1) := by decide +kernel
theorem d_Pr_readItem_152 : decode m_Pr_readItem.2.1 152 = .ok (.goto (4), 3) := by decide +kernel
theorem d_Pr_readItem_155 : decode m_Pr_readItem.2.1 155 = .ok (.lconst 0, 1) := by decide +kernel
theorem d_Pr_readItem_156 : decode m_Pr_readItem.2.1 156 = .ok (.lor, 1) := by decide +kernel
theorem d_Pr_readItem_157 : decode m_Pr_readItem.2.1 157 = .ok (.putfield 115, 3) := by decide +kernel
theorem d_Pr_readItem_160 : decode m_Pr_readItem.2.1 160 = .ok (.aload_n 0, 1) := by decide +kernel
theorem d_Pr_readItem_161 : decode m_Pr_readItem.2.1 161 = .ok (.dup, 1) := by decide +kernel
theorem d_Pr_readItem_162 : decode m_Pr_readItem.2.1 162 = .ok (.getfield 119, 3) := by decide +kernel
theorem d_Pr_readItem_165 : decode m_Pr_readItem.2.1 165 = .ok (.iload 5, 2) := by decide +kernel
theorem d_Pr_readItem_167 : decode m_Pr_readItem.2.1 167 = .ok (.bipush (64), 2) := by decide +kernel
theorem d_Pr_readItem_169 : decode m_Pr_readItem.2.1 169 = .ok (.if_icmp .ge (7), 3) := by decide +kernel
theorem d_Pr_readItem_172 : decode m_Pr_readItem.2.1 172 = .ok (.lconst 0, 1) := by decide +kernel
theorem d_Pr_readItem_173 : decode m_Pr_readItem.2.1 173 = .ok (.goto (10), 3) := by decide +kernel
theorem d_Pr_readItem_176 : decode m_Pr_readItem.2.1 176 = .ok (.lconst 1, 1) := by decide +kernel
theorem d_Pr_readItem_177 : decode m_Pr_readItem.2.1 177 = .ok (.iload 5, 2) := by decide +kernel
theorem d_Pr_readItem_179 : decode m_Pr_readItem.2.1 179 = .ok (.bipush (64), 2) := by decide +kernel
theorem d_Pr_readItem_181 : decode m_Pr_readItem.2.1 181 = .ok (.isub, 1) := by decide +kernel
theorem d_Pr_readItem_182 : decode m_Pr_readItem.2.1 182 = .ok (.lshl, 1) := by decide +kernel
theorem d_Pr_readItem_183 : decode m_Pr_readItem.2.1 183 = .ok (.lor, 1) := by decide +kernel
theorem d_Pr_readItem_184 : decode m_Pr_readItem.2.1 184 = .ok (.putfield 119, 3) := by decide +kernel
theorem d_Pr_readItem_187 : decode m_Pr_readItem.2.1 187 = .ok (.iinc 4 (1), 3) := by decide +kernel
theorem d_Pr_readItem_190 : decode m_Pr_readItem.2.1 190 = .ok (.goto (-67), 3) := by decide +kernel
theorem d_Pr_readItem_193 : decode m_Pr_readItem.2.1 193 = .ok (.return_, 1) := by decide +kernel
theorem d_Pt_appendSet_0 : decode m_Pt_appendSet.2.1 0 = .ok (.aload_n 0, 1) := by decide +kernel
theorem d_Pt_appendSet_1 : decode m_Pt_appendSet.2.1 1 = .ok (.getfield 32, 3) := by decide +kernel
theorem d_Pt_appendSet_4 : decode m_Pt_appendSet.2.1 4 = .ok (.bipush (6), 2) := by decide +kernel
theorem d_Pt_appendSet_6 : decode m_Pt_appendSet.2.1 6 = .ok (.if_icmp .ge (42), 3) := by decide +kernel
theorem d_Pt_appendSet_9 : decode m_Pt_appendSet.2.1 9 = .ok (.aload_n 0, 1) := by decide +kernel
theorem d_Pt_appendSet_10 : decode m_Pt_appendSet.2.1 10 = .ok (.getfield 21, 3) := by decide +kernel
theorem d_Pt_appendSet_13 : decode m_Pt_appendSet.2.1 13 = .ok (.aload_n 0, 1) := by decide +kernel
theorem d_Pt_appendSet_14 : decode m_Pt_appendSet.2.1 14 = .ok (.getfield 32, 3) := by decide +kernel
theorem d_Pt_appendSet_17 : decode m_Pt_appendSet.2.1 17 = .ok (.lload_n 1, 1) := by decide +kernel
theorem d_Pt_appendSet_18 : decode m_Pt_appendSet.2.1 18 = .ok (.lastore, 1) := by decide +kernel
theorem d_Pt_appendSet_19 : decode m_Pt_appendSet.2.1 19 = .ok (.aload_n 0, 1) := by decide +kernel
theorem d_Pt_appendSet_20 : decode m_Pt_appendSet.2.1 20 = .ok (.getfield 25, 3) := by decide +kernel
theorem d_Pt_appendSet_23 : decode m_Pt_appendSet.2.1 23 = .ok (.aload_n 0, 1) := by decide +kernel
theorem d_Pt_appendSet_24 : decode m_Pt_appendSet.2.1 24 = .ok (.getfield 32, 3) := by decide +kernel
theorem d_Pt_appendSet_27 : decode m_Pt_appendSet.2.1 27 = .ok (.lload_n 3, 1) := by decide +kernel
theorem d_Pt_appendSet_28 : decode m_Pt_appendSet.2.1 28 = .ok (.lastore, 1) := by decide +kernel
theorem d_Pt_appendSet_29 : decode m_Pt_appendSet.2.1 29 = .ok (.aload_n 0, 1) := by decide +kernel
theorem d_Pt_appendSet_30 : decode m_Pt_appendSet.2.1 30 = .ok (.iconst 2, 1) := by decide +kernel
theorem d_Pt_appendSet_31 : decode m_Pt_appendSet.2.1 31 = .ok (.aload_n 0, 1) := by decide +kernel
theorem d_Pt_appendSet_32 : decode m_Pt_appendSet.2.1 32 = .ok (.getfield 32, 3) := by decide +kernel
theorem d_Pt_appendSet_35 : decode m_Pt_appendSet.2.1 35 = .ok (.invokevirtual 39, 3) := by decide +kernel
theorem d_Pt_appendSet_38 : decode m_Pt_appendSet.2.1 38 = .ok (.aload_n 0, 1) := by decide +kernel
theorem d_Pt_appendSet_39 : decode m_Pt_appendSet.2.1 39 = .ok (.dup, 1) := by decide +kernel
theorem d_Pt_appendSet_40 : decode m_Pt_appendSet.2.1 40 = .ok (.getfield 32, 3) := by decide +kernel
theorem d_Pt_appendSet_43 : decode m_Pt_appendSet.2.1 43 = .ok (.iconst 1, 1) := by decide +kernel
theorem d_Pt_appendSet_44 : decode m_Pt_appendSet.2.1 44 = .ok (.iadd, 1) := by decide +kernel
theorem d_Pt_appendSet_45 : decode m_Pt_appendSet.2.1 45 = .ok (.putfield 32, 3) := by decide +kernel
theorem d_Pt_appendSet_48 : decode m_Pt_appendSet.2.1 48 = .ok (.return_, 1) := by decide +kernel
theorem d_Pr_readSet_0 : decode m_Pr_readSet.2.1 0 = .ok (.aload_n 0, 1) := by decide +kernel
theorem d_Pr_readSet_1 : decode m_Pr_readSet.2.1 1 = .ok (.getfield 45, 3) := by decide +kernel
theorem d_Pr_readSet_4 : decode m_Pr_readSet.2.1 4 = .ok (.aload_n 0, 1) := by decide +kernel
theorem d_Pr_readSet_5 : decode m_Pr_readSet.2.1 5 = .ok (.getfield 35, 3) := by decide +kernel
theorem d_Pr_readSet_8 : decode m_Pr_readSet.2.1 8 = .ok (.if_icmp .ge (21), 3) := by decide +kernel
theorem d_Pr_readSet_11 : decode m_Pr_readSet.2.1 11 = .ok (.aload_n 0, 1) := by decide +kernel
theorem d_Pr_readSet_12 : decode m_Pr_readSet.2.1 12 = .ok (.getfield 9, 3) := by decide +kernel
theorem d_Pr_readSet_15 : decode m_Pr_readSet.2.1 15 = .ok (.aload_n 0, 1) := by decide +kernel
theorem d_Pr_readSet_16 : decode m_Pr_readSet.2.1 16 = .ok (.getfield 45, 3) := by decide +kernel
theorem d_Pr_readSet_19 : decode m_Pr_readSet.2.1 19 = .ok (.caload, 1) := by decide +kernel
theorem d_Pr_readSet_20 : decode m_Pr_readSet.2.1 20 = .ok (.bipush (94), 2) := by decide +kernel
theorem d_Pr_readSet_22 : decode m_Pr_readSet.2.1 22 = .ok (.if_icmp .ne (7), 3) := by decide +kernel
theorem d_Pr_readSet_25 : decode m_Pr_readSet.2.1 25 = .ok (.iconst 1, 1) := by decide +kernel
theorem d_Pr_readSet_26 : decode m_Pr_readSet.2.1 26 = .ok (.goto (4), 3) := by decide +kernel
theorem d_Pr_readSet_29 : decode m_Pr_readSet.2.1 29 = .ok (.iconst 0, 1) := by decide +kernel
theorem d_Pr_readSet_30 : decode m_Pr_readSet.2.1 30 = .ok (.istore_n 2, 1) := by decide +kernel
theorem d_Pr_readSet_31 : decode m_Pr_readSet.2.1 31 = .ok (.aload_n 0, 1) := by decide +kernel
theorem d_Pr_readSet_32 : decode m_Pr_readSet.2.1 32 = .ok (.dup, 1) := by decide +kernel
theorem d_Pr_readSet_33 : decode m_Pr_readSet.2.1 33 = .ok (.getfield 45, 3) := by decide +kernel
theorem d_Pr_readSet_36 : decode m_Pr_readSet.2.1 36 = .ok (.iload_n 2, 1) := by decide +kernel
theorem d_Pr_readSet_37 : decode m_Pr_readSet.2.1 37 = .ok (.ifCond .eq (7), 3) := by decide +kernel
theorem d_Pr_readSet_40 : decode m_Pr_readSet.2.1 40 = .ok (.iconst 1, 1) := by decide +kernel
theorem d_Pr_readSet_41 : decode m_Pr_readSet.2.1 41 = .ok (.goto (4), 3) := by decide +kernel
theorem d_Pr_readSet_44 : decode m_Pr_readSet.2.1 44 = .ok (.iconst 0, 1) := by decide +kernel
theorem d_Pr_readSet_45 : decode m_Pr_readSet.2.1 45 = .ok (.iadd, 1) := by decide +kernel
theorem d_Pr_readSet_46 : decode m_Pr_readSet.2.1 46 = .ok (.putfield 45, 3) := by decide +kernel
theorem d_Pr_readSet_49 : decode m_Pr_readSet.2.1 49 = .ok (.aload_n 0, 1) := by decide +kernel
theorem d_Pr_readSet_50 : decode m_Pr_readSet.2.1 50 = .ok (.getfield 45, 3) := by decide +kernel
theorem d_Pr_readSet_53 : decode m_Pr_readSet.2.1 53 = .ok (.istore_n 3, 1) := by decide +kernel
theorem d_Pr_readSet_54 : decode m_Pr_readSet.2.1 54 = .ok (.aload_n 0, 1) := by decide +kernel
theorem d_Pr_readSet_55 : decode m_Pr_readSet.2.1 55 = .ok (.lconst 0, 1) := by decide +kernel
theorem d_Pr_readSet_56 : decode m_Pr_readSet.2.1 56 = .ok (.putfield 115, 3) := by decide +kernel
theorem d_Pr_readSet_59 : decode m_Pr_readSet.2.1 59 = .ok (.aload_n 0, 1) := by decide +kernel
theorem d_Pr_readSet_60 : decode m_Pr_readSet.2.1 60 = .ok (.lconst 0, 1) := by decide +kernel
theorem d_Pr_readSet_61 : decode m_Pr_readSet.2.1 61 = .ok (.putfield 119, 3) := by decide +kernel
theorem d_Pr_readSet_64 : decode m_Pr_readSet.2.1 64 = .ok (.iconst 0, 1) := by decide +kernel
theorem d_Pr_readSet_65 : decode m_Pr_readSet.2.1 65 = .ok (.istore 4, 2) := by decide +kernel
theorem d_Pr_readSet_67 : decode m_Pr_readSet.2.1 67 = .ok (.iload 4, 2) := by decide +kernel
theorem d_Pr_readSet_69 : decode m_Pr_readSet.2.1 69 = .ok (.bipush (20), 2) := by decide +kernel
theorem d_Pr_readSet_71 : decode m_Pr_readSet.2.1 71 = .ok (.if_icmp .ge (38), 3) := by decide +kernel
theorem d_Pr_readSet_74 : decode m_Pr_readSet.2.1 74 = .ok (.aload_n 0, 1) := by decide +kernel
theorem d_Pr_readSet_75 : decode m_Pr_readSet.2.1 75 = .ok (.getfield 45, 3) := by decide +kernel
theorem d_Pr_readSet_78 : decode m_Pr_readSet.2.1 78 = .ok (.aload_n 0, 1) := by decide +kernel
theorem d_Pr_readSet_79 : decode m_Pr_readSet.2.1 79 = .ok (.getfield 35, 3) := by decide +kernel
theorem d_Pr_readSet_82 : decode m_Pr_readSet.2.1 82 = .ok (.if_icmp .ge (27), 3) := by decide +kernel
theorem d_Pr_readSet_85 : decode m_Pr_readSet.2.1 85 = .ok (.aload_n 0, 1) := by decide +kernel
theorem d_Pr_readSet_86 : decode m_Pr_readSet.2.1 86 = .ok (.getfield 9, 3) := by decide +kernel
theorem d_Pr_readSet_89 : decode m_Pr_readSet.2.1 89 = .ok (.aload_n 0, 1) := by decide +kernel
theorem d_Pr_readSet_90 : decode m_Pr_readSet.2.1 90 = .ok (.getfield 45, 3) := by decide +kernel
theorem d_Pr_readSet_93 : decode m_Pr_readSet.2.1 93 = .ok (.caload, 1) := by decide +kernel
theorem d_Pr_readSet_94 : decode m_Pr_readSet.2.1 94 = .ok (.bipush (93), 2) := by decide +kernel
theorem d_Pr_readSet_96 : decode m_Pr_readSet.2.1 96 = .ok (.if_icmp .eq (13), 3) := by decide +kernel
theorem d_Pr_readSet_99 : decode m_Pr_readSet.2.1 99 = .ok (.aload_n 0, 1) := by decide +kernel
theorem d_Pr_readSet_100 : decode m_Pr_readSet.2.1 100 = .ok (.invokevirtual 122, 3) := by decide +kernel
theorem d_Pr_readSet_103 : decode m_Pr_readSet.2.1 103 = .ok (.iinc 4 (1), 3) := by decide +kernel
theorem d_Pr_readSet_106 : decode m_Pr_readSet.2.1 106 = .ok (.goto (-39), 3) := by decide +kernel
theorem d_Pr_readSet_109 : decode m_Pr_readSet.2.1 109 = .ok (.aload_n 0, 1) := by decide +kernel
theorem d_Pr_readSet_110 : decode m_Pr_readSet.2.1 110 = .ok (.getfield 45, 3) := by decide +kernel
theorem d_Pr_readSet_113 : decode m_Pr_readSet.2.1 113 = .ok (.iload_n 3, 1) := by decide +kernel
theorem d_Pr_readSet_114 : decode m_Pr_readSet.2.1 114 = .ok (.if_icmp .eq (14), 3) := by decide +kernel
theorem d_Pr_readSet_117 : decode m_Pr_readSet.2.1 117 = .ok (.aload_n 0, 1) := by decide +kernel
theorem d_Pr_readSet_118 : decode m_Pr_readSet.2.1 118 = .ok (.getfield 45, 3) := by decide +kernel
theorem d_Pr_readSet_121 : decode m_Pr_readSet.2.1 121 = .ok (.aload_n 0, 1) := by decide +kernel
theorem d_Pr_readSet_122 : decode m_Pr_readSet.2.1 122 = .ok (.getfield 35, 3) := by decide +kernel
theorem d_Pr_readSet_125 : decode m_Pr_readSet.2.1 125 = .ok (.if_icmp .lt (9), 3) := by decide +kernel
theorem d_Pr_readSet_128 : decode m_Pr_readSet.2.1 128 = .ok (.aload_n 0, 1) := by decide +kernel
theorem d_Pr_readSet_129 : decode m_Pr_readSet.2.1 129 = .ok (.iconst 1, 1) := by decide +kernel
theorem d_Pr_readSet_130 : decode m_Pr_readSet.2.1 130 = .ok (.putfield 56, 3) := by decide +kernel
theorem d_Pr_readSet_133 : decode m_Pr_readSet.2.1 133 = .ok (.return_, 1) := by decide +kernel
theorem d_Pr_readSet_134 : decode m_Pr_readSet.2.1 134 = .ok (.aload_n 0, 1) := by decide +kernel
theorem d_Pr_readSet_135 : decode m_Pr_readSet.2.1 135 = .ok (.dup, 1) := by decide +kernel
theorem d_Pr_readSet_136 : decode m_Pr_readSet.2.1 136 = .ok (.getfield 45, 3) := by decide +kernel
theorem d_Pr_readSet_139 : decode m_Pr_readSet.2.1 139 = .ok (.iconst 1, 1) := by decide +kernel
theorem d_Pr_readSet_140 : decode m_Pr_readSet.2.1 140 = .ok (.iadd, 1) := by decide +kernel
theorem d_Pr_readSet_141 : decode m_Pr_readSet.2.1 141 = .ok (.putfield 45, 3) := by decide +kernel
theorem d_Pr_readSet_144 : decode m_Pr_readSet.2.1 144 = .ok (.aload_n 1, 1) := by decide +kernel
theorem d_Pr_readSet_145 : decode m_Pr_readSet.2.1 145 = .ok (.iload_n 2, 1) := by decide +kernel
theorem d_Pr_readSet_146 : decode m_Pr_readSet.2.1 146 = .ok (.ifCond .eq (14), 3) := by decide +kernel
theorem d_Pr_readSet_149 : decode m_Pr_readSet.2.1 149 = .ok (.aload_n 0, 1) := by decide +kernel
theorem d_Pr_readSet_150 : decode m_Pr_readSet.2.1 150 = .ok (.getfield 115, 3) := by decide +kernel
theorem d_Pr_readSet_153 : decode m_Pr_readSet.2.1 153 = .ok (.ldc2_w 125, 3) := by decide +kernel
theorem d_Pr_readSet_156 : decode m_Pr_readSet.2.1 156 = .ok (.lxor, 1) := by decide +kernel
theorem d_Pr_readSet_157 : decode m_Pr_readSet.2.1 157 = .ok (.goto (7), 3) := by decide +kernel
theorem d_Pr_readSet_160 : decode m_Pr_readSet.2.1 160 = .ok (.aload_n 0, 1) := by decide +kernel
theorem d_Pr_readSet_161 : decode m_Pr_readSet.2.1 161 = .ok (.getfield 115, 3) := by decide +kernel
theorem d_Pr_readSet_164 : decode m_Pr_readSet.2.1 164 = .ok (.iload_n 2, 1) := by decide +kernel
theorem d_Pr_readSet_165 : decode m_Pr_readSet.2.1 165 = .ok (.ifCond .eq (14), 3) := by decide +kernel
theorem d_Pr_readSet_168 : decode m_Pr_readSet.2.1 168 = .ok (.aload_n 0, 1) := by decide +kernel
theorem d_Pr_readSet_169 : decode m_Pr_readSet.2.1 169 = .ok (.getfield 119, 3) := by decide +kernel
theorem d_Pr_readSet_172 : decode m_Pr_readSet.2.1 172 = .ok (.ldc2_w 125, 3) := by decide +kernel
theorem d_Pr_readSet_175 : decode m_Pr_readSet.2.1 175 = .ok (.lxor, 1) := by decide +kernel
theorem d_Pr_readSet_176 : decode m_Pr_readSet.2.1 176 = .ok (.goto (7), 3) := by decide +kernel
theorem d_Pr_readSet_179 : decode m_Pr_readSet.2.1 179 = .ok (.aload_n 0, 1) := by decide +kernel
theorem d_Pr_readSet_180 : decode m_Pr_readSet.2.1 180 = .ok (.getfield 119, 3) := by decide +kernel
theorem d_Pr_readSet_183 : decode m_Pr_readSet.2.1 183 = .ok (.invokevirtual 127, 3) := by decide +kernel
theorem d_Pr_readSet_186 : decode m_Pr_readSet.2.1 186 = .ok (.return_, 1) := by decide +kernel
theorem d_Pr_readEscape_0 : decode m_Pr_readEscape.2.1 0 = .ok (.aload_n 0, 1) := by decide +kernel
theorem d_Pr_readEscape_1 : decode m_Pr_readEscape.2.1 1 = .ok (.getfield 45, 3) := by decide +kernel
theorem d_Pr_readEscape_4 : decode m_Pr_readEscape.2.1 4 = .ok (.aload_n 0, 1) := by decide +kernel
theorem d_Pr_readEscape_5 : decode m_Pr_readEscape.2.1 5 = .ok (.getfield 35, 3) := by decide +kernel
theorem d_Pr_readEscape_8 : decode m_Pr_readEscape.2.1 8 = .ok (.if_icmp .ne (10), 3) := by decide +kernel
theorem d_Pr_readEscape_11 : decode m_Pr_readEscape.2.1 11 = .ok (.aload_n 0, 1) := by decide +kernel
theorem d_Pr_readEscape_12 : decode m_Pr_readEscape.2.1 12 = .ok (.iconst 1, 1) := by decide +kernel
theorem d_Pr_readEscape_13 : decode m_Pr_readEscape.2.1 13 = .ok (.putfield 56, 3) := by decide +kernel
theorem d_Pr_readEscape_16 : decode m_Pr_readEscape.2.1 16 = .ok (.iconst 0, 1) := by decide +kernel
theorem d_Pr_readEscape_17 : decode m_Pr_readEscape.2.1 17 = .ok (.ireturn, 1) := by decide +kernel
theorem d_Pr_readEscape_18 : decode m_Pr_readEscape.2.1 18 = .ok (.aload_n 0, 1) := by decide +kernel
theorem d_Pr_readEscape_19 : decode m_Pr_readEscape.2.1 19 = .ok (.getfield 9, 3) := by decide +kernel
theorem d_Pr_readEscape_22 : decode m_Pr_readEscape.2.1 22 = .ok (.aload_n 0, 1) := by decide +kernel
theorem d_Pr_readEscape_23 : decode m_Pr_readEscape.2.1 23 = .ok (.getfield 45, 3) := by decide +kernel
theorem d_Pr_readEscape_26 : decode m_Pr_readEscape.2.1 26 = .ok (.caload, 1) := by decide +kernel
theorem d_Pr_readEscape_27 : decode m_Pr_readEscape.2.1 27 = .ok (.istore_n 2, 1) := by decide +kernel
theorem d_Pr_readEscape_28 : decode m_Pr_readEscape.2.1 28 = .ok (.aload_n 0, 1) := by decide +kernel
theorem d_Pr_readEscape_29 : decode m_Pr_readEscape.2.1 29 = .ok (.dup, 1) := by decide +kernel
theorem d_Pr_readEscape_30 : decode m_Pr_readEscape.2.1 30 = .ok (.getfield 45, 3) := by decide +kernel
theorem d_Pr_readEscape_33 : decode m_Pr_readEscape.2.1 33 = .ok (.iconst 1, 1) := by decide +kernel
theorem d_Pr_readEscape_34 : decode m_Pr_readEscape.2.1 34 = .ok (.iadd, 1) := by decide +kernel
theorem d_Pr_readEscape_35 : decode m_Pr_readEscape.2.1 35 = .ok (.putfield 45, 3) := by decide +kernel
theorem d_Pr_readEscape_38 : decode m_Pr_readEscape.2.1 38 = .ok (.iload_n 2, 1) := by decide +kernel
theorem d_Pr_readEscape_39 : decode m_Pr_readEscape.2.1 39 = .ok (.bipush (48), 2) := by decide +kernel
theorem d_Pr_readEscape_41 : decode m_Pr_readEscape.2.1 41 = .ok (.if_icmp .lt (9), 3) := by decide +kernel
theorem d_Pr_readEscape_44 : decode m_Pr_readEscape.2.1 44 = .ok (.iload_n 2, 1) := by decide +kernel
theorem d_Pr_readEscape_45 : decode m_Pr_readEscape.2.1 45 = .ok (.bipush (57), 2) := by decide +kernel
theorem d_Pr_readEscape_47 : decode m_Pr_readEscape.2.1 47 = .ok (.if_icmp .le (11), 3) := by decide +kernel
theorem d_Pr_readEscape_50 : decode m_Pr_readEscape.2.1 50 = .ok (.aload_n 1, 1) := by decide +kernel
theorem d_Pr_readEscape_51 : decode m_Pr_readEscape.2.1 51 = .ok (.iconst 0, 1) := by decide +kernel
theorem d_Pr_readEscape_52 : decode m_Pr_readEscape.2.1 52 = .ok (.iload_n 2, 1) := by decide +kernel
theorem d_Pr_readEscape_53 : decode m_Pr_readEscape.2.1 53 = .ok (.invokevirtual 82, 3) := by decide +kernel
theorem d_Pr_readEscape_56 : decode m_Pr_readEscape.2.1 56 = .ok (.iconst 0, 1) := by decide +kernel
theorem d_Pr_readEscape_57 : decode m_Pr_readEscape.2.1 57 = .ok (.ireturn, 1) := by decide +kernel
theorem d_Pr_readEscape_58 : decode m_Pr_readEscape.2.1 58 = .ok (.aload_n 0, 1) := by decide +kernel
theorem d_Pr_readEscape_59 : decode m_Pr_readEscape.2.1 59 = .ok (.aload_n 0, 1) := by decide +kernel
theorem d_Pr_readEscape_60 : decode m_Pr_readEscape.2.1 60 = .ok (.getfield 48, 3) := by decide +kernel
theorem d_Pr_readEscape_63 : decode m_Pr_readEscape.2.1 63 = .ok (.ifCond .eq (15), 3) := by decide +kernel
theorem d_Pr_readEscape_66 : decode m_Pr_readEscape.2.1 66 = .ok (.iload_n 2, 1) := by decide +kernel
theorem d_Pr_readEscape_67 : decode m_Pr_readEscape.2.1 67 = .ok (.bipush (49), 2) := by decide +kernel
theorem d_Pr_readEscape_69 : decode m_Pr_readEscape.2.1 69 = .ok (.if_icmp .eq (13), 3) := by decide +kernel
theorem d_Pr_readEscape_72 : decode m_Pr_readEscape.2.1 72 = .ok (.iload_n 2, 1) := by decide +kernel
theorem d_Pr_readEscape_73 : decode m_Pr_readEscape.2.1 73 = .ok (.bipush (50), 2) := by decide +kernel
theorem d_Pr_readEscape_75 : decode m_Pr_readEscape.2.1 75 = .ok (.if_icmp .eq (7), 3) := by decide +kernel
theorem d_Pr_readEscape_78 : decode m_Pr_readEscape.2.1 78 = .ok (.iconst 1, 1) := by decide +kernel
theorem d_Pr_readEscape_79 : decode m_Pr_readEscape.2.1 79 = .ok (.goto (4), 3) := by decide +kernel
theorem d_Pr_readEscape_82 : decode m_Pr_readEscape.2.1 82 = .ok (.iconst 0, 1) := by decide +kernel
theorem d_Pr_readEscape_83 : decode m_Pr_readEscape.2.1 83 = .ok (.putfield 56, 3) := by decide +kernel
theorem d_Pr_readEscape_86 : decode m_Pr_readEscape.2.1 86 = .ok (.aload_n 1, 1) := by decide +kernel
theorem d_Pr_readEscape_87 : decode m_Pr_readEscape.2.1 87 = .ok (.iconst 5, 1) := by decide +kernel
theorem d_Pr_readEscape_88 : decode m_Pr_readEscape.2.1 88 = .ok (.iload_n 2, 1) := by decide +kernel
theorem d_Pr_readEscape_89 : decode m_Pr_readEscape.2.1 89 = .ok (.bipush (48), 2) := by decide +kernel
theorem d_Pr_readEscape_91 : decode m_Pr_readEscape.2.1 91 = .ok (.isub, 1) := by decide +kernel
theorem d_Pr_readEscape_92 : decode m_Pr_readEscape.2.1 92 = .ok (.invokevirtual 82, 3) := by decide +kernel
theorem d_Pr_readEscape_95 : decode m_Pr_readEscape.2.1 95 = .ok (.iconst 1, 1) := by decide +kernel
theorem d_Pr_readEscape_96 : decode m_Pr_readEscape.2.1 96 = .ok (.ireturn, 1) := by decide +kernel
theorem d_Pr_readAtom_0 : decode m_Pr_readAtom.2.1 0 = .ok (.iload_n 1, 1) := by decide +kernel
theorem d_Pr_readAtom_1 : decode m_Pr_readAtom.2.1 1 = .ok (.lookupswitch (119) #[(36, 91), (42, 112), (43, 112), (46, 75), (63, 112), (91, 99), (92, 106), (94, 83)], 75) := by decide +kernel
theorem d_Pr_readAtom_76 : decode m_Pr_readAtom.2.1 76 = .ok (.aload_n 2, 1) := by decide +kernel
theorem d_Pr_readAtom_77 : decode m_Pr_readAtom.2.1 77 = .ok (.iconst 1, 1) := by decide +kernel
theorem d_Pr_readAtom_78 : decode m_Pr_readAtom.2.1 78 = .ok (.iconst 0, 1) := by decide +kernel
theorem d_Pr_readAtom_79 : decode m_Pr_readAtom.2.1 79 = .ok (.invokevirtual 82, 3) := by decide +kernel
theorem d_Pr_readAtom_82 : decode m_Pr_readAtom.2.1 82 = .ok (.iconst 0, 1) := by decide +kernel
theorem d_Pr_readAtom_83 : decode m_Pr_readAtom.2.1 83 = .ok (.ireturn, 1) := by decide +kernel
theorem d_Pr_readAtom_84 : decode m_Pr_readAtom.2.1 84 = .ok (.aload_n 2, 1) := by decide +kernel
theorem d_Pr_readAtom_85 : decode m_Pr_readAtom.2.1 85 = .ok (.iconst 3, 1) := by decide +kernel
theorem d_Pr_readAtom_86 : decode m_Pr_readAtom.2.1 86 = .ok (.iconst 0, 1) := by decide +kernel
theorem d_Pr_readAtom_87 : decode m_Pr_readAtom.2.1 87 = .ok (.invokevirtual 82, 3) := by decide +kernel
theorem d_Pr_readAtom_90 : decode m_Pr_readAtom.2.1 90 = .ok (.iconst 1, 1) := by decide +kernel
theorem d_Pr_readAtom_91 : decode m_Pr_readAtom.2.1 91 = .ok (.ireturn, 1) := by decide +kernel
theorem d_Pr_readAtom_92 : decode m_Pr_readAtom.2.1 92 = .ok (.aload_n 2, 1) := by decide +kernel
theorem d_Pr_readAtom_93 : decode m_Pr_readAtom.2.1 93 = .ok (.iconst 4, 1) := by decide +kernel
theorem d_Pr_readAtom_94 : decode m_Pr_readAtom.2.1 94 = .ok (.iconst 0, 1) := by decide +kernel
theorem d_Pr_readAtom_95 : decode m_Pr_readAtom.2.1 95 = .ok (.invokevirtual 82, 3) := by decide +kernel
theorem d_Pr_readAtom_98 : decode m_Pr_readAtom.2.1 98 = .ok (.iconst 1, 1) := by decide +kernel
theorem d_Pr_readAtom_99 : decode m_Pr_readAtom.2.1 99 = .ok (.ireturn, 1) := by decide +kernel
theorem d_Pr_readAtom_100 : decode m_Pr_readAtom.2.1 100 = .ok (.aload_n 0, 1) := by decide +kernel
theorem d_Pr_readAtom_101 : decode m_Pr_readAtom.2.1 101 = .ok (.aload_n 2, 1) := by decide +kernel
theorem d_Pr_readAtom_102 : decode m_Pr_readAtom.2.1 102 = .ok (.invokevirtual 109, 3) := by decide +kernel
theorem d_Pr_readAtom_105 : decode m_Pr_readAtom.2.1 105 = .ok (.iconst 0, 1) := by decide +kernel
theorem d_Pr_readAtom_106 : decode m_Pr_readAtom.2.1 106 = .ok (.ireturn, 1) := by decide +kernel
theorem d_Pr_readAtom_107 : decode m_Pr_readAtom.2.1 107 = .ok (.aload_n 0, 1) := by decide +kernel
theorem d_Pr_readAtom_108 : decode m_Pr_readAtom.2.1 108 = .ok (.aload_n 2, 1) := by decide +kernel
theorem d_Pr_readAtom_109 : decode m_Pr_readAtom.2.1 109 = .ok (.invokevirtual 112, 3) := by decide +kernel
theorem d_Pr_readAtom_112 : decode m_Pr_readAtom.2.1 112 = .ok (.ireturn, 1) := by decide +kernel
theorem d_Pr_readAtom_113 : decode m_Pr_readAtom.2.1 113 = .ok (.aload_n 0, 1) := by decide +kernel
theorem d_Pr_readAtom_114 : decode m_Pr_readAtom.2.1 114 = .ok (.iconst 1, 1) := by decide +kernel
theorem d_Pr_readAtom_115 : decode m_Pr_readAtom.2.1 115 = .ok (.putfield 56, 3) := by decide +kernel
theorem d_Pr_readAtom_118 : decode m_Pr_readAtom.2.1 118 = .ok (.iconst 0, 1) := by decide +kernel
theorem d_Pr_readAtom_119 : decode m_Pr_readAtom.2.1 119 = .ok (.ireturn, 1) := by decide +kernel
theorem d_Pr_readAtom_120 : decode m_Pr_readAtom.2.1 120 = .ok (.aload_n 2, 1) := by decide +kernel
theorem d_Pr_readAtom_121 : decode m_Pr_readAtom.2.1 121 = .ok (.iconst 0, 1) := by decide +kernel
theorem d_Pr_readAtom_122 : decode m_Pr_readAtom.2.1 122 = .ok (.iload_n 1, 1) := by decide +kernel
theorem d_Pr_readAtom_123 : decode m_Pr_readAtom.2.1 123 = .ok (.invokevirtual 82, 3) := by decide +kernel
theorem d_Pr_readAtom_126 : decode m_Pr_readAtom.2.1 126 = .ok (.iconst 0, 1) := by decide +kernel
theorem d_Pr_readAtom_127 : decode m_Pr_readAtom.2.1 127 = .ok (.ireturn, 1) := by decide +kernel
theorem d_Pr_readNext_0 : decode m_Pr_readNext.2.1 0 = .ok (.aload_n 0, 1) := by decide +kernel
theorem d_Pr_readNext_1 : decode m_Pr_readNext.2.1 1 = .ok (.getfield 9, 3) := by decide +kernel
theorem d_Pr_readNext_4 : decode m_Pr_readNext.2.1 4 = .ok (.aload_n 0, 1) := by decide +kernel
theorem d_Pr_readNext_5 : decode m_Pr_readNext.2.1 5 = .ok (.getfield 45, 3) := by decide +kernel
theorem d_Pr_readNext_8 : decode m_Pr_readNext.2.1 8 = .ok (.caload, 1) := by decide +kernel
theorem d_Pr_readNext_9 : decode m_Pr_readNext.2.1 9 = .ok (.istore_n 2, 1) := by decide +kernel
theorem d_Pr_readNext_10 : decode m_Pr_readNext.2.1 10 = .ok (.aload_n 0, 1) := by decide +kernel
theorem d_Pr_readNext_11 : decode m_Pr_readNext.2.1 11 = .ok (.dup, 1) := by decide +kernel
theorem d_Pr_readNext_12 : decode m_Pr_readNext.2.1 12 = .ok (.getfield 45, 3) := by decide +kernel
theorem d_Pr_readNext_15 : decode m_Pr_readNext.2.1 15 = .ok (.iconst 1, 1) := by decide +kernel
theorem d_Pr_readNext_16 : decode m_Pr_readNext.2.1 16 = .ok (.iadd, 1) := by decide +kernel
theorem d_Pr_readNext_17 : decode m_Pr_readNext.2.1 17 = .ok (.putfield 45, 3) := by decide +kernel
theorem d_Pr_readNext_20 : decode m_Pr_readNext.2.1 20 = .ok (.iload_n 2, 1) := by decide +kernel
theorem d_Pr_readNext_21 : decode m_Pr_readNext.2.1 21 = .ok (.bipush (124), 2) := by decide +kernel
theorem d_Pr_readNext_23 : decode m_Pr_readNext.2.1 23 = .ok (.if_icmp .ne (11), 3) := by decide +kernel
theorem d_Pr_readNext_26 : decode m_Pr_readNext.2.1 26 = .ok (.aload_n 0, 1) := by decide +kernel
theorem d_Pr_readNext_27 : decode m_Pr_readNext.2.1 27 = .ok (.aload_n 1, 1) := by decide +kernel
theorem d_Pr_readNext_28 : decode m_Pr_readNext.2.1 28 = .ok (.invokevirtual 86, 3) := by decide +kernel
theorem d_Pr_readNext_31 : decode m_Pr_readNext.2.1 31 = .ok (.goto (52), 3) := by decide +kernel
theorem d_Pr_readNext_34 : decode m_Pr_readNext.2.1 34 = .ok (.iload_n 2, 1) := by decide +kernel
theorem d_Pr_readNext_35 : decode m_Pr_readNext.2.1 35 = .ok (.bipush (40), 2) := by decide +kernel
theorem d_Pr_readNext_37 : decode m_Pr_readNext.2.1 37 = .ok (.if_icmp .ne (11), 3) := by decide +kernel
theorem d_Pr_readNext_40 : decode m_Pr_readNext.2.1 40 = .ok (.aload_n 0, 1) := by decide +kernel
theorem d_Pr_readNext_41 : decode m_Pr_readNext.2.1 41 = .ok (.aload_n 1, 1) := by decide +kernel
theorem d_Pr_readNext_42 : decode m_Pr_readNext.2.1 42 = .ok (.invokevirtual 89, 3) := by decide +kernel
theorem d_Pr_readNext_45 : decode m_Pr_readNext.2.1 45 = .ok (.goto (38), 3) := by decide +kernel
theorem d_Pr_readNext_48 : decode m_Pr_readNext.2.1 48 = .ok (.iload_n 2, 1) := by decide +kernel
theorem d_Pr_readNext_49 : decode m_Pr_readNext.2.1 49 = .ok (.bipush (41), 2) := by decide +kernel
theorem d_Pr_readNext_51 : decode m_Pr_readNext.2.1 51 = .ok (.if_icmp .ne (11), 3) := by decide +kernel
theorem d_Pr_readNext_54 : decode m_Pr_readNext.2.1 54 = .ok (.aload_n 0, 1) := by decide +kernel
theorem d_Pr_readNext_55 : decode m_Pr_readNext.2.1 55 = .ok (.aload_n 1, 1) := by decide +kernel
theorem d_Pr_readNext_56 : decode m_Pr_readNext.2.1 56 = .ok (.invokevirtual 92, 3) := by decide +kernel
theorem d_Pr_readNext_59 : decode m_Pr_readNext.2.1 59 = .ok (.goto (24), 3) := by decide +kernel
theorem d_Pr_readNext_62 : decode m_Pr_readNext.2.1 62 = .ok (.aload_n 1, 1) := by decide +kernel
theorem d_Pr_readNext_63 : decode m_Pr_readNext.2.1 63 = .ok (.getfield 95, 3) := by decide +kernel
theorem d_Pr_readNext_66 : decode m_Pr_readNext.2.1 66 = .ok (.istore_n 3, 1) := by decide +kernel
theorem d_Pr_readNext_67 : decode m_Pr_readNext.2.1 67 = .ok (.aload_n 0, 1) := by decide +kernel
theorem d_Pr_readNext_68 : decode m_Pr_readNext.2.1 68 = .ok (.iload_n 2, 1) := by decide +kernel
theorem d_Pr_readNext_69 : decode m_Pr_readNext.2.1 69 = .ok (.aload_n 1, 1) := by decide +kernel
theorem d_Pr_readNext_70 : decode m_Pr_readNext.2.1 70 = .ok (.invokevirtual 96, 3) := by decide +kernel
theorem d_Pr_readNext_73 : decode m_Pr_readNext.2.1 73 = .ok (.istore 4, 2) := by decide +kernel
theorem d_Pr_readNext_75 : decode m_Pr_readNext.2.1 75 = .ok (.aload_n 0, 1) := by decide +kernel
theorem d_Pr_readNext_76 : decode m_Pr_readNext.2.1 76 = .ok (.iload_n 3, 1) := by decide +kernel
theorem d_Pr_readNext_77 : decode m_Pr_readNext.2.1 77 = .ok (.iload 4, 2) := by decide +kernel
theorem d_Pr_readNext_79 : decode m_Pr_readNext.2.1 79 = .ok (.aload_n 1, 1) := by decide +kernel
theorem d_Pr_readNext_80 : decode m_Pr_readNext.2.1 80 = .ok (.invokevirtual 100, 3) := by decide +kernel
theorem d_Pr_readNext_83 : decode m_Pr_readNext.2.1 83 = .ok (.return_, 1) := by decide +kernel
theorem d_Pr_parse_0 : decode m_Pr_parse.2.1 0 = .ok (.iload_n 3, 1) := by decide +kernel
theorem d_Pr_parse_1 : decode m_Pr_parse.2.1 1 = .ok (.iload_n 2, 1) := by decide +kernel
theorem d_Pr_parse_2 : decode m_Pr_parse.2.1 2 = .ok (.isub, 1) := by decide +kernel
theorem d_Pr_parse_3 : decode m_Pr_parse.2.1 3 = .ok (.iconst 1, 1) := by decide +kernel
theorem d_Pr_parse_4 : decode m_Pr_parse.2.1 4 = .ok (.if_icmp .lt (11), 3) := by decide +kernel
theorem d_Pr_parse_7 : decode m_Pr_parse.2.1 7 = .ok (.iload_n 3, 1) := by decide +kernel
theorem d_Pr_parse_8 : decode m_Pr_parse.2.1 8 = .ok (.iload_n 2, 1) := by decide +kernel
theorem d_Pr_parse_9 : decode m_Pr_parse.2.1 9 = .ok (.isub, 1) := by decide +kernel
theorem d_Pr_parse_10 : decode m_Pr_parse.2.1 10 = .ok (.bipush (20), 2) := by decide +kernel
theorem d_Pr_parse_12 : decode m_Pr_parse.2.1 12 = .ok (.if_icmp .le (5), 3) := by decide +kernel
theorem d_Pr_parse_15 : decode m_Pr_parse.2.1 15 = .ok (.iconst 0, 1) := by decide +kernel
theorem d_Pr_parse_16 : decode m_Pr_parse.2.1 16 = .ok (.ireturn, 1) := by decide +kernel
theorem d_Pr_parse_17 : decode m_Pr_parse.2.1 17 = .ok (.aload_n 0, 1) := by decide +kernel
theorem d_Pr_parse_18 : decode m_Pr_parse.2.1 18 = .ok (.iload_n 3, 1) := by decide +kernel
theorem d_Pr_parse_19 : decode m_Pr_parse.2.1 19 = .ok (.iload_n 2, 1) := by decide +kernel
theorem d_Pr_parse_20 : decode m_Pr_parse.2.1 20 = .ok (.isub, 1) := by decide +kernel
theorem d_Pr_parse_21 : decode m_Pr_parse.2.1 21 = .ok (.putfield 35, 3) := by decide +kernel
theorem d_Pr_parse_24 : decode m_Pr_parse.2.1 24 = .ok (.aload_n 1, 1) := by decide +kernel
theorem d_Pr_parse_25 : decode m_Pr_parse.2.1 25 = .ok (.iload_n 2, 1) := by decide +kernel
theorem d_Pr_parse_26 : decode m_Pr_parse.2.1 26 = .ok (.aload_n 0, 1) := by decide +kernel
theorem d_Pr_parse_27 : decode m_Pr_parse.2.1 27 = .ok (.getfield 9, 3) := by decide +kernel
theorem d_Pr_parse_30 : decode m_Pr_parse.2.1 30 = .ok (.iconst 0, 1) := by decide +kernel
theorem d_Pr_parse_31 : decode m_Pr_parse.2.1 31 = .ok (.aload_n 0, 1) := by decide +kernel
theorem d_Pr_parse_32 : decode m_Pr_parse.2.1 32 = .ok (.getfield 35, 3) := by decide +kernel
theorem d_Pr_parse_35 : decode m_Pr_parse.2.1 35 = .ok (.invokestatic 39, 3) := by decide +kernel
theorem d_Pr_parse_38 : decode m_Pr_parse.2.1 38 = .ok (.aload_n 0, 1) := by decide +kernel
theorem d_Pr_parse_39 : decode m_Pr_parse.2.1 39 = .ok (.iconst 0, 1) := by decide +kernel
theorem d_Pr_parse_40 : decode m_Pr_parse.2.1 40 = .ok (.putfield 45, 3) := by decide +kernel
theorem d_Pr_parse_43 : decode m_Pr_parse.2.1 43 = .ok (.aload_n 0, 1) := by decide +kernel
theorem d_Pr_parse_44 : decode m_Pr_parse.2.1 44 = .ok (.iload 4, 2) := by decide +kernel
theorem d_Pr_parse_46 : decode m_Pr_parse.2.1 46 = .ok (.putfield 48, 3) := by decide +kernel
theorem d_Pr_parse_49 : decode m_Pr_parse.2.1 49 = .ok (.aload_n 0, 1) := by decide +kernel
theorem d_Pr_parse_50 : decode m_Pr_parse.2.1 50 = .ok (.aload_n 0, 1) := by decide +kernel
theorem d_Pr_parse_51 : decode m_Pr_parse.2.1 51 = .ok (.invokevirtual 52, 3) := by decide +kernel
theorem d_Pr_parse_54 : decode m_Pr_parse.2.1 54 = .ok (.putfield 56, 3) := by decide +kernel
theorem d_Pr_parse_57 : decode m_Pr_parse.2.1 57 = .ok (.aload_n 0, 1) := by decide +kernel
theorem d_Pr_parse_58 : decode m_Pr_parse.2.1 58 = .ok (.iconst 0, 1) := by decide +kernel
theorem d_Pr_parse_59 : decode m_Pr_parse.2.1 59 = .ok (.putfield 59, 3) := by decide +kernel
theorem d_Pr_parse_62 : decode m_Pr_parse.2.1 62 = .ok (.aload_n 0, 1) := by decide +kernel
theorem d_Pr_parse_63 : decode m_Pr_parse.2.1 63 = .ok (.iconst 0, 1) := by decide +kernel
theorem d_Pr_parse_64 : decode m_Pr_parse.2.1 64 = .ok (.putfield 62, 3) := by decide +kernel
theorem d_Pr_parse_67 : decode m_Pr_parse.2.1 67 = .ok (.aload 5, 2) := by decide +kernel
theorem d_Pr_parse_69 : decode m_Pr_parse.2.1 69 = .ok (.invokevirtual 65, 3) := by decide +kernel
theorem d_Pr_parse_72 : decode m_Pr_parse.2.1 72 = .ok (.aload_n 0, 1) := by decide +kernel
theorem d_Pr_parse_73 : decode m_Pr_parse.2.1 73 = .ok (.iconst 0, 1) := by decide +kernel
theorem d_Pr_parse_74 : decode m_Pr_parse.2.1 74 = .ok (.invokevirtual 70, 3) := by decide +kernel
theorem d_Pr_parse_77 : decode m_Pr_parse.2.1 77 = .ok (.iconst 0, 1) := by decide +kernel
theorem d_Pr_parse_78 : decode m_Pr_parse.2.1 78 = .ok (.istore 6, 2) := by decide +kernel
theorem d_Pr_parse_80 : decode m_Pr_parse.2.1 80 = .ok (.iload 6, 2) := by decide +kernel
theorem d_Pr_parse_82 : decode m_Pr_parse.2.1 82 = .ok (.bipush (20), 2) := by decide +kernel
theorem d_Pr_parse_84 : decode m_Pr_parse.2.1 84 = .ok (.if_icmp .ge (33), 3) := by decide +kernel
theorem d_Pr_parse_87 : decode m_Pr_parse.2.1 87 = .ok (.aload_n 0, 1) := by decide +kernel
theorem d_Pr_parse_88 : decode m_Pr_parse.2.1 88 = .ok (.getfield 45, 3) := by decide +kernel
theorem d_Pr_parse_91 : decode m_Pr_parse.2.1 91 = .ok (.aload_n 0, 1) := by decide +kernel
theorem d_Pr_parse_92 : decode m_Pr_parse.2.1 92 = .ok (.getfield 35, 3) := by decide +kernel
theorem d_Pr_parse_95 : decode m_Pr_parse.2.1 95 = .ok (.if_icmp .ge (22), 3) := by decide +kernel
theorem d_Pr_parse_98 : decode m_Pr_parse.2.1 98 = .ok (.aload_n 0, 1) := by decide +kernel
theorem d_Pr_parse_99 : decode m_Pr_parse.2.1 99 = .ok (.getfield 56, 3) := by decide +kernel
theorem d_Pr_parse_102 : decode m_Pr_parse.2.1 102 = .ok (.ifCond .ne (15), 3) := by decide +kernel
theorem d_Pr_parse_105 : decode m_Pr_parse.2.1 105 = .ok (.aload_n 0, 1) := by decide +kernel
theorem d_Pr_parse_106 : decode m_Pr_parse.2.1 106 = .ok (.aload 5, 2) := by decide +kernel
theorem d_Pr_parse_108 : decode m_Pr_parse.2.1 108 = .ok (.invokevirtual 74, 3) := by decide +kernel
theorem d_Pr_parse_111 : decode m_Pr_parse.2.1 111 = .ok (.iinc 6 (1), 3) := by decide +kernel
theorem d_Pr_parse_114 : decode m_Pr_parse.2.1 114 = .ok (.goto (-34), 3) := by decide +kernel
theorem d_Pr_parse_117 : decode m_Pr_parse.2.1 117 = .ok (.aload_n 0, 1) := by decide +kernel
theorem d_Pr_parse_118 : decode m_Pr_parse.2.1 118 = .ok (.aload 5, 2) := by decide +kernel
theorem d_Pr_parse_120 : decode m_Pr_parse.2.1 120 = .ok (.invokevirtual 78, 3) := by decide +kernel
theorem d_Pr_parse_123 : decode m_Pr_parse.2.1 123 = .ok (.pop, 1) := by decide +kernel
theorem d_Pr_parse_124 : decode m_Pr_parse.2.1 124 = .ok (.aload 5, 2) := by decide +kernel
theorem d_Pr_parse_126 : decode m_Pr_parse.2.1 126 = .ok (.bipush (9), 2) := by decide +kernel
theorem d_Pr_parse_128 : decode m_Pr_parse.2.1 128 = .ok (.iconst 0, 1) := by decide +kernel
theorem d_Pr_parse_129 : decode m_Pr_parse.2.1 129 = .ok (.invokevirtual 82, 3) := by decide +kernel
theorem d_Pr_parse_132 : decode m_Pr_parse.2.1 132 = .ok (.aload_n 0, 1) := by decide +kernel
theorem d_Pr_parse_133 : decode m_Pr_parse.2.1 133 = .ok (.getfield 56, 3) := by decide +kernel
theorem d_Pr_parse_136 : decode m_Pr_parse.2.1 136 = .ok (.ifCond .ne (14), 3) := by decide +kernel
theorem d_Pr_parse_139 : decode m_Pr_parse.2.1 139 = .ok (.aload_n 0, 1) := by decide +kernel
theorem d_Pr_parse_140 : decode m_Pr_parse.2.1 140 = .ok (.getfield 62, 3) := by decide +kernel
theorem d_Pr_parse_143 : decode m_Pr_parse.2.1 143 = .ok (.ifCond .ne (7), 3) := by decide +kernel
theorem d_Pr_parse_146 : decode m_Pr_parse.2.1 146 = .ok (.iconst 1, 1) := by decide +kernel
theorem d_Pr_parse_147 : decode m_Pr_parse.2.1 147 = .ok (.goto (4), 3) := by decide +kernel
theorem d_Pr_parse_150 : decode m_Pr_parse.2.1 150 = .ok (.iconst 0, 1) := by decide +kernel
theorem d_Pr_parse_151 : decode m_Pr_parse.2.1 151 = .ok (.ireturn, 1) := by decide +kernel
theorem d_Gr_keepNextRule_0 : decode m_Gr_keepNextRule.2.1 0 = .ok (.aload_n 0, 1) := by decide +kernel
theorem d_Gr_keepNextRule_1 : decode m_Gr_keepNextRule.2.1 1 = .ok (.invokevirtual 49, 3) := by decide +kernel
theorem d_Gr_keepNextRule_4 : decode m_Gr_keepNextRule.2.1 4 = .ok (.astore 4, 2) := by decide +kernel
theorem d_Gr_keepNextRule_6 : decode m_Gr_keepNextRule.2.1 6 = .ok (.aload 4, 2) := by decide +kernel
theorem d_Gr_keepNextRule_8 : decode m_Gr_keepNextRule.2.1 8 = .ok (.iload_n 1, 1) := by decide +kernel
theorem d_Gr_keepNextRule_9 : decode m_Gr_keepNextRule.2.1 9 = .ok (.putfield 53, 3) := by decide +kernel
theorem d_Gr_keepNextRule_12 : decode m_Gr_keepNextRule.2.1 12 = .ok (.aload 4, 2) := by decide +kernel
theorem d_Gr_keepNextRule_14 : decode m_Gr_keepNextRule.2.1 14 = .ok (.iload_n 2, 1) := by decide +kernel
theorem d_Gr_keepNextRule_15 : decode m_Gr_keepNextRule.2.1 15 = .ok (.putfield 56, 3) := by decide +kernel
theorem d_Gr_keepNextRule_18 : decode m_Gr_keepNextRule.2.1 18 = .ok (.aload 4, 2) := by decide +kernel
theorem d_Gr_keepNextRule_20 : decode m_Gr_keepNextRule.2.1 20 = .ok (.iload_n 3, 1) := by decide +kernel
theorem d_Gr_keepNextRule_21 : decode m_Gr_keepNextRule.2.1 21 = .ok (.putfield 41, 3) := by decide +kernel
theorem d_Gr_keepNextRule_24 : decode m_Gr_keepNextRule.2.1 24 = .ok (.aload_n 0, 1) := by decide +kernel
theorem d_Gr_keepNextRule_25 : decode m_Gr_keepNextRule.2.1 25 = .ok (.dup, 1) := by decide +kernel
theorem d_Gr_keepNextRule_26 : decode m_Gr_keepNextRule.2.1 26 = .ok (.getfield 45, 3) := by decide +kernel
theorem d_Gr_keepNextRule_29 : decode m_Gr_keepNextRule.2.1 29 = .ok (.iconst 1, 1) := by decide +kernel
theorem d_Gr_keepNextRule_30 : decode m_Gr_keepNextRule.2.1 30 = .ok (.iadd, 1) := by decide +kernel
theorem d_Gr_keepNextRule_31 : decode m_Gr_keepNextRule.2.1 31 = .ok (.putfield 45, 3) := by decide +kernel
theorem d_Gr_keepNextRule_34 : decode m_Gr_keepNextRule.2.1 34 = .ok (.return_, 1) := by decide +kernel
theorem d_SL_addRule_0 : decode m_SL_addRule.2.1 0 = .ok (.aload_n 0, 1) := by decide +kernel
theorem d_SL_addRule_1 : decode m_SL_addRule.2.1 1 = .ok (.getfield 57, 3) := by decide +kernel
theorem d_SL_addRule_4 : decode m_SL_addRule.2.1 4 = .ok (.iload_n 1, 1) := by decide +kernel
theorem d_SL_addRule_5 : decode m_SL_addRule.2.1 5 = .ok (.iload_n 2, 1) := by decide +kernel
theorem d_SL_addRule_6 : decode m_SL_addRule.2.1 6 = .ok (.iload_n 3, 1) := by decide +kernel
theorem d_SL_addRule_7 : decode m_SL_addRule.2.1 7 = .ok (.invokevirtual 195, 3) := by decide +kernel
theorem d_SL_addRule_10 : decode m_SL_addRule.2.1 10 = .ok (.aload_n 0, 1) := by decide +kernel
theorem d_SL_addRule_11 : decode m_SL_addRule.2.1 11 = .ok (.iconst 0, 1) := by decide +kernel
theorem d_SL_addRule_12 : decode m_SL_addRule.2.1 12 = .ok (.putfield 62, 3) := by decide +kernel
theorem d_SL_addRule_15 : decode m_SL_addRule.2.1 15 = .ok (.aload_n 0, 1) := by decide +kernel
theorem d_SL_addRule_16 : decode m_SL_addRule.2.1 16 = .ok (.getfield 57, 3) := by decide +kernel
theorem d_SL_addRule_19 : decode m_SL_addRule.2.1 19 = .ok (.getfield 87, 3) := by decide +kernel
theorem d_SL_addRule_22 : decode m_SL_addRule.2.1 22 = .ok (.ireturn, 1) := by decide +kernel
