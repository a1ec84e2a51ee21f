/-! Instructions -/
theorem d_Mo_findBest_0 : decode m_Mo_findBest.2.1 0 = .ok (.aload_n 0, 1) := by decide +kernel
theorem d_Mo_findBest_1 : decode m_Mo_findBest.2.1 1 = .ok (.invokevirtual 209, 3) := by decide +kernel
theorem d_Mo_findBest_4 : decode m_Mo_findBest.2.1 4 = .ok (.istore_n 3, 1) := by decide +kernel
theorem d_Mo_findBest_5 : decode m_Mo_findBest.2.1 5 = .ok (.aload_n 0, 1) := by decide +kernel
theorem d_Mo_findBest_6 : decode m_Mo_findBest.2.1 6 = .ok (.iconst (-1), 1) := by decide +kernel
theorem d_Mo_findBest_7 : decode m_Mo_findBest.2.1 7 = .ok (.putfield 213, 3) := by decide +kernel
theorem d_Mo_findBest_10 : decode m_Mo_findBest.2.1 10 = .ok (.iconst 0, 1) := by decide +kernel
theorem d_Mo_findBest_11 : decode m_Mo_findBest.2.1 11 = .ok (.istore 4, 2) := by decide +kernel
theorem d_Mo_findBest_13 : decode m_Mo_findBest.2.1 13 = .ok (.iload 4, 2) := by decide +kernel
theorem d_Mo_findBest_15 : decode m_Mo_findBest.2.1 15 = .ok (.iload_n 3, 1) := by decide +kernel
theorem d_Mo_findBest_16 : decode m_Mo_findBest.2.1 16 = .ok (.if_icmp .ge (113), 3) := by decide +kernel
theorem d_Mo_findBest_19 : decode m_Mo_findBest.2.1 19 = .ok (.aload_n 0, 1) := by decide +kernel
theorem d_Mo_findBest_20 : decode m_Mo_findBest.2.1 20 = .ok (.aload_n 0, 1) := by decide +kernel
theorem d_Mo_findBest_21 : decode m_Mo_findBest.2.1 21 = .ok (.getfield 110, 3) := by decide +kernel
theorem d_Mo_findBest_24 : decode m_Mo_findBest.2.1 24 = .ok (.iload 4, 2) := by decide +kernel
theorem d_Mo_findBest_26 : decode m_Mo_findBest.2.1 26 = .ok (.iaload, 1) := by decide +kernel
theorem d_Mo_findBest_27 : decode m_Mo_findBest.2.1 27 = .ok (.iload_n 1, 1) := by decide +kernel
theorem d_Mo_findBest_28 : decode m_Mo_findBest.2.1 28 = .ok (.iload_n 2, 1) := by decide +kernel
theorem d_Mo_findBest_29 : decode m_Mo_findBest.2.1 29 = .ok (.invokevirtual 216, 3) := by decide +kernel
theorem d_Mo_findBest_32 : decode m_Mo_findBest.2.1 32 = .ok (.aload_n 0, 1) := by decide +kernel
theorem d_Mo_findBest_33 : decode m_Mo_findBest.2.1 33 = .ok (.getfield 169, 3) := by decide +kernel
theorem d_Mo_findBest_36 : decode m_Mo_findBest.2.1 36 = .ok (.ifCond .eq (5), 3) := by decide +kernel
theorem d_Mo_findBest_39 : decode m_Mo_findBest.2.1 39 = .ok (.iconst 0, 1) := by decide +kernel
theorem d_Mo_findBest_40 : decode m_Mo_findBest.2.1 40 = .ok (.ireturn, 1) := by decide +kernel
theorem d_Mo_findBest_41 : decode m_Mo_findBest.2.1 41 = .ok (.aload_n 0, 1) := by decide +kernel
theorem d_Mo_findBest_42 : decode m_Mo_findBest.2.1 42 = .ok (.getfield 194, 3) := by decide +kernel
theorem d_Mo_findBest_45 : decode m_Mo_findBest.2.1 45 = .ok (.ifCond .lt (78), 3) := by decide +kernel
theorem d_Mo_findBest_48 : decode m_Mo_findBest.2.1 48 = .ok (.aload_n 0, 1) := by decide +kernel
theorem d_Mo_findBest_49 : decode m_Mo_findBest.2.1 49 = .ok (.getfield 213, 3) := by decide +kernel
theorem d_Mo_findBest_52 : decode m_Mo_findBest.2.1 52 = .ok (.ifCond .lt (14), 3) := by decide +kernel
theorem d_Mo_findBest_55 : decode m_Mo_findBest.2.1 55 = .ok (.aload_n 0, 1) := by decide +kernel
theorem d_Mo_findBest_56 : decode m_Mo_findBest.2.1 56 = .ok (.getfield 194, 3) := by decide +kernel
theorem d_Mo_findBest_59 : decode m_Mo_findBest.2.1 59 = .ok (.aload_n 0, 1) := by decide +kernel
theorem d_Mo_findBest_60 : decode m_Mo_findBest.2.1 60 = .ok (.getfield 219, 3) := by decide +kernel
theorem d_Mo_findBest_63 : decode m_Mo_findBest.2.1 63 = .ok (.if_icmp .ge (60), 3) := by decide +kernel
theorem d_Mo_findBest_66 : decode m_Mo_findBest.2.1 66 = .ok (.aload_n 0, 1) := by decide +kernel
theorem d_Mo_findBest_67 : decode m_Mo_findBest.2.1 67 = .ok (.aload_n 0, 1) := by decide +kernel
theorem d_Mo_findBest_68 : decode m_Mo_findBest.2.1 68 = .ok (.getfield 110, 3) := by decide +kernel
theorem d_Mo_findBest_71 : decode m_Mo_findBest.2.1 71 = .ok (.iload 4, 2) := by decide +kernel
theorem d_Mo_findBest_73 : decode m_Mo_findBest.2.1 73 = .ok (.iaload, 1) := by decide +kernel
theorem d_Mo_findBest_74 : decode m_Mo_findBest.2.1 74 = .ok (.putfield 213, 3) := by decide +kernel
theorem d_Mo_findBest_77 : decode m_Mo_findBest.2.1 77 = .ok (.aload_n 0, 1) := by decide +kernel
theorem d_Mo_findBest_78 : decode m_Mo_findBest.2.1 78 = .ok (.aload_n 0, 1) := by decide +kernel
theorem d_Mo_findBest_79 : decode m_Mo_findBest.2.1 79 = .ok (.getfield 194, 3) := by decide +kernel
theorem d_Mo_findBest_82 : decode m_Mo_findBest.2.1 82 = .ok (.putfield 219, 3) := by decide +kernel
theorem d_Mo_findBest_85 : decode m_Mo_findBest.2.1 85 = .ok (.aload_n 0, 1) := by decide +kernel
theorem d_Mo_findBest_86 : decode m_Mo_findBest.2.1 86 = .ok (.aload_n 0, 1) := by decide +kernel
theorem d_Mo_findBest_87 : decode m_Mo_findBest.2.1 87 = .ok (.getfield 191, 3) := by decide +kernel
theorem d_Mo_findBest_90 : decode m_Mo_findBest.2.1 90 = .ok (.putfield 222, 3) := by decide +kernel
theorem d_Mo_findBest_93 : decode m_Mo_findBest.2.1 93 = .ok (.iconst 0, 1) := by decide +kernel
theorem d_Mo_findBest_94 : decode m_Mo_findBest.2.1 94 = .ok (.istore 5, 2) := by decide +kernel
theorem d_Mo_findBest_96 : decode m_Mo_findBest.2.1 96 = .ok (.iload 5, 2) := by decide +kernel
theorem d_Mo_findBest_98 : decode m_Mo_findBest.2.1 98 = .ok (.bipush (6), 2) := by decide +kernel
theorem d_Mo_findBest_100 : decode m_Mo_findBest.2.1 100 = .ok (.if_icmp .ge (23), 3) := by decide +kernel
theorem d_Mo_findBest_103 : decode m_Mo_findBest.2.1 103 = .ok (.aload_n 0, 1) := by decide +kernel
theorem d_Mo_findBest_104 : decode m_Mo_findBest.2.1 104 = .ok (.getfield 113, 3) := by decide +kernel
theorem d_Mo_findBest_107 : decode m_Mo_findBest.2.1 107 = .ok (.iload 5, 2) := by decide +kernel
theorem d_Mo_findBest_109 : decode m_Mo_findBest.2.1 109 = .ok (.aload_n 0, 1) := by decide +kernel
theorem d_Mo_findBest_110 : decode m_Mo_findBest.2.1 110 = .ok (.getfield 65, 3) := by decide +kernel
theorem d_Mo_findBest_113 : decode m_Mo_findBest.2.1 113 = .ok (.iload 5, 2) := by decide +kernel
theorem d_Mo_findBest_115 : decode m_Mo_findBest.2.1 115 = .ok (.iaload, 1) := by decide +kernel
theorem d_Mo_findBest_116 : decode m_Mo_findBest.2.1 116 = .ok (.iastore, 1) := by decide +kernel
theorem d_Mo_findBest_117 : decode m_Mo_findBest.2.1 117 = .ok (.iinc 5 (1), 3) := by decide +kernel
theorem d_Mo_findBest_120 : decode m_Mo_findBest.2.1 120 = .ok (.goto (-24), 3) := by decide +kernel
theorem d_Mo_findBest_123 : decode m_Mo_findBest.2.1 123 = .ok (.iinc 4 (1), 3) := by decide +kernel
theorem d_Mo_findBest_126 : decode m_Mo_findBest.2.1 126 = .ok (.goto (-113), 3) := by decide +kernel
theorem d_Mo_findBest_129 : decode m_Mo_findBest.2.1 129 = .ok (.iconst 1, 1) := by decide +kernel
theorem d_Mo_findBest_130 : decode m_Mo_findBest.2.1 130 = .ok (.ireturn, 1) := by decide +kernel
theorem d_Mo_cutOff_0 : decode m_Mo_cutOff.2.1 0 = .ok (.iload_n 2, 1) := by decide +kernel
theorem d_Mo_cutOff_1 : decode m_Mo_cutOff.2.1 1 = .ok (.iload_n 3, 1) := by decide +kernel
theorem d_Mo_cutOff_2 : decode m_Mo_cutOff.2.1 2 = .ok (.if_icmp .lt (4), 3) := by decide +kernel
theorem d_Mo_cutOff_5 : decode m_Mo_cutOff.2.1 5 = .ok (.return_, 1) := by decide +kernel
theorem d_Mo_cutOff_6 : decode m_Mo_cutOff.2.1 6 = .ok (.bipush (24), 2) := by decide +kernel
theorem d_Mo_cutOff_8 : decode m_Mo_cutOff.2.1 8 = .ok (.iload_n 1, 1) := by decide +kernel
theorem d_Mo_cutOff_9 : decode m_Mo_cutOff.2.1 9 = .ok (.imul, 1) := by decide +kernel
theorem d_Mo_cutOff_10 : decode m_Mo_cutOff.2.1 10 = .ok (.aload_n 0, 1) := by decide +kernel
theorem d_Mo_cutOff_11 : decode m_Mo_cutOff.2.1 11 = .ok (.getfield 86, 3) := by decide +kernel
theorem d_Mo_cutOff_14 : decode m_Mo_cutOff.2.1 14 = .ok (.iload_n 1, 1) := by decide +kernel
theorem d_Mo_cutOff_15 : decode m_Mo_cutOff.2.1 15 = .ok (.iaload, 1) := by decide +kernel
theorem d_Mo_cutOff_16 : decode m_Mo_cutOff.2.1 16 = .ok (.iadd, 1) := by decide +kernel
theorem d_Mo_cutOff_17 : decode m_Mo_cutOff.2.1 17 = .ok (.istore 5, 2) := by decide +kernel
theorem d_Mo_cutOff_19 : decode m_Mo_cutOff.2.1 19 = .ok (.aload_n 0, 1) := by decide +kernel
theorem d_Mo_cutOff_20 : decode m_Mo_cutOff.2.1 20 = .ok (.getfield 89, 3) := by decide +kernel
theorem d_Mo_cutOff_23 : decode m_Mo_cutOff.2.1 23 = .ok (.iload 5, 2) := by decide +kernel
theorem d_Mo_cutOff_25 : decode m_Mo_cutOff.2.1 25 = .ok (.iload_n 2, 1) := by decide +kernel
theorem d_Mo_cutOff_26 : decode m_Mo_cutOff.2.1 26 = .ok (.iastore, 1) := by decide +kernel
theorem d_Mo_cutOff_27 : decode m_Mo_cutOff.2.1 27 = .ok (.iconst 0, 1) := by decide +kernel
theorem d_Mo_cutOff_28 : decode m_Mo_cutOff.2.1 28 = .ok (.istore 6, 2) := by decide +kernel
theorem d_Mo_cutOff_30 : decode m_Mo_cutOff.2.1 30 = .ok (.iload 6, 2) := by decide +kernel
theorem d_Mo_cutOff_32 : decode m_Mo_cutOff.2.1 32 = .ok (.aload_n 0, 1) := by decide +kernel
theorem d_Mo_cutOff_33 : decode m_Mo_cutOff.2.1 33 = .ok (.getfield 98, 3) := by decide +kernel
theorem d_Mo_cutOff_36 : decode m_Mo_cutOff.2.1 36 = .ok (.bipush (6), 2) := by decide +kernel
theorem d_Mo_cutOff_38 : decode m_Mo_cutOff.2.1 38 = .ok (.iaload, 1) := by decide +kernel
theorem d_Mo_cutOff_39 : decode m_Mo_cutOff.2.1 39 = .ok (.if_icmp .ge (37), 3) := by decide +kernel
theorem d_Mo_cutOff_42 : decode m_Mo_cutOff.2.1 42 = .ok (.aload_n 0, 1) := by decide +kernel
theorem d_Mo_cutOff_43 : decode m_Mo_cutOff.2.1 43 = .ok (.getfield 95, 3) := by decide +kernel
theorem d_Mo_cutOff_46 : decode m_Mo_cutOff.2.1 46 = .ok (.bipush (6), 2) := by decide +kernel
theorem d_Mo_cutOff_48 : decode m_Mo_cutOff.2.1 48 = .ok (.iload 5, 2) := by decide +kernel
theorem d_Mo_cutOff_50 : decode m_Mo_cutOff.2.1 50 = .ok (.imul, 1) := by decide +kernel
theorem d_Mo_cutOff_51 : decode m_Mo_cutOff.2.1 51 = .ok (.iload 6, 2) := by decide +kernel
theorem d_Mo_cutOff_53 : decode m_Mo_cutOff.2.1 53 = .ok (.iadd, 1) := by decide +kernel
theorem d_Mo_cutOff_54 : decode m_Mo_cutOff.2.1 54 = .ok (.aload_n 0, 1) := by decide +kernel
theorem d_Mo_cutOff_55 : decode m_Mo_cutOff.2.1 55 = .ok (.getfield 20, 3) := by decide +kernel
theorem d_Mo_cutOff_58 : decode m_Mo_cutOff.2.1 58 = .ok (.aload_n 0, 1) := by decide +kernel
theorem d_Mo_cutOff_59 : decode m_Mo_cutOff.2.1 59 = .ok (.getfield 101, 3) := by decide +kernel
theorem d_Mo_cutOff_62 : decode m_Mo_cutOff.2.1 62 = .ok (.bipush (30), 2) := by decide +kernel
theorem d_Mo_cutOff_64 : decode m_Mo_cutOff.2.1 64 = .ok (.iload 6, 2) := by decide +kernel
theorem d_Mo_cutOff_66 : decode m_Mo_cutOff.2.1 66 = .ok (.iadd, 1) := by decide +kernel
theorem d_Mo_cutOff_67 : decode m_Mo_cutOff.2.1 67 = .ok (.iaload, 1) := by decide +kernel
theorem d_Mo_cutOff_68 : decode m_Mo_cutOff.2.1 68 = .ok (.iaload, 1) := by decide +kernel
theorem d_Mo_cutOff_69 : decode m_Mo_cutOff.2.1 69 = .ok (.iastore, 1) := by decide +kernel
theorem d_Mo_cutOff_70 : decode m_Mo_cutOff.2.1 70 = .ok (.iinc 6 (1), 3) := by decide +kernel
theorem d_Mo_cutOff_73 : decode m_Mo_cutOff.2.1 73 = .ok (.goto (-43), 3) := by decide +kernel
theorem d_Mo_cutOff_76 : decode m_Mo_cutOff.2.1 76 = .ok (.aload_n 0, 1) := by decide +kernel
theorem d_Mo_cutOff_77 : decode m_Mo_cutOff.2.1 77 = .ok (.getfield 95, 3) := by decide +kernel
theorem d_Mo_cutOff_80 : decode m_Mo_cutOff.2.1 80 = .ok (.bipush (6), 2) := by decide +kernel
theorem d_Mo_cutOff_82 : decode m_Mo_cutOff.2.1 82 = .ok (.iload 5, 2) := by decide +kernel
theorem d_Mo_cutOff_84 : decode m_Mo_cutOff.2.1 84 = .ok (.imul, 1) := by decide +kernel
theorem d_Mo_cutOff_85 : decode m_Mo_cutOff.2.1 85 = .ok (.aload_n 0, 1) := by decide +kernel
theorem d_Mo_cutOff_86 : decode m_Mo_cutOff.2.1 86 = .ok (.getfield 98, 3) := by decide +kernel
theorem d_Mo_cutOff_89 : decode m_Mo_cutOff.2.1 89 = .ok (.bipush (6), 2) := by decide +kernel
theorem d_Mo_cutOff_91 : decode m_Mo_cutOff.2.1 91 = .ok (.iaload, 1) := by decide +kernel
theorem d_Mo_cutOff_92 : decode m_Mo_cutOff.2.1 92 = .ok (.iadd, 1) := by decide +kernel
theorem d_Mo_cutOff_93 : decode m_Mo_cutOff.2.1 93 = .ok (.iload 4, 2) := by decide +kernel
theorem d_Mo_cutOff_95 : decode m_Mo_cutOff.2.1 95 = .ok (.iastore, 1) := by decide +kernel
theorem d_Mo_cutOff_96 : decode m_Mo_cutOff.2.1 96 = .ok (.aload_n 0, 1) := by decide +kernel
theorem d_Mo_cutOff_97 : decode m_Mo_cutOff.2.1 97 = .ok (.getfield 92, 3) := by decide +kernel
theorem d_Mo_cutOff_100 : decode m_Mo_cutOff.2.1 100 = .ok (.iload 5, 2) := by decide +kernel
theorem d_Mo_cutOff_102 : decode m_Mo_cutOff.2.1 102 = .ok (.iload 4, 2) := by decide +kernel
theorem d_Mo_cutOff_104 : decode m_Mo_cutOff.2.1 104 = .ok (.ifCond .le (15), 3) := by decide +kernel
theorem d_Mo_cutOff_107 : decode m_Mo_cutOff.2.1 107 = .ok (.aload_n 0, 1) := by decide +kernel
theorem d_Mo_cutOff_108 : decode m_Mo_cutOff.2.1 108 = .ok (.getfield 98, 3) := by decide +kernel
theorem d_Mo_cutOff_111 : decode m_Mo_cutOff.2.1 111 = .ok (.bipush (6), 2) := by decide +kernel
theorem d_Mo_cutOff_113 : decode m_Mo_cutOff.2.1 113 = .ok (.iaload, 1) := by decide +kernel
theorem d_Mo_cutOff_114 : decode m_Mo_cutOff.2.1 114 = .ok (.iconst 1, 1) := by decide +kernel
theorem d_Mo_cutOff_115 : decode m_Mo_cutOff.2.1 115 = .ok (.iadd, 1) := by decide +kernel
theorem d_Mo_cutOff_116 : decode m_Mo_cutOff.2.1 116 = .ok (.goto (10), 3) := by decide +kernel
theorem d_Mo_cutOff_119 : decode m_Mo_cutOff.2.1 119 = .ok (.aload_n 0, 1) := by decide +kernel
theorem d_Mo_cutOff_120 : decode m_Mo_cutOff.2.1 120 = .ok (.getfield 98, 3) := by decide +kernel
theorem d_Mo_cutOff_123 : decode m_Mo_cutOff.2.1 123 = .ok (.bipush (6), 2) := by decide +kernel
theorem d_Mo_cutOff_125 : decode m_Mo_cutOff.2.1 125 = .ok (.iaload, 1) := by decide +kernel
theorem d_Mo_cutOff_126 : decode m_Mo_cutOff.2.1 126 = .ok (.iastore, 1) := by decide +kernel
theorem d_Mo_cutOff_127 : decode m_Mo_cutOff.2.1 127 = .ok (.aload_n 0, 1) := by decide +kernel
theorem d_Mo_cutOff_128 : decode m_Mo_cutOff.2.1 128 = .ok (.getfield 86, 3) := by decide +kernel
theorem d_Mo_cutOff_131 : decode m_Mo_cutOff.2.1 131 = .ok (.iload_n 1, 1) := by decide +kernel
theorem d_Mo_cutOff_132 : decode m_Mo_cutOff.2.1 132 = .ok (.dup2, 1) := by decide +kernel
theorem d_Mo_cutOff_133 : decode m_Mo_cutOff.2.1 133 = .ok (.iaload, 1) := by decide +kernel
theorem d_Mo_cutOff_134 : decode m_Mo_cutOff.2.1 134 = .ok (.iconst 1, 1) := by decide +kernel
theorem d_Mo_cutOff_135 : decode m_Mo_cutOff.2.1 135 = .ok (.iadd, 1) := by decide +kernel
theorem d_Mo_cutOff_136 : decode m_Mo_cutOff.2.1 136 = .ok (.iastore, 1) := by decide +kernel
theorem d_Mo_cutOff_137 : decode m_Mo_cutOff.2.1 137 = .ok (.return_, 1) := by decide +kernel
theorem d_Mo_openRange_0 : decode m_Mo_openRange.2.1 0 = .ok (.aload_n 0, 1) := by decide +kernel
theorem d_Mo_openRange_1 : decode m_Mo_openRange.2.1 1 = .ok (.getfield 98, 3) := by decide +kernel
theorem d_Mo_openRange_4 : decode m_Mo_openRange.2.1 4 = .ok (.bipush (6), 2) := by decide +kernel
theorem d_Mo_openRange_6 : decode m_Mo_openRange.2.1 6 = .ok (.iaload, 1) := by decide +kernel
theorem d_Mo_openRange_7 : decode m_Mo_openRange.2.1 7 = .ok (.istore_n 3, 1) := by decide +kernel
theorem d_Mo_openRange_8 : decode m_Mo_openRange.2.1 8 = .ok (.aload_n 0, 1) := by decide +kernel
theorem d_Mo_openRange_9 : decode m_Mo_openRange.2.1 9 = .ok (.getfield 101, 3) := by decide +kernel
theorem d_Mo_openRange_12 : decode m_Mo_openRange.2.1 12 = .ok (.bipush (30), 2) := by decide +kernel
theorem d_Mo_openRange_14 : decode m_Mo_openRange.2.1 14 = .ok (.iload_n 3, 1) := by decide +kernel
theorem d_Mo_openRange_15 : decode m_Mo_openRange.2.1 15 = .ok (.iadd, 1) := by decide +kernel
theorem d_Mo_openRange_16 : decode m_Mo_openRange.2.1 16 = .ok (.iload_n 2, 1) := by decide +kernel
theorem d_Mo_openRange_17 : decode m_Mo_openRange.2.1 17 = .ok (.iastore, 1) := by decide +kernel
theorem d_Mo_openRange_18 : decode m_Mo_openRange.2.1 18 = .ok (.iconst 0, 1) := by decide +kernel
theorem d_Mo_openRange_19 : decode m_Mo_openRange.2.1 19 = .ok (.istore 4, 2) := by decide +kernel
theorem d_Mo_openRange_21 : decode m_Mo_openRange.2.1 21 = .ok (.iload 4, 2) := by decide +kernel
theorem d_Mo_openRange_23 : decode m_Mo_openRange.2.1 23 = .ok (.iconst 2, 1) := by decide +kernel
theorem d_Mo_openRange_24 : decode m_Mo_openRange.2.1 24 = .ok (.if_icmp .ge (123), 3) := by decide +kernel
theorem d_Mo_openRange_27 : decode m_Mo_openRange.2.1 27 = .ok (.iconst 2, 1) := by decide +kernel
theorem d_Mo_openRange_28 : decode m_Mo_openRange.2.1 28 = .ok (.iload_n 3, 1) := by decide +kernel
theorem d_Mo_openRange_29 : decode m_Mo_openRange.2.1 29 = .ok (.imul, 1) := by decide +kernel
theorem d_Mo_openRange_30 : decode m_Mo_openRange.2.1 30 = .ok (.iload 4, 2) := by decide +kernel
theorem d_Mo_openRange_32 : decode m_Mo_openRange.2.1 32 = .ok (.iadd, 1) := by decide +kernel
theorem d_Mo_openRange_33 : decode m_Mo_openRange.2.1 33 = .ok (.istore 5, 2) := by decide +kernel
theorem d_Mo_openRange_35 : decode m_Mo_openRange.2.1 35 = .ok (.aload_n 0, 1) := by decide +kernel
theorem d_Mo_openRange_36 : decode m_Mo_openRange.2.1 36 = .ok (.getfield 113, 3) := by decide +kernel
theorem d_Mo_openRange_39 : decode m_Mo_openRange.2.1 39 = .ok (.iconst 2, 1) := by decide +kernel
theorem d_Mo_openRange_40 : decode m_Mo_openRange.2.1 40 = .ok (.iload 4, 2) := by decide +kernel
theorem d_Mo_openRange_42 : decode m_Mo_openRange.2.1 42 = .ok (.imul, 1) := by decide +kernel
theorem d_Mo_openRange_43 : decode m_Mo_openRange.2.1 43 = .ok (.iaload, 1) := by decide +kernel
theorem d_Mo_openRange_44 : decode m_Mo_openRange.2.1 44 = .ok (.ifCond .ge (7), 3) := by decide +kernel
theorem d_Mo_openRange_47 : decode m_Mo_openRange.2.1 47 = .ok (.iconst 0, 1) := by decide +kernel
theorem d_Mo_openRange_48 : decode m_Mo_openRange.2.1 48 = .ok (.goto (24), 3) := by decide +kernel
theorem d_Mo_openRange_51 : decode m_Mo_openRange.2.1 51 = .ok (.aload_n 0, 1) := by decide +kernel
theorem d_Mo_openRange_52 : decode m_Mo_openRange.2.1 52 = .ok (.getfield 113, 3) := by decide +kernel
theorem d_Mo_openRange_55 : decode m_Mo_openRange.2.1 55 = .ok (.iconst 2, 1) := by decide +kernel
theorem d_Mo_openRange_56 : decode m_Mo_openRange.2.1 56 = .ok (.iload 4, 2) := by decide +kernel
theorem d_Mo_openRange_58 : decode m_Mo_openRange.2.1 58 = .ok (.imul, 1) := by decide +kernel
theorem d_Mo_openRange_59 : decode m_Mo_openRange.2.1 59 = .ok (.iconst 1, 1) := by decide +kernel
theorem d_Mo_openRange_60 : decode m_Mo_openRange.2.1 60 = .ok (.iadd, 1) := by decide +kernel
theorem d_Mo_openRange_61 : decode m_Mo_openRange.2.1 61 = .ok (.iaload, 1) := by decide +kernel
theorem d_Mo_openRange_62 : decode m_Mo_openRange.2.1 62 = .ok (.aload_n 0, 1) := by decide +kernel
theorem d_Mo_openRange_63 : decode m_Mo_openRange.2.1 63 = .ok (.getfield 113, 3) := by decide +kernel
theorem d_Mo_openRange_66 : decode m_Mo_openRange.2.1 66 = .ok (.iconst 2, 1) := by decide +kernel
theorem d_Mo_openRange_67 : decode m_Mo_openRange.2.1 67 = .ok (.iload 4, 2) := by decide +kernel
theorem d_Mo_openRange_69 : decode m_Mo_openRange.2.1 69 = .ok (.imul, 1) := by decide +kernel
theorem d_Mo_openRange_70 : decode m_Mo_openRange.2.1 70 = .ok (.iaload, 1) := by decide +kernel
theorem d_Mo_openRange_71 : decode m_Mo_openRange.2.1 71 = .ok (.isub, 1) := by decide +kernel
theorem d_Mo_openRange_72 : decode m_Mo_openRange.2.1 72 = .ok (.istore 6, 2) := by decide +kernel
theorem d_Mo_openRange_74 : decode m_Mo_openRange.2.1 74 = .ok (.aload_n 0, 1) := by decide +kernel
theorem d_Mo_openRange_75 : decode m_Mo_openRange.2.1 75 = .ok (.getfield 104, 3) := by decide +kernel
theorem d_Mo_openRange_78 : decode m_Mo_openRange.2.1 78 = .ok (.bipush (60), 2) := by decide +kernel
theorem d_Mo_openRange_80 : decode m_Mo_openRange.2.1 80 = .ok (.iload 5, 2) := by decide +kernel
theorem d_Mo_openRange_82 : decode m_Mo_openRange.2.1 82 = .ok (.iadd, 1) := by decide +kernel
theorem d_Mo_openRange_83 : decode m_Mo_openRange.2.1 83 = .ok (.iload 6, 2) := by decide +kernel
theorem d_Mo_openRange_85 : decode m_Mo_openRange.2.1 85 = .ok (.iastore, 1) := by decide +kernel
theorem d_Mo_openRange_86 : decode m_Mo_openRange.2.1 86 = .ok (.iconst 0, 1) := by decide +kernel
theorem d_Mo_openRange_87 : decode m_Mo_openRange.2.1 87 = .ok (.istore 7, 2) := by decide +kernel
theorem d_Mo_openRange_89 : decode m_Mo_openRange.2.1 89 = .ok (.iload 7, 2) := by decide +kernel
theorem d_Mo_openRange_91 : decode m_Mo_openRange.2.1 91 = .ok (.iload 6, 2) := by decide +kernel
theorem d_Mo_openRange_93 : decode m_Mo_openRange.2.1 93 = .ok (.if_icmp .ge (48), 3) := by decide +kernel
theorem d_Mo_openRange_96 : decode m_Mo_openRange.2.1 96 = .ok (.aload_n 0, 1) := by decide +kernel
theorem d_Mo_openRange_97 : decode m_Mo_openRange.2.1 97 = .ok (.getfield 107, 3) := by decide +kernel
theorem d_Mo_openRange_100 : decode m_Mo_openRange.2.1 100 = .ok (.sipush (1440), 3) := by decide +kernel
theorem d_Mo_openRange_103 : decode m_Mo_openRange.2.1 103 = .ok (.bipush (24), 2) := by decide +kernel
theorem d_Mo_openRange_105 : decode m_Mo_openRange.2.1 105 = .ok (.iload 5, 2) := by decide +kernel
theorem d_Mo_openRange_107 : decode m_Mo_openRange.2.1 107 = .ok (.imul, 1) := by decide +kernel
theorem d_Mo_openRange_108 : decode m_Mo_openRange.2.1 108 = .ok (.iadd, 1) := by decide +kernel
theorem d_Mo_openRange_109 : decode m_Mo_openRange.2.1 109 = .ok (.iload 7, 2) := by decide +kernel
theorem d_Mo_openRange_111 : decode m_Mo_openRange.2.1 111 = .ok (.iadd, 1) := by decide +kernel
theorem d_Mo_openRange_112 : decode m_Mo_openRange.2.1 112 = .ok (.aload_n 0, 1) := by decide +kernel
theorem d_Mo_openRange_113 : decode m_Mo_openRange.2.1 113 = .ok (.getfield 80, 3) := by decide +kernel
theorem d_Mo_openRange_116 : decode m_Mo_openRange.2.1 116 = .ok (.bipush (24), 2) := by decide +kernel
theorem d_Mo_openRange_118 : decode m_Mo_openRange.2.1 118 = .ok (.iload_n 1, 1) := by decide +kernel
theorem d_Mo_openRange_119 : decode m_Mo_openRange.2.1 119 = .ok (.imul, 1) := by decide +kernel
theorem d_Mo_openRange_120 : decode m_Mo_openRange.2.1 120 = .ok (.aload_n 0, 1) := by decide +kernel
theorem d_Mo_openRange_121 : decode m_Mo_openRange.2.1 121 = .ok (.getfield 113, 3) := by decide +kernel
theorem d_Mo_openRange_124 : decode m_Mo_openRange.2.1 124 = .ok (.iconst 2, 1) := by decide +kernel
theorem d_Mo_openRange_125 : decode m_Mo_openRange.2.1 125 = .ok (.iload 4, 2) := by decide +kernel
theorem d_Mo_openRange_127 : decode m_Mo_openRange.2.1 127 = .ok (.imul, 1) := by decide +kernel
theorem d_Mo_openRange_128 : decode m_Mo_openRange.2.1 128 = .ok (.iaload, 1) := by decide +kernel
theorem d_Mo_openRange_129 : decode m_Mo_openRange.2.1 129 = .ok (.iadd, 1) := by decide +kernel
theorem d_Mo_openRange_130 : decode m_Mo_openRange.2.1 130 = .ok (.iload 7, 2) := by decide +kernel
theorem d_Mo_openRange_132 : decode m_Mo_openRange.2.1 132 = .ok (.iadd, 1) := by decide +kernel
theorem d_Mo_openRange_133 : decode m_Mo_openRange.2.1 133 = .ok (.iaload, 1) := by decide +kernel
theorem d_Mo_openRange_134 : decode m_Mo_openRange.2.1 134 = .ok (.iastore, 1) := by decide +kernel
theorem d_Mo_openRange_135 : decode m_Mo_openRange.2.1 135 = .ok (.iinc 7 (1), 3) := by decide +kernel
theorem d_Mo_openRange_138 : decode m_Mo_openRange.2.1 138 = .ok (.goto (-49), 3) := by decide +kernel
theorem d_Mo_openRange_141 : decode m_Mo_openRange.2.1 141 = .ok (.iinc 4 (1), 3) := by decide +kernel
theorem d_Mo_openRange_144 : decode m_Mo_openRange.2.1 144 = .ok (.goto (-123), 3) := by decide +kernel
theorem d_Mo_openRange_147 : decode m_Mo_openRange.2.1 147 = .ok (.aload_n 0, 1) := by decide +kernel
theorem d_Mo_openRange_148 : decode m_Mo_openRange.2.1 148 = .ok (.getfield 98, 3) := by decide +kernel
theorem d_Mo_openRange_151 : decode m_Mo_openRange.2.1 151 = .ok (.bipush (6), 2) := by decide +kernel
theorem d_Mo_openRange_153 : decode m_Mo_openRange.2.1 153 = .ok (.dup2, 1) := by decide +kernel
theorem d_Mo_openRange_154 : decode m_Mo_openRange.2.1 154 = .ok (.iaload, 1) := by decide +kernel
theorem d_Mo_openRange_155 : decode m_Mo_openRange.2.1 155 = .ok (.iconst 1, 1) := by decide +kernel
theorem d_Mo_openRange_156 : decode m_Mo_openRange.2.1 156 = .ok (.iadd, 1) := by decide +kernel
theorem d_Mo_openRange_157 : decode m_Mo_openRange.2.1 157 = .ok (.iastore, 1) := by decide +kernel
theorem d_Mo_openRange_158 : decode m_Mo_openRange.2.1 158 = .ok (.return_, 1) := by decide +kernel
theorem d_Mo_tokenize_0 : decode m_Mo_tokenize.2.1 0 = .ok (.aload_n 0, 1) := by decide +kernel
theorem d_Mo_tokenize_1 : decode m_Mo_tokenize.2.1 1 = .ok (.dup, 1) := by decide +kernel
theorem d_Mo_tokenize_2 : decode m_Mo_tokenize.2.1 2 = .ok (.getfield 225, 3) := by decide +kernel
theorem d_Mo_tokenize_5 : decode m_Mo_tokenize.2.1 5 = .ok (.iconst 1, 1) := by decide +kernel
theorem d_Mo_tokenize_6 : decode m_Mo_tokenize.2.1 6 = .ok (.iadd, 1) := by decide +kernel
theorem d_Mo_tokenize_7 : decode m_Mo_tokenize.2.1 7 = .ok (.putfield 225, 3) := by decide +kernel
theorem d_Mo_tokenize_10 : decode m_Mo_tokenize.2.1 10 = .ok (.aload_n 0, 1) := by decide +kernel
theorem d_Mo_tokenize_11 : decode m_Mo_tokenize.2.1 11 = .ok (.getfield 86, 3) := by decide +kernel
theorem d_Mo_tokenize_14 : decode m_Mo_tokenize.2.1 14 = .ok (.iload_n 1, 1) := by decide +kernel
theorem d_Mo_tokenize_15 : decode m_Mo_tokenize.2.1 15 = .ok (.iconst 0, 1) := by decide +kernel
theorem d_Mo_tokenize_16 : decode m_Mo_tokenize.2.1 16 = .ok (.iastore, 1) := by decide +kernel
theorem d_Mo_tokenize_17 : decode m_Mo_tokenize.2.1 17 = .ok (.aload_n 0, 1) := by decide +kernel
theorem d_Mo_tokenize_18 : decode m_Mo_tokenize.2.1 18 = .ok (.getfield 83, 3) := by decide +kernel
theorem d_Mo_tokenize_21 : decode m_Mo_tokenize.2.1 21 = .ok (.iload_n 1, 1) := by decide +kernel
theorem d_Mo_tokenize_22 : decode m_Mo_tokenize.2.1 22 = .ok (.iconst 0, 1) := by decide +kernel
theorem d_Mo_tokenize_23 : decode m_Mo_tokenize.2.1 23 = .ok (.bastore, 1) := by decide +kernel
theorem d_Mo_tokenize_24 : decode m_Mo_tokenize.2.1 24 = .ok (.aload_n 0, 1) := by decide +kernel
theorem d_Mo_tokenize_25 : decode m_Mo_tokenize.2.1 25 = .ok (.iload_n 1, 1) := by decide +kernel
theorem d_Mo_tokenize_26 : decode m_Mo_tokenize.2.1 26 = .ok (.invokevirtual 228, 3) := by decide +kernel
theorem d_Mo_tokenize_29 : decode m_Mo_tokenize.2.1 29 = .ok (.iconst 0, 1) := by decide +kernel
theorem d_Mo_tokenize_30 : decode m_Mo_tokenize.2.1 30 = .ok (.istore_n 2, 1) := by decide +kernel
theorem d_Mo_tokenize_31 : decode m_Mo_tokenize.2.1 31 = .ok (.iconst 1, 1) := by decide +kernel
theorem d_Mo_tokenize_32 : decode m_Mo_tokenize.2.1 32 = .ok (.istore_n 3, 1) := by decide +kernel
theorem d_Mo_tokenize_33 : decode m_Mo_tokenize.2.1 33 = .ok (.iconst 0, 1) := by decide +kernel
theorem d_Mo_tokenize_34 : decode m_Mo_tokenize.2.1 34 = .ok (.istore 4, 2) := by decide +kernel
theorem d_Mo_tokenize_36 : decode m_Mo_tokenize.2.1 36 = .ok (.iload 4, 2) := by decide +kernel
theorem d_Mo_tokenize_38 : decode m_Mo_tokenize.2.1 38 = .ok (.bipush (100), 2) := by decide +kernel
theorem d_Mo_tokenize_40 : decode m_Mo_tokenize.2.1 40 = .ok (.if_icmp .ge (267), 3) := by decide +kernel
theorem d_Mo_tokenize_43 : decode m_Mo_tokenize.2.1 43 = .ok (.iload_n 3, 1) := by decide +kernel
theorem d_Mo_tokenize_44 : decode m_Mo_tokenize.2.1 44 = .ok (.ifCond .eq (263), 3) := by decide +kernel
theorem d_Mo_tokenize_47 : decode m_Mo_tokenize.2.1 47 = .ok (.aload_n 0, 1) := by decide +kernel
theorem d_Mo_tokenize_48 : decode m_Mo_tokenize.2.1 48 = .ok (.iload_n 1, 1) := by decide +kernel
theorem d_Mo_tokenize_49 : decode m_Mo_tokenize.2.1 49 = .ok (.iload_n 2, 1) := by decide +kernel
theorem d_Mo_tokenize_50 : decode m_Mo_tokenize.2.1 50 = .ok (.invokevirtual 232, 3) := by decide +kernel
theorem d_Mo_tokenize_53 : decode m_Mo_tokenize.2.1 53 = .ok (.ifCond .ne (40), 3) := by decide +kernel
theorem d_Mo_tokenize_56 : decode m_Mo_tokenize.2.1 56 = .ok (.aload_n 0, 1) := by decide +kernel
theorem d_Mo_tokenize_57 : decode m_Mo_tokenize.2.1 57 = .ok (.getfield 83, 3) := by decide +kernel
theorem d_Mo_tokenize_60 : decode m_Mo_tokenize.2.1 60 = .ok (.iload_n 1, 1) := by decide +kernel
theorem d_Mo_tokenize_61 : decode m_Mo_tokenize.2.1 61 = .ok (.iconst 1, 1) := by decide +kernel
theorem d_Mo_tokenize_62 : decode m_Mo_tokenize.2.1 62 = .ok (.bastore, 1) := by decide +kernel
theorem d_Mo_tokenize_63 : decode m_Mo_tokenize.2.1 63 = .ok (.aload_n 0, 1) := by decide +kernel
theorem d_Mo_tokenize_64 : decode m_Mo_tokenize.2.1 64 = .ok (.getfield 86, 3) := by decide +kernel
theorem d_Mo_tokenize_67 : decode m_Mo_tokenize.2.1 67 = .ok (.iload_n 1, 1) := by decide +kernel
theorem d_Mo_tokenize_68 : decode m_Mo_tokenize.2.1 68 = .ok (.iconst 0, 1) := by decide +kernel
theorem d_Mo_tokenize_69 : decode m_Mo_tokenize.2.1 69 = .ok (.iastore, 1) := by decide +kernel
theorem d_Mo_tokenize_70 : decode m_Mo_tokenize.2.1 70 = .ok (.aload_n 0, 1) := by decide +kernel
theorem d_Mo_tokenize_71 : decode m_Mo_tokenize.2.1 71 = .ok (.iload_n 1, 1) := by decide +kernel
theorem d_Mo_tokenize_72 : decode m_Mo_tokenize.2.1 72 = .ok (.invokevirtual 228, 3) := by decide +kernel
theorem d_Mo_tokenize_75 : decode m_Mo_tokenize.2.1 75 = .ok (.aload_n 0, 1) := by decide +kernel
theorem d_Mo_tokenize_76 : decode m_Mo_tokenize.2.1 76 = .ok (.iload_n 1, 1) := by decide +kernel
theorem d_Mo_tokenize_77 : decode m_Mo_tokenize.2.1 77 = .ok (.iconst 0, 1) := by decide +kernel
theorem d_Mo_tokenize_78 : decode m_Mo_tokenize.2.1 78 = .ok (.aload_n 0, 1) := by decide +kernel
theorem d_Mo_tokenize_79 : decode m_Mo_tokenize.2.1 79 = .ok (.getfield 77, 3) := by decide +kernel
theorem d_Mo_tokenize_82 : decode m_Mo_tokenize.2.1 82 = .ok (.iload_n 1, 1) := by decide +kernel
theorem d_Mo_tokenize_83 : decode m_Mo_tokenize.2.1 83 = .ok (.iaload, 1) := by decide +kernel
theorem d_Mo_tokenize_84 : decode m_Mo_tokenize.2.1 84 = .ok (.iconst 0, 1) := by decide +kernel
theorem d_Mo_tokenize_85 : decode m_Mo_tokenize.2.1 85 = .ok (.invokevirtual 235, 3) := by decide +kernel
theorem d_Mo_tokenize_88 : decode m_Mo_tokenize.2.1 88 = .ok (.iconst 0, 1) := by decide +kernel
theorem d_Mo_tokenize_89 : decode m_Mo_tokenize.2.1 89 = .ok (.istore_n 3, 1) := by decide +kernel
theorem d_Mo_tokenize_90 : decode m_Mo_tokenize.2.1 90 = .ok (.goto (211), 3) := by decide +kernel
theorem d_Mo_tokenize_93 : decode m_Mo_tokenize.2.1 93 = .ok (.aload_n 0, 1) := by decide +kernel
theorem d_Mo_tokenize_94 : decode m_Mo_tokenize.2.1 94 = .ok (.getfield 213, 3) := by decide +kernel
theorem d_Mo_tokenize_97 : decode m_Mo_tokenize.2.1 97 = .ok (.iconst 2, 1) := by decide +kernel
theorem d_Mo_tokenize_98 : decode m_Mo_tokenize.2.1 98 = .ok (.idiv, 1) := by decide +kernel
theorem d_Mo_tokenize_99 : decode m_Mo_tokenize.2.1 99 = .ok (.istore 5, 2) := by decide +kernel
theorem d_Mo_tokenize_101 : decode m_Mo_tokenize.2.1 101 = .ok (.aload_n 0, 1) := by decide +kernel
theorem d_Mo_tokenize_102 : decode m_Mo_tokenize.2.1 102 = .ok (.getfield 213, 3) := by decide +kernel
theorem d_Mo_tokenize_105 : decode m_Mo_tokenize.2.1 105 = .ok (.ifCond .lt (17), 3) := by decide +kernel
theorem d_Mo_tokenize_108 : decode m_Mo_tokenize.2.1 108 = .ok (.aload_n 0, 1) := by decide +kernel
theorem d_Mo_tokenize_109 : decode m_Mo_tokenize.2.1 109 = .ok (.getfield 213, 3) := by decide +kernel
theorem d_Mo_tokenize_112 : decode m_Mo_tokenize.2.1 112 = .ok (.iconst 2, 1) := by decide +kernel
theorem d_Mo_tokenize_113 : decode m_Mo_tokenize.2.1 113 = .ok (.irem, 1) := by decide +kernel
theorem d_Mo_tokenize_114 : decode m_Mo_tokenize.2.1 114 = .ok (.iconst 1, 1) := by decide +kernel
theorem d_Mo_tokenize_115 : decode m_Mo_tokenize.2.1 115 = .ok (.if_icmp .ne (7), 3) := by decide +kernel
theorem d_Mo_tokenize_118 : decode m_Mo_tokenize.2.1 118 = .ok (.iconst 1, 1) := by decide +kernel
theorem d_Mo_tokenize_119 : decode m_Mo_tokenize.2.1 119 = .ok (.goto (4), 3) := by decide +kernel
theorem d_Mo_tokenize_122 : decode m_Mo_tokenize.2.1 122 = .ok (.iconst 0, 1) := by decide +kernel
theorem d_Mo_tokenize_123 : decode m_Mo_tokenize.2.1 123 = .ok (.istore 6, 2) := by decide +kernel
theorem d_Mo_tokenize_125 : decode m_Mo_tokenize.2.1 125 = .ok (.aload_n 0, 1) := by decide +kernel
theorem d_Mo_tokenize_126 : decode m_Mo_tokenize.2.1 126 = .ok (.getfield 213, 3) := by decide +kernel
theorem d_Mo_tokenize_129 : decode m_Mo_tokenize.2.1 129 = .ok (.ifCond .lt (22), 3) := by decide +kernel
theorem d_Mo_tokenize_132 : decode m_Mo_tokenize.2.1 132 = .ok (.iload 6, 2) := by decide +kernel
theorem d_Mo_tokenize_134 : decode m_Mo_tokenize.2.1 134 = .ok (.ifCond .ne (17), 3) := by decide +kernel
theorem d_Mo_tokenize_137 : decode m_Mo_tokenize.2.1 137 = .ok (.aload_n 0, 1) := by decide +kernel
theorem d_Mo_tokenize_138 : decode m_Mo_tokenize.2.1 138 = .ok (.getfield 13, 3) := by decide +kernel
theorem d_Mo_tokenize_141 : decode m_Mo_tokenize.2.1 141 = .ok (.iload 5, 2) := by decide +kernel
theorem d_Mo_tokenize_143 : decode m_Mo_tokenize.2.1 143 = .ok (.baload, 1) := by decide +kernel
theorem d_Mo_tokenize_144 : decode m_Mo_tokenize.2.1 144 = .ok (.ifCond .eq (7), 3) := by decide +kernel
theorem d_Mo_tokenize_147 : decode m_Mo_tokenize.2.1 147 = .ok (.iconst 1, 1) := by decide +kernel
theorem d_Mo_tokenize_148 : decode m_Mo_tokenize.2.1 148 = .ok (.goto (4), 3) := by decide +kernel
theorem d_Mo_tokenize_151 : decode m_Mo_tokenize.2.1 151 = .ok (.iconst 0, 1) := by decide +kernel
theorem d_Mo_tokenize_152 : decode m_Mo_tokenize.2.1 152 = .ok (.istore 7, 2) := by decide +kernel
theorem d_Mo_tokenize_154 : decode m_Mo_tokenize.2.1 154 = .ok (.aload_n 0, 1) := by decide +kernel
theorem d_Mo_tokenize_155 : decode m_Mo_tokenize.2.1 155 = .ok (.getfield 213, 3) := by decide +kernel
theorem d_Mo_tokenize_158 : decode m_Mo_tokenize.2.1 158 = .ok (.ifCond .lt (32), 3) := by decide +kernel
theorem d_Mo_tokenize_161 : decode m_Mo_tokenize.2.1 161 = .ok (.aload_n 0, 1) := by decide +kernel
theorem d_Mo_tokenize_162 : decode m_Mo_tokenize.2.1 162 = .ok (.getfield 222, 3) := by decide +kernel
theorem d_Mo_tokenize_165 : decode m_Mo_tokenize.2.1 165 = .ok (.iload_n 2, 1) := by decide +kernel
theorem d_Mo_tokenize_166 : decode m_Mo_tokenize.2.1 166 = .ok (.if_icmp .ne (8), 3) := by decide +kernel
theorem d_Mo_tokenize_169 : decode m_Mo_tokenize.2.1 169 = .ok (.iload 6, 2) := by decide +kernel
theorem d_Mo_tokenize_171 : decode m_Mo_tokenize.2.1 171 = .ok (.ifCond .eq (19), 3) := by decide +kernel
theorem d_Mo_tokenize_174 : decode m_Mo_tokenize.2.1 174 = .ok (.iload 7, 2) := by decide +kernel
theorem d_Mo_tokenize_176 : decode m_Mo_tokenize.2.1 176 = .ok (.ifCond .eq (32), 3) := by decide +kernel
theorem d_Mo_tokenize_179 : decode m_Mo_tokenize.2.1 179 = .ok (.aload_n 0, 1) := by decide +kernel
theorem d_Mo_tokenize_180 : decode m_Mo_tokenize.2.1 180 = .ok (.getfield 98, 3) := by decide +kernel
theorem d_Mo_tokenize_183 : decode m_Mo_tokenize.2.1 183 = .ok (.bipush (6), 2) := by decide +kernel
theorem d_Mo_tokenize_185 : decode m_Mo_tokenize.2.1 185 = .ok (.iaload, 1) := by decide +kernel
theorem d_Mo_tokenize_186 : decode m_Mo_tokenize.2.1 186 = .ok (.iconst 5, 1) := by decide +kernel
theorem d_Mo_tokenize_187 : decode m_Mo_tokenize.2.1 187 = .ok (.if_icmp .ne (21), 3) := by decide +kernel
theorem d_Mo_tokenize_190 : decode m_Mo_tokenize.2.1 190 = .ok (.aload_n 0, 1) := by decide +kernel
theorem d_Mo_tokenize_191 : decode m_Mo_tokenize.2.1 191 = .ok (.iload_n 1, 1) := by decide +kernel
theorem d_Mo_tokenize_192 : decode m_Mo_tokenize.2.1 192 = .ok (.iload_n 2, 1) := by decide +kernel
theorem d_Mo_tokenize_193 : decode m_Mo_tokenize.2.1 193 = .ok (.aload_n 0, 1) := by decide +kernel
theorem d_Mo_tokenize_194 : decode m_Mo_tokenize.2.1 194 = .ok (.getfield 77, 3) := by decide +kernel
theorem d_Mo_tokenize_197 : decode m_Mo_tokenize.2.1 197 = .ok (.iload_n 1, 1) := by decide +kernel
theorem d_Mo_tokenize_198 : decode m_Mo_tokenize.2.1 198 = .ok (.iaload, 1) := by decide +kernel
theorem d_Mo_tokenize_199 : decode m_Mo_tokenize.2.1 199 = .ok (.iconst 0, 1) := by decide +kernel
theorem d_Mo_tokenize_200 : decode m_Mo_tokenize.2.1 200 = .ok (.invokevirtual 235, 3) := by decide +kernel
theorem d_Mo_tokenize_203 : decode m_Mo_tokenize.2.1 203 = .ok (.iconst 0, 1) := by decide +kernel
theorem d_Mo_tokenize_204 : decode m_Mo_tokenize.2.1 204 = .ok (.istore_n 3, 1) := by decide +kernel
theorem d_Mo_tokenize_205 : decode m_Mo_tokenize.2.1 205 = .ok (.goto (96), 3) := by decide +kernel
theorem d_Mo_tokenize_208 : decode m_Mo_tokenize.2.1 208 = .ok (.aload_n 0, 1) := by decide +kernel
theorem d_Mo_tokenize_209 : decode m_Mo_tokenize.2.1 209 = .ok (.iload_n 1, 1) := by decide +kernel
theorem d_Mo_tokenize_210 : decode m_Mo_tokenize.2.1 210 = .ok (.iload_n 2, 1) := by decide +kernel
theorem d_Mo_tokenize_211 : decode m_Mo_tokenize.2.1 211 = .ok (.aload_n 0, 1) := by decide +kernel
theorem d_Mo_tokenize_212 : decode m_Mo_tokenize.2.1 212 = .ok (.getfield 219, 3) := by decide +kernel
theorem d_Mo_tokenize_215 : decode m_Mo_tokenize.2.1 215 = .ok (.iconst 0, 1) := by decide +kernel
theorem d_Mo_tokenize_216 : decode m_Mo_tokenize.2.1 216 = .ok (.invokevirtual 235, 3) := by decide +kernel
theorem d_Mo_tokenize_219 : decode m_Mo_tokenize.2.1 219 = .ok (.iload 7, 2) := by decide +kernel
theorem d_Mo_tokenize_221 : decode m_Mo_tokenize.2.1 221 = .ok (.ifCond .eq (10), 3) := by decide +kernel
theorem d_Mo_tokenize_224 : decode m_Mo_tokenize.2.1 224 = .ok (.aload_n 0, 1) := by decide +kernel
theorem d_Mo_tokenize_225 : decode m_Mo_tokenize.2.1 225 = .ok (.iload_n 1, 1) := by decide +kernel
theorem d_Mo_tokenize_226 : decode m_Mo_tokenize.2.1 226 = .ok (.iload 5, 2) := by decide +kernel
theorem d_Mo_tokenize_228 : decode m_Mo_tokenize.2.1 228 = .ok (.invokevirtual 239, 3) := by decide +kernel
theorem d_Mo_tokenize_231 : decode m_Mo_tokenize.2.1 231 = .ok (.aload_n 0, 1) := by decide +kernel
theorem d_Mo_tokenize_232 : decode m_Mo_tokenize.2.1 232 = .ok (.iload_n 1, 1) := by decide +kernel
theorem d_Mo_tokenize_233 : decode m_Mo_tokenize.2.1 233 = .ok (.aload_n 0, 1) := by decide +kernel
theorem d_Mo_tokenize_234 : decode m_Mo_tokenize.2.1 234 = .ok (.getfield 219, 3) := by decide +kernel
theorem d_Mo_tokenize_237 : decode m_Mo_tokenize.2.1 237 = .ok (.aload_n 0, 1) := by decide +kernel
theorem d_Mo_tokenize_238 : decode m_Mo_tokenize.2.1 238 = .ok (.getfield 222, 3) := by decide +kernel
theorem d_Mo_tokenize_241 : decode m_Mo_tokenize.2.1 241 = .ok (.iload 6, 2) := by decide +kernel
theorem d_Mo_tokenize_243 : decode m_Mo_tokenize.2.1 243 = .ok (.ifCond .ne (8), 3) := by decide +kernel
theorem d_Mo_tokenize_246 : decode m_Mo_tokenize.2.1 246 = .ok (.iload 7, 2) := by decide +kernel
theorem d_Mo_tokenize_248 : decode m_Mo_tokenize.2.1 248 = .ok (.ifCond .eq (7), 3) := by decide +kernel
theorem d_Mo_tokenize_251 : decode m_Mo_tokenize.2.1 251 = .ok (.iconst 0, 1) := by decide +kernel
theorem d_Mo_tokenize_252 : decode m_Mo_tokenize.2.1 252 = .ok (.goto (10), 3) := by decide +kernel
theorem d_Mo_tokenize_255 : decode m_Mo_tokenize.2.1 255 = .ok (.aload_n 0, 1) := by decide +kernel
theorem d_Mo_tokenize_256 : decode m_Mo_tokenize.2.1 256 = .ok (.getfield 20, 3) := by decide +kernel
theorem d_Mo_tokenize_259 : decode m_Mo_tokenize.2.1 259 = .ok (.iload 5, 2) := by decide +kernel
theorem d_Mo_tokenize_261 : decode m_Mo_tokenize.2.1 261 = .ok (.iaload, 1) := by decide +kernel
theorem d_Mo_tokenize_262 : decode m_Mo_tokenize.2.1 262 = .ok (.invokevirtual 235, 3) := by decide +kernel
theorem d_Mo_tokenize_265 : decode m_Mo_tokenize.2.1 265 = .ok (.aload_n 0, 1) := by decide +kernel
theorem d_Mo_tokenize_266 : decode m_Mo_tokenize.2.1 266 = .ok (.getfield 98, 3) := by decide +kernel
theorem d_Mo_tokenize_269 : decode m_Mo_tokenize.2.1 269 = .ok (.bipush (6), 2) := by decide +kernel
theorem d_Mo_tokenize_271 : decode m_Mo_tokenize.2.1 271 = .ok (.iload 6, 2) := by decide +kernel
theorem d_Mo_tokenize_273 : decode m_Mo_tokenize.2.1 273 = .ok (.ifCond .eq (15), 3) := by decide +kernel
theorem d_Mo_tokenize_276 : decode m_Mo_tokenize.2.1 276 = .ok (.aload_n 0, 1) := by decide +kernel
theorem d_Mo_tokenize_277 : decode m_Mo_tokenize.2.1 277 = .ok (.getfield 98, 3) := by decide +kernel
theorem d_Mo_tokenize_280 : decode m_Mo_tokenize.2.1 280 = .ok (.bipush (6), 2) := by decide +kernel
theorem d_Mo_tokenize_282 : decode m_Mo_tokenize.2.1 282 = .ok (.iaload, 1) := by decide +kernel
theorem d_Mo_tokenize_283 : decode m_Mo_tokenize.2.1 283 = .ok (.iconst 1, 1) := by decide +kernel
theorem d_Mo_tokenize_284 : decode m_Mo_tokenize.2.1 284 = .ok (.isub, 1) := by decide +kernel
theorem d_Mo_tokenize_285 : decode m_Mo_tokenize.2.1 285 = .ok (.goto (10), 3) := by decide +kernel
theorem d_Mo_tokenize_288 : decode m_Mo_tokenize.2.1 288 = .ok (.aload_n 0, 1) := by decide +kernel
theorem d_Mo_tokenize_289 : decode m_Mo_tokenize.2.1 289 = .ok (.getfield 98, 3) := by decide +kernel
theorem d_Mo_tokenize_292 : decode m_Mo_tokenize.2.1 292 = .ok (.bipush (6), 2) := by decide +kernel
theorem d_Mo_tokenize_294 : decode m_Mo_tokenize.2.1 294 = .ok (.iaload, 1) := by decide +kernel
theorem d_Mo_tokenize_295 : decode m_Mo_tokenize.2.1 295 = .ok (.iastore, 1) := by decide +kernel
theorem d_Mo_tokenize_296 : decode m_Mo_tokenize.2.1 296 = .ok (.aload_n 0, 1) := by decide +kernel
theorem d_Mo_tokenize_297 : decode m_Mo_tokenize.2.1 297 = .ok (.getfield 222, 3) := by decide +kernel
theorem d_Mo_tokenize_300 : decode m_Mo_tokenize.2.1 300 = .ok (.istore_n 2, 1) := by decide +kernel
theorem d_Mo_tokenize_301 : decode m_Mo_tokenize.2.1 301 = .ok (.iinc 4 (1), 3) := by decide +kernel
theorem d_Mo_tokenize_304 : decode m_Mo_tokenize.2.1 304 = .ok (.goto (-268), 3) := by decide +kernel
theorem d_Mo_tokenize_307 : decode m_Mo_tokenize.2.1 307 = .ok (.aload_n 0, 1) := by decide +kernel
theorem d_Mo_tokenize_308 : decode m_Mo_tokenize.2.1 308 = .ok (.bipush (6), 2) := by decide +kernel
theorem d_Mo_tokenize_310 : decode m_Mo_tokenize.2.1 310 = .ok (.iload_n 1, 1) := by decide +kernel
theorem d_Mo_tokenize_311 : decode m_Mo_tokenize.2.1 311 = .ok (.invokevirtual 200, 3) := by decide +kernel
theorem d_Mo_tokenize_314 : decode m_Mo_tokenize.2.1 314 = .ok (.return_, 1) := by decide +kernel
theorem d_Mo_refresh_0 : decode m_Mo_refresh.2.1 0 = .ok (.iconst 0, 1) := by decide +kernel
theorem d_Mo_refresh_1 : decode m_Mo_refresh.2.1 1 = .ok (.istore_n 2, 1) := by decide +kernel
theorem d_Mo_refresh_2 : decode m_Mo_refresh.2.1 2 = .ok (.iconst 0, 1) := by decide +kernel
theorem d_Mo_refresh_3 : decode m_Mo_refresh.2.1 3 = .ok (.istore_n 3, 1) := by decide +kernel
theorem d_Mo_refresh_4 : decode m_Mo_refresh.2.1 4 = .ok (.iload_n 1, 1) := by decide +kernel
theorem d_Mo_refresh_5 : decode m_Mo_refresh.2.1 5 = .ok (.istore 4, 2) := by decide +kernel
theorem d_Mo_refresh_7 : decode m_Mo_refresh.2.1 7 = .ok (.iload 4, 2) := by decide +kernel
theorem d_Mo_refresh_9 : decode m_Mo_refresh.2.1 9 = .ok (.aload_n 0, 1) := by decide +kernel
theorem d_Mo_refresh_10 : decode m_Mo_refresh.2.1 10 = .ok (.getfield 242, 3) := by decide +kernel
theorem d_Mo_refresh_13 : decode m_Mo_refresh.2.1 13 = .ok (.if_icmp .ge (39), 3) := by decide +kernel
theorem d_Mo_refresh_16 : decode m_Mo_refresh.2.1 16 = .ok (.iload_n 3, 1) := by decide +kernel
theorem d_Mo_refresh_17 : decode m_Mo_refresh.2.1 17 = .ok (.ifCond .ne (35), 3) := by decide +kernel
theorem d_Mo_refresh_20 : decode m_Mo_refresh.2.1 20 = .ok (.aload_n 0, 1) := by decide +kernel
theorem d_Mo_refresh_21 : decode m_Mo_refresh.2.1 21 = .ok (.iload 4, 2) := by decide +kernel
theorem d_Mo_refresh_23 : decode m_Mo_refresh.2.1 23 = .ok (.bipush (7), 2) := by decide +kernel
theorem d_Mo_refresh_25 : decode m_Mo_refresh.2.1 25 = .ok (.invokevirtual 200, 3) := by decide +kernel
theorem d_Mo_refresh_28 : decode m_Mo_refresh.2.1 28 = .ok (.aload_n 0, 1) := by decide +kernel
theorem d_Mo_refresh_29 : decode m_Mo_refresh.2.1 29 = .ok (.iload 4, 2) := by decide +kernel
theorem d_Mo_refresh_31 : decode m_Mo_refresh.2.1 31 = .ok (.invokevirtual 245, 3) := by decide +kernel
theorem d_Mo_refresh_34 : decode m_Mo_refresh.2.1 34 = .ok (.aload_n 0, 1) := by decide +kernel
theorem d_Mo_refresh_35 : decode m_Mo_refresh.2.1 35 = .ok (.iload 4, 2) := by decide +kernel
theorem d_Mo_refresh_37 : decode m_Mo_refresh.2.1 37 = .ok (.bipush (7), 2) := by decide +kernel
theorem d_Mo_refresh_39 : decode m_Mo_refresh.2.1 39 = .ok (.invokevirtual 248, 3) := by decide +kernel
theorem d_Mo_refresh_42 : decode m_Mo_refresh.2.1 42 = .ok (.istore_n 3, 1) := by decide +kernel
theorem d_Mo_refresh_43 : decode m_Mo_refresh.2.1 43 = .ok (.iinc 2 (1), 3) := by decide +kernel
theorem d_Mo_refresh_46 : decode m_Mo_refresh.2.1 46 = .ok (.iinc 4 (1), 3) := by decide +kernel
theorem d_Mo_refresh_49 : decode m_Mo_refresh.2.1 49 = .ok (.goto (-42), 3) := by decide +kernel
theorem d_Mo_refresh_52 : decode m_Mo_refresh.2.1 52 = .ok (.iload_n 2, 1) := by decide +kernel
theorem d_Mo_refresh_53 : decode m_Mo_refresh.2.1 53 = .ok (.ireturn, 1) := by decide +kernel
theorem d_Mo_refreshAll_0 : decode m_Mo_refreshAll.2.1 0 = .ok (.iconst 0, 1) := by decide +kernel
theorem d_Mo_refreshAll_1 : decode m_Mo_refreshAll.2.1 1 = .ok (.istore_n 1, 1) := by decide +kernel
theorem d_Mo_refreshAll_2 : decode m_Mo_refreshAll.2.1 2 = .ok (.iload_n 1, 1) := by decide +kernel
theorem d_Mo_refreshAll_3 : decode m_Mo_refreshAll.2.1 3 = .ok (.aload_n 0, 1) := by decide +kernel
theorem d_Mo_refreshAll_4 : decode m_Mo_refreshAll.2.1 4 = .ok (.getfield 242, 3) := by decide +kernel
theorem d_Mo_refreshAll_7 : decode m_Mo_refreshAll.2.1 7 = .ok (.if_icmp .ge (14), 3) := by decide +kernel
theorem d_Mo_refreshAll_10 : decode m_Mo_refreshAll.2.1 10 = .ok (.aload_n 0, 1) := by decide +kernel
theorem d_Mo_refreshAll_11 : decode m_Mo_refreshAll.2.1 11 = .ok (.iload_n 1, 1) := by decide +kernel
theorem d_Mo_refreshAll_12 : decode m_Mo_refreshAll.2.1 12 = .ok (.invokevirtual 245, 3) := by decide +kernel
theorem d_Mo_refreshAll_15 : decode m_Mo_refreshAll.2.1 15 = .ok (.iinc 1 (1), 3) := by decide +kernel
theorem d_Mo_refreshAll_18 : decode m_Mo_refreshAll.2.1 18 = .ok (.goto (-16), 3) := by decide +kernel
theorem d_Mo_refreshAll_21 : decode m_Mo_refreshAll.2.1 21 = .ok (.return_, 1) := by decide +kernel
theorem d_Mo_lift_0 : decode m_Mo_lift.2.1 0 = .ok (.iload_n 3, 1) := by decide +kernel
theorem d_Mo_lift_1 : decode m_Mo_lift.2.1 1 = .ok (.iload_n 2, 1) := by decide +kernel
theorem d_Mo_lift_2 : decode m_Mo_lift.2.1 2 = .ok (.isub, 1) := by decide +kernel
theorem d_Mo_lift_3 : decode m_Mo_lift.2.1 3 = .ok (.bipush (21), 2) := by decide +kernel
theorem d_Mo_lift_5 : decode m_Mo_lift.2.1 5 = .ok (.if_icmp .le (8), 3) := by decide +kernel
theorem d_Mo_lift_8 : decode m_Mo_lift.2.1 8 = .ok (.bipush (21), 2) := by decide +kernel
theorem d_Mo_lift_10 : decode m_Mo_lift.2.1 10 = .ok (.goto (6), 3) := by decide +kernel
theorem d_Mo_lift_13 : decode m_Mo_lift.2.1 13 = .ok (.iload_n 3, 1) := by decide +kernel
theorem d_Mo_lift_14 : decode m_Mo_lift.2.1 14 = .ok (.iload_n 2, 1) := by decide +kernel
theorem d_Mo_lift_15 : decode m_Mo_lift.2.1 15 = .ok (.isub, 1) := by decide +kernel
theorem d_Mo_lift_16 : decode m_Mo_lift.2.1 16 = .ok (.istore 4, 2) := by decide +kernel
theorem d_Mo_lift_18 : decode m_Mo_lift.2.1 18 = .ok (.aload_n 0, 1) := by decide +kernel
theorem d_Mo_lift_19 : decode m_Mo_lift.2.1 19 = .ok (.getfield 26, 3) := by decide +kernel
theorem d_Mo_lift_22 : decode m_Mo_lift.2.1 22 = .ok (.iload_n 1, 1) := by decide +kernel
theorem d_Mo_lift_23 : decode m_Mo_lift.2.1 23 = .ok (.iload 4, 2) := by decide +kernel
theorem d_Mo_lift_25 : decode m_Mo_lift.2.1 25 = .ok (.iastore, 1) := by decide +kernel
theorem d_Mo_lift_26 : decode m_Mo_lift.2.1 26 = .ok (.iconst 0, 1) := by decide +kernel
theorem d_Mo_lift_27 : decode m_Mo_lift.2.1 27 = .ok (.istore 5, 2) := by decide +kernel
theorem d_Mo_lift_29 : decode m_Mo_lift.2.1 29 = .ok (.iload 5, 2) := by decide +kernel
theorem d_Mo_lift_31 : decode m_Mo_lift.2.1 31 = .ok (.iload 4, 2) := by decide +kernel
theorem d_Mo_lift_33 : decode m_Mo_lift.2.1 33 = .ok (.if_icmp .ge (30), 3) := by decide +kernel
theorem d_Mo_lift_36 : decode m_Mo_lift.2.1 36 = .ok (.aload_n 0, 1) := by decide +kernel
theorem d_Mo_lift_37 : decode m_Mo_lift.2.1 37 = .ok (.getfield 29, 3) := by decide +kernel
theorem d_Mo_lift_40 : decode m_Mo_lift.2.1 40 = .ok (.bipush (21), 2) := by decide +kernel
theorem d_Mo_lift_42 : decode m_Mo_lift.2.1 42 = .ok (.iload_n 1, 1) := by decide +kernel
theorem d_Mo_lift_43 : decode m_Mo_lift.2.1 43 = .ok (.imul, 1) := by decide +kernel
theorem d_Mo_lift_44 : decode m_Mo_lift.2.1 44 = .ok (.iload 5, 2) := by decide +kernel
theorem d_Mo_lift_46 : decode m_Mo_lift.2.1 46 = .ok (.iadd, 1) := by decide +kernel
theorem d_Mo_lift_47 : decode m_Mo_lift.2.1 47 = .ok (.aload_n 0, 1) := by decide +kernel
theorem d_Mo_lift_48 : decode m_Mo_lift.2.1 48 = .ok (.getfield 7, 3) := by decide +kernel
theorem d_Mo_lift_51 : decode m_Mo_lift.2.1 51 = .ok (.iload_n 2, 1) := by decide +kernel
theorem d_Mo_lift_52 : decode m_Mo_lift.2.1 52 = .ok (.iload 5, 2) := by decide +kernel
theorem d_Mo_lift_54 : decode m_Mo_lift.2.1 54 = .ok (.iadd, 1) := by decide +kernel
theorem d_Mo_lift_55 : decode m_Mo_lift.2.1 55 = .ok (.iaload, 1) := by decide +kernel
theorem d_Mo_lift_56 : decode m_Mo_lift.2.1 56 = .ok (.iastore, 1) := by decide +kernel
theorem d_Mo_lift_57 : decode m_Mo_lift.2.1 57 = .ok (.iinc 5 (1), 3) := by decide +kernel
theorem d_Mo_lift_60 : decode m_Mo_lift.2.1 60 = .ok (.goto (-31), 3) := by decide +kernel
theorem d_Mo_lift_63 : decode m_Mo_lift.2.1 63 = .ok (.return_, 1) := by decide +kernel
theorem d_Mo_isRangeNumber_0 : decode m_Mo_isRangeNumber.2.1 0 = .ok (.iload_n 1, 1) := by decide +kernel
theorem d_Mo_isRangeNumber_1 : decode m_Mo_isRangeNumber.2.1 1 = .ok (.ifCond .lt (24), 3) := by decide +kernel
theorem d_Mo_isRangeNumber_4 : decode m_Mo_isRangeNumber.2.1 4 = .ok (.iload_n 1, 1) := by decide +kernel
theorem d_Mo_isRangeNumber_5 : decode m_Mo_isRangeNumber.2.1 5 = .ok (.aload_n 0, 1) := by decide +kernel
theorem d_Mo_isRangeNumber_6 : decode m_Mo_isRangeNumber.2.1 6 = .ok (.getfield 203, 3) := by decide +kernel
theorem d_Mo_isRangeNumber_9 : decode m_Mo_isRangeNumber.2.1 9 = .ok (.if_icmp .gt (16), 3) := by decide +kernel
theorem d_Mo_isRangeNumber_12 : decode m_Mo_isRangeNumber.2.1 12 = .ok (.aload_n 0, 1) := by decide +kernel
theorem d_Mo_isRangeNumber_13 : decode m_Mo_isRangeNumber.2.1 13 = .ok (.getfield 13, 3) := by decide +kernel
theorem d_Mo_isRangeNumber_16 : decode m_Mo_isRangeNumber.2.1 16 = .ok (.iload_n 1, 1) := by decide +kernel
theorem d_Mo_isRangeNumber_17 : decode m_Mo_isRangeNumber.2.1 17 = .ok (.baload, 1) := by decide +kernel
theorem d_Mo_isRangeNumber_18 : decode m_Mo_isRangeNumber.2.1 18 = .ok (.ifCond .eq (7), 3) := by decide +kernel
theorem d_Mo_isRangeNumber_21 : decode m_Mo_isRangeNumber.2.1 21 = .ok (.iconst 1, 1) := by decide +kernel
theorem d_Mo_isRangeNumber_22 : decode m_Mo_isRangeNumber.2.1 22 = .ok (.goto (4), 3) := by decide +kernel
theorem d_Mo_isRangeNumber_25 : decode m_Mo_isRangeNumber.2.1 25 = .ok (.iconst 0, 1) := by decide +kernel
theorem d_Mo_isRangeNumber_26 : decode m_Mo_isRangeNumber.2.1 26 = .ok (.ireturn, 1) := by decide +kernel
theorem d_Mo_isPattern_0 : decode m_Mo_isPattern.2.1 0 = .ok (.aload_n 0, 1) := by decide +kernel
theorem d_Mo_isPattern_1 : decode m_Mo_isPattern.2.1 1 = .ok (.bipush (20), 2) := by decide +kernel
theorem d_Mo_isPattern_3 : decode m_Mo_isPattern.2.1 3 = .ok (.iload_n 1, 1) := by decide +kernel
theorem d_Mo_isPattern_4 : decode m_Mo_isPattern.2.1 4 = .ok (.iload_n 2, 1) := by decide +kernel
theorem d_Mo_isPattern_5 : decode m_Mo_isPattern.2.1 5 = .ok (.invokevirtual 251, 3) := by decide +kernel
theorem d_Mo_isPattern_8 : decode m_Mo_isPattern.2.1 8 = .ok (.aload_n 0, 1) := by decide +kernel
theorem d_Mo_isPattern_9 : decode m_Mo_isPattern.2.1 9 = .ok (.bipush (20), 2) := by decide +kernel
theorem d_Mo_isPattern_11 : decode m_Mo_isPattern.2.1 11 = .ok (.iload_n 3, 1) := by decide +kernel
theorem d_Mo_isPattern_12 : decode m_Mo_isPattern.2.1 12 = .ok (.invokevirtual 254, 3) := by decide +kernel
theorem d_Mo_isPattern_15 : decode m_Mo_isPattern.2.1 15 = .ok (.ireturn, 1) := by decide +kernel
theorem d_Mo_make_0 : decode m_Mo_make.2.1 0 = .ok (.aload_n 0, 1) := by decide +kernel
theorem d_Mo_make_1 : decode m_Mo_make.2.1 1 = .ok (.dup, 1) := by decide +kernel
theorem d_Mo_make_2 : decode m_Mo_make.2.1 2 = .ok (.getfield 203, 3) := by decide +kernel
theorem d_Mo_make_5 : decode m_Mo_make.2.1 5 = .ok (.iconst 1, 1) := by decide +kernel
theorem d_Mo_make_6 : decode m_Mo_make.2.1 6 = .ok (.iadd, 1) := by decide +kernel
theorem d_Mo_make_7 : decode m_Mo_make.2.1 7 = .ok (.putfield 203, 3) := by decide +kernel
theorem d_Mo_make_10 : decode m_Mo_make.2.1 10 = .ok (.aload_n 0, 1) := by decide +kernel
theorem d_Mo_make_11 : decode m_Mo_make.2.1 11 = .ok (.getfield 17, 3) := by decide +kernel
theorem d_Mo_make_14 : decode m_Mo_make.2.1 14 = .ok (.aload_n 0, 1) := by decide +kernel
theorem d_Mo_make_15 : decode m_Mo_make.2.1 15 = .ok (.getfield 203, 3) := by decide +kernel
theorem d_Mo_make_18 : decode m_Mo_make.2.1 18 = .ok (.iload_n 1, 1) := by decide +kernel
theorem d_Mo_make_19 : decode m_Mo_make.2.1 19 = .ok (.iastore, 1) := by decide +kernel
theorem d_Mo_make_20 : decode m_Mo_make.2.1 20 = .ok (.aload_n 0, 1) := by decide +kernel
theorem d_Mo_make_21 : decode m_Mo_make.2.1 21 = .ok (.getfield 20, 3) := by decide +kernel
theorem d_Mo_make_24 : decode m_Mo_make.2.1 24 = .ok (.aload_n 0, 1) := by decide +kernel
theorem d_Mo_make_25 : decode m_Mo_make.2.1 25 = .ok (.getfield 203, 3) := by decide +kernel
theorem d_Mo_make_28 : decode m_Mo_make.2.1 28 = .ok (.iload_n 2, 1) := by decide +kernel
theorem d_Mo_make_29 : decode m_Mo_make.2.1 29 = .ok (.iastore, 1) := by decide +kernel
theorem d_Mo_make_30 : decode m_Mo_make.2.1 30 = .ok (.aload_n 0, 1) := by decide +kernel
theorem d_Mo_make_31 : decode m_Mo_make.2.1 31 = .ok (.getfield 13, 3) := by decide +kernel
theorem d_Mo_make_34 : decode m_Mo_make.2.1 34 = .ok (.aload_n 0, 1) := by decide +kernel
theorem d_Mo_make_35 : decode m_Mo_make.2.1 35 = .ok (.getfield 203, 3) := by decide +kernel
theorem d_Mo_make_38 : decode m_Mo_make.2.1 38 = .ok (.iload_n 3, 1) := by decide +kernel
theorem d_Mo_make_39 : decode m_Mo_make.2.1 39 = .ok (.bastore, 1) := by decide +kernel
theorem d_Mo_make_40 : decode m_Mo_make.2.1 40 = .ok (.aload_n 0, 1) := by decide +kernel
theorem d_Mo_make_41 : decode m_Mo_make.2.1 41 = .ok (.iconst 2, 1) := by decide +kernel
theorem d_Mo_make_42 : decode m_Mo_make.2.1 42 = .ok (.aload_n 0, 1) := by decide +kernel
theorem d_Mo_make_43 : decode m_Mo_make.2.1 43 = .ok (.getfield 203, 3) := by decide +kernel
theorem d_Mo_make_46 : decode m_Mo_make.2.1 46 = .ok (.imul, 1) := by decide +kernel
theorem d_Mo_make_47 : decode m_Mo_make.2.1 47 = .ok (.iconst 0, 1) := by decide +kernel
theorem d_Mo_make_48 : decode m_Mo_make.2.1 48 = .ok (.iload 4, 2) := by decide +kernel
theorem d_Mo_make_50 : decode m_Mo_make.2.1 50 = .ok (.invokevirtual 251, 3) := by decide +kernel
theorem d_Mo_make_53 : decode m_Mo_make.2.1 53 = .ok (.aload_n 0, 1) := by decide +kernel
theorem d_Mo_make_54 : decode m_Mo_make.2.1 54 = .ok (.iconst 2, 1) := by decide +kernel
theorem d_Mo_make_55 : decode m_Mo_make.2.1 55 = .ok (.aload_n 0, 1) := by decide +kernel
theorem d_Mo_make_56 : decode m_Mo_make.2.1 56 = .ok (.getfield 203, 3) := by decide +kernel
theorem d_Mo_make_59 : decode m_Mo_make.2.1 59 = .ok (.imul, 1) := by decide +kernel
theorem d_Mo_make_60 : decode m_Mo_make.2.1 60 = .ok (.iconst 0, 1) := by decide +kernel
theorem d_Mo_make_61 : decode m_Mo_make.2.1 61 = .ok (.invokevirtual 254, 3) := by decide +kernel
theorem d_Mo_make_64 : decode m_Mo_make.2.1 64 = .ok (.istore 5, 2) := by decide +kernel
theorem d_Mo_make_66 : decode m_Mo_make.2.1 66 = .ok (.iload_n 3, 1) := by decide +kernel
theorem d_Mo_make_67 : decode m_Mo_make.2.1 67 = .ok (.ifCond .eq (38), 3) := by decide +kernel
theorem d_Mo_make_70 : decode m_Mo_make.2.1 70 = .ok (.aload_n 0, 1) := by decide +kernel
theorem d_Mo_make_71 : decode m_Mo_make.2.1 71 = .ok (.iconst 2, 1) := by decide +kernel
theorem d_Mo_make_72 : decode m_Mo_make.2.1 72 = .ok (.aload_n 0, 1) := by decide +kernel
theorem d_Mo_make_73 : decode m_Mo_make.2.1 73 = .ok (.getfield 203, 3) := by decide +kernel
theorem d_Mo_make_76 : decode m_Mo_make.2.1 76 = .ok (.imul, 1) := by decide +kernel
theorem d_Mo_make_77 : decode m_Mo_make.2.1 77 = .ok (.iconst 1, 1) := by decide +kernel
theorem d_Mo_make_78 : decode m_Mo_make.2.1 78 = .ok (.iadd, 1) := by decide +kernel
theorem d_Mo_make_79 : decode m_Mo_make.2.1 79 = .ok (.iload 4, 2) := by decide +kernel
theorem d_Mo_make_81 : decode m_Mo_make.2.1 81 = .ok (.iconst 1, 1) := by decide +kernel
theorem d_Mo_make_82 : decode m_Mo_make.2.1 82 = .ok (.iadd, 1) := by decide +kernel
theorem d_Mo_make_83 : decode m_Mo_make.2.1 83 = .ok (.aload_n 0, 1) := by decide +kernel
theorem d_Mo_make_84 : decode m_Mo_make.2.1 84 = .ok (.getfield 129, 3) := by decide +kernel
theorem d_Mo_make_87 : decode m_Mo_make.2.1 87 = .ok (.invokevirtual 251, 3) := by decide +kernel
theorem d_Mo_make_90 : decode m_Mo_make.2.1 90 = .ok (.aload_n 0, 1) := by decide +kernel
theorem d_Mo_make_91 : decode m_Mo_make.2.1 91 = .ok (.iconst 2, 1) := by decide +kernel
theorem d_Mo_make_92 : decode m_Mo_make.2.1 92 = .ok (.aload_n 0, 1) := by decide +kernel
theorem d_Mo_make_93 : decode m_Mo_make.2.1 93 = .ok (.getfield 203, 3) := by decide +kernel
theorem d_Mo_make_96 : decode m_Mo_make.2.1 96 = .ok (.imul, 1) := by decide +kernel
theorem d_Mo_make_97 : decode m_Mo_make.2.1 97 = .ok (.iconst 1, 1) := by decide +kernel
theorem d_Mo_make_98 : decode m_Mo_make.2.1 98 = .ok (.iadd, 1) := by decide +kernel
theorem d_Mo_make_99 : decode m_Mo_make.2.1 99 = .ok (.iconst 1, 1) := by decide +kernel
theorem d_Mo_make_100 : decode m_Mo_make.2.1 100 = .ok (.invokevirtual 254, 3) := by decide +kernel
theorem d_Mo_make_103 : decode m_Mo_make.2.1 103 = .ok (.istore 5, 2) := by decide +kernel
theorem d_Mo_make_105 : decode m_Mo_make.2.1 105 = .ok (.aload_n 0, 1) := by decide +kernel
theorem d_Mo_make_106 : decode m_Mo_make.2.1 106 = .ok (.iconst 0, 1) := by decide +kernel
theorem d_Mo_make_107 : decode m_Mo_make.2.1 107 = .ok (.putfield 129, 3) := by decide +kernel
theorem d_Mo_make_110 : decode m_Mo_make.2.1 110 = .ok (.aload_n 0, 1) := by decide +kernel
theorem d_Mo_make_111 : decode m_Mo_make.2.1 111 = .ok (.invokevirtual 258, 3) := by decide +kernel
theorem d_Mo_make_114 : decode m_Mo_make.2.1 114 = .ok (.aload_n 0, 1) := by decide +kernel
theorem d_Mo_make_115 : decode m_Mo_make.2.1 115 = .ok (.getfield 203, 3) := by decide +kernel
theorem d_Mo_make_118 : decode m_Mo_make.2.1 118 = .ok (.ireturn, 1) := by decide +kernel
theorem d_Mo_piece_0 : decode m_Mo_piece.2.1 0 = .ok (.aload_n 0, 1) := by decide +kernel
theorem d_Mo_piece_1 : decode m_Mo_piece.2.1 1 = .ok (.iload_n 1, 1) := by decide +kernel
theorem d_Mo_piece_2 : decode m_Mo_piece.2.1 2 = .ok (.invokevirtual 261, 3) := by decide +kernel
theorem d_Mo_piece_5 : decode m_Mo_piece.2.1 5 = .ok (.ifCond .eq (14), 3) := by decide +kernel
theorem d_Mo_piece_8 : decode m_Mo_piece.2.1 8 = .ok (.iload_n 2, 1) := by decide +kernel
theorem d_Mo_piece_9 : decode m_Mo_piece.2.1 9 = .ok (.iconst 1, 1) := by decide +kernel
theorem d_Mo_piece_10 : decode m_Mo_piece.2.1 10 = .ok (.if_icmp .lt (9), 3) := by decide +kernel
theorem d_Mo_piece_13 : decode m_Mo_piece.2.1 13 = .ok (.iload_n 2, 1) := by decide +kernel
theorem d_Mo_piece_14 : decode m_Mo_piece.2.1 14 = .ok (.bipush (99), 2) := by decide +kernel
theorem d_Mo_piece_16 : decode m_Mo_piece.2.1 16 = .ok (.if_icmp .le (5), 3) := by decide +kernel
theorem d_Mo_piece_19 : decode m_Mo_piece.2.1 19 = .ok (.iconst (-1), 1) := by decide +kernel
theorem d_Mo_piece_20 : decode m_Mo_piece.2.1 20 = .ok (.ireturn, 1) := by decide +kernel
theorem d_Mo_piece_21 : decode m_Mo_piece.2.1 21 = .ok (.aload_n 0, 1) := by decide +kernel
theorem d_Mo_piece_22 : decode m_Mo_piece.2.1 22 = .ok (.iconst 0, 1) := by decide +kernel
theorem d_Mo_piece_23 : decode m_Mo_piece.2.1 23 = .ok (.aload_n 0, 1) := by decide +kernel
theorem d_Mo_piece_24 : decode m_Mo_piece.2.1 24 = .ok (.getfield 129, 3) := by decide +kernel
theorem d_Mo_piece_27 : decode m_Mo_piece.2.1 27 = .ok (.iconst 0, 1) := by decide +kernel
theorem d_Mo_piece_28 : decode m_Mo_piece.2.1 28 = .ok (.invokevirtual 264, 3) := by decide +kernel
theorem d_Mo_piece_31 : decode m_Mo_piece.2.1 31 = .ok (.ifCond .ne (6), 3) := by decide +kernel
theorem d_Mo_piece_34 : decode m_Mo_piece.2.1 34 = .ok (.bipush (-2), 2) := by decide +kernel
theorem d_Mo_piece_36 : decode m_Mo_piece.2.1 36 = .ok (.ireturn, 1) := by decide +kernel
theorem d_Mo_piece_37 : decode m_Mo_piece.2.1 37 = .ok (.aload_n 0, 1) := by decide +kernel
theorem d_Mo_piece_38 : decode m_Mo_piece.2.1 38 = .ok (.getfield 203, 3) := by decide +kernel
theorem d_Mo_piece_41 : decode m_Mo_piece.2.1 41 = .ok (.bipush (9), 2) := by decide +kernel
theorem d_Mo_piece_43 : decode m_Mo_piece.2.1 43 = .ok (.if_icmp .ne (8), 3) := by decide +kernel
theorem d_Mo_piece_46 : decode m_Mo_piece.2.1 46 = .ok (.bipush (-3), 2) := by decide +kernel
theorem d_Mo_piece_48 : decode m_Mo_piece.2.1 48 = .ok (.goto (14), 3) := by decide +kernel
theorem d_Mo_piece_51 : decode m_Mo_piece.2.1 51 = .ok (.aload_n 0, 1) := by decide +kernel
theorem d_Mo_piece_52 : decode m_Mo_piece.2.1 52 = .ok (.iload_n 1, 1) := by decide +kernel
theorem d_Mo_piece_53 : decode m_Mo_piece.2.1 53 = .ok (.iload_n 2, 1) := by decide +kernel
theorem d_Mo_piece_54 : decode m_Mo_piece.2.1 54 = .ok (.iconst 0, 1) := by decide +kernel
theorem d_Mo_piece_55 : decode m_Mo_piece.2.1 55 = .ok (.aload_n 0, 1) := by decide +kernel
theorem d_Mo_piece_56 : decode m_Mo_piece.2.1 56 = .ok (.getfield 129, 3) := by decide +kernel
theorem d_Mo_piece_59 : decode m_Mo_piece.2.1 59 = .ok (.invokevirtual 268, 3) := by decide +kernel
theorem d_Mo_piece_62 : decode m_Mo_piece.2.1 62 = .ok (.ireturn, 1) := by decide +kernel
theorem d_Mo_range_0 : decode m_Mo_range.2.1 0 = .ok (.aload_n 0, 1) := by decide +kernel
theorem d_Mo_range_1 : decode m_Mo_range.2.1 1 = .ok (.iload_n 1, 1) := by decide +kernel
theorem d_Mo_range_2 : decode m_Mo_range.2.1 2 = .ok (.invokevirtual 261, 3) := by decide +kernel
theorem d_Mo_range_5 : decode m_Mo_range.2.1 5 = .ok (.ifCond .eq (14), 3) := by decide +kernel
theorem d_Mo_range_8 : decode m_Mo_range.2.1 8 = .ok (.iload_n 2, 1) := by decide +kernel
theorem d_Mo_range_9 : decode m_Mo_range.2.1 9 = .ok (.iconst 1, 1) := by decide +kernel
theorem d_Mo_range_10 : decode m_Mo_range.2.1 10 = .ok (.if_icmp .lt (9), 3) := by decide +kernel
theorem d_Mo_range_13 : decode m_Mo_range.2.1 13 = .ok (.iload_n 2, 1) := by decide +kernel
theorem d_Mo_range_14 : decode m_Mo_range.2.1 14 = .ok (.bipush (99), 2) := by decide +kernel
theorem d_Mo_range_16 : decode m_Mo_range.2.1 16 = .ok (.if_icmp .le (5), 3) := by decide +kernel
theorem d_Mo_range_19 : decode m_Mo_range.2.1 19 = .ok (.iconst (-1), 1) := by decide +kernel
theorem d_Mo_range_20 : decode m_Mo_range.2.1 20 = .ok (.ireturn, 1) := by decide +kernel
theorem d_Mo_range_21 : decode m_Mo_range.2.1 21 = .ok (.iconst 0, 1) := by decide +kernel
theorem d_Mo_range_22 : decode m_Mo_range.2.1 22 = .ok (.istore_n 3, 1) := by decide +kernel
theorem d_Mo_range_23 : decode m_Mo_range.2.1 23 = .ok (.iload_n 3, 1) := by decide +kernel
theorem d_Mo_range_24 : decode m_Mo_range.2.1 24 = .ok (.aload_n 0, 1) := by decide +kernel
theorem d_Mo_range_25 : decode m_Mo_range.2.1 25 = .ok (.getfield 129, 3) := by decide +kernel
theorem d_Mo_range_28 : decode m_Mo_range.2.1 28 = .ok (.if_icmp .ge (20), 3) := by decide +kernel
theorem d_Mo_range_31 : decode m_Mo_range.2.1 31 = .ok (.aload_n 0, 1) := by decide +kernel
theorem d_Mo_range_32 : decode m_Mo_range.2.1 32 = .ok (.getfield 7, 3) := by decide +kernel
theorem d_Mo_range_35 : decode m_Mo_range.2.1 35 = .ok (.iload_n 3, 1) := by decide +kernel
theorem d_Mo_range_36 : decode m_Mo_range.2.1 36 = .ok (.iaload, 1) := by decide +kernel
theorem d_Mo_range_37 : decode m_Mo_range.2.1 37 = .ok (.bipush (32), 2) := by decide +kernel
theorem d_Mo_range_39 : decode m_Mo_range.2.1 39 = .ok (.if_icmp .eq (9), 3) := by decide +kernel
theorem d_Mo_range_42 : decode m_Mo_range.2.1 42 = .ok (.iinc 3 (1), 3) := by decide +kernel
theorem d_Mo_range_45 : decode m_Mo_range.2.1 45 = .ok (.goto (-22), 3) := by decide +kernel
theorem d_Mo_range_48 : decode m_Mo_range.2.1 48 = .ok (.iload_n 3, 1) := by decide +kernel
theorem d_Mo_range_49 : decode m_Mo_range.2.1 49 = .ok (.aload_n 0, 1) := by decide +kernel
theorem d_Mo_range_50 : decode m_Mo_range.2.1 50 = .ok (.getfield 129, 3) := by decide +kernel
theorem d_Mo_range_53 : decode m_Mo_range.2.1 53 = .ok (.if_icmp .eq (28), 3) := by decide +kernel
theorem d_Mo_range_56 : decode m_Mo_range.2.1 56 = .ok (.aload_n 0, 1) := by decide +kernel
theorem d_Mo_range_57 : decode m_Mo_range.2.1 57 = .ok (.iconst 0, 1) := by decide +kernel
theorem d_Mo_range_58 : decode m_Mo_range.2.1 58 = .ok (.iload_n 3, 1) := by decide +kernel
theorem d_Mo_range_59 : decode m_Mo_range.2.1 59 = .ok (.iconst 0, 1) := by decide +kernel
theorem d_Mo_range_60 : decode m_Mo_range.2.1 60 = .ok (.invokevirtual 264, 3) := by decide +kernel
theorem d_Mo_range_63 : decode m_Mo_range.2.1 63 = .ok (.ifCond .eq (18), 3) := by decide +kernel
theorem d_Mo_range_66 : decode m_Mo_range.2.1 66 = .ok (.aload_n 0, 1) := by decide +kernel
theorem d_Mo_range_67 : decode m_Mo_range.2.1 67 = .ok (.iload_n 3, 1) := by decide +kernel
theorem d_Mo_range_68 : decode m_Mo_range.2.1 68 = .ok (.iconst 1, 1) := by decide +kernel
theorem d_Mo_range_69 : decode m_Mo_range.2.1 69 = .ok (.iadd, 1) := by decide +kernel
theorem d_Mo_range_70 : decode m_Mo_range.2.1 70 = .ok (.aload_n 0, 1) := by decide +kernel
theorem d_Mo_range_71 : decode m_Mo_range.2.1 71 = .ok (.getfield 129, 3) := by decide +kernel
theorem d_Mo_range_74 : decode m_Mo_range.2.1 74 = .ok (.iconst 1, 1) := by decide +kernel
theorem d_Mo_range_75 : decode m_Mo_range.2.1 75 = .ok (.invokevirtual 264, 3) := by decide +kernel
theorem d_Mo_range_78 : decode m_Mo_range.2.1 78 = .ok (.ifCond .ne (6), 3) := by decide +kernel
theorem d_Mo_range_81 : decode m_Mo_range.2.1 81 = .ok (.bipush (-2), 2) := by decide +kernel
theorem d_Mo_range_83 : decode m_Mo_range.2.1 83 = .ok (.ireturn, 1) := by decide +kernel
theorem d_Mo_range_84 : decode m_Mo_range.2.1 84 = .ok (.aload_n 0, 1) := by decide +kernel
theorem d_Mo_range_85 : decode m_Mo_range.2.1 85 = .ok (.getfield 203, 3) := by decide +kernel
theorem d_Mo_range_88 : decode m_Mo_range.2.1 88 = .ok (.bipush (9), 2) := by decide +kernel
theorem d_Mo_range_90 : decode m_Mo_range.2.1 90 = .ok (.if_icmp .ne (8), 3) := by decide +kernel
theorem d_Mo_range_93 : decode m_Mo_range.2.1 93 = .ok (.bipush (-3), 2) := by decide +kernel
theorem d_Mo_range_95 : decode m_Mo_range.2.1 95 = .ok (.goto (11), 3) := by decide +kernel
theorem d_Mo_range_98 : decode m_Mo_range.2.1 98 = .ok (.aload_n 0, 1) := by decide +kernel
theorem d_Mo_range_99 : decode m_Mo_range.2.1 99 = .ok (.iload_n 1, 1) := by decide +kernel
theorem d_Mo_range_100 : decode m_Mo_range.2.1 100 = .ok (.iload_n 2, 1) := by decide +kernel
theorem d_Mo_range_101 : decode m_Mo_range.2.1 101 = .ok (.iconst 1, 1) := by decide +kernel
theorem d_Mo_range_102 : decode m_Mo_range.2.1 102 = .ok (.iload_n 3, 1) := by decide +kernel
theorem d_Mo_range_103 : decode m_Mo_range.2.1 103 = .ok (.invokevirtual 268, 3) := by decide +kernel
theorem d_Mo_range_106 : decode m_Mo_range.2.1 106 = .ok (.ireturn, 1) := by decide +kernel
