/-! Instructions -/
theorem d_Mo_include_0 : decode m_Mo_include.2.1 0 = .ok (.aload_n 0, 1) := by decide +kernel
theorem d_Mo_include_1 : decode m_Mo_include.2.1 1 = .ok (.iload_n 1, 1) := by decide +kernel
theorem d_Mo_include_2 : decode m_Mo_include.2.1 2 = .ok (.invokevirtual 261, 3) := by decide +kernel
theorem d_Mo_include_5 : decode m_Mo_include.2.1 5 = .ok (.ifCond .eq (11), 3) := by decide +kernel
theorem d_Mo_include_8 : decode m_Mo_include.2.1 8 = .ok (.aload_n 0, 1) := by decide +kernel
theorem d_Mo_include_9 : decode m_Mo_include.2.1 9 = .ok (.iload_n 2, 1) := by decide +kernel
theorem d_Mo_include_10 : decode m_Mo_include.2.1 10 = .ok (.invokevirtual 261, 3) := by decide +kernel
theorem d_Mo_include_13 : decode m_Mo_include.2.1 13 = .ok (.ifCond .ne (5), 3) := by decide +kernel
theorem d_Mo_include_16 : decode m_Mo_include.2.1 16 = .ok (.iconst 0, 1) := by decide +kernel
theorem d_Mo_include_17 : decode m_Mo_include.2.1 17 = .ok (.ireturn, 1) := by decide +kernel
theorem d_Mo_include_18 : decode m_Mo_include.2.1 18 = .ok (.aload_n 0, 1) := by decide +kernel
theorem d_Mo_include_19 : decode m_Mo_include.2.1 19 = .ok (.getfield 23, 3) := by decide +kernel
theorem d_Mo_include_22 : decode m_Mo_include.2.1 22 = .ok (.iload_n 1, 1) := by decide +kernel
theorem d_Mo_include_23 : decode m_Mo_include.2.1 23 = .ok (.iaload, 1) := by decide +kernel
theorem d_Mo_include_24 : decode m_Mo_include.2.1 24 = .ok (.iload_n 2, 1) := by decide +kernel
theorem d_Mo_include_25 : decode m_Mo_include.2.1 25 = .ok (.if_icmp .ne (5), 3) := by decide +kernel
theorem d_Mo_include_28 : decode m_Mo_include.2.1 28 = .ok (.iconst 0, 1) := by decide +kernel
theorem d_Mo_include_29 : decode m_Mo_include.2.1 29 = .ok (.ireturn, 1) := by decide +kernel
theorem d_Mo_include_30 : decode m_Mo_include.2.1 30 = .ok (.aload_n 0, 1) := by decide +kernel
theorem d_Mo_include_31 : decode m_Mo_include.2.1 31 = .ok (.getfield 23, 3) := by decide +kernel
theorem d_Mo_include_34 : decode m_Mo_include.2.1 34 = .ok (.iload_n 1, 1) := by decide +kernel
theorem d_Mo_include_35 : decode m_Mo_include.2.1 35 = .ok (.iload_n 2, 1) := by decide +kernel
theorem d_Mo_include_36 : decode m_Mo_include.2.1 36 = .ok (.iastore, 1) := by decide +kernel
theorem d_Mo_include_37 : decode m_Mo_include.2.1 37 = .ok (.aload_n 0, 1) := by decide +kernel
theorem d_Mo_include_38 : decode m_Mo_include.2.1 38 = .ok (.invokevirtual 258, 3) := by decide +kernel
theorem d_Mo_include_41 : decode m_Mo_include.2.1 41 = .ok (.iconst 1, 1) := by decide +kernel
theorem d_Mo_include_42 : decode m_Mo_include.2.1 42 = .ok (.ireturn, 1) := by decide +kernel
theorem d_Mo_theme_0 : decode m_Mo_theme.2.1 0 = .ok (.iload_n 1, 1) := by decide +kernel
theorem d_Mo_theme_1 : decode m_Mo_theme.2.1 1 = .ok (.iconst 1, 1) := by decide +kernel
theorem d_Mo_theme_2 : decode m_Mo_theme.2.1 2 = .ok (.if_icmp .lt (40), 3) := by decide +kernel
theorem d_Mo_theme_5 : decode m_Mo_theme.2.1 5 = .ok (.iload_n 1, 1) := by decide +kernel
theorem d_Mo_theme_6 : decode m_Mo_theme.2.1 6 = .ok (.bipush (99), 2) := by decide +kernel
theorem d_Mo_theme_8 : decode m_Mo_theme.2.1 8 = .ok (.if_icmp .gt (34), 3) := by decide +kernel
theorem d_Mo_theme_11 : decode m_Mo_theme.2.1 11 = .ok (.iload_n 2, 1) := by decide +kernel
theorem d_Mo_theme_12 : decode m_Mo_theme.2.1 12 = .ok (.ifCond .lt (30), 3) := by decide +kernel
theorem d_Mo_theme_15 : decode m_Mo_theme.2.1 15 = .ok (.iload_n 2, 1) := by decide +kernel
theorem d_Mo_theme_16 : decode m_Mo_theme.2.1 16 = .ok (.bipush (99), 2) := by decide +kernel
theorem d_Mo_theme_18 : decode m_Mo_theme.2.1 18 = .ok (.if_icmp .gt (24), 3) := by decide +kernel
theorem d_Mo_theme_21 : decode m_Mo_theme.2.1 21 = .ok (.iload_n 3, 1) := by decide +kernel
theorem d_Mo_theme_22 : decode m_Mo_theme.2.1 22 = .ok (.iconst 1, 1) := by decide +kernel
theorem d_Mo_theme_23 : decode m_Mo_theme.2.1 23 = .ok (.if_icmp .lt (19), 3) := by decide +kernel
theorem d_Mo_theme_26 : decode m_Mo_theme.2.1 26 = .ok (.iload_n 3, 1) := by decide +kernel
theorem d_Mo_theme_27 : decode m_Mo_theme.2.1 27 = .ok (.sipush (255), 3) := by decide +kernel
theorem d_Mo_theme_30 : decode m_Mo_theme.2.1 30 = .ok (.if_icmp .gt (12), 3) := by decide +kernel
theorem d_Mo_theme_33 : decode m_Mo_theme.2.1 33 = .ok (.aload_n 0, 1) := by decide +kernel
theorem d_Mo_theme_34 : decode m_Mo_theme.2.1 34 = .ok (.getfield 272, 3) := by decide +kernel
theorem d_Mo_theme_37 : decode m_Mo_theme.2.1 37 = .ok (.bipush (6), 2) := by decide +kernel
theorem d_Mo_theme_39 : decode m_Mo_theme.2.1 39 = .ok (.if_icmp .ne (5), 3) := by decide +kernel
theorem d_Mo_theme_42 : decode m_Mo_theme.2.1 42 = .ok (.iconst 0, 1) := by decide +kernel
theorem d_Mo_theme_43 : decode m_Mo_theme.2.1 43 = .ok (.ireturn, 1) := by decide +kernel
theorem d_Mo_theme_44 : decode m_Mo_theme.2.1 44 = .ok (.aload_n 0, 1) := by decide +kernel
theorem d_Mo_theme_45 : decode m_Mo_theme.2.1 45 = .ok (.getfield 116, 3) := by decide +kernel
theorem d_Mo_theme_48 : decode m_Mo_theme.2.1 48 = .ok (.aload_n 0, 1) := by decide +kernel
theorem d_Mo_theme_49 : decode m_Mo_theme.2.1 49 = .ok (.getfield 272, 3) := by decide +kernel
theorem d_Mo_theme_52 : decode m_Mo_theme.2.1 52 = .ok (.iload_n 1, 1) := by decide +kernel
theorem d_Mo_theme_53 : decode m_Mo_theme.2.1 53 = .ok (.iastore, 1) := by decide +kernel
theorem d_Mo_theme_54 : decode m_Mo_theme.2.1 54 = .ok (.aload_n 0, 1) := by decide +kernel
theorem d_Mo_theme_55 : decode m_Mo_theme.2.1 55 = .ok (.getfield 119, 3) := by decide +kernel
theorem d_Mo_theme_58 : decode m_Mo_theme.2.1 58 = .ok (.aload_n 0, 1) := by decide +kernel
theorem d_Mo_theme_59 : decode m_Mo_theme.2.1 59 = .ok (.getfield 272, 3) := by decide +kernel
theorem d_Mo_theme_62 : decode m_Mo_theme.2.1 62 = .ok (.iload_n 2, 1) := by decide +kernel
theorem d_Mo_theme_63 : decode m_Mo_theme.2.1 63 = .ok (.iastore, 1) := by decide +kernel
theorem d_Mo_theme_64 : decode m_Mo_theme.2.1 64 = .ok (.aload_n 0, 1) := by decide +kernel
theorem d_Mo_theme_65 : decode m_Mo_theme.2.1 65 = .ok (.getfield 122, 3) := by decide +kernel
theorem d_Mo_theme_68 : decode m_Mo_theme.2.1 68 = .ok (.aload_n 0, 1) := by decide +kernel
theorem d_Mo_theme_69 : decode m_Mo_theme.2.1 69 = .ok (.getfield 272, 3) := by decide +kernel
theorem d_Mo_theme_72 : decode m_Mo_theme.2.1 72 = .ok (.iload_n 3, 1) := by decide +kernel
theorem d_Mo_theme_73 : decode m_Mo_theme.2.1 73 = .ok (.iastore, 1) := by decide +kernel
theorem d_Mo_theme_74 : decode m_Mo_theme.2.1 74 = .ok (.aload_n 0, 1) := by decide +kernel
theorem d_Mo_theme_75 : decode m_Mo_theme.2.1 75 = .ok (.dup, 1) := by decide +kernel
theorem d_Mo_theme_76 : decode m_Mo_theme.2.1 76 = .ok (.getfield 272, 3) := by decide +kernel
theorem d_Mo_theme_79 : decode m_Mo_theme.2.1 79 = .ok (.iconst 1, 1) := by decide +kernel
theorem d_Mo_theme_80 : decode m_Mo_theme.2.1 80 = .ok (.iadd, 1) := by decide +kernel
theorem d_Mo_theme_81 : decode m_Mo_theme.2.1 81 = .ok (.putfield 272, 3) := by decide +kernel
theorem d_Mo_theme_84 : decode m_Mo_theme.2.1 84 = .ok (.iconst 1, 1) := by decide +kernel
theorem d_Mo_theme_85 : decode m_Mo_theme.2.1 85 = .ok (.ireturn, 1) := by decide +kernel
theorem d_Mo_put_0 : decode m_Mo_put.2.1 0 = .ok (.iload_n 1, 1) := by decide +kernel
theorem d_Mo_put_1 : decode m_Mo_put.2.1 1 = .ok (.ifCond .lt (11), 3) := by decide +kernel
theorem d_Mo_put_4 : decode m_Mo_put.2.1 4 = .ok (.iload_n 1, 1) := by decide +kernel
theorem d_Mo_put_5 : decode m_Mo_put.2.1 5 = .ok (.aload_n 0, 1) := by decide +kernel
theorem d_Mo_put_6 : decode m_Mo_put.2.1 6 = .ok (.getfield 242, 3) := by decide +kernel
theorem d_Mo_put_9 : decode m_Mo_put.2.1 9 = .ok (.if_icmp .le (5), 3) := by decide +kernel
theorem d_Mo_put_12 : decode m_Mo_put.2.1 12 = .ok (.iconst (-1), 1) := by decide +kernel
theorem d_Mo_put_13 : decode m_Mo_put.2.1 13 = .ok (.ireturn, 1) := by decide +kernel
theorem d_Mo_put_14 : decode m_Mo_put.2.1 14 = .ok (.aload_n 0, 1) := by decide +kernel
theorem d_Mo_put_15 : decode m_Mo_put.2.1 15 = .ok (.getfield 129, 3) := by decide +kernel
theorem d_Mo_put_18 : decode m_Mo_put.2.1 18 = .ok (.bipush (24), 2) := by decide +kernel
theorem d_Mo_put_20 : decode m_Mo_put.2.1 20 = .ok (.if_icmp .le (6), 3) := by decide +kernel
theorem d_Mo_put_23 : decode m_Mo_put.2.1 23 = .ok (.bipush (-2), 2) := by decide +kernel
theorem d_Mo_put_25 : decode m_Mo_put.2.1 25 = .ok (.ireturn, 1) := by decide +kernel
theorem d_Mo_put_26 : decode m_Mo_put.2.1 26 = .ok (.iload_n 1, 1) := by decide +kernel
theorem d_Mo_put_27 : decode m_Mo_put.2.1 27 = .ok (.bipush (6), 2) := by decide +kernel
theorem d_Mo_put_29 : decode m_Mo_put.2.1 29 = .ok (.if_icmp .ne (6), 3) := by decide +kernel
theorem d_Mo_put_32 : decode m_Mo_put.2.1 32 = .ok (.bipush (-3), 2) := by decide +kernel
theorem d_Mo_put_34 : decode m_Mo_put.2.1 34 = .ok (.ireturn, 1) := by decide +kernel
theorem d_Mo_put_35 : decode m_Mo_put.2.1 35 = .ok (.iload_n 1, 1) := by decide +kernel
theorem d_Mo_put_36 : decode m_Mo_put.2.1 36 = .ok (.aload_n 0, 1) := by decide +kernel
theorem d_Mo_put_37 : decode m_Mo_put.2.1 37 = .ok (.getfield 242, 3) := by decide +kernel
theorem d_Mo_put_40 : decode m_Mo_put.2.1 40 = .ok (.if_icmp .ne (20), 3) := by decide +kernel
theorem d_Mo_put_43 : decode m_Mo_put.2.1 43 = .ok (.aload_n 0, 1) := by decide +kernel
theorem d_Mo_put_44 : decode m_Mo_put.2.1 44 = .ok (.dup, 1) := by decide +kernel
theorem d_Mo_put_45 : decode m_Mo_put.2.1 45 = .ok (.getfield 242, 3) := by decide +kernel
theorem d_Mo_put_48 : decode m_Mo_put.2.1 48 = .ok (.iconst 1, 1) := by decide +kernel
theorem d_Mo_put_49 : decode m_Mo_put.2.1 49 = .ok (.iadd, 1) := by decide +kernel
theorem d_Mo_put_50 : decode m_Mo_put.2.1 50 = .ok (.putfield 242, 3) := by decide +kernel
theorem d_Mo_put_53 : decode m_Mo_put.2.1 53 = .ok (.aload_n 0, 1) := by decide +kernel
theorem d_Mo_put_54 : decode m_Mo_put.2.1 54 = .ok (.getfield 98, 3) := by decide +kernel
theorem d_Mo_put_57 : decode m_Mo_put.2.1 57 = .ok (.iload_n 1, 1) := by decide +kernel
theorem d_Mo_put_58 : decode m_Mo_put.2.1 58 = .ok (.iconst (-1), 1) := by decide +kernel
theorem d_Mo_put_59 : decode m_Mo_put.2.1 59 = .ok (.iastore, 1) := by decide +kernel
theorem d_Mo_put_60 : decode m_Mo_put.2.1 60 = .ok (.aload_n 0, 1) := by decide +kernel
theorem d_Mo_put_61 : decode m_Mo_put.2.1 61 = .ok (.getfield 77, 3) := by decide +kernel
theorem d_Mo_put_64 : decode m_Mo_put.2.1 64 = .ok (.iload_n 1, 1) := by decide +kernel
theorem d_Mo_put_65 : decode m_Mo_put.2.1 65 = .ok (.aload_n 0, 1) := by decide +kernel
theorem d_Mo_put_66 : decode m_Mo_put.2.1 66 = .ok (.getfield 129, 3) := by decide +kernel
theorem d_Mo_put_69 : decode m_Mo_put.2.1 69 = .ok (.iastore, 1) := by decide +kernel
theorem d_Mo_put_70 : decode m_Mo_put.2.1 70 = .ok (.iconst 0, 1) := by decide +kernel
theorem d_Mo_put_71 : decode m_Mo_put.2.1 71 = .ok (.istore_n 2, 1) := by decide +kernel
theorem d_Mo_put_72 : decode m_Mo_put.2.1 72 = .ok (.iload_n 2, 1) := by decide +kernel
theorem d_Mo_put_73 : decode m_Mo_put.2.1 73 = .ok (.aload_n 0, 1) := by decide +kernel
theorem d_Mo_put_74 : decode m_Mo_put.2.1 74 = .ok (.getfield 129, 3) := by decide +kernel
theorem d_Mo_put_77 : decode m_Mo_put.2.1 77 = .ok (.if_icmp .ge (26), 3) := by decide +kernel
theorem d_Mo_put_80 : decode m_Mo_put.2.1 80 = .ok (.aload_n 0, 1) := by decide +kernel
theorem d_Mo_put_81 : decode m_Mo_put.2.1 81 = .ok (.getfield 80, 3) := by decide +kernel
theorem d_Mo_put_84 : decode m_Mo_put.2.1 84 = .ok (.bipush (24), 2) := by decide +kernel
theorem d_Mo_put_86 : decode m_Mo_put.2.1 86 = .ok (.iload_n 1, 1) := by decide +kernel
theorem d_Mo_put_87 : decode m_Mo_put.2.1 87 = .ok (.imul, 1) := by decide +kernel
theorem d_Mo_put_88 : decode m_Mo_put.2.1 88 = .ok (.iload_n 2, 1) := by decide +kernel
theorem d_Mo_put_89 : decode m_Mo_put.2.1 89 = .ok (.iadd, 1) := by decide +kernel
theorem d_Mo_put_90 : decode m_Mo_put.2.1 90 = .ok (.aload_n 0, 1) := by decide +kernel
theorem d_Mo_put_91 : decode m_Mo_put.2.1 91 = .ok (.getfield 7, 3) := by decide +kernel
theorem d_Mo_put_94 : decode m_Mo_put.2.1 94 = .ok (.iload_n 2, 1) := by decide +kernel
theorem d_Mo_put_95 : decode m_Mo_put.2.1 95 = .ok (.iaload, 1) := by decide +kernel
theorem d_Mo_put_96 : decode m_Mo_put.2.1 96 = .ok (.iastore, 1) := by decide +kernel
theorem d_Mo_put_97 : decode m_Mo_put.2.1 97 = .ok (.iinc 2 (1), 3) := by decide +kernel
theorem d_Mo_put_100 : decode m_Mo_put.2.1 100 = .ok (.goto (-28), 3) := by decide +kernel
theorem d_Mo_put_103 : decode m_Mo_put.2.1 103 = .ok (.aload_n 0, 1) := by decide +kernel
theorem d_Mo_put_104 : decode m_Mo_put.2.1 104 = .ok (.iconst 0, 1) := by decide +kernel
theorem d_Mo_put_105 : decode m_Mo_put.2.1 105 = .ok (.putfield 129, 3) := by decide +kernel
theorem d_Mo_put_108 : decode m_Mo_put.2.1 108 = .ok (.aload_n 0, 1) := by decide +kernel
theorem d_Mo_put_109 : decode m_Mo_put.2.1 109 = .ok (.iload_n 1, 1) := by decide +kernel
theorem d_Mo_put_110 : decode m_Mo_put.2.1 110 = .ok (.invokevirtual 275, 3) := by decide +kernel
theorem d_Mo_put_113 : decode m_Mo_put.2.1 113 = .ok (.ireturn, 1) := by decide +kernel
theorem d_Mo_drop_0 : decode m_Mo_drop.2.1 0 = .ok (.iload_n 1, 1) := by decide +kernel
theorem d_Mo_drop_1 : decode m_Mo_drop.2.1 1 = .ok (.ifCond .lt (11), 3) := by decide +kernel
theorem d_Mo_drop_4 : decode m_Mo_drop.2.1 4 = .ok (.iload_n 1, 1) := by decide +kernel
theorem d_Mo_drop_5 : decode m_Mo_drop.2.1 5 = .ok (.aload_n 0, 1) := by decide +kernel
theorem d_Mo_drop_6 : decode m_Mo_drop.2.1 6 = .ok (.getfield 242, 3) := by decide +kernel
theorem d_Mo_drop_9 : decode m_Mo_drop.2.1 9 = .ok (.if_icmp .lt (5), 3) := by decide +kernel
theorem d_Mo_drop_12 : decode m_Mo_drop.2.1 12 = .ok (.iconst (-1), 1) := by decide +kernel
theorem d_Mo_drop_13 : decode m_Mo_drop.2.1 13 = .ok (.ireturn, 1) := by decide +kernel
theorem d_Mo_drop_14 : decode m_Mo_drop.2.1 14 = .ok (.aload_n 0, 1) := by decide +kernel
theorem d_Mo_drop_15 : decode m_Mo_drop.2.1 15 = .ok (.dup, 1) := by decide +kernel
theorem d_Mo_drop_16 : decode m_Mo_drop.2.1 16 = .ok (.getfield 242, 3) := by decide +kernel
theorem d_Mo_drop_19 : decode m_Mo_drop.2.1 19 = .ok (.iconst 1, 1) := by decide +kernel
theorem d_Mo_drop_20 : decode m_Mo_drop.2.1 20 = .ok (.isub, 1) := by decide +kernel
theorem d_Mo_drop_21 : decode m_Mo_drop.2.1 21 = .ok (.putfield 242, 3) := by decide +kernel
theorem d_Mo_drop_24 : decode m_Mo_drop.2.1 24 = .ok (.iload_n 1, 1) := by decide +kernel
theorem d_Mo_drop_25 : decode m_Mo_drop.2.1 25 = .ok (.istore_n 2, 1) := by decide +kernel
theorem d_Mo_drop_26 : decode m_Mo_drop.2.1 26 = .ok (.iload_n 2, 1) := by decide +kernel
theorem d_Mo_drop_27 : decode m_Mo_drop.2.1 27 = .ok (.aload_n 0, 1) := by decide +kernel
theorem d_Mo_drop_28 : decode m_Mo_drop.2.1 28 = .ok (.getfield 242, 3) := by decide +kernel
theorem d_Mo_drop_31 : decode m_Mo_drop.2.1 31 = .ok (.if_icmp .ge (167), 3) := by decide +kernel
theorem d_Mo_drop_34 : decode m_Mo_drop.2.1 34 = .ok (.aload_n 0, 1) := by decide +kernel
theorem d_Mo_drop_35 : decode m_Mo_drop.2.1 35 = .ok (.getfield 77, 3) := by decide +kernel
theorem d_Mo_drop_38 : decode m_Mo_drop.2.1 38 = .ok (.iload_n 2, 1) := by decide +kernel
theorem d_Mo_drop_39 : decode m_Mo_drop.2.1 39 = .ok (.aload_n 0, 1) := by decide +kernel
theorem d_Mo_drop_40 : decode m_Mo_drop.2.1 40 = .ok (.getfield 77, 3) := by decide +kernel
theorem d_Mo_drop_43 : decode m_Mo_drop.2.1 43 = .ok (.iload_n 2, 1) := by decide +kernel
theorem d_Mo_drop_44 : decode m_Mo_drop.2.1 44 = .ok (.iconst 1, 1) := by decide +kernel
theorem d_Mo_drop_45 : decode m_Mo_drop.2.1 45 = .ok (.iadd, 1) := by decide +kernel
theorem d_Mo_drop_46 : decode m_Mo_drop.2.1 46 = .ok (.iaload, 1) := by decide +kernel
theorem d_Mo_drop_47 : decode m_Mo_drop.2.1 47 = .ok (.iastore, 1) := by decide +kernel
theorem d_Mo_drop_48 : decode m_Mo_drop.2.1 48 = .ok (.aload_n 0, 1) := by decide +kernel
theorem d_Mo_drop_49 : decode m_Mo_drop.2.1 49 = .ok (.getfield 83, 3) := by decide +kernel
theorem d_Mo_drop_52 : decode m_Mo_drop.2.1 52 = .ok (.iload_n 2, 1) := by decide +kernel
theorem d_Mo_drop_53 : decode m_Mo_drop.2.1 53 = .ok (.aload_n 0, 1) := by decide +kernel
theorem d_Mo_drop_54 : decode m_Mo_drop.2.1 54 = .ok (.getfield 83, 3) := by decide +kernel
theorem d_Mo_drop_57 : decode m_Mo_drop.2.1 57 = .ok (.iload_n 2, 1) := by decide +kernel
theorem d_Mo_drop_58 : decode m_Mo_drop.2.1 58 = .ok (.iconst 1, 1) := by decide +kernel
theorem d_Mo_drop_59 : decode m_Mo_drop.2.1 59 = .ok (.iadd, 1) := by decide +kernel
theorem d_Mo_drop_60 : decode m_Mo_drop.2.1 60 = .ok (.baload, 1) := by decide +kernel
theorem d_Mo_drop_61 : decode m_Mo_drop.2.1 61 = .ok (.bastore, 1) := by decide +kernel
theorem d_Mo_drop_62 : decode m_Mo_drop.2.1 62 = .ok (.aload_n 0, 1) := by decide +kernel
theorem d_Mo_drop_63 : decode m_Mo_drop.2.1 63 = .ok (.getfield 86, 3) := by decide +kernel
theorem d_Mo_drop_66 : decode m_Mo_drop.2.1 66 = .ok (.iload_n 2, 1) := by decide +kernel
theorem d_Mo_drop_67 : decode m_Mo_drop.2.1 67 = .ok (.aload_n 0, 1) := by decide +kernel
theorem d_Mo_drop_68 : decode m_Mo_drop.2.1 68 = .ok (.getfield 86, 3) := by decide +kernel
theorem d_Mo_drop_71 : decode m_Mo_drop.2.1 71 = .ok (.iload_n 2, 1) := by decide +kernel
theorem d_Mo_drop_72 : decode m_Mo_drop.2.1 72 = .ok (.iconst 1, 1) := by decide +kernel
theorem d_Mo_drop_73 : decode m_Mo_drop.2.1 73 = .ok (.iadd, 1) := by decide +kernel
theorem d_Mo_drop_74 : decode m_Mo_drop.2.1 74 = .ok (.iaload, 1) := by decide +kernel
theorem d_Mo_drop_75 : decode m_Mo_drop.2.1 75 = .ok (.iastore, 1) := by decide +kernel
theorem d_Mo_drop_76 : decode m_Mo_drop.2.1 76 = .ok (.bipush (24), 2) := by decide +kernel
theorem d_Mo_drop_78 : decode m_Mo_drop.2.1 78 = .ok (.iload_n 2, 1) := by decide +kernel
theorem d_Mo_drop_79 : decode m_Mo_drop.2.1 79 = .ok (.imul, 1) := by decide +kernel
theorem d_Mo_drop_80 : decode m_Mo_drop.2.1 80 = .ok (.istore_n 3, 1) := by decide +kernel
theorem d_Mo_drop_81 : decode m_Mo_drop.2.1 81 = .ok (.iload_n 3, 1) := by decide +kernel
theorem d_Mo_drop_82 : decode m_Mo_drop.2.1 82 = .ok (.bipush (24), 2) := by decide +kernel
theorem d_Mo_drop_84 : decode m_Mo_drop.2.1 84 = .ok (.iload_n 2, 1) := by decide +kernel
theorem d_Mo_drop_85 : decode m_Mo_drop.2.1 85 = .ok (.imul, 1) := by decide +kernel
theorem d_Mo_drop_86 : decode m_Mo_drop.2.1 86 = .ok (.bipush (24), 2) := by decide +kernel
theorem d_Mo_drop_88 : decode m_Mo_drop.2.1 88 = .ok (.iadd, 1) := by decide +kernel
theorem d_Mo_drop_89 : decode m_Mo_drop.2.1 89 = .ok (.if_icmp .ge (54), 3) := by decide +kernel
theorem d_Mo_drop_92 : decode m_Mo_drop.2.1 92 = .ok (.aload_n 0, 1) := by decide +kernel
theorem d_Mo_drop_93 : decode m_Mo_drop.2.1 93 = .ok (.getfield 80, 3) := by decide +kernel
theorem d_Mo_drop_96 : decode m_Mo_drop.2.1 96 = .ok (.iload_n 3, 1) := by decide +kernel
theorem d_Mo_drop_97 : decode m_Mo_drop.2.1 97 = .ok (.aload_n 0, 1) := by decide +kernel
theorem d_Mo_drop_98 : decode m_Mo_drop.2.1 98 = .ok (.getfield 80, 3) := by decide +kernel
theorem d_Mo_drop_101 : decode m_Mo_drop.2.1 101 = .ok (.iload_n 3, 1) := by decide +kernel
theorem d_Mo_drop_102 : decode m_Mo_drop.2.1 102 = .ok (.bipush (24), 2) := by decide +kernel
theorem d_Mo_drop_104 : decode m_Mo_drop.2.1 104 = .ok (.iadd, 1) := by decide +kernel
theorem d_Mo_drop_105 : decode m_Mo_drop.2.1 105 = .ok (.iaload, 1) := by decide +kernel
theorem d_Mo_drop_106 : decode m_Mo_drop.2.1 106 = .ok (.iastore, 1) := by decide +kernel
theorem d_Mo_drop_107 : decode m_Mo_drop.2.1 107 = .ok (.aload_n 0, 1) := by decide +kernel
theorem d_Mo_drop_108 : decode m_Mo_drop.2.1 108 = .ok (.getfield 89, 3) := by decide +kernel
theorem d_Mo_drop_111 : decode m_Mo_drop.2.1 111 = .ok (.iload_n 3, 1) := by decide +kernel
theorem d_Mo_drop_112 : decode m_Mo_drop.2.1 112 = .ok (.aload_n 0, 1) := by decide +kernel
theorem d_Mo_drop_113 : decode m_Mo_drop.2.1 113 = .ok (.getfield 89, 3) := by decide +kernel
theorem d_Mo_drop_116 : decode m_Mo_drop.2.1 116 = .ok (.iload_n 3, 1) := by decide +kernel
theorem d_Mo_drop_117 : decode m_Mo_drop.2.1 117 = .ok (.bipush (24), 2) := by decide +kernel
theorem d_Mo_drop_119 : decode m_Mo_drop.2.1 119 = .ok (.iadd, 1) := by decide +kernel
theorem d_Mo_drop_120 : decode m_Mo_drop.2.1 120 = .ok (.iaload, 1) := by decide +kernel
theorem d_Mo_drop_121 : decode m_Mo_drop.2.1 121 = .ok (.iastore, 1) := by decide +kernel
theorem d_Mo_drop_122 : decode m_Mo_drop.2.1 122 = .ok (.aload_n 0, 1) := by decide +kernel
theorem d_Mo_drop_123 : decode m_Mo_drop.2.1 123 = .ok (.getfield 92, 3) := by decide +kernel
theorem d_Mo_drop_126 : decode m_Mo_drop.2.1 126 = .ok (.iload_n 3, 1) := by decide +kernel
theorem d_Mo_drop_127 : decode m_Mo_drop.2.1 127 = .ok (.aload_n 0, 1) := by decide +kernel
theorem d_Mo_drop_128 : decode m_Mo_drop.2.1 128 = .ok (.getfield 92, 3) := by decide +kernel
theorem d_Mo_drop_131 : decode m_Mo_drop.2.1 131 = .ok (.iload_n 3, 1) := by decide +kernel
theorem d_Mo_drop_132 : decode m_Mo_drop.2.1 132 = .ok (.bipush (24), 2) := by decide +kernel
theorem d_Mo_drop_134 : decode m_Mo_drop.2.1 134 = .ok (.iadd, 1) := by decide +kernel
theorem d_Mo_drop_135 : decode m_Mo_drop.2.1 135 = .ok (.iaload, 1) := by decide +kernel
theorem d_Mo_drop_136 : decode m_Mo_drop.2.1 136 = .ok (.iastore, 1) := by decide +kernel
theorem d_Mo_drop_137 : decode m_Mo_drop.2.1 137 = .ok (.iinc 3 (1), 3) := by decide +kernel
theorem d_Mo_drop_140 : decode m_Mo_drop.2.1 140 = .ok (.goto (-59), 3) := by decide +kernel
theorem d_Mo_drop_143 : decode m_Mo_drop.2.1 143 = .ok (.sipush (144), 3) := by decide +kernel
theorem d_Mo_drop_146 : decode m_Mo_drop.2.1 146 = .ok (.iload_n 2, 1) := by decide +kernel
theorem d_Mo_drop_147 : decode m_Mo_drop.2.1 147 = .ok (.imul, 1) := by decide +kernel
theorem d_Mo_drop_148 : decode m_Mo_drop.2.1 148 = .ok (.istore_n 3, 1) := by decide +kernel
theorem d_Mo_drop_149 : decode m_Mo_drop.2.1 149 = .ok (.iload_n 3, 1) := by decide +kernel
theorem d_Mo_drop_150 : decode m_Mo_drop.2.1 150 = .ok (.sipush (144), 3) := by decide +kernel
theorem d_Mo_drop_153 : decode m_Mo_drop.2.1 153 = .ok (.iload_n 2, 1) := by decide +kernel
theorem d_Mo_drop_154 : decode m_Mo_drop.2.1 154 = .ok (.imul, 1) := by decide +kernel
theorem d_Mo_drop_155 : decode m_Mo_drop.2.1 155 = .ok (.sipush (144), 3) := by decide +kernel
theorem d_Mo_drop_158 : decode m_Mo_drop.2.1 158 = .ok (.iadd, 1) := by decide +kernel
theorem d_Mo_drop_159 : decode m_Mo_drop.2.1 159 = .ok (.if_icmp .ge (25), 3) := by decide +kernel
theorem d_Mo_drop_162 : decode m_Mo_drop.2.1 162 = .ok (.aload_n 0, 1) := by decide +kernel
theorem d_Mo_drop_163 : decode m_Mo_drop.2.1 163 = .ok (.getfield 95, 3) := by decide +kernel
theorem d_Mo_drop_166 : decode m_Mo_drop.2.1 166 = .ok (.iload_n 3, 1) := by decide +kernel
theorem d_Mo_drop_167 : decode m_Mo_drop.2.1 167 = .ok (.aload_n 0, 1) := by decide +kernel
theorem d_Mo_drop_168 : decode m_Mo_drop.2.1 168 = .ok (.getfield 95, 3) := by decide +kernel
theorem d_Mo_drop_171 : decode m_Mo_drop.2.1 171 = .ok (.iload_n 3, 1) := by decide +kernel
theorem d_Mo_drop_172 : decode m_Mo_drop.2.1 172 = .ok (.sipush (144), 3) := by decide +kernel
theorem d_Mo_drop_175 : decode m_Mo_drop.2.1 175 = .ok (.iadd, 1) := by decide +kernel
theorem d_Mo_drop_176 : decode m_Mo_drop.2.1 176 = .ok (.iaload, 1) := by decide +kernel
theorem d_Mo_drop_177 : decode m_Mo_drop.2.1 177 = .ok (.iastore, 1) := by decide +kernel
theorem d_Mo_drop_178 : decode m_Mo_drop.2.1 178 = .ok (.iinc 3 (1), 3) := by decide +kernel
theorem d_Mo_drop_181 : decode m_Mo_drop.2.1 181 = .ok (.goto (-32), 3) := by decide +kernel
theorem d_Mo_drop_184 : decode m_Mo_drop.2.1 184 = .ok (.aload_n 0, 1) := by decide +kernel
theorem d_Mo_drop_185 : decode m_Mo_drop.2.1 185 = .ok (.iload_n 2, 1) := by decide +kernel
theorem d_Mo_drop_186 : decode m_Mo_drop.2.1 186 = .ok (.iconst 1, 1) := by decide +kernel
theorem d_Mo_drop_187 : decode m_Mo_drop.2.1 187 = .ok (.iadd, 1) := by decide +kernel
theorem d_Mo_drop_188 : decode m_Mo_drop.2.1 188 = .ok (.iload_n 2, 1) := by decide +kernel
theorem d_Mo_drop_189 : decode m_Mo_drop.2.1 189 = .ok (.invokevirtual 200, 3) := by decide +kernel
theorem d_Mo_drop_192 : decode m_Mo_drop.2.1 192 = .ok (.iinc 2 (1), 3) := by decide +kernel
theorem d_Mo_drop_195 : decode m_Mo_drop.2.1 195 = .ok (.goto (-169), 3) := by decide +kernel
theorem d_Mo_drop_198 : decode m_Mo_drop.2.1 198 = .ok (.aload_n 0, 1) := by decide +kernel
theorem d_Mo_drop_199 : decode m_Mo_drop.2.1 199 = .ok (.iload_n 1, 1) := by decide +kernel
theorem d_Mo_drop_200 : decode m_Mo_drop.2.1 200 = .ok (.invokevirtual 275, 3) := by decide +kernel
theorem d_Mo_drop_203 : decode m_Mo_drop.2.1 203 = .ok (.ireturn, 1) := by decide +kernel
theorem d_Mo_isLine_0 : decode m_Mo_isLine.2.1 0 = .ok (.iload_n 1, 1) := by decide +kernel
theorem d_Mo_isLine_1 : decode m_Mo_isLine.2.1 1 = .ok (.ifCond .lt (15), 3) := by decide +kernel
theorem d_Mo_isLine_4 : decode m_Mo_isLine.2.1 4 = .ok (.iload_n 1, 1) := by decide +kernel
theorem d_Mo_isLine_5 : decode m_Mo_isLine.2.1 5 = .ok (.aload_n 0, 1) := by decide +kernel
theorem d_Mo_isLine_6 : decode m_Mo_isLine.2.1 6 = .ok (.getfield 242, 3) := by decide +kernel
theorem d_Mo_isLine_9 : decode m_Mo_isLine.2.1 9 = .ok (.if_icmp .ge (7), 3) := by decide +kernel
theorem d_Mo_isLine_12 : decode m_Mo_isLine.2.1 12 = .ok (.iconst 1, 1) := by decide +kernel
theorem d_Mo_isLine_13 : decode m_Mo_isLine.2.1 13 = .ok (.goto (4), 3) := by decide +kernel
theorem d_Mo_isLine_16 : decode m_Mo_isLine.2.1 16 = .ok (.iconst 0, 1) := by decide +kernel
theorem d_Mo_isLine_17 : decode m_Mo_isLine.2.1 17 = .ok (.ireturn, 1) := by decide +kernel
theorem d_Mo_lines_0 : decode m_Mo_lines.2.1 0 = .ok (.aload_n 0, 1) := by decide +kernel
theorem d_Mo_lines_1 : decode m_Mo_lines.2.1 1 = .ok (.getfield 242, 3) := by decide +kernel
theorem d_Mo_lines_4 : decode m_Mo_lines.2.1 4 = .ok (.ireturn, 1) := by decide +kernel
theorem d_Mo_passes_0 : decode m_Mo_passes.2.1 0 = .ok (.aload_n 0, 1) := by decide +kernel
theorem d_Mo_passes_1 : decode m_Mo_passes.2.1 1 = .ok (.getfield 225, 3) := by decide +kernel
theorem d_Mo_passes_4 : decode m_Mo_passes.2.1 4 = .ok (.ireturn, 1) := by decide +kernel
theorem d_Mo_length_0 : decode m_Mo_length.2.1 0 = .ok (.aload_n 0, 1) := by decide +kernel
theorem d_Mo_length_1 : decode m_Mo_length.2.1 1 = .ok (.iload_n 1, 1) := by decide +kernel
theorem d_Mo_length_2 : decode m_Mo_length.2.1 2 = .ok (.invokevirtual 279, 3) := by decide +kernel
theorem d_Mo_length_5 : decode m_Mo_length.2.1 5 = .ok (.ifCond .eq (12), 3) := by decide +kernel
theorem d_Mo_length_8 : decode m_Mo_length.2.1 8 = .ok (.aload_n 0, 1) := by decide +kernel
theorem d_Mo_length_9 : decode m_Mo_length.2.1 9 = .ok (.getfield 77, 3) := by decide +kernel
theorem d_Mo_length_12 : decode m_Mo_length.2.1 12 = .ok (.iload_n 1, 1) := by decide +kernel
theorem d_Mo_length_13 : decode m_Mo_length.2.1 13 = .ok (.iaload, 1) := by decide +kernel
theorem d_Mo_length_14 : decode m_Mo_length.2.1 14 = .ok (.goto (4), 3) := by decide +kernel
theorem d_Mo_length_17 : decode m_Mo_length.2.1 17 = .ok (.iconst (-1), 1) := by decide +kernel
theorem d_Mo_length_18 : decode m_Mo_length.2.1 18 = .ok (.ireturn, 1) := by decide +kernel
theorem d_Mo_tokens_0 : decode m_Mo_tokens.2.1 0 = .ok (.aload_n 0, 1) := by decide +kernel
theorem d_Mo_tokens_1 : decode m_Mo_tokens.2.1 1 = .ok (.iload_n 1, 1) := by decide +kernel
theorem d_Mo_tokens_2 : decode m_Mo_tokens.2.1 2 = .ok (.invokevirtual 279, 3) := by decide +kernel
theorem d_Mo_tokens_5 : decode m_Mo_tokens.2.1 5 = .ok (.ifCond .eq (12), 3) := by decide +kernel
theorem d_Mo_tokens_8 : decode m_Mo_tokens.2.1 8 = .ok (.aload_n 0, 1) := by decide +kernel
theorem d_Mo_tokens_9 : decode m_Mo_tokens.2.1 9 = .ok (.getfield 86, 3) := by decide +kernel
theorem d_Mo_tokens_12 : decode m_Mo_tokens.2.1 12 = .ok (.iload_n 1, 1) := by decide +kernel
theorem d_Mo_tokens_13 : decode m_Mo_tokens.2.1 13 = .ok (.iaload, 1) := by decide +kernel
theorem d_Mo_tokens_14 : decode m_Mo_tokens.2.1 14 = .ok (.goto (4), 3) := by decide +kernel
theorem d_Mo_tokens_17 : decode m_Mo_tokens.2.1 17 = .ok (.iconst (-1), 1) := by decide +kernel
theorem d_Mo_tokens_18 : decode m_Mo_tokens.2.1 18 = .ok (.ireturn, 1) := by decide +kernel
theorem d_Mo_entry_0 : decode m_Mo_entry.2.1 0 = .ok (.iconst 0, 1) := by decide +kernel
theorem d_Mo_entry_1 : decode m_Mo_entry.2.1 1 = .ok (.istore 4, 2) := by decide +kernel
theorem d_Mo_entry_3 : decode m_Mo_entry.2.1 3 = .ok (.iconst 0, 1) := by decide +kernel
theorem d_Mo_entry_4 : decode m_Mo_entry.2.1 4 = .ok (.istore 5, 2) := by decide +kernel
theorem d_Mo_entry_6 : decode m_Mo_entry.2.1 6 = .ok (.iload 5, 2) := by decide +kernel
theorem d_Mo_entry_8 : decode m_Mo_entry.2.1 8 = .ok (.aload_n 0, 1) := by decide +kernel
theorem d_Mo_entry_9 : decode m_Mo_entry.2.1 9 = .ok (.getfield 272, 3) := by decide +kernel
theorem d_Mo_entry_12 : decode m_Mo_entry.2.1 12 = .ok (.if_icmp .ge (133), 3) := by decide +kernel
theorem d_Mo_entry_15 : decode m_Mo_entry.2.1 15 = .ok (.iload_n 3, 1) := by decide +kernel
theorem d_Mo_entry_16 : decode m_Mo_entry.2.1 16 = .ok (.ifCond .eq (17), 3) := by decide +kernel
theorem d_Mo_entry_19 : decode m_Mo_entry.2.1 19 = .ok (.aload_n 0, 1) := by decide +kernel
theorem d_Mo_entry_20 : decode m_Mo_entry.2.1 20 = .ok (.getfield 119, 3) := by decide +kernel
theorem d_Mo_entry_23 : decode m_Mo_entry.2.1 23 = .ok (.iload 5, 2) := by decide +kernel
theorem d_Mo_entry_25 : decode m_Mo_entry.2.1 25 = .ok (.iaload, 1) := by decide +kernel
theorem d_Mo_entry_26 : decode m_Mo_entry.2.1 26 = .ok (.ifCond .ne (7), 3) := by decide +kernel
theorem d_Mo_entry_29 : decode m_Mo_entry.2.1 29 = .ok (.iconst 1, 1) := by decide +kernel
theorem d_Mo_entry_30 : decode m_Mo_entry.2.1 30 = .ok (.goto (4), 3) := by decide +kernel
theorem d_Mo_entry_33 : decode m_Mo_entry.2.1 33 = .ok (.iconst 0, 1) := by decide +kernel
theorem d_Mo_entry_34 : decode m_Mo_entry.2.1 34 = .ok (.istore 6, 2) := by decide +kernel
theorem d_Mo_entry_36 : decode m_Mo_entry.2.1 36 = .ok (.iconst 0, 1) := by decide +kernel
theorem d_Mo_entry_37 : decode m_Mo_entry.2.1 37 = .ok (.istore 7, 2) := by decide +kernel
theorem d_Mo_entry_39 : decode m_Mo_entry.2.1 39 = .ok (.iload 7, 2) := by decide +kernel
theorem d_Mo_entry_41 : decode m_Mo_entry.2.1 41 = .ok (.iload_n 2, 1) := by decide +kernel
theorem d_Mo_entry_42 : decode m_Mo_entry.2.1 42 = .ok (.if_icmp .ge (57), 3) := by decide +kernel
theorem d_Mo_entry_45 : decode m_Mo_entry.2.1 45 = .ok (.iload_n 3, 1) := by decide +kernel
theorem d_Mo_entry_46 : decode m_Mo_entry.2.1 46 = .ok (.ifCond .ne (53), 3) := by decide +kernel
theorem d_Mo_entry_49 : decode m_Mo_entry.2.1 49 = .ok (.iload 6, 2) := by decide +kernel
theorem d_Mo_entry_51 : decode m_Mo_entry.2.1 51 = .ok (.ifCond .ne (35), 3) := by decide +kernel
theorem d_Mo_entry_54 : decode m_Mo_entry.2.1 54 = .ok (.aload_n 0, 1) := by decide +kernel
theorem d_Mo_entry_55 : decode m_Mo_entry.2.1 55 = .ok (.getfield 119, 3) := by decide +kernel
theorem d_Mo_entry_58 : decode m_Mo_entry.2.1 58 = .ok (.iload 5, 2) := by decide +kernel
theorem d_Mo_entry_60 : decode m_Mo_entry.2.1 60 = .ok (.iaload, 1) := by decide +kernel
theorem d_Mo_entry_61 : decode m_Mo_entry.2.1 61 = .ok (.ifCond .le (29), 3) := by decide +kernel
theorem d_Mo_entry_64 : decode m_Mo_entry.2.1 64 = .ok (.aload_n 0, 1) := by decide +kernel
theorem d_Mo_entry_65 : decode m_Mo_entry.2.1 65 = .ok (.getfield 95, 3) := by decide +kernel
theorem d_Mo_entry_68 : decode m_Mo_entry.2.1 68 = .ok (.bipush (6), 2) := by decide +kernel
theorem d_Mo_entry_70 : decode m_Mo_entry.2.1 70 = .ok (.iload_n 1, 1) := by decide +kernel
theorem d_Mo_entry_71 : decode m_Mo_entry.2.1 71 = .ok (.imul, 1) := by decide +kernel
theorem d_Mo_entry_72 : decode m_Mo_entry.2.1 72 = .ok (.iload 7, 2) := by decide +kernel
theorem d_Mo_entry_74 : decode m_Mo_entry.2.1 74 = .ok (.iadd, 1) := by decide +kernel
theorem d_Mo_entry_75 : decode m_Mo_entry.2.1 75 = .ok (.iaload, 1) := by decide +kernel
theorem d_Mo_entry_76 : decode m_Mo_entry.2.1 76 = .ok (.aload_n 0, 1) := by decide +kernel
theorem d_Mo_entry_77 : decode m_Mo_entry.2.1 77 = .ok (.getfield 119, 3) := by decide +kernel
theorem d_Mo_entry_80 : decode m_Mo_entry.2.1 80 = .ok (.iload 5, 2) := by decide +kernel
theorem d_Mo_entry_82 : decode m_Mo_entry.2.1 82 = .ok (.iaload, 1) := by decide +kernel
theorem d_Mo_entry_83 : decode m_Mo_entry.2.1 83 = .ok (.if_icmp .ne (7), 3) := by decide +kernel
theorem d_Mo_entry_86 : decode m_Mo_entry.2.1 86 = .ok (.iconst 1, 1) := by decide +kernel
theorem d_Mo_entry_87 : decode m_Mo_entry.2.1 87 = .ok (.goto (4), 3) := by decide +kernel
theorem d_Mo_entry_90 : decode m_Mo_entry.2.1 90 = .ok (.iconst 0, 1) := by decide +kernel
theorem d_Mo_entry_91 : decode m_Mo_entry.2.1 91 = .ok (.istore 6, 2) := by decide +kernel
theorem d_Mo_entry_93 : decode m_Mo_entry.2.1 93 = .ok (.iinc 7 (1), 3) := by decide +kernel
theorem d_Mo_entry_96 : decode m_Mo_entry.2.1 96 = .ok (.goto (-57), 3) := by decide +kernel
theorem d_Mo_entry_99 : decode m_Mo_entry.2.1 99 = .ok (.iload 6, 2) := by decide +kernel
theorem d_Mo_entry_101 : decode m_Mo_entry.2.1 101 = .ok (.ifCond .eq (34), 3) := by decide +kernel
theorem d_Mo_entry_104 : decode m_Mo_entry.2.1 104 = .ok (.aload_n 0, 1) := by decide +kernel
theorem d_Mo_entry_105 : decode m_Mo_entry.2.1 105 = .ok (.getfield 116, 3) := by decide +kernel
theorem d_Mo_entry_108 : decode m_Mo_entry.2.1 108 = .ok (.iload 5, 2) := by decide +kernel
theorem d_Mo_entry_110 : decode m_Mo_entry.2.1 110 = .ok (.iaload, 1) := by decide +kernel
theorem d_Mo_entry_111 : decode m_Mo_entry.2.1 111 = .ok (.aload_n 0, 1) := by decide +kernel
theorem d_Mo_entry_112 : decode m_Mo_entry.2.1 112 = .ok (.getfield 95, 3) := by decide +kernel
theorem d_Mo_entry_115 : decode m_Mo_entry.2.1 115 = .ok (.bipush (6), 2) := by decide +kernel
theorem d_Mo_entry_117 : decode m_Mo_entry.2.1 117 = .ok (.iload_n 1, 1) := by decide +kernel
theorem d_Mo_entry_118 : decode m_Mo_entry.2.1 118 = .ok (.imul, 1) := by decide +kernel
theorem d_Mo_entry_119 : decode m_Mo_entry.2.1 119 = .ok (.iload_n 2, 1) := by decide +kernel
theorem d_Mo_entry_120 : decode m_Mo_entry.2.1 120 = .ok (.iadd, 1) := by decide +kernel
theorem d_Mo_entry_121 : decode m_Mo_entry.2.1 121 = .ok (.iaload, 1) := by decide +kernel
theorem d_Mo_entry_122 : decode m_Mo_entry.2.1 122 = .ok (.if_icmp .ne (13), 3) := by decide +kernel
theorem d_Mo_entry_125 : decode m_Mo_entry.2.1 125 = .ok (.aload_n 0, 1) := by decide +kernel
theorem d_Mo_entry_126 : decode m_Mo_entry.2.1 126 = .ok (.getfield 122, 3) := by decide +kernel
theorem d_Mo_entry_129 : decode m_Mo_entry.2.1 129 = .ok (.iload 5, 2) := by decide +kernel
theorem d_Mo_entry_131 : decode m_Mo_entry.2.1 131 = .ok (.iaload, 1) := by decide +kernel
theorem d_Mo_entry_132 : decode m_Mo_entry.2.1 132 = .ok (.goto (5), 3) := by decide +kernel
theorem d_Mo_entry_135 : decode m_Mo_entry.2.1 135 = .ok (.iload 4, 2) := by decide +kernel
theorem d_Mo_entry_137 : decode m_Mo_entry.2.1 137 = .ok (.istore 4, 2) := by decide +kernel
theorem d_Mo_entry_139 : decode m_Mo_entry.2.1 139 = .ok (.iinc 5 (1), 3) := by decide +kernel
theorem d_Mo_entry_142 : decode m_Mo_entry.2.1 142 = .ok (.goto (-136), 3) := by decide +kernel
theorem d_Mo_entry_145 : decode m_Mo_entry.2.1 145 = .ok (.iload 4, 2) := by decide +kernel
theorem d_Mo_entry_147 : decode m_Mo_entry.2.1 147 = .ok (.ireturn, 1) := by decide +kernel
theorem d_Mo_colour_0 : decode m_Mo_colour.2.1 0 = .ok (.iconst 0, 1) := by decide +kernel
theorem d_Mo_colour_1 : decode m_Mo_colour.2.1 1 = .ok (.istore_n 2, 1) := by decide +kernel
theorem d_Mo_colour_2 : decode m_Mo_colour.2.1 2 = .ok (.aload_n 0, 1) := by decide +kernel
theorem d_Mo_colour_3 : decode m_Mo_colour.2.1 3 = .ok (.getfield 92, 3) := by decide +kernel
theorem d_Mo_colour_6 : decode m_Mo_colour.2.1 6 = .ok (.iload_n 1, 1) := by decide +kernel
theorem d_Mo_colour_7 : decode m_Mo_colour.2.1 7 = .ok (.iaload, 1) := by decide +kernel
theorem d_Mo_colour_8 : decode m_Mo_colour.2.1 8 = .ok (.iconst 1, 1) := by decide +kernel
theorem d_Mo_colour_9 : decode m_Mo_colour.2.1 9 = .ok (.isub, 1) := by decide +kernel
theorem d_Mo_colour_10 : decode m_Mo_colour.2.1 10 = .ok (.istore_n 3, 1) := by decide +kernel
theorem d_Mo_colour_11 : decode m_Mo_colour.2.1 11 = .ok (.iload_n 3, 1) := by decide +kernel
theorem d_Mo_colour_12 : decode m_Mo_colour.2.1 12 = .ok (.ifCond .lt (37), 3) := by decide +kernel
theorem d_Mo_colour_15 : decode m_Mo_colour.2.1 15 = .ok (.iload_n 2, 1) := by decide +kernel
theorem d_Mo_colour_16 : decode m_Mo_colour.2.1 16 = .ok (.ifCond .ne (33), 3) := by decide +kernel
theorem d_Mo_colour_19 : decode m_Mo_colour.2.1 19 = .ok (.aload_n 0, 1) := by decide +kernel
theorem d_Mo_colour_20 : decode m_Mo_colour.2.1 20 = .ok (.iload_n 1, 1) := by decide +kernel
theorem d_Mo_colour_21 : decode m_Mo_colour.2.1 21 = .ok (.iload_n 3, 1) := by decide +kernel
theorem d_Mo_colour_22 : decode m_Mo_colour.2.1 22 = .ok (.iconst 0, 1) := by decide +kernel
theorem d_Mo_colour_23 : decode m_Mo_colour.2.1 23 = .ok (.invokevirtual 282, 3) := by decide +kernel
theorem d_Mo_colour_26 : decode m_Mo_colour.2.1 26 = .ok (.istore_n 2, 1) := by decide +kernel
theorem d_Mo_colour_27 : decode m_Mo_colour.2.1 27 = .ok (.iload_n 2, 1) := by decide +kernel
theorem d_Mo_colour_28 : decode m_Mo_colour.2.1 28 = .ok (.ifCond .ne (13), 3) := by decide +kernel
theorem d_Mo_colour_31 : decode m_Mo_colour.2.1 31 = .ok (.aload_n 0, 1) := by decide +kernel
theorem d_Mo_colour_32 : decode m_Mo_colour.2.1 32 = .ok (.iload_n 1, 1) := by decide +kernel
theorem d_Mo_colour_33 : decode m_Mo_colour.2.1 33 = .ok (.iload_n 3, 1) := by decide +kernel
theorem d_Mo_colour_34 : decode m_Mo_colour.2.1 34 = .ok (.iconst 1, 1) := by decide +kernel
theorem d_Mo_colour_35 : decode m_Mo_colour.2.1 35 = .ok (.invokevirtual 282, 3) := by decide +kernel
theorem d_Mo_colour_38 : decode m_Mo_colour.2.1 38 = .ok (.goto (4), 3) := by decide +kernel
theorem d_Mo_colour_41 : decode m_Mo_colour.2.1 41 = .ok (.iload_n 2, 1) := by decide +kernel
theorem d_Mo_colour_42 : decode m_Mo_colour.2.1 42 = .ok (.istore_n 2, 1) := by decide +kernel
theorem d_Mo_colour_43 : decode m_Mo_colour.2.1 43 = .ok (.iinc 3 (-1), 3) := by decide +kernel
theorem d_Mo_colour_46 : decode m_Mo_colour.2.1 46 = .ok (.goto (-35), 3) := by decide +kernel
theorem d_Mo_colour_49 : decode m_Mo_colour.2.1 49 = .ok (.iload_n 2, 1) := by decide +kernel
theorem d_Mo_colour_50 : decode m_Mo_colour.2.1 50 = .ok (.ireturn, 1) := by decide +kernel
theorem d_Mo_token_0 : decode m_Mo_token.2.1 0 = .ok (.aload_n 0, 1) := by decide +kernel
theorem d_Mo_token_1 : decode m_Mo_token.2.1 1 = .ok (.iload_n 1, 1) := by decide +kernel
theorem d_Mo_token_2 : decode m_Mo_token.2.1 2 = .ok (.invokevirtual 279, 3) := by decide +kernel
theorem d_Mo_token_5 : decode m_Mo_token.2.1 5 = .ok (.ifCond .eq (16), 3) := by decide +kernel
theorem d_Mo_token_8 : decode m_Mo_token.2.1 8 = .ok (.iload_n 2, 1) := by decide +kernel
theorem d_Mo_token_9 : decode m_Mo_token.2.1 9 = .ok (.ifCond .lt (12), 3) := by decide +kernel
theorem d_Mo_token_12 : decode m_Mo_token.2.1 12 = .ok (.iload_n 3, 1) := by decide +kernel
theorem d_Mo_token_13 : decode m_Mo_token.2.1 13 = .ok (.ifCond .lt (8), 3) := by decide +kernel
theorem d_Mo_token_16 : decode m_Mo_token.2.1 16 = .ok (.iload_n 3, 1) := by decide +kernel
theorem d_Mo_token_17 : decode m_Mo_token.2.1 17 = .ok (.iconst 3, 1) := by decide +kernel
theorem d_Mo_token_18 : decode m_Mo_token.2.1 18 = .ok (.if_icmp .le (5), 3) := by decide +kernel
theorem d_Mo_token_21 : decode m_Mo_token.2.1 21 = .ok (.iconst (-1), 1) := by decide +kernel
theorem d_Mo_token_22 : decode m_Mo_token.2.1 22 = .ok (.ireturn, 1) := by decide +kernel
theorem d_Mo_token_23 : decode m_Mo_token.2.1 23 = .ok (.iload_n 2, 1) := by decide +kernel
theorem d_Mo_token_24 : decode m_Mo_token.2.1 24 = .ok (.aload_n 0, 1) := by decide +kernel
theorem d_Mo_token_25 : decode m_Mo_token.2.1 25 = .ok (.getfield 86, 3) := by decide +kernel
theorem d_Mo_token_28 : decode m_Mo_token.2.1 28 = .ok (.iload_n 1, 1) := by decide +kernel
theorem d_Mo_token_29 : decode m_Mo_token.2.1 29 = .ok (.iaload, 1) := by decide +kernel
theorem d_Mo_token_30 : decode m_Mo_token.2.1 30 = .ok (.if_icmp .lt (5), 3) := by decide +kernel
theorem d_Mo_token_33 : decode m_Mo_token.2.1 33 = .ok (.iconst (-1), 1) := by decide +kernel
theorem d_Mo_token_34 : decode m_Mo_token.2.1 34 = .ok (.ireturn, 1) := by decide +kernel
theorem d_Mo_token_35 : decode m_Mo_token.2.1 35 = .ok (.bipush (24), 2) := by decide +kernel
theorem d_Mo_token_37 : decode m_Mo_token.2.1 37 = .ok (.iload_n 1, 1) := by decide +kernel
theorem d_Mo_token_38 : decode m_Mo_token.2.1 38 = .ok (.imul, 1) := by decide +kernel
theorem d_Mo_token_39 : decode m_Mo_token.2.1 39 = .ok (.iload_n 2, 1) := by decide +kernel
theorem d_Mo_token_40 : decode m_Mo_token.2.1 40 = .ok (.iadd, 1) := by decide +kernel
theorem d_Mo_token_41 : decode m_Mo_token.2.1 41 = .ok (.istore 4, 2) := by decide +kernel
theorem d_Mo_token_43 : decode m_Mo_token.2.1 43 = .ok (.aload_n 0, 1) := by decide +kernel
theorem d_Mo_token_44 : decode m_Mo_token.2.1 44 = .ok (.getfield 92, 3) := by decide +kernel
theorem d_Mo_token_47 : decode m_Mo_token.2.1 47 = .ok (.iload 4, 2) := by decide +kernel
theorem d_Mo_token_49 : decode m_Mo_token.2.1 49 = .ok (.iaload, 1) := by decide +kernel
theorem d_Mo_token_50 : decode m_Mo_token.2.1 50 = .ok (.istore 5, 2) := by decide +kernel
theorem d_Mo_token_52 : decode m_Mo_token.2.1 52 = .ok (.iload_n 3, 1) := by decide +kernel
theorem d_Mo_token_53 : decode m_Mo_token.2.1 53 = .ok (.ifCond .ne (13), 3) := by decide +kernel
theorem d_Mo_token_56 : decode m_Mo_token.2.1 56 = .ok (.aload_n 0, 1) := by decide +kernel
theorem d_Mo_token_57 : decode m_Mo_token.2.1 57 = .ok (.getfield 89, 3) := by decide +kernel
theorem d_Mo_token_60 : decode m_Mo_token.2.1 60 = .ok (.iload 4, 2) := by decide +kernel
theorem d_Mo_token_62 : decode m_Mo_token.2.1 62 = .ok (.iaload, 1) := by decide +kernel
theorem d_Mo_token_63 : decode m_Mo_token.2.1 63 = .ok (.goto (51), 3) := by decide +kernel
theorem d_Mo_token_66 : decode m_Mo_token.2.1 66 = .ok (.iload_n 3, 1) := by decide +kernel
theorem d_Mo_token_67 : decode m_Mo_token.2.1 67 = .ok (.iconst 1, 1) := by decide +kernel
theorem d_Mo_token_68 : decode m_Mo_token.2.1 68 = .ok (.if_icmp .ne (8), 3) := by decide +kernel
theorem d_Mo_token_71 : decode m_Mo_token.2.1 71 = .ok (.iload 5, 2) := by decide +kernel
theorem d_Mo_token_73 : decode m_Mo_token.2.1 73 = .ok (.goto (41), 3) := by decide +kernel
theorem d_Mo_token_76 : decode m_Mo_token.2.1 76 = .ok (.iload_n 3, 1) := by decide +kernel
theorem d_Mo_token_77 : decode m_Mo_token.2.1 77 = .ok (.iconst 2, 1) := by decide +kernel
theorem d_Mo_token_78 : decode m_Mo_token.2.1 78 = .ok (.if_icmp .ne (30), 3) := by decide +kernel
theorem d_Mo_token_81 : decode m_Mo_token.2.1 81 = .ok (.iload 5, 2) := by decide +kernel
theorem d_Mo_token_83 : decode m_Mo_token.2.1 83 = .ok (.ifCond .ne (7), 3) := by decide +kernel
theorem d_Mo_token_86 : decode m_Mo_token.2.1 86 = .ok (.iconst 0, 1) := by decide +kernel
theorem d_Mo_token_87 : decode m_Mo_token.2.1 87 = .ok (.goto (27), 3) := by decide +kernel
theorem d_Mo_token_90 : decode m_Mo_token.2.1 90 = .ok (.aload_n 0, 1) := by decide +kernel
theorem d_Mo_token_91 : decode m_Mo_token.2.1 91 = .ok (.getfield 95, 3) := by decide +kernel
theorem d_Mo_token_94 : decode m_Mo_token.2.1 94 = .ok (.bipush (6), 2) := by decide +kernel
theorem d_Mo_token_96 : decode m_Mo_token.2.1 96 = .ok (.iload 4, 2) := by decide +kernel
theorem d_Mo_token_98 : decode m_Mo_token.2.1 98 = .ok (.imul, 1) := by decide +kernel
theorem d_Mo_token_99 : decode m_Mo_token.2.1 99 = .ok (.iload 5, 2) := by decide +kernel
theorem d_Mo_token_101 : decode m_Mo_token.2.1 101 = .ok (.iadd, 1) := by decide +kernel
theorem d_Mo_token_102 : decode m_Mo_token.2.1 102 = .ok (.iconst 1, 1) := by decide +kernel
theorem d_Mo_token_103 : decode m_Mo_token.2.1 103 = .ok (.isub, 1) := by decide +kernel
theorem d_Mo_token_104 : decode m_Mo_token.2.1 104 = .ok (.iaload, 1) := by decide +kernel
theorem d_Mo_token_105 : decode m_Mo_token.2.1 105 = .ok (.goto (9), 3) := by decide +kernel
theorem d_Mo_token_108 : decode m_Mo_token.2.1 108 = .ok (.aload_n 0, 1) := by decide +kernel
theorem d_Mo_token_109 : decode m_Mo_token.2.1 109 = .ok (.iload 4, 2) := by decide +kernel
theorem d_Mo_token_111 : decode m_Mo_token.2.1 111 = .ok (.invokevirtual 285, 3) := by decide +kernel
theorem d_Mo_token_114 : decode m_Mo_token.2.1 114 = .ok (.ireturn, 1) := by decide +kernel
theorem d_Mo_marked_0 : decode m_Mo_marked.2.1 0 = .ok (.aload_n 0, 1) := by decide +kernel
theorem d_Mo_marked_1 : decode m_Mo_marked.2.1 1 = .ok (.iload_n 1, 1) := by decide +kernel
theorem d_Mo_marked_2 : decode m_Mo_marked.2.1 2 = .ok (.invokevirtual 279, 3) := by decide +kernel
theorem d_Mo_marked_5 : decode m_Mo_marked.2.1 5 = .ok (.ifCond .eq (16), 3) := by decide +kernel
theorem d_Mo_marked_8 : decode m_Mo_marked.2.1 8 = .ok (.aload_n 0, 1) := by decide +kernel
theorem d_Mo_marked_9 : decode m_Mo_marked.2.1 9 = .ok (.getfield 83, 3) := by decide +kernel
theorem d_Mo_marked_12 : decode m_Mo_marked.2.1 12 = .ok (.iload_n 1, 1) := by decide +kernel
theorem d_Mo_marked_13 : decode m_Mo_marked.2.1 13 = .ok (.baload, 1) := by decide +kernel
theorem d_Mo_marked_14 : decode m_Mo_marked.2.1 14 = .ok (.ifCond .eq (7), 3) := by decide +kernel
theorem d_Mo_marked_17 : decode m_Mo_marked.2.1 17 = .ok (.iconst 1, 1) := by decide +kernel
theorem d_Mo_marked_18 : decode m_Mo_marked.2.1 18 = .ok (.goto (4), 3) := by decide +kernel
theorem d_Mo_marked_21 : decode m_Mo_marked.2.1 21 = .ok (.iconst 0, 1) := by decide +kernel
theorem d_Mo_marked_22 : decode m_Mo_marked.2.1 22 = .ok (.ireturn, 1) := by decide +kernel
theorem d_Mo_state_0 : decode m_Mo_state.2.1 0 = .ok (.aload_n 0, 1) := by decide +kernel
theorem d_Mo_state_1 : decode m_Mo_state.2.1 1 = .ok (.iload_n 1, 1) := by decide +kernel
theorem d_Mo_state_2 : decode m_Mo_state.2.1 2 = .ok (.invokevirtual 279, 3) := by decide +kernel
theorem d_Mo_state_5 : decode m_Mo_state.2.1 5 = .ok (.ifCond .eq (8), 3) := by decide +kernel
theorem d_Mo_state_8 : decode m_Mo_state.2.1 8 = .ok (.iload_n 2, 1) := by decide +kernel
theorem d_Mo_state_9 : decode m_Mo_state.2.1 9 = .ok (.iconst (-1), 1) := by decide +kernel
theorem d_Mo_state_10 : decode m_Mo_state.2.1 10 = .ok (.if_icmp .ge (5), 3) := by decide +kernel
theorem d_Mo_state_13 : decode m_Mo_state.2.1 13 = .ok (.iconst (-1), 1) := by decide +kernel
theorem d_Mo_state_14 : decode m_Mo_state.2.1 14 = .ok (.ireturn, 1) := by decide +kernel
theorem d_Mo_state_15 : decode m_Mo_state.2.1 15 = .ok (.iload_n 2, 1) := by decide +kernel
theorem d_Mo_state_16 : decode m_Mo_state.2.1 16 = .ok (.ifCond .ge (12), 3) := by decide +kernel
theorem d_Mo_state_19 : decode m_Mo_state.2.1 19 = .ok (.aload_n 0, 1) := by decide +kernel
theorem d_Mo_state_20 : decode m_Mo_state.2.1 20 = .ok (.getfield 98, 3) := by decide +kernel
theorem d_Mo_state_23 : decode m_Mo_state.2.1 23 = .ok (.iload_n 1, 1) := by decide +kernel
theorem d_Mo_state_24 : decode m_Mo_state.2.1 24 = .ok (.iaload, 1) := by decide +kernel
theorem d_Mo_state_25 : decode m_Mo_state.2.1 25 = .ok (.goto (27), 3) := by decide +kernel
theorem d_Mo_state_28 : decode m_Mo_state.2.1 28 = .ok (.iload_n 2, 1) := by decide +kernel
theorem d_Mo_state_29 : decode m_Mo_state.2.1 29 = .ok (.aload_n 0, 1) := by decide +kernel
theorem d_Mo_state_30 : decode m_Mo_state.2.1 30 = .ok (.getfield 98, 3) := by decide +kernel
theorem d_Mo_state_33 : decode m_Mo_state.2.1 33 = .ok (.iload_n 1, 1) := by decide +kernel
theorem d_Mo_state_34 : decode m_Mo_state.2.1 34 = .ok (.iaload, 1) := by decide +kernel
theorem d_Mo_state_35 : decode m_Mo_state.2.1 35 = .ok (.if_icmp .ge (16), 3) := by decide +kernel
theorem d_Mo_state_38 : decode m_Mo_state.2.1 38 = .ok (.aload_n 0, 1) := by decide +kernel
theorem d_Mo_state_39 : decode m_Mo_state.2.1 39 = .ok (.getfield 101, 3) := by decide +kernel
theorem d_Mo_state_42 : decode m_Mo_state.2.1 42 = .ok (.iconst 5, 1) := by decide +kernel
theorem d_Mo_state_43 : decode m_Mo_state.2.1 43 = .ok (.iload_n 1, 1) := by decide +kernel
theorem d_Mo_state_44 : decode m_Mo_state.2.1 44 = .ok (.imul, 1) := by decide +kernel
theorem d_Mo_state_45 : decode m_Mo_state.2.1 45 = .ok (.iload_n 2, 1) := by decide +kernel
theorem d_Mo_state_46 : decode m_Mo_state.2.1 46 = .ok (.iadd, 1) := by decide +kernel
theorem d_Mo_state_47 : decode m_Mo_state.2.1 47 = .ok (.iaload, 1) := by decide +kernel
theorem d_Mo_state_48 : decode m_Mo_state.2.1 48 = .ok (.goto (4), 3) := by decide +kernel
theorem d_Mo_state_51 : decode m_Mo_state.2.1 51 = .ok (.iconst (-1), 1) := by decide +kernel
theorem d_Mo_state_52 : decode m_Mo_state.2.1 52 = .ok (.ireturn, 1) := by decide +kernel
theorem d_Mo_text_0 : decode m_Mo_text.2.1 0 = .ok (.aload_n 0, 1) := by decide +kernel
theorem d_Mo_text_1 : decode m_Mo_text.2.1 1 = .ok (.iload_n 1, 1) := by decide +kernel
theorem d_Mo_text_2 : decode m_Mo_text.2.1 2 = .ok (.invokevirtual 279, 3) := by decide +kernel
theorem d_Mo_text_5 : decode m_Mo_text.2.1 5 = .ok (.ifCond .eq (17), 3) := by decide +kernel
theorem d_Mo_text_8 : decode m_Mo_text.2.1 8 = .ok (.iload_n 2, 1) := by decide +kernel
theorem d_Mo_text_9 : decode m_Mo_text.2.1 9 = .ok (.ifCond .lt (13), 3) := by decide +kernel
theorem d_Mo_text_12 : decode m_Mo_text.2.1 12 = .ok (.iload_n 3, 1) := by decide +kernel
theorem d_Mo_text_13 : decode m_Mo_text.2.1 13 = .ok (.iconst 1, 1) := by decide +kernel
theorem d_Mo_text_14 : decode m_Mo_text.2.1 14 = .ok (.if_icmp .lt (8), 3) := by decide +kernel
theorem d_Mo_text_17 : decode m_Mo_text.2.1 17 = .ok (.iload_n 3, 1) := by decide +kernel
theorem d_Mo_text_18 : decode m_Mo_text.2.1 18 = .ok (.iconst 2, 1) := by decide +kernel
theorem d_Mo_text_19 : decode m_Mo_text.2.1 19 = .ok (.if_icmp .le (5), 3) := by decide +kernel
theorem d_Mo_text_22 : decode m_Mo_text.2.1 22 = .ok (.iconst (-1), 1) := by decide +kernel
theorem d_Mo_text_23 : decode m_Mo_text.2.1 23 = .ok (.ireturn, 1) := by decide +kernel
theorem d_Mo_text_24 : decode m_Mo_text.2.1 24 = .ok (.iload_n 2, 1) := by decide +kernel
theorem d_Mo_text_25 : decode m_Mo_text.2.1 25 = .ok (.aload_n 0, 1) := by decide +kernel
theorem d_Mo_text_26 : decode m_Mo_text.2.1 26 = .ok (.getfield 98, 3) := by decide +kernel
theorem d_Mo_text_29 : decode m_Mo_text.2.1 29 = .ok (.iload_n 1, 1) := by decide +kernel
theorem d_Mo_text_30 : decode m_Mo_text.2.1 30 = .ok (.iaload, 1) := by decide +kernel
theorem d_Mo_text_31 : decode m_Mo_text.2.1 31 = .ok (.if_icmp .ge (23), 3) := by decide +kernel
theorem d_Mo_text_34 : decode m_Mo_text.2.1 34 = .ok (.aload_n 0, 1) := by decide +kernel
theorem d_Mo_text_35 : decode m_Mo_text.2.1 35 = .ok (.getfield 104, 3) := by decide +kernel
theorem d_Mo_text_38 : decode m_Mo_text.2.1 38 = .ok (.bipush (10), 2) := by decide +kernel
theorem d_Mo_text_40 : decode m_Mo_text.2.1 40 = .ok (.iload_n 1, 1) := by decide +kernel
theorem d_Mo_text_41 : decode m_Mo_text.2.1 41 = .ok (.imul, 1) := by decide +kernel
theorem d_Mo_text_42 : decode m_Mo_text.2.1 42 = .ok (.iconst 2, 1) := by decide +kernel
theorem d_Mo_text_43 : decode m_Mo_text.2.1 43 = .ok (.iload_n 2, 1) := by decide +kernel
theorem d_Mo_text_44 : decode m_Mo_text.2.1 44 = .ok (.imul, 1) := by decide +kernel
theorem d_Mo_text_45 : decode m_Mo_text.2.1 45 = .ok (.iadd, 1) := by decide +kernel
theorem d_Mo_text_46 : decode m_Mo_text.2.1 46 = .ok (.iload_n 3, 1) := by decide +kernel
theorem d_Mo_text_47 : decode m_Mo_text.2.1 47 = .ok (.iadd, 1) := by decide +kernel
theorem d_Mo_text_48 : decode m_Mo_text.2.1 48 = .ok (.iconst 1, 1) := by decide +kernel
theorem d_Mo_text_49 : decode m_Mo_text.2.1 49 = .ok (.isub, 1) := by decide +kernel
theorem d_Mo_text_50 : decode m_Mo_text.2.1 50 = .ok (.iaload, 1) := by decide +kernel
theorem d_Mo_text_51 : decode m_Mo_text.2.1 51 = .ok (.goto (4), 3) := by decide +kernel
theorem d_Mo_text_54 : decode m_Mo_text.2.1 54 = .ok (.iconst (-1), 1) := by decide +kernel
theorem d_Mo_text_55 : decode m_Mo_text.2.1 55 = .ok (.ireturn, 1) := by decide +kernel
theorem d_Mo_find_0 : decode m_Mo_find.2.1 0 = .ok (.iload_n 1, 1) := by decide +kernel
theorem d_Mo_find_1 : decode m_Mo_find.2.1 1 = .ok (.iconst 1, 1) := by decide +kernel
theorem d_Mo_find_2 : decode m_Mo_find.2.1 2 = .ok (.if_icmp .lt (35), 3) := by decide +kernel
theorem d_Mo_find_5 : decode m_Mo_find.2.1 5 = .ok (.iload_n 1, 1) := by decide +kernel
theorem d_Mo_find_6 : decode m_Mo_find.2.1 6 = .ok (.aload_n 0, 1) := by decide +kernel
theorem d_Mo_find_7 : decode m_Mo_find.2.1 7 = .ok (.getfield 203, 3) := by decide +kernel
theorem d_Mo_find_10 : decode m_Mo_find.2.1 10 = .ok (.if_icmp .gt (27), 3) := by decide +kernel
theorem d_Mo_find_13 : decode m_Mo_find.2.1 13 = .ok (.aload_n 0, 1) := by decide +kernel
theorem d_Mo_find_14 : decode m_Mo_find.2.1 14 = .ok (.iload_n 2, 1) := by decide +kernel
theorem d_Mo_find_15 : decode m_Mo_find.2.1 15 = .ok (.invokevirtual 279, 3) := by decide +kernel
theorem d_Mo_find_18 : decode m_Mo_find.2.1 18 = .ok (.ifCond .eq (19), 3) := by decide +kernel
theorem d_Mo_find_21 : decode m_Mo_find.2.1 21 = .ok (.iload_n 3, 1) := by decide +kernel
theorem d_Mo_find_22 : decode m_Mo_find.2.1 22 = .ok (.ifCond .lt (15), 3) := by decide +kernel
theorem d_Mo_find_25 : decode m_Mo_find.2.1 25 = .ok (.iload 4, 2) := by decide +kernel
theorem d_Mo_find_27 : decode m_Mo_find.2.1 27 = .ok (.ifCond .lt (10), 3) := by decide +kernel
theorem d_Mo_find_30 : decode m_Mo_find.2.1 30 = .ok (.iload 4, 2) := by decide +kernel
theorem d_Mo_find_32 : decode m_Mo_find.2.1 32 = .ok (.bipush (8), 2) := by decide +kernel
theorem d_Mo_find_34 : decode m_Mo_find.2.1 34 = .ok (.if_icmp .le (5), 3) := by decide +kernel
theorem d_Mo_find_37 : decode m_Mo_find.2.1 37 = .ok (.iconst (-1), 1) := by decide +kernel
theorem d_Mo_find_38 : decode m_Mo_find.2.1 38 = .ok (.ireturn, 1) := by decide +kernel
theorem d_Mo_find_39 : decode m_Mo_find.2.1 39 = .ok (.iload_n 3, 1) := by decide +kernel
theorem d_Mo_find_40 : decode m_Mo_find.2.1 40 = .ok (.aload_n 0, 1) := by decide +kernel
theorem d_Mo_find_41 : decode m_Mo_find.2.1 41 = .ok (.getfield 77, 3) := by decide +kernel
theorem d_Mo_find_44 : decode m_Mo_find.2.1 44 = .ok (.iload_n 2, 1) := by decide +kernel
theorem d_Mo_find_45 : decode m_Mo_find.2.1 45 = .ok (.iaload, 1) := by decide +kernel
theorem d_Mo_find_46 : decode m_Mo_find.2.1 46 = .ok (.if_icmp .le (5), 3) := by decide +kernel
theorem d_Mo_find_49 : decode m_Mo_find.2.1 49 = .ok (.iconst (-1), 1) := by decide +kernel
theorem d_Mo_find_50 : decode m_Mo_find.2.1 50 = .ok (.ireturn, 1) := by decide +kernel
theorem d_Mo_find_51 : decode m_Mo_find.2.1 51 = .ok (.aload_n 0, 1) := by decide +kernel
theorem d_Mo_find_52 : decode m_Mo_find.2.1 52 = .ok (.iconst 2, 1) := by decide +kernel
theorem d_Mo_find_53 : decode m_Mo_find.2.1 53 = .ok (.iload_n 1, 1) := by decide +kernel
theorem d_Mo_find_54 : decode m_Mo_find.2.1 54 = .ok (.imul, 1) := by decide +kernel
theorem d_Mo_find_55 : decode m_Mo_find.2.1 55 = .ok (.iload_n 2, 1) := by decide +kernel
theorem d_Mo_find_56 : decode m_Mo_find.2.1 56 = .ok (.iload_n 3, 1) := by decide +kernel
theorem d_Mo_find_57 : decode m_Mo_find.2.1 57 = .ok (.invokevirtual 216, 3) := by decide +kernel
theorem d_Mo_find_60 : decode m_Mo_find.2.1 60 = .ok (.iload 4, 2) := by decide +kernel
theorem d_Mo_find_62 : decode m_Mo_find.2.1 62 = .ok (.iconst 2, 1) := by decide +kernel
theorem d_Mo_find_63 : decode m_Mo_find.2.1 63 = .ok (.if_icmp .ne (8), 3) := by decide +kernel
theorem d_Mo_find_66 : decode m_Mo_find.2.1 66 = .ok (.aload_n 0, 1) := by decide +kernel
theorem d_Mo_find_67 : decode m_Mo_find.2.1 67 = .ok (.getfield 166, 3) := by decide +kernel
theorem d_Mo_find_70 : decode m_Mo_find.2.1 70 = .ok (.ireturn, 1) := by decide +kernel
theorem d_Mo_find_71 : decode m_Mo_find.2.1 71 = .ok (.aload_n 0, 1) := by decide +kernel
theorem d_Mo_find_72 : decode m_Mo_find.2.1 72 = .ok (.getfield 169, 3) := by decide +kernel
theorem d_Mo_find_75 : decode m_Mo_find.2.1 75 = .ok (.ifCond .ne (10), 3) := by decide +kernel
theorem d_Mo_find_78 : decode m_Mo_find.2.1 78 = .ok (.aload_n 0, 1) := by decide +kernel
theorem d_Mo_find_79 : decode m_Mo_find.2.1 79 = .ok (.getfield 194, 3) := by decide +kernel
theorem d_Mo_find_82 : decode m_Mo_find.2.1 82 = .ok (.ifCond .ge (17), 3) := by decide +kernel
theorem d_Mo_find_85 : decode m_Mo_find.2.1 85 = .ok (.aload_n 0, 1) := by decide +kernel
theorem d_Mo_find_86 : decode m_Mo_find.2.1 86 = .ok (.getfield 169, 3) := by decide +kernel
theorem d_Mo_find_89 : decode m_Mo_find.2.1 89 = .ok (.ifCond .eq (8), 3) := by decide +kernel
theorem d_Mo_find_92 : decode m_Mo_find.2.1 92 = .ok (.bipush (-4), 2) := by decide +kernel
theorem d_Mo_find_94 : decode m_Mo_find.2.1 94 = .ok (.goto (4), 3) := by decide +kernel
theorem d_Mo_find_97 : decode m_Mo_find.2.1 97 = .ok (.iconst (-1), 1) := by decide +kernel
theorem d_Mo_find_98 : decode m_Mo_find.2.1 98 = .ok (.ireturn, 1) := by decide +kernel
theorem d_Mo_find_99 : decode m_Mo_find.2.1 99 = .ok (.iload 4, 2) := by decide +kernel
theorem d_Mo_find_101 : decode m_Mo_find.2.1 101 = .ok (.ifCond .ne (10), 3) := by decide +kernel
theorem d_Mo_find_104 : decode m_Mo_find.2.1 104 = .ok (.aload_n 0, 1) := by decide +kernel
theorem d_Mo_find_105 : decode m_Mo_find.2.1 105 = .ok (.getfield 194, 3) := by decide +kernel
theorem d_Mo_find_108 : decode m_Mo_find.2.1 108 = .ok (.goto (25), 3) := by decide +kernel
theorem d_Mo_find_111 : decode m_Mo_find.2.1 111 = .ok (.iload 4, 2) := by decide +kernel
theorem d_Mo_find_113 : decode m_Mo_find.2.1 113 = .ok (.iconst 1, 1) := by decide +kernel
theorem d_Mo_find_114 : decode m_Mo_find.2.1 114 = .ok (.if_icmp .ne (10), 3) := by decide +kernel
theorem d_Mo_find_117 : decode m_Mo_find.2.1 117 = .ok (.aload_n 0, 1) := by decide +kernel
theorem d_Mo_find_118 : decode m_Mo_find.2.1 118 = .ok (.getfield 191, 3) := by decide +kernel
theorem d_Mo_find_121 : decode m_Mo_find.2.1 121 = .ok (.goto (12), 3) := by decide +kernel
theorem d_Mo_find_124 : decode m_Mo_find.2.1 124 = .ok (.aload_n 0, 1) := by decide +kernel
theorem d_Mo_find_125 : decode m_Mo_find.2.1 125 = .ok (.getfield 65, 3) := by decide +kernel
theorem d_Mo_find_128 : decode m_Mo_find.2.1 128 = .ok (.iload 4, 2) := by decide +kernel
theorem d_Mo_find_130 : decode m_Mo_find.2.1 130 = .ok (.iconst 3, 1) := by decide +kernel
theorem d_Mo_find_131 : decode m_Mo_find.2.1 131 = .ok (.isub, 1) := by decide +kernel
theorem d_Mo_find_132 : decode m_Mo_find.2.1 132 = .ok (.iaload, 1) := by decide +kernel
theorem d_Mo_find_133 : decode m_Mo_find.2.1 133 = .ok (.ireturn, 1) := by decide +kernel
theorem d_Lw_cell_0 : decode m_Lw_cell.2.1 0 = .ok (.iload_n 1, 1) := by decide +kernel
theorem d_Lw_cell_1 : decode m_Lw_cell.2.1 1 = .ok (.aload_n 0, 1) := by decide +kernel
theorem d_Lw_cell_2 : decode m_Lw_cell.2.1 2 = .ok (.arraylength, 1) := by decide +kernel
theorem d_Lw_cell_3 : decode m_Lw_cell.2.1 3 = .ok (.if_icmp .ge (9), 3) := by decide +kernel
theorem d_Lw_cell_6 : decode m_Lw_cell.2.1 6 = .ok (.aload_n 0, 1) := by decide +kernel
theorem d_Lw_cell_7 : decode m_Lw_cell.2.1 7 = .ok (.iload_n 1, 1) := by decide +kernel
theorem d_Lw_cell_8 : decode m_Lw_cell.2.1 8 = .ok (.iaload, 1) := by decide +kernel
theorem d_Lw_cell_9 : decode m_Lw_cell.2.1 9 = .ok (.goto (4), 3) := by decide +kernel
theorem d_Lw_cell_12 : decode m_Lw_cell.2.1 12 = .ok (.iconst 0, 1) := by decide +kernel
theorem d_Lw_cell_13 : decode m_Lw_cell.2.1 13 = .ok (.ireturn, 1) := by decide +kernel
