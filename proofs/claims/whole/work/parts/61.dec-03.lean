/-! Instructions -/
theorem d_Li_addToken_0 : decode m_Li_addToken.2.1 0 = .ok (.aload_n 0, 1) := by decide +kernel
theorem d_Li_addToken_1 : decode m_Li_addToken.2.1 1 = .ok (.getfield 15, 3) := by decide +kernel
theorem d_Li_addToken_4 : decode m_Li_addToken.2.1 4 = .ok (.aload_n 0, 1) := by decide +kernel
theorem d_Li_addToken_5 : decode m_Li_addToken.2.1 5 = .ok (.getfield 42, 3) := by decide +kernel
theorem d_Li_addToken_8 : decode m_Li_addToken.2.1 8 = .ok (.iload_n 1, 1) := by decide +kernel
theorem d_Li_addToken_9 : decode m_Li_addToken.2.1 9 = .ok (.iastore, 1) := by decide +kernel
theorem d_Li_addToken_10 : decode m_Li_addToken.2.1 10 = .ok (.aload_n 0, 1) := by decide +kernel
theorem d_Li_addToken_11 : decode m_Li_addToken.2.1 11 = .ok (.getfield 19, 3) := by decide +kernel
theorem d_Li_addToken_14 : decode m_Li_addToken.2.1 14 = .ok (.aload_n 0, 1) := by decide +kernel
theorem d_Li_addToken_15 : decode m_Li_addToken.2.1 15 = .ok (.getfield 42, 3) := by decide +kernel
theorem d_Li_addToken_18 : decode m_Li_addToken.2.1 18 = .ok (.iconst 0, 1) := by decide +kernel
theorem d_Li_addToken_19 : decode m_Li_addToken.2.1 19 = .ok (.iastore, 1) := by decide +kernel
theorem d_Li_addToken_20 : decode m_Li_addToken.2.1 20 = .ok (.aload_n 0, 1) := by decide +kernel
theorem d_Li_addToken_21 : decode m_Li_addToken.2.1 21 = .ok (.dup, 1) := by decide +kernel
theorem d_Li_addToken_22 : decode m_Li_addToken.2.1 22 = .ok (.getfield 42, 3) := by decide +kernel
theorem d_Li_addToken_25 : decode m_Li_addToken.2.1 25 = .ok (.iconst 1, 1) := by decide +kernel
theorem d_Li_addToken_26 : decode m_Li_addToken.2.1 26 = .ok (.iadd, 1) := by decide +kernel
theorem d_Li_addToken_27 : decode m_Li_addToken.2.1 27 = .ok (.putfield 42, 3) := by decide +kernel
theorem d_Li_addToken_30 : decode m_Li_addToken.2.1 30 = .ok (.return_, 1) := by decide +kernel
theorem d_Li_addScope_0 : decode m_Li_addScope.2.1 0 = .ok (.aload_n 0, 1) := by decide +kernel
theorem d_Li_addScope_1 : decode m_Li_addScope.2.1 1 = .ok (.getfield 42, 3) := by decide +kernel
theorem d_Li_addScope_4 : decode m_Li_addScope.2.1 4 = .ok (.iconst 1, 1) := by decide +kernel
theorem d_Li_addScope_5 : decode m_Li_addScope.2.1 5 = .ok (.isub, 1) := by decide +kernel
theorem d_Li_addScope_6 : decode m_Li_addScope.2.1 6 = .ok (.istore_n 2, 1) := by decide +kernel
theorem d_Li_addScope_7 : decode m_Li_addScope.2.1 7 = .ok (.aload_n 0, 1) := by decide +kernel
theorem d_Li_addScope_8 : decode m_Li_addScope.2.1 8 = .ok (.getfield 22, 3) := by decide +kernel
theorem d_Li_addScope_11 : decode m_Li_addScope.2.1 11 = .ok (.iload_n 2, 1) := by decide +kernel
theorem d_Li_addScope_12 : decode m_Li_addScope.2.1 12 = .ok (.bipush (6), 2) := by decide +kernel
theorem d_Li_addScope_14 : decode m_Li_addScope.2.1 14 = .ok (.imul, 1) := by decide +kernel
theorem d_Li_addScope_15 : decode m_Li_addScope.2.1 15 = .ok (.aload_n 0, 1) := by decide +kernel
theorem d_Li_addScope_16 : decode m_Li_addScope.2.1 16 = .ok (.getfield 19, 3) := by decide +kernel
theorem d_Li_addScope_19 : decode m_Li_addScope.2.1 19 = .ok (.iload_n 2, 1) := by decide +kernel
theorem d_Li_addScope_20 : decode m_Li_addScope.2.1 20 = .ok (.iaload, 1) := by decide +kernel
theorem d_Li_addScope_21 : decode m_Li_addScope.2.1 21 = .ok (.iadd, 1) := by decide +kernel
theorem d_Li_addScope_22 : decode m_Li_addScope.2.1 22 = .ok (.iload_n 1, 1) := by decide +kernel
theorem d_Li_addScope_23 : decode m_Li_addScope.2.1 23 = .ok (.iastore, 1) := by decide +kernel
theorem d_Li_addScope_24 : decode m_Li_addScope.2.1 24 = .ok (.aload_n 0, 1) := by decide +kernel
theorem d_Li_addScope_25 : decode m_Li_addScope.2.1 25 = .ok (.getfield 19, 3) := by decide +kernel
theorem d_Li_addScope_28 : decode m_Li_addScope.2.1 28 = .ok (.iload_n 2, 1) := by decide +kernel
theorem d_Li_addScope_29 : decode m_Li_addScope.2.1 29 = .ok (.dup2, 1) := by decide +kernel
theorem d_Li_addScope_30 : decode m_Li_addScope.2.1 30 = .ok (.iaload, 1) := by decide +kernel
theorem d_Li_addScope_31 : decode m_Li_addScope.2.1 31 = .ok (.iconst 1, 1) := by decide +kernel
theorem d_Li_addScope_32 : decode m_Li_addScope.2.1 32 = .ok (.iadd, 1) := by decide +kernel
theorem d_Li_addScope_33 : decode m_Li_addScope.2.1 33 = .ok (.iastore, 1) := by decide +kernel
theorem d_Li_addScope_34 : decode m_Li_addScope.2.1 34 = .ok (.return_, 1) := by decide +kernel
theorem d_Gr_cut_0 : decode m_Gr_cut.2.1 0 = .ok (.iload_n 2, 1) := by decide +kernel
theorem d_Gr_cut_1 : decode m_Gr_cut.2.1 1 = .ok (.iload_n 3, 1) := by decide +kernel
theorem d_Gr_cut_2 : decode m_Gr_cut.2.1 2 = .ok (.if_icmp .ne (5), 3) := by decide +kernel
theorem d_Gr_cut_5 : decode m_Gr_cut.2.1 5 = .ok (.iconst 0, 1) := by decide +kernel
theorem d_Gr_cut_6 : decode m_Gr_cut.2.1 6 = .ok (.ireturn, 1) := by decide +kernel
theorem d_Gr_cut_7 : decode m_Gr_cut.2.1 7 = .ok (.aload_n 1, 1) := by decide +kernel
theorem d_Gr_cut_8 : decode m_Gr_cut.2.1 8 = .ok (.iload_n 2, 1) := by decide +kernel
theorem d_Gr_cut_9 : decode m_Gr_cut.2.1 9 = .ok (.invokevirtual 165, 3) := by decide +kernel
theorem d_Gr_cut_12 : decode m_Gr_cut.2.1 12 = .ok (.iconst 0, 1) := by decide +kernel
theorem d_Gr_cut_13 : decode m_Gr_cut.2.1 13 = .ok (.istore 4, 2) := by decide +kernel
theorem d_Gr_cut_15 : decode m_Gr_cut.2.1 15 = .ok (.iload 4, 2) := by decide +kernel
theorem d_Gr_cut_17 : decode m_Gr_cut.2.1 17 = .ok (.aload_n 0, 1) := by decide +kernel
theorem d_Gr_cut_18 : decode m_Gr_cut.2.1 18 = .ok (.getfield 20, 3) := by decide +kernel
theorem d_Gr_cut_21 : decode m_Gr_cut.2.1 21 = .ok (.getfield 152, 3) := by decide +kernel
theorem d_Gr_cut_24 : decode m_Gr_cut.2.1 24 = .ok (.if_icmp .ge (31), 3) := by decide +kernel
theorem d_Gr_cut_27 : decode m_Gr_cut.2.1 27 = .ok (.aload_n 1, 1) := by decide +kernel
theorem d_Gr_cut_28 : decode m_Gr_cut.2.1 28 = .ok (.aload_n 0, 1) := by decide +kernel
theorem d_Gr_cut_29 : decode m_Gr_cut.2.1 29 = .ok (.getfield 11, 3) := by decide +kernel
theorem d_Gr_cut_32 : decode m_Gr_cut.2.1 32 = .ok (.aload_n 0, 1) := by decide +kernel
theorem d_Gr_cut_33 : decode m_Gr_cut.2.1 33 = .ok (.getfield 20, 3) := by decide +kernel
theorem d_Gr_cut_36 : decode m_Gr_cut.2.1 36 = .ok (.getfield 168, 3) := by decide +kernel
theorem d_Gr_cut_39 : decode m_Gr_cut.2.1 39 = .ok (.iload 4, 2) := by decide +kernel
theorem d_Gr_cut_41 : decode m_Gr_cut.2.1 41 = .ok (.iaload, 1) := by decide +kernel
theorem d_Gr_cut_42 : decode m_Gr_cut.2.1 42 = .ok (.aaload, 1) := by decide +kernel
theorem d_Gr_cut_43 : decode m_Gr_cut.2.1 43 = .ok (.getfield 56, 3) := by decide +kernel
theorem d_Gr_cut_46 : decode m_Gr_cut.2.1 46 = .ok (.invokevirtual 162, 3) := by decide +kernel
theorem d_Gr_cut_49 : decode m_Gr_cut.2.1 49 = .ok (.iinc 4 (1), 3) := by decide +kernel
theorem d_Gr_cut_52 : decode m_Gr_cut.2.1 52 = .ok (.goto (-37), 3) := by decide +kernel
theorem d_Gr_cut_55 : decode m_Gr_cut.2.1 55 = .ok (.iconst 1, 1) := by decide +kernel
theorem d_Gr_cut_56 : decode m_Gr_cut.2.1 56 = .ok (.ireturn, 1) := by decide +kernel
theorem d_Gr_mark_0 : decode m_Gr_mark.2.1 0 = .ok (.aload_n 0, 1) := by decide +kernel
theorem d_Gr_mark_1 : decode m_Gr_mark.2.1 1 = .ok (.getfield 20, 3) := by decide +kernel
theorem d_Gr_mark_4 : decode m_Gr_mark.2.1 4 = .ok (.aload_n 2, 1) := by decide +kernel
theorem d_Gr_mark_5 : decode m_Gr_mark.2.1 5 = .ok (.invokevirtual 59, 3) := by decide +kernel
theorem d_Gr_mark_8 : decode m_Gr_mark.2.1 8 = .ok (.aload_n 1, 1) := by decide +kernel
theorem d_Gr_mark_9 : decode m_Gr_mark.2.1 9 = .ok (.iconst 0, 1) := by decide +kernel
theorem d_Gr_mark_10 : decode m_Gr_mark.2.1 10 = .ok (.putfield 63, 3) := by decide +kernel
theorem d_Gr_mark_13 : decode m_Gr_mark.2.1 13 = .ok (.aload_n 1, 1) := by decide +kernel
theorem d_Gr_mark_14 : decode m_Gr_mark.2.1 14 = .ok (.iconst 1, 1) := by decide +kernel
theorem d_Gr_mark_15 : decode m_Gr_mark.2.1 15 = .ok (.putfield 68, 3) := by decide +kernel
theorem d_Gr_mark_18 : decode m_Gr_mark.2.1 18 = .ok (.aload_n 0, 1) := by decide +kernel
theorem d_Gr_mark_19 : decode m_Gr_mark.2.1 19 = .ok (.aload_n 1, 1) := by decide +kernel
theorem d_Gr_mark_20 : decode m_Gr_mark.2.1 20 = .ok (.iconst 0, 1) := by decide +kernel
theorem d_Gr_mark_21 : decode m_Gr_mark.2.1 21 = .ok (.aload_n 1, 1) := by decide +kernel
theorem d_Gr_mark_22 : decode m_Gr_mark.2.1 22 = .ok (.getfield 83, 3) := by decide +kernel
theorem d_Gr_mark_25 : decode m_Gr_mark.2.1 25 = .ok (.invokevirtual 86, 3) := by decide +kernel
theorem d_Gr_mark_28 : decode m_Gr_mark.2.1 28 = .ok (.pop, 1) := by decide +kernel
theorem d_Gr_mark_29 : decode m_Gr_mark.2.1 29 = .ok (.return_, 1) := by decide +kernel
theorem d_Gr_isLast_0 : decode m_Gr_isLast.2.1 0 = .ok (.aload_n 0, 1) := by decide +kernel
theorem d_Gr_isLast_1 : decode m_Gr_isLast.2.1 1 = .ok (.getfield 110, 3) := by decide +kernel
theorem d_Gr_isLast_4 : decode m_Gr_isLast.2.1 4 = .ok (.iconst (-1), 1) := by decide +kernel
theorem d_Gr_isLast_5 : decode m_Gr_isLast.2.1 5 = .ok (.if_icmp .ne (5), 3) := by decide +kernel
theorem d_Gr_isLast_8 : decode m_Gr_isLast.2.1 8 = .ok (.iconst 1, 1) := by decide +kernel
theorem d_Gr_isLast_9 : decode m_Gr_isLast.2.1 9 = .ok (.ireturn, 1) := by decide +kernel
theorem d_Gr_isLast_10 : decode m_Gr_isLast.2.1 10 = .ok (.aload_n 0, 1) := by decide +kernel
theorem d_Gr_isLast_11 : decode m_Gr_isLast.2.1 11 = .ok (.getfield 110, 3) := by decide +kernel
theorem d_Gr_isLast_14 : decode m_Gr_isLast.2.1 14 = .ok (.ifCond .ne (7), 3) := by decide +kernel
theorem d_Gr_isLast_17 : decode m_Gr_isLast.2.1 17 = .ok (.iconst 1, 1) := by decide +kernel
theorem d_Gr_isLast_18 : decode m_Gr_isLast.2.1 18 = .ok (.goto (4), 3) := by decide +kernel
theorem d_Gr_isLast_21 : decode m_Gr_isLast.2.1 21 = .ok (.iconst 0, 1) := by decide +kernel
theorem d_Gr_isLast_22 : decode m_Gr_isLast.2.1 22 = .ok (.istore_n 2, 1) := by decide +kernel
theorem d_Gr_isLast_23 : decode m_Gr_isLast.2.1 23 = .ok (.iload_n 2, 1) := by decide +kernel
theorem d_Gr_isLast_24 : decode m_Gr_isLast.2.1 24 = .ok (.ifCond .ne (33), 3) := by decide +kernel
theorem d_Gr_isLast_27 : decode m_Gr_isLast.2.1 27 = .ok (.aload_n 0, 1) := by decide +kernel
theorem d_Gr_isLast_28 : decode m_Gr_isLast.2.1 28 = .ok (.getfield 11, 3) := by decide +kernel
theorem d_Gr_isLast_31 : decode m_Gr_isLast.2.1 31 = .ok (.aload_n 0, 1) := by decide +kernel
theorem d_Gr_isLast_32 : decode m_Gr_isLast.2.1 32 = .ok (.getfield 110, 3) := by decide +kernel
theorem d_Gr_isLast_35 : decode m_Gr_isLast.2.1 35 = .ok (.aaload, 1) := by decide +kernel
theorem d_Gr_isLast_36 : decode m_Gr_isLast.2.1 36 = .ok (.getfield 41, 3) := by decide +kernel
theorem d_Gr_isLast_39 : decode m_Gr_isLast.2.1 39 = .ok (.ifCond .eq (18), 3) := by decide +kernel
theorem d_Gr_isLast_42 : decode m_Gr_isLast.2.1 42 = .ok (.aload_n 0, 1) := by decide +kernel
theorem d_Gr_isLast_43 : decode m_Gr_isLast.2.1 43 = .ok (.getfield 20, 3) := by decide +kernel
theorem d_Gr_isLast_46 : decode m_Gr_isLast.2.1 46 = .ok (.getfield 152, 3) := by decide +kernel
theorem d_Gr_isLast_49 : decode m_Gr_isLast.2.1 49 = .ok (.iconst 5, 1) := by decide +kernel
theorem d_Gr_isLast_50 : decode m_Gr_isLast.2.1 50 = .ok (.if_icmp .ne (7), 3) := by decide +kernel
theorem d_Gr_isLast_53 : decode m_Gr_isLast.2.1 53 = .ok (.iconst 1, 1) := by decide +kernel
theorem d_Gr_isLast_54 : decode m_Gr_isLast.2.1 54 = .ok (.goto (4), 3) := by decide +kernel
theorem d_Gr_isLast_57 : decode m_Gr_isLast.2.1 57 = .ok (.iconst 0, 1) := by decide +kernel
theorem d_Gr_isLast_58 : decode m_Gr_isLast.2.1 58 = .ok (.istore_n 3, 1) := by decide +kernel
theorem d_Gr_isLast_59 : decode m_Gr_isLast.2.1 59 = .ok (.iload_n 2, 1) := by decide +kernel
theorem d_Gr_isLast_60 : decode m_Gr_isLast.2.1 60 = .ok (.ifCond .ne (11), 3) := by decide +kernel
theorem d_Gr_isLast_63 : decode m_Gr_isLast.2.1 63 = .ok (.aload_n 0, 1) := by decide +kernel
theorem d_Gr_isLast_64 : decode m_Gr_isLast.2.1 64 = .ok (.getfield 97, 3) := by decide +kernel
theorem d_Gr_isLast_67 : decode m_Gr_isLast.2.1 67 = .ok (.iload_n 1, 1) := by decide +kernel
theorem d_Gr_isLast_68 : decode m_Gr_isLast.2.1 68 = .ok (.if_icmp .eq (7), 3) := by decide +kernel
theorem d_Gr_isLast_71 : decode m_Gr_isLast.2.1 71 = .ok (.iload_n 3, 1) := by decide +kernel
theorem d_Gr_isLast_72 : decode m_Gr_isLast.2.1 72 = .ok (.ifCond .eq (7), 3) := by decide +kernel
theorem d_Gr_isLast_75 : decode m_Gr_isLast.2.1 75 = .ok (.iconst 1, 1) := by decide +kernel
theorem d_Gr_isLast_76 : decode m_Gr_isLast.2.1 76 = .ok (.goto (4), 3) := by decide +kernel
theorem d_Gr_isLast_79 : decode m_Gr_isLast.2.1 79 = .ok (.iconst 0, 1) := by decide +kernel
theorem d_Gr_isLast_80 : decode m_Gr_isLast.2.1 80 = .ok (.ireturn, 1) := by decide +kernel
theorem d_St_push_0 : decode m_St_push.2.1 0 = .ok (.aload_n 0, 1) := by decide +kernel
theorem d_St_push_1 : decode m_St_push.2.1 1 = .ok (.getfield 9, 3) := by decide +kernel
theorem d_St_push_4 : decode m_St_push.2.1 4 = .ok (.aload_n 0, 1) := by decide +kernel
theorem d_St_push_5 : decode m_St_push.2.1 5 = .ok (.getfield 22, 3) := by decide +kernel
theorem d_St_push_8 : decode m_St_push.2.1 8 = .ok (.iload_n 1, 1) := by decide +kernel
theorem d_St_push_9 : decode m_St_push.2.1 9 = .ok (.iastore, 1) := by decide +kernel
theorem d_St_push_10 : decode m_St_push.2.1 10 = .ok (.aload_n 0, 1) := by decide +kernel
theorem d_St_push_11 : decode m_St_push.2.1 11 = .ok (.dup, 1) := by decide +kernel
theorem d_St_push_12 : decode m_St_push.2.1 12 = .ok (.getfield 22, 3) := by decide +kernel
theorem d_St_push_15 : decode m_St_push.2.1 15 = .ok (.iconst 1, 1) := by decide +kernel
theorem d_St_push_16 : decode m_St_push.2.1 16 = .ok (.iadd, 1) := by decide +kernel
theorem d_St_push_17 : decode m_St_push.2.1 17 = .ok (.putfield 22, 3) := by decide +kernel
theorem d_St_push_20 : decode m_St_push.2.1 20 = .ok (.return_, 1) := by decide +kernel
theorem d_St_keepText_0 : decode m_St_keepText.2.1 0 = .ok (.aload_n 0, 1) := by decide +kernel
theorem d_St_keepText_1 : decode m_St_keepText.2.1 1 = .ok (.getfield 22, 3) := by decide +kernel
theorem d_St_keepText_4 : decode m_St_keepText.2.1 4 = .ok (.iconst 1, 1) := by decide +kernel
theorem d_St_keepText_5 : decode m_St_keepText.2.1 5 = .ok (.isub, 1) := by decide +kernel
theorem d_St_keepText_6 : decode m_St_keepText.2.1 6 = .ok (.iconst 2, 1) := by decide +kernel
theorem d_St_keepText_7 : decode m_St_keepText.2.1 7 = .ok (.imul, 1) := by decide +kernel
theorem d_St_keepText_8 : decode m_St_keepText.2.1 8 = .ok (.iload_n 1, 1) := by decide +kernel
theorem d_St_keepText_9 : decode m_St_keepText.2.1 9 = .ok (.iadd, 1) := by decide +kernel
theorem d_St_keepText_10 : decode m_St_keepText.2.1 10 = .ok (.iconst 1, 1) := by decide +kernel
theorem d_St_keepText_11 : decode m_St_keepText.2.1 11 = .ok (.isub, 1) := by decide +kernel
theorem d_St_keepText_12 : decode m_St_keepText.2.1 12 = .ok (.istore 5, 2) := by decide +kernel
theorem d_St_keepText_14 : decode m_St_keepText.2.1 14 = .ok (.iload_n 3, 1) := by decide +kernel
theorem d_St_keepText_15 : decode m_St_keepText.2.1 15 = .ok (.iconst (-1), 1) := by decide +kernel
theorem d_St_keepText_16 : decode m_St_keepText.2.1 16 = .ok (.if_icmp .ne (7), 3) := by decide +kernel
theorem d_St_keepText_19 : decode m_St_keepText.2.1 19 = .ok (.iconst 0, 1) := by decide +kernel
theorem d_St_keepText_20 : decode m_St_keepText.2.1 20 = .ok (.goto (7), 3) := by decide +kernel
theorem d_St_keepText_23 : decode m_St_keepText.2.1 23 = .ok (.iload 4, 2) := by decide +kernel
theorem d_St_keepText_25 : decode m_St_keepText.2.1 25 = .ok (.iload_n 3, 1) := by decide +kernel
theorem d_St_keepText_26 : decode m_St_keepText.2.1 26 = .ok (.isub, 1) := by decide +kernel
theorem d_St_keepText_27 : decode m_St_keepText.2.1 27 = .ok (.istore 6, 2) := by decide +kernel
theorem d_St_keepText_29 : decode m_St_keepText.2.1 29 = .ok (.aload_n 0, 1) := by decide +kernel
theorem d_St_keepText_30 : decode m_St_keepText.2.1 30 = .ok (.getfield 15, 3) := by decide +kernel
theorem d_St_keepText_33 : decode m_St_keepText.2.1 33 = .ok (.iload 5, 2) := by decide +kernel
theorem d_St_keepText_35 : decode m_St_keepText.2.1 35 = .ok (.iload 6, 2) := by decide +kernel
theorem d_St_keepText_37 : decode m_St_keepText.2.1 37 = .ok (.iastore, 1) := by decide +kernel
theorem d_St_keepText_38 : decode m_St_keepText.2.1 38 = .ok (.iconst 0, 1) := by decide +kernel
theorem d_St_keepText_39 : decode m_St_keepText.2.1 39 = .ok (.istore 7, 2) := by decide +kernel
theorem d_St_keepText_41 : decode m_St_keepText.2.1 41 = .ok (.iload 7, 2) := by decide +kernel
theorem d_St_keepText_43 : decode m_St_keepText.2.1 43 = .ok (.iload 6, 2) := by decide +kernel
theorem d_St_keepText_45 : decode m_St_keepText.2.1 45 = .ok (.if_icmp .ge (31), 3) := by decide +kernel
theorem d_St_keepText_48 : decode m_St_keepText.2.1 48 = .ok (.aload_n 0, 1) := by decide +kernel
theorem d_St_keepText_49 : decode m_St_keepText.2.1 49 = .ok (.getfield 18, 3) := by decide +kernel
theorem d_St_keepText_52 : decode m_St_keepText.2.1 52 = .ok (.iload 5, 2) := by decide +kernel
theorem d_St_keepText_54 : decode m_St_keepText.2.1 54 = .ok (.bipush (24), 2) := by decide +kernel
theorem d_St_keepText_56 : decode m_St_keepText.2.1 56 = .ok (.imul, 1) := by decide +kernel
theorem d_St_keepText_57 : decode m_St_keepText.2.1 57 = .ok (.iload 7, 2) := by decide +kernel
theorem d_St_keepText_59 : decode m_St_keepText.2.1 59 = .ok (.iadd, 1) := by decide +kernel
theorem d_St_keepText_60 : decode m_St_keepText.2.1 60 = .ok (.aload_n 2, 1) := by decide +kernel
theorem d_St_keepText_61 : decode m_St_keepText.2.1 61 = .ok (.getfield 26, 3) := by decide +kernel
theorem d_St_keepText_64 : decode m_St_keepText.2.1 64 = .ok (.iload_n 3, 1) := by decide +kernel
theorem d_St_keepText_65 : decode m_St_keepText.2.1 65 = .ok (.iload 7, 2) := by decide +kernel
theorem d_St_keepText_67 : decode m_St_keepText.2.1 67 = .ok (.iadd, 1) := by decide +kernel
theorem d_St_keepText_68 : decode m_St_keepText.2.1 68 = .ok (.caload, 1) := by decide +kernel
theorem d_St_keepText_69 : decode m_St_keepText.2.1 69 = .ok (.castore, 1) := by decide +kernel
theorem d_St_keepText_70 : decode m_St_keepText.2.1 70 = .ok (.iinc 7 (1), 3) := by decide +kernel
theorem d_St_keepText_73 : decode m_St_keepText.2.1 73 = .ok (.goto (-32), 3) := by decide +kernel
theorem d_St_keepText_76 : decode m_St_keepText.2.1 76 = .ok (.return_, 1) := by decide +kernel
theorem d_Gr_takeWinner_0 : decode m_Gr_takeWinner.2.1 0 = .ok (.aload_n 0, 1) := by decide +kernel
theorem d_Gr_takeWinner_1 : decode m_Gr_takeWinner.2.1 1 = .ok (.getfield 110, 3) := by decide +kernel
theorem d_Gr_takeWinner_4 : decode m_Gr_takeWinner.2.1 4 = .ok (.ifCond .ne (33), 3) := by decide +kernel
theorem d_Gr_takeWinner_7 : decode m_Gr_takeWinner.2.1 7 = .ok (.aload_n 0, 1) := by decide +kernel
theorem d_Gr_takeWinner_8 : decode m_Gr_takeWinner.2.1 8 = .ok (.aload_n 1, 1) := by decide +kernel
theorem d_Gr_takeWinner_9 : decode m_Gr_takeWinner.2.1 9 = .ok (.aload_n 0, 1) := by decide +kernel
theorem d_Gr_takeWinner_10 : decode m_Gr_takeWinner.2.1 10 = .ok (.getfield 90, 3) := by decide +kernel
theorem d_Gr_takeWinner_13 : decode m_Gr_takeWinner.2.1 13 = .ok (.aload_n 0, 1) := by decide +kernel
theorem d_Gr_takeWinner_14 : decode m_Gr_takeWinner.2.1 14 = .ok (.getfield 97, 3) := by decide +kernel
theorem d_Gr_takeWinner_17 : decode m_Gr_takeWinner.2.1 17 = .ok (.invokevirtual 86, 3) := by decide +kernel
theorem d_Gr_takeWinner_20 : decode m_Gr_takeWinner.2.1 20 = .ok (.pop, 1) := by decide +kernel
theorem d_Gr_takeWinner_21 : decode m_Gr_takeWinner.2.1 21 = .ok (.aload_n 0, 1) := by decide +kernel
theorem d_Gr_takeWinner_22 : decode m_Gr_takeWinner.2.1 22 = .ok (.getfield 20, 3) := by decide +kernel
theorem d_Gr_takeWinner_25 : decode m_Gr_takeWinner.2.1 25 = .ok (.dup, 1) := by decide +kernel
theorem d_Gr_takeWinner_26 : decode m_Gr_takeWinner.2.1 26 = .ok (.getfield 152, 3) := by decide +kernel
theorem d_Gr_takeWinner_29 : decode m_Gr_takeWinner.2.1 29 = .ok (.iconst 1, 1) := by decide +kernel
theorem d_Gr_takeWinner_30 : decode m_Gr_takeWinner.2.1 30 = .ok (.isub, 1) := by decide +kernel
theorem d_Gr_takeWinner_31 : decode m_Gr_takeWinner.2.1 31 = .ok (.putfield 152, 3) := by decide +kernel
theorem d_Gr_takeWinner_34 : decode m_Gr_takeWinner.2.1 34 = .ok (.goto (120), 3) := by decide +kernel
theorem d_Gr_takeWinner_37 : decode m_Gr_takeWinner.2.1 37 = .ok (.aload_n 0, 1) := by decide +kernel
theorem d_Gr_takeWinner_38 : decode m_Gr_takeWinner.2.1 38 = .ok (.getfield 11, 3) := by decide +kernel
theorem d_Gr_takeWinner_41 : decode m_Gr_takeWinner.2.1 41 = .ok (.aload_n 0, 1) := by decide +kernel
theorem d_Gr_takeWinner_42 : decode m_Gr_takeWinner.2.1 42 = .ok (.getfield 110, 3) := by decide +kernel
theorem d_Gr_takeWinner_45 : decode m_Gr_takeWinner.2.1 45 = .ok (.aaload, 1) := by decide +kernel
theorem d_Gr_takeWinner_46 : decode m_Gr_takeWinner.2.1 46 = .ok (.getfield 41, 3) := by decide +kernel
theorem d_Gr_takeWinner_49 : decode m_Gr_takeWinner.2.1 49 = .ok (.ifCond .eq (73), 3) := by decide +kernel
theorem d_Gr_takeWinner_52 : decode m_Gr_takeWinner.2.1 52 = .ok (.aload_n 0, 1) := by decide +kernel
theorem d_Gr_takeWinner_53 : decode m_Gr_takeWinner.2.1 53 = .ok (.getfield 20, 3) := by decide +kernel
theorem d_Gr_takeWinner_56 : decode m_Gr_takeWinner.2.1 56 = .ok (.aload_n 0, 1) := by decide +kernel
theorem d_Gr_takeWinner_57 : decode m_Gr_takeWinner.2.1 57 = .ok (.getfield 110, 3) := by decide +kernel
theorem d_Gr_takeWinner_60 : decode m_Gr_takeWinner.2.1 60 = .ok (.invokevirtual 155, 3) := by decide +kernel
theorem d_Gr_takeWinner_63 : decode m_Gr_takeWinner.2.1 63 = .ok (.aload_n 0, 1) := by decide +kernel
theorem d_Gr_takeWinner_64 : decode m_Gr_takeWinner.2.1 64 = .ok (.getfield 20, 3) := by decide +kernel
theorem d_Gr_takeWinner_67 : decode m_Gr_takeWinner.2.1 67 = .ok (.iconst 1, 1) := by decide +kernel
theorem d_Gr_takeWinner_68 : decode m_Gr_takeWinner.2.1 68 = .ok (.aload_n 1, 1) := by decide +kernel
theorem d_Gr_takeWinner_69 : decode m_Gr_takeWinner.2.1 69 = .ok (.aload_n 0, 1) := by decide +kernel
theorem d_Gr_takeWinner_70 : decode m_Gr_takeWinner.2.1 70 = .ok (.getfield 28, 3) := by decide +kernel
theorem d_Gr_takeWinner_73 : decode m_Gr_takeWinner.2.1 73 = .ok (.iconst 0, 1) := by decide +kernel
theorem d_Gr_takeWinner_74 : decode m_Gr_takeWinner.2.1 74 = .ok (.iaload, 1) := by decide +kernel
theorem d_Gr_takeWinner_75 : decode m_Gr_takeWinner.2.1 75 = .ok (.aload_n 0, 1) := by decide +kernel
theorem d_Gr_takeWinner_76 : decode m_Gr_takeWinner.2.1 76 = .ok (.getfield 28, 3) := by decide +kernel
theorem d_Gr_takeWinner_79 : decode m_Gr_takeWinner.2.1 79 = .ok (.iconst 1, 1) := by decide +kernel
theorem d_Gr_takeWinner_80 : decode m_Gr_takeWinner.2.1 80 = .ok (.iaload, 1) := by decide +kernel
theorem d_Gr_takeWinner_81 : decode m_Gr_takeWinner.2.1 81 = .ok (.invokevirtual 158, 3) := by decide +kernel
theorem d_Gr_takeWinner_84 : decode m_Gr_takeWinner.2.1 84 = .ok (.aload_n 0, 1) := by decide +kernel
theorem d_Gr_takeWinner_85 : decode m_Gr_takeWinner.2.1 85 = .ok (.getfield 20, 3) := by decide +kernel
theorem d_Gr_takeWinner_88 : decode m_Gr_takeWinner.2.1 88 = .ok (.iconst 2, 1) := by decide +kernel
theorem d_Gr_takeWinner_89 : decode m_Gr_takeWinner.2.1 89 = .ok (.aload_n 1, 1) := by decide +kernel
theorem d_Gr_takeWinner_90 : decode m_Gr_takeWinner.2.1 90 = .ok (.aload_n 0, 1) := by decide +kernel
theorem d_Gr_takeWinner_91 : decode m_Gr_takeWinner.2.1 91 = .ok (.getfield 28, 3) := by decide +kernel
theorem d_Gr_takeWinner_94 : decode m_Gr_takeWinner.2.1 94 = .ok (.iconst 2, 1) := by decide +kernel
theorem d_Gr_takeWinner_95 : decode m_Gr_takeWinner.2.1 95 = .ok (.iaload, 1) := by decide +kernel
theorem d_Gr_takeWinner_96 : decode m_Gr_takeWinner.2.1 96 = .ok (.aload_n 0, 1) := by decide +kernel
theorem d_Gr_takeWinner_97 : decode m_Gr_takeWinner.2.1 97 = .ok (.getfield 28, 3) := by decide +kernel
theorem d_Gr_takeWinner_100 : decode m_Gr_takeWinner.2.1 100 = .ok (.iconst 3, 1) := by decide +kernel
theorem d_Gr_takeWinner_101 : decode m_Gr_takeWinner.2.1 101 = .ok (.iaload, 1) := by decide +kernel
theorem d_Gr_takeWinner_102 : decode m_Gr_takeWinner.2.1 102 = .ok (.invokevirtual 158, 3) := by decide +kernel
theorem d_Gr_takeWinner_105 : decode m_Gr_takeWinner.2.1 105 = .ok (.aload_n 0, 1) := by decide +kernel
theorem d_Gr_takeWinner_106 : decode m_Gr_takeWinner.2.1 106 = .ok (.aload_n 1, 1) := by decide +kernel
theorem d_Gr_takeWinner_107 : decode m_Gr_takeWinner.2.1 107 = .ok (.aload_n 0, 1) := by decide +kernel
theorem d_Gr_takeWinner_108 : decode m_Gr_takeWinner.2.1 108 = .ok (.getfield 90, 3) := by decide +kernel
theorem d_Gr_takeWinner_111 : decode m_Gr_takeWinner.2.1 111 = .ok (.aload_n 0, 1) := by decide +kernel
theorem d_Gr_takeWinner_112 : decode m_Gr_takeWinner.2.1 112 = .ok (.getfield 97, 3) := by decide +kernel
theorem d_Gr_takeWinner_115 : decode m_Gr_takeWinner.2.1 115 = .ok (.invokevirtual 86, 3) := by decide +kernel
theorem d_Gr_takeWinner_118 : decode m_Gr_takeWinner.2.1 118 = .ok (.pop, 1) := by decide +kernel
theorem d_Gr_takeWinner_119 : decode m_Gr_takeWinner.2.1 119 = .ok (.goto (35), 3) := by decide +kernel
theorem d_Gr_takeWinner_122 : decode m_Gr_takeWinner.2.1 122 = .ok (.aload_n 0, 1) := by decide +kernel
theorem d_Gr_takeWinner_123 : decode m_Gr_takeWinner.2.1 123 = .ok (.aload_n 1, 1) := by decide +kernel
theorem d_Gr_takeWinner_124 : decode m_Gr_takeWinner.2.1 124 = .ok (.aload_n 0, 1) := by decide +kernel
theorem d_Gr_takeWinner_125 : decode m_Gr_takeWinner.2.1 125 = .ok (.getfield 90, 3) := by decide +kernel
theorem d_Gr_takeWinner_128 : decode m_Gr_takeWinner.2.1 128 = .ok (.aload_n 0, 1) := by decide +kernel
theorem d_Gr_takeWinner_129 : decode m_Gr_takeWinner.2.1 129 = .ok (.getfield 97, 3) := by decide +kernel
theorem d_Gr_takeWinner_132 : decode m_Gr_takeWinner.2.1 132 = .ok (.invokevirtual 86, 3) := by decide +kernel
theorem d_Gr_takeWinner_135 : decode m_Gr_takeWinner.2.1 135 = .ok (.ifCond .eq (19), 3) := by decide +kernel
theorem d_Gr_takeWinner_138 : decode m_Gr_takeWinner.2.1 138 = .ok (.aload_n 1, 1) := by decide +kernel
theorem d_Gr_takeWinner_139 : decode m_Gr_takeWinner.2.1 139 = .ok (.aload_n 0, 1) := by decide +kernel
theorem d_Gr_takeWinner_140 : decode m_Gr_takeWinner.2.1 140 = .ok (.getfield 11, 3) := by decide +kernel
theorem d_Gr_takeWinner_143 : decode m_Gr_takeWinner.2.1 143 = .ok (.aload_n 0, 1) := by decide +kernel
theorem d_Gr_takeWinner_144 : decode m_Gr_takeWinner.2.1 144 = .ok (.getfield 110, 3) := by decide +kernel
theorem d_Gr_takeWinner_147 : decode m_Gr_takeWinner.2.1 147 = .ok (.aaload, 1) := by decide +kernel
theorem d_Gr_takeWinner_148 : decode m_Gr_takeWinner.2.1 148 = .ok (.getfield 56, 3) := by decide +kernel
theorem d_Gr_takeWinner_151 : decode m_Gr_takeWinner.2.1 151 = .ok (.invokevirtual 162, 3) := by decide +kernel
theorem d_Gr_takeWinner_154 : decode m_Gr_takeWinner.2.1 154 = .ok (.return_, 1) := by decide +kernel
theorem d_Gr_tokenize_0 : decode m_Gr_tokenize.2.1 0 = .ok (.aload_n 0, 1) := by decide +kernel
theorem d_Gr_tokenize_1 : decode m_Gr_tokenize.2.1 1 = .ok (.getfield 20, 3) := by decide +kernel
theorem d_Gr_tokenize_4 : decode m_Gr_tokenize.2.1 4 = .ok (.aload_n 2, 1) := by decide +kernel
theorem d_Gr_tokenize_5 : decode m_Gr_tokenize.2.1 5 = .ok (.invokevirtual 59, 3) := by decide +kernel
theorem d_Gr_tokenize_8 : decode m_Gr_tokenize.2.1 8 = .ok (.aload_n 1, 1) := by decide +kernel
theorem d_Gr_tokenize_9 : decode m_Gr_tokenize.2.1 9 = .ok (.iconst 0, 1) := by decide +kernel
theorem d_Gr_tokenize_10 : decode m_Gr_tokenize.2.1 10 = .ok (.putfield 63, 3) := by decide +kernel
theorem d_Gr_tokenize_13 : decode m_Gr_tokenize.2.1 13 = .ok (.aload_n 1, 1) := by decide +kernel
theorem d_Gr_tokenize_14 : decode m_Gr_tokenize.2.1 14 = .ok (.iconst 0, 1) := by decide +kernel
theorem d_Gr_tokenize_15 : decode m_Gr_tokenize.2.1 15 = .ok (.putfield 68, 3) := by decide +kernel
theorem d_Gr_tokenize_18 : decode m_Gr_tokenize.2.1 18 = .ok (.iconst 0, 1) := by decide +kernel
theorem d_Gr_tokenize_19 : decode m_Gr_tokenize.2.1 19 = .ok (.istore_n 3, 1) := by decide +kernel
theorem d_Gr_tokenize_20 : decode m_Gr_tokenize.2.1 20 = .ok (.iconst 1, 1) := by decide +kernel
theorem d_Gr_tokenize_21 : decode m_Gr_tokenize.2.1 21 = .ok (.istore 4, 2) := by decide +kernel
theorem d_Gr_tokenize_23 : decode m_Gr_tokenize.2.1 23 = .ok (.iconst 0, 1) := by decide +kernel
theorem d_Gr_tokenize_24 : decode m_Gr_tokenize.2.1 24 = .ok (.istore 5, 2) := by decide +kernel
theorem d_Gr_tokenize_26 : decode m_Gr_tokenize.2.1 26 = .ok (.iload 5, 2) := by decide +kernel
theorem d_Gr_tokenize_28 : decode m_Gr_tokenize.2.1 28 = .ok (.bipush (54), 2) := by decide +kernel
theorem d_Gr_tokenize_30 : decode m_Gr_tokenize.2.1 30 = .ok (.if_icmp .ge (81), 3) := by decide +kernel
theorem d_Gr_tokenize_33 : decode m_Gr_tokenize.2.1 33 = .ok (.iload 4, 2) := by decide +kernel
theorem d_Gr_tokenize_35 : decode m_Gr_tokenize.2.1 35 = .ok (.ifCond .eq (76), 3) := by decide +kernel
theorem d_Gr_tokenize_38 : decode m_Gr_tokenize.2.1 38 = .ok (.aload_n 0, 1) := by decide +kernel
theorem d_Gr_tokenize_39 : decode m_Gr_tokenize.2.1 39 = .ok (.aload_n 1, 1) := by decide +kernel
theorem d_Gr_tokenize_40 : decode m_Gr_tokenize.2.1 40 = .ok (.iload_n 3, 1) := by decide +kernel
theorem d_Gr_tokenize_41 : decode m_Gr_tokenize.2.1 41 = .ok (.invokevirtual 71, 3) := by decide +kernel
theorem d_Gr_tokenize_44 : decode m_Gr_tokenize.2.1 44 = .ok (.ifCond .ne (15), 3) := by decide +kernel
theorem d_Gr_tokenize_47 : decode m_Gr_tokenize.2.1 47 = .ok (.aload_n 0, 1) := by decide +kernel
theorem d_Gr_tokenize_48 : decode m_Gr_tokenize.2.1 48 = .ok (.aload_n 1, 1) := by decide +kernel
theorem d_Gr_tokenize_49 : decode m_Gr_tokenize.2.1 49 = .ok (.aload_n 2, 1) := by decide +kernel
theorem d_Gr_tokenize_50 : decode m_Gr_tokenize.2.1 50 = .ok (.invokevirtual 75, 3) := by decide +kernel
theorem d_Gr_tokenize_53 : decode m_Gr_tokenize.2.1 53 = .ok (.iconst 0, 1) := by decide +kernel
theorem d_Gr_tokenize_54 : decode m_Gr_tokenize.2.1 54 = .ok (.istore 4, 2) := by decide +kernel
theorem d_Gr_tokenize_56 : decode m_Gr_tokenize.2.1 56 = .ok (.goto (49), 3) := by decide +kernel
theorem d_Gr_tokenize_59 : decode m_Gr_tokenize.2.1 59 = .ok (.aload_n 0, 1) := by decide +kernel
theorem d_Gr_tokenize_60 : decode m_Gr_tokenize.2.1 60 = .ok (.iload_n 3, 1) := by decide +kernel
theorem d_Gr_tokenize_61 : decode m_Gr_tokenize.2.1 61 = .ok (.invokevirtual 79, 3) := by decide +kernel
theorem d_Gr_tokenize_64 : decode m_Gr_tokenize.2.1 64 = .ok (.ifCond .eq (20), 3) := by decide +kernel
theorem d_Gr_tokenize_67 : decode m_Gr_tokenize.2.1 67 = .ok (.aload_n 0, 1) := by decide +kernel
theorem d_Gr_tokenize_68 : decode m_Gr_tokenize.2.1 68 = .ok (.aload_n 1, 1) := by decide +kernel
theorem d_Gr_tokenize_69 : decode m_Gr_tokenize.2.1 69 = .ok (.iload_n 3, 1) := by decide +kernel
theorem d_Gr_tokenize_70 : decode m_Gr_tokenize.2.1 70 = .ok (.aload_n 1, 1) := by decide +kernel
theorem d_Gr_tokenize_71 : decode m_Gr_tokenize.2.1 71 = .ok (.getfield 83, 3) := by decide +kernel
theorem d_Gr_tokenize_74 : decode m_Gr_tokenize.2.1 74 = .ok (.invokevirtual 86, 3) := by decide +kernel
theorem d_Gr_tokenize_77 : decode m_Gr_tokenize.2.1 77 = .ok (.pop, 1) := by decide +kernel
theorem d_Gr_tokenize_78 : decode m_Gr_tokenize.2.1 78 = .ok (.iconst 0, 1) := by decide +kernel
theorem d_Gr_tokenize_79 : decode m_Gr_tokenize.2.1 79 = .ok (.istore 4, 2) := by decide +kernel
theorem d_Gr_tokenize_81 : decode m_Gr_tokenize.2.1 81 = .ok (.goto (24), 3) := by decide +kernel
theorem d_Gr_tokenize_84 : decode m_Gr_tokenize.2.1 84 = .ok (.aload_n 0, 1) := by decide +kernel
theorem d_Gr_tokenize_85 : decode m_Gr_tokenize.2.1 85 = .ok (.aload_n 1, 1) := by decide +kernel
theorem d_Gr_tokenize_86 : decode m_Gr_tokenize.2.1 86 = .ok (.iload_n 3, 1) := by decide +kernel
theorem d_Gr_tokenize_87 : decode m_Gr_tokenize.2.1 87 = .ok (.aload_n 0, 1) := by decide +kernel
theorem d_Gr_tokenize_88 : decode m_Gr_tokenize.2.1 88 = .ok (.getfield 90, 3) := by decide +kernel
theorem d_Gr_tokenize_91 : decode m_Gr_tokenize.2.1 91 = .ok (.invokevirtual 86, 3) := by decide +kernel
theorem d_Gr_tokenize_94 : decode m_Gr_tokenize.2.1 94 = .ok (.pop, 1) := by decide +kernel
theorem d_Gr_tokenize_95 : decode m_Gr_tokenize.2.1 95 = .ok (.aload_n 0, 1) := by decide +kernel
theorem d_Gr_tokenize_96 : decode m_Gr_tokenize.2.1 96 = .ok (.aload_n 1, 1) := by decide +kernel
theorem d_Gr_tokenize_97 : decode m_Gr_tokenize.2.1 97 = .ok (.invokevirtual 93, 3) := by decide +kernel
theorem d_Gr_tokenize_100 : decode m_Gr_tokenize.2.1 100 = .ok (.aload_n 0, 1) := by decide +kernel
theorem d_Gr_tokenize_101 : decode m_Gr_tokenize.2.1 101 = .ok (.getfield 97, 3) := by decide +kernel
theorem d_Gr_tokenize_104 : decode m_Gr_tokenize.2.1 104 = .ok (.istore_n 3, 1) := by decide +kernel
theorem d_Gr_tokenize_105 : decode m_Gr_tokenize.2.1 105 = .ok (.iinc 5 (1), 3) := by decide +kernel
theorem d_Gr_tokenize_108 : decode m_Gr_tokenize.2.1 108 = .ok (.goto (-82), 3) := by decide +kernel
theorem d_Gr_tokenize_111 : decode m_Gr_tokenize.2.1 111 = .ok (.aload_n 1, 1) := by decide +kernel
theorem d_Gr_tokenize_112 : decode m_Gr_tokenize.2.1 112 = .ok (.getfield 100, 3) := by decide +kernel
theorem d_Gr_tokenize_115 : decode m_Gr_tokenize.2.1 115 = .ok (.aload_n 0, 1) := by decide +kernel
theorem d_Gr_tokenize_116 : decode m_Gr_tokenize.2.1 116 = .ok (.getfield 20, 3) := by decide +kernel
theorem d_Gr_tokenize_119 : decode m_Gr_tokenize.2.1 119 = .ok (.invokevirtual 59, 3) := by decide +kernel
theorem d_Gr_tokenize_122 : decode m_Gr_tokenize.2.1 122 = .ok (.return_, 1) := by decide +kernel
theorem d_St_isSameText_0 : decode m_St_isSameText.2.1 0 = .ok (.aload_n 0, 1) := by decide +kernel
theorem d_St_isSameText_1 : decode m_St_isSameText.2.1 1 = .ok (.getfield 15, 3) := by decide +kernel
theorem d_St_isSameText_4 : decode m_St_isSameText.2.1 4 = .ok (.iload_n 2, 1) := by decide +kernel
theorem d_St_isSameText_5 : decode m_St_isSameText.2.1 5 = .ok (.iaload, 1) := by decide +kernel
theorem d_St_isSameText_6 : decode m_St_isSameText.2.1 6 = .ok (.aload_n 1, 1) := by decide +kernel
theorem d_St_isSameText_7 : decode m_St_isSameText.2.1 7 = .ok (.getfield 15, 3) := by decide +kernel
theorem d_St_isSameText_10 : decode m_St_isSameText.2.1 10 = .ok (.iload_n 2, 1) := by decide +kernel
theorem d_St_isSameText_11 : decode m_St_isSameText.2.1 11 = .ok (.iaload, 1) := by decide +kernel
theorem d_St_isSameText_12 : decode m_St_isSameText.2.1 12 = .ok (.if_icmp .ne (7), 3) := by decide +kernel
theorem d_St_isSameText_15 : decode m_St_isSameText.2.1 15 = .ok (.iconst 1, 1) := by decide +kernel
theorem d_St_isSameText_16 : decode m_St_isSameText.2.1 16 = .ok (.goto (4), 3) := by decide +kernel
theorem d_St_isSameText_19 : decode m_St_isSameText.2.1 19 = .ok (.iconst 0, 1) := by decide +kernel
theorem d_St_isSameText_20 : decode m_St_isSameText.2.1 20 = .ok (.istore_n 3, 1) := by decide +kernel
theorem d_St_isSameText_21 : decode m_St_isSameText.2.1 21 = .ok (.iconst 0, 1) := by decide +kernel
theorem d_St_isSameText_22 : decode m_St_isSameText.2.1 22 = .ok (.istore 4, 2) := by decide +kernel
theorem d_St_isSameText_24 : decode m_St_isSameText.2.1 24 = .ok (.iload 4, 2) := by decide +kernel
theorem d_St_isSameText_26 : decode m_St_isSameText.2.1 26 = .ok (.aload_n 0, 1) := by decide +kernel
theorem d_St_isSameText_27 : decode m_St_isSameText.2.1 27 = .ok (.getfield 15, 3) := by decide +kernel
theorem d_St_isSameText_30 : decode m_St_isSameText.2.1 30 = .ok (.iload_n 2, 1) := by decide +kernel
theorem d_St_isSameText_31 : decode m_St_isSameText.2.1 31 = .ok (.iaload, 1) := by decide +kernel
theorem d_St_isSameText_32 : decode m_St_isSameText.2.1 32 = .ok (.if_icmp .ge (46), 3) := by decide +kernel
theorem d_St_isSameText_35 : decode m_St_isSameText.2.1 35 = .ok (.iload_n 3, 1) := by decide +kernel
theorem d_St_isSameText_36 : decode m_St_isSameText.2.1 36 = .ok (.ifCond .eq (42), 3) := by decide +kernel
theorem d_St_isSameText_39 : decode m_St_isSameText.2.1 39 = .ok (.aload_n 0, 1) := by decide +kernel
theorem d_St_isSameText_40 : decode m_St_isSameText.2.1 40 = .ok (.getfield 18, 3) := by decide +kernel
theorem d_St_isSameText_43 : decode m_St_isSameText.2.1 43 = .ok (.iload_n 2, 1) := by decide +kernel
theorem d_St_isSameText_44 : decode m_St_isSameText.2.1 44 = .ok (.bipush (24), 2) := by decide +kernel
theorem d_St_isSameText_46 : decode m_St_isSameText.2.1 46 = .ok (.imul, 1) := by decide +kernel
theorem d_St_isSameText_47 : decode m_St_isSameText.2.1 47 = .ok (.iload 4, 2) := by decide +kernel
theorem d_St_isSameText_49 : decode m_St_isSameText.2.1 49 = .ok (.iadd, 1) := by decide +kernel
theorem d_St_isSameText_50 : decode m_St_isSameText.2.1 50 = .ok (.caload, 1) := by decide +kernel
theorem d_St_isSameText_51 : decode m_St_isSameText.2.1 51 = .ok (.aload_n 1, 1) := by decide +kernel
theorem d_St_isSameText_52 : decode m_St_isSameText.2.1 52 = .ok (.getfield 18, 3) := by decide +kernel
theorem d_St_isSameText_55 : decode m_St_isSameText.2.1 55 = .ok (.iload_n 2, 1) := by decide +kernel
theorem d_St_isSameText_56 : decode m_St_isSameText.2.1 56 = .ok (.bipush (24), 2) := by decide +kernel
theorem d_St_isSameText_58 : decode m_St_isSameText.2.1 58 = .ok (.imul, 1) := by decide +kernel
theorem d_St_isSameText_59 : decode m_St_isSameText.2.1 59 = .ok (.iload 4, 2) := by decide +kernel
theorem d_St_isSameText_61 : decode m_St_isSameText.2.1 61 = .ok (.iadd, 1) := by decide +kernel
theorem d_St_isSameText_62 : decode m_St_isSameText.2.1 62 = .ok (.caload, 1) := by decide +kernel
theorem d_St_isSameText_63 : decode m_St_isSameText.2.1 63 = .ok (.if_icmp .ne (7), 3) := by decide +kernel
theorem d_St_isSameText_66 : decode m_St_isSameText.2.1 66 = .ok (.iconst 1, 1) := by decide +kernel
theorem d_St_isSameText_67 : decode m_St_isSameText.2.1 67 = .ok (.goto (4), 3) := by decide +kernel
theorem d_St_isSameText_70 : decode m_St_isSameText.2.1 70 = .ok (.iconst 0, 1) := by decide +kernel
theorem d_St_isSameText_71 : decode m_St_isSameText.2.1 71 = .ok (.istore_n 3, 1) := by decide +kernel
theorem d_St_isSameText_72 : decode m_St_isSameText.2.1 72 = .ok (.iinc 4 (1), 3) := by decide +kernel
theorem d_St_isSameText_75 : decode m_St_isSameText.2.1 75 = .ok (.goto (-51), 3) := by decide +kernel
theorem d_St_isSameText_78 : decode m_St_isSameText.2.1 78 = .ok (.iload_n 3, 1) := by decide +kernel
theorem d_St_isSameText_79 : decode m_St_isSameText.2.1 79 = .ok (.ireturn, 1) := by decide +kernel
theorem d_St_isSame_0 : decode m_St_isSame.2.1 0 = .ok (.aload_n 0, 1) := by decide +kernel
theorem d_St_isSame_1 : decode m_St_isSame.2.1 1 = .ok (.getfield 22, 3) := by decide +kernel
theorem d_St_isSame_4 : decode m_St_isSame.2.1 4 = .ok (.aload_n 1, 1) := by decide +kernel
theorem d_St_isSame_5 : decode m_St_isSame.2.1 5 = .ok (.getfield 22, 3) := by decide +kernel
theorem d_St_isSame_8 : decode m_St_isSame.2.1 8 = .ok (.if_icmp .ne (7), 3) := by decide +kernel
theorem d_St_isSame_11 : decode m_St_isSame.2.1 11 = .ok (.iconst 1, 1) := by decide +kernel
theorem d_St_isSame_12 : decode m_St_isSame.2.1 12 = .ok (.goto (4), 3) := by decide +kernel
theorem d_St_isSame_15 : decode m_St_isSame.2.1 15 = .ok (.iconst 0, 1) := by decide +kernel
theorem d_St_isSame_16 : decode m_St_isSame.2.1 16 = .ok (.istore_n 2, 1) := by decide +kernel
theorem d_St_isSame_17 : decode m_St_isSame.2.1 17 = .ok (.iconst 0, 1) := by decide +kernel
theorem d_St_isSame_18 : decode m_St_isSame.2.1 18 = .ok (.istore_n 3, 1) := by decide +kernel
theorem d_St_isSame_19 : decode m_St_isSame.2.1 19 = .ok (.iload_n 3, 1) := by decide +kernel
theorem d_St_isSame_20 : decode m_St_isSame.2.1 20 = .ok (.aload_n 0, 1) := by decide +kernel
theorem d_St_isSame_21 : decode m_St_isSame.2.1 21 = .ok (.getfield 22, 3) := by decide +kernel
theorem d_St_isSame_24 : decode m_St_isSame.2.1 24 = .ok (.if_icmp .ge (58), 3) := by decide +kernel
theorem d_St_isSame_27 : decode m_St_isSame.2.1 27 = .ok (.iload_n 2, 1) := by decide +kernel
theorem d_St_isSame_28 : decode m_St_isSame.2.1 28 = .ok (.ifCond .eq (54), 3) := by decide +kernel
theorem d_St_isSame_31 : decode m_St_isSame.2.1 31 = .ok (.aload_n 0, 1) := by decide +kernel
theorem d_St_isSame_32 : decode m_St_isSame.2.1 32 = .ok (.getfield 9, 3) := by decide +kernel
theorem d_St_isSame_35 : decode m_St_isSame.2.1 35 = .ok (.iload_n 3, 1) := by decide +kernel
theorem d_St_isSame_36 : decode m_St_isSame.2.1 36 = .ok (.iaload, 1) := by decide +kernel
theorem d_St_isSame_37 : decode m_St_isSame.2.1 37 = .ok (.aload_n 1, 1) := by decide +kernel
theorem d_St_isSame_38 : decode m_St_isSame.2.1 38 = .ok (.getfield 9, 3) := by decide +kernel
theorem d_St_isSame_41 : decode m_St_isSame.2.1 41 = .ok (.iload_n 3, 1) := by decide +kernel
theorem d_St_isSame_42 : decode m_St_isSame.2.1 42 = .ok (.iaload, 1) := by decide +kernel
theorem d_St_isSame_43 : decode m_St_isSame.2.1 43 = .ok (.if_icmp .ne (31), 3) := by decide +kernel
theorem d_St_isSame_46 : decode m_St_isSame.2.1 46 = .ok (.aload_n 0, 1) := by decide +kernel
theorem d_St_isSame_47 : decode m_St_isSame.2.1 47 = .ok (.aload_n 1, 1) := by decide +kernel
theorem d_St_isSame_48 : decode m_St_isSame.2.1 48 = .ok (.iload_n 3, 1) := by decide +kernel
theorem d_St_isSame_49 : decode m_St_isSame.2.1 49 = .ok (.iconst 2, 1) := by decide +kernel
theorem d_St_isSame_50 : decode m_St_isSame.2.1 50 = .ok (.imul, 1) := by decide +kernel
theorem d_St_isSame_51 : decode m_St_isSame.2.1 51 = .ok (.invokevirtual 37, 3) := by decide +kernel
theorem d_St_isSame_54 : decode m_St_isSame.2.1 54 = .ok (.ifCond .eq (20), 3) := by decide +kernel
theorem d_St_isSame_57 : decode m_St_isSame.2.1 57 = .ok (.aload_n 0, 1) := by decide +kernel
theorem d_St_isSame_58 : decode m_St_isSame.2.1 58 = .ok (.aload_n 1, 1) := by decide +kernel
theorem d_St_isSame_59 : decode m_St_isSame.2.1 59 = .ok (.iload_n 3, 1) := by decide +kernel
theorem d_St_isSame_60 : decode m_St_isSame.2.1 60 = .ok (.iconst 2, 1) := by decide +kernel
theorem d_St_isSame_61 : decode m_St_isSame.2.1 61 = .ok (.imul, 1) := by decide +kernel
theorem d_St_isSame_62 : decode m_St_isSame.2.1 62 = .ok (.iconst 1, 1) := by decide +kernel
theorem d_St_isSame_63 : decode m_St_isSame.2.1 63 = .ok (.iadd, 1) := by decide +kernel
theorem d_St_isSame_64 : decode m_St_isSame.2.1 64 = .ok (.invokevirtual 37, 3) := by decide +kernel
theorem d_St_isSame_67 : decode m_St_isSame.2.1 67 = .ok (.ifCond .eq (7), 3) := by decide +kernel
theorem d_St_isSame_70 : decode m_St_isSame.2.1 70 = .ok (.iconst 1, 1) := by decide +kernel
theorem d_St_isSame_71 : decode m_St_isSame.2.1 71 = .ok (.goto (4), 3) := by decide +kernel
theorem d_St_isSame_74 : decode m_St_isSame.2.1 74 = .ok (.iconst 0, 1) := by decide +kernel
theorem d_St_isSame_75 : decode m_St_isSame.2.1 75 = .ok (.istore_n 2, 1) := by decide +kernel
theorem d_St_isSame_76 : decode m_St_isSame.2.1 76 = .ok (.iinc 3 (1), 3) := by decide +kernel
theorem d_St_isSame_79 : decode m_St_isSame.2.1 79 = .ok (.goto (-60), 3) := by decide +kernel
theorem d_St_isSame_82 : decode m_St_isSame.2.1 82 = .ok (.iload_n 2, 1) := by decide +kernel
theorem d_St_isSame_83 : decode m_St_isSame.2.1 83 = .ok (.ireturn, 1) := by decide +kernel
theorem d_SL_tokenizeFrom_0 : decode m_SL_tokenizeFrom.2.1 0 = .ok (.iconst 0, 1) := by decide +kernel
theorem d_SL_tokenizeFrom_1 : decode m_SL_tokenizeFrom.2.1 1 = .ok (.istore_n 3, 1) := by decide +kernel
theorem d_SL_tokenizeFrom_2 : decode m_SL_tokenizeFrom.2.1 2 = .ok (.iconst 0, 1) := by decide +kernel
theorem d_SL_tokenizeFrom_3 : decode m_SL_tokenizeFrom.2.1 3 = .ok (.istore 4, 2) := by decide +kernel
theorem d_SL_tokenizeFrom_5 : decode m_SL_tokenizeFrom.2.1 5 = .ok (.iload_n 1, 1) := by decide +kernel
theorem d_SL_tokenizeFrom_6 : decode m_SL_tokenizeFrom.2.1 6 = .ok (.istore 5, 2) := by decide +kernel
theorem d_SL_tokenizeFrom_8 : decode m_SL_tokenizeFrom.2.1 8 = .ok (.iload 5, 2) := by decide +kernel
theorem d_SL_tokenizeFrom_10 : decode m_SL_tokenizeFrom.2.1 10 = .ok (.aload_n 0, 1) := by decide +kernel
theorem d_SL_tokenizeFrom_11 : decode m_SL_tokenizeFrom.2.1 11 = .ok (.getfield 119, 3) := by decide +kernel
theorem d_SL_tokenizeFrom_14 : decode m_SL_tokenizeFrom.2.1 14 = .ok (.if_icmp .ge (97), 3) := by decide +kernel
theorem d_SL_tokenizeFrom_17 : decode m_SL_tokenizeFrom.2.1 17 = .ok (.iload 4, 2) := by decide +kernel
theorem d_SL_tokenizeFrom_19 : decode m_SL_tokenizeFrom.2.1 19 = .ok (.ifCond .ne (92), 3) := by decide +kernel
theorem d_SL_tokenizeFrom_22 : decode m_SL_tokenizeFrom.2.1 22 = .ok (.aload_n 0, 1) := by decide +kernel
theorem d_SL_tokenizeFrom_23 : decode m_SL_tokenizeFrom.2.1 23 = .ok (.getfield 22, 3) := by decide +kernel
theorem d_SL_tokenizeFrom_26 : decode m_SL_tokenizeFrom.2.1 26 = .ok (.iload 5, 2) := by decide +kernel
theorem d_SL_tokenizeFrom_28 : decode m_SL_tokenizeFrom.2.1 28 = .ok (.aaload, 1) := by decide +kernel
theorem d_SL_tokenizeFrom_29 : decode m_SL_tokenizeFrom.2.1 29 = .ok (.astore 6, 2) := by decide +kernel
theorem d_SL_tokenizeFrom_31 : decode m_SL_tokenizeFrom.2.1 31 = .ok (.aload_n 0, 1) := by decide +kernel
theorem d_SL_tokenizeFrom_32 : decode m_SL_tokenizeFrom.2.1 32 = .ok (.getfield 40, 3) := by decide +kernel
theorem d_SL_tokenizeFrom_35 : decode m_SL_tokenizeFrom.2.1 35 = .ok (.aload 6, 2) := by decide +kernel
theorem d_SL_tokenizeFrom_37 : decode m_SL_tokenizeFrom.2.1 37 = .ok (.getfield 157, 3) := by decide +kernel
theorem d_SL_tokenizeFrom_40 : decode m_SL_tokenizeFrom.2.1 40 = .ok (.invokevirtual 199, 3) := by decide +kernel
theorem d_SL_tokenizeFrom_43 : decode m_SL_tokenizeFrom.2.1 43 = .ok (.aload_n 0, 1) := by decide +kernel
theorem d_SL_tokenizeFrom_44 : decode m_SL_tokenizeFrom.2.1 44 = .ok (.getfield 57, 3) := by decide +kernel
theorem d_SL_tokenizeFrom_47 : decode m_SL_tokenizeFrom.2.1 47 = .ok (.aload 6, 2) := by decide +kernel
theorem d_SL_tokenizeFrom_49 : decode m_SL_tokenizeFrom.2.1 49 = .ok (.iload 5, 2) := by decide +kernel
theorem d_SL_tokenizeFrom_51 : decode m_SL_tokenizeFrom.2.1 51 = .ok (.ifCond .ne (10), 3) := by decide +kernel
theorem d_SL_tokenizeFrom_54 : decode m_SL_tokenizeFrom.2.1 54 = .ok (.aload_n 0, 1) := by decide +kernel
theorem d_SL_tokenizeFrom_55 : decode m_SL_tokenizeFrom.2.1 55 = .ok (.getfield 36, 3) := by decide +kernel
theorem d_SL_tokenizeFrom_58 : decode m_SL_tokenizeFrom.2.1 58 = .ok (.goto (15), 3) := by decide +kernel
theorem d_SL_tokenizeFrom_61 : decode m_SL_tokenizeFrom.2.1 61 = .ok (.aload_n 0, 1) := by decide +kernel
theorem d_SL_tokenizeFrom_62 : decode m_SL_tokenizeFrom.2.1 62 = .ok (.getfield 22, 3) := by decide +kernel
theorem d_SL_tokenizeFrom_65 : decode m_SL_tokenizeFrom.2.1 65 = .ok (.iload 5, 2) := by decide +kernel
theorem d_SL_tokenizeFrom_67 : decode m_SL_tokenizeFrom.2.1 67 = .ok (.iconst 1, 1) := by decide +kernel
theorem d_SL_tokenizeFrom_68 : decode m_SL_tokenizeFrom.2.1 68 = .ok (.isub, 1) := by decide +kernel
theorem d_SL_tokenizeFrom_69 : decode m_SL_tokenizeFrom.2.1 69 = .ok (.aaload, 1) := by decide +kernel
theorem d_SL_tokenizeFrom_70 : decode m_SL_tokenizeFrom.2.1 70 = .ok (.getfield 157, 3) := by decide +kernel
theorem d_SL_tokenizeFrom_73 : decode m_SL_tokenizeFrom.2.1 73 = .ok (.invokevirtual 203, 3) := by decide +kernel
theorem d_SL_tokenizeFrom_76 : decode m_SL_tokenizeFrom.2.1 76 = .ok (.iinc 3 (1), 3) := by decide +kernel
theorem d_SL_tokenizeFrom_79 : decode m_SL_tokenizeFrom.2.1 79 = .ok (.iload_n 2, 1) := by decide +kernel
theorem d_SL_tokenizeFrom_80 : decode m_SL_tokenizeFrom.2.1 80 = .ok (.ifCond .ne (22), 3) := by decide +kernel
theorem d_SL_tokenizeFrom_83 : decode m_SL_tokenizeFrom.2.1 83 = .ok (.aload 6, 2) := by decide +kernel
theorem d_SL_tokenizeFrom_85 : decode m_SL_tokenizeFrom.2.1 85 = .ok (.getfield 157, 3) := by decide +kernel
theorem d_SL_tokenizeFrom_88 : decode m_SL_tokenizeFrom.2.1 88 = .ok (.aload_n 0, 1) := by decide +kernel
theorem d_SL_tokenizeFrom_89 : decode m_SL_tokenizeFrom.2.1 89 = .ok (.getfield 40, 3) := by decide +kernel
theorem d_SL_tokenizeFrom_92 : decode m_SL_tokenizeFrom.2.1 92 = .ok (.invokevirtual 207, 3) := by decide +kernel
theorem d_SL_tokenizeFrom_95 : decode m_SL_tokenizeFrom.2.1 95 = .ok (.ifCond .eq (7), 3) := by decide +kernel
theorem d_SL_tokenizeFrom_98 : decode m_SL_tokenizeFrom.2.1 98 = .ok (.iconst 1, 1) := by decide +kernel
theorem d_SL_tokenizeFrom_99 : decode m_SL_tokenizeFrom.2.1 99 = .ok (.goto (4), 3) := by decide +kernel
theorem d_SL_tokenizeFrom_102 : decode m_SL_tokenizeFrom.2.1 102 = .ok (.iconst 0, 1) := by decide +kernel
theorem d_SL_tokenizeFrom_103 : decode m_SL_tokenizeFrom.2.1 103 = .ok (.istore 4, 2) := by decide +kernel
theorem d_SL_tokenizeFrom_105 : decode m_SL_tokenizeFrom.2.1 105 = .ok (.iinc 5 (1), 3) := by decide +kernel
theorem d_SL_tokenizeFrom_108 : decode m_SL_tokenizeFrom.2.1 108 = .ok (.goto (-100), 3) := by decide +kernel
theorem d_SL_tokenizeFrom_111 : decode m_SL_tokenizeFrom.2.1 111 = .ok (.aload_n 0, 1) := by decide +kernel
theorem d_SL_tokenizeFrom_112 : decode m_SL_tokenizeFrom.2.1 112 = .ok (.dup, 1) := by decide +kernel
theorem d_SL_tokenizeFrom_113 : decode m_SL_tokenizeFrom.2.1 113 = .ok (.getfield 129, 3) := by decide +kernel
theorem d_SL_tokenizeFrom_116 : decode m_SL_tokenizeFrom.2.1 116 = .ok (.iload_n 3, 1) := by decide +kernel
theorem d_SL_tokenizeFrom_117 : decode m_SL_tokenizeFrom.2.1 117 = .ok (.iadd, 1) := by decide +kernel
theorem d_SL_tokenizeFrom_118 : decode m_SL_tokenizeFrom.2.1 118 = .ok (.putfield 129, 3) := by decide +kernel
theorem d_SL_tokenizeFrom_121 : decode m_SL_tokenizeFrom.2.1 121 = .ok (.iload_n 3, 1) := by decide +kernel
theorem d_SL_tokenizeFrom_122 : decode m_SL_tokenizeFrom.2.1 122 = .ok (.ireturn, 1) := by decide +kernel
theorem d_SL_piece_0 : decode m_SL_piece.2.1 0 = .ok (.aload_n 0, 1) := by decide +kernel
theorem d_SL_piece_1 : decode m_SL_piece.2.1 1 = .ok (.getfield 57, 3) := by decide +kernel
theorem d_SL_piece_4 : decode m_SL_piece.2.1 4 = .ok (.iload_n 1, 1) := by decide +kernel
theorem d_SL_piece_5 : decode m_SL_piece.2.1 5 = .ok (.invokevirtual 66, 3) := by decide +kernel
theorem d_SL_piece_8 : decode m_SL_piece.2.1 8 = .ok (.ifCond .eq (10), 3) := by decide +kernel
theorem d_SL_piece_11 : decode m_SL_piece.2.1 11 = .ok (.iload_n 2, 1) := by decide +kernel
theorem d_SL_piece_12 : decode m_SL_piece.2.1 12 = .ok (.invokestatic 70, 3) := by decide +kernel
theorem d_SL_piece_15 : decode m_SL_piece.2.1 15 = .ok (.ifCond .ne (5), 3) := by decide +kernel
theorem d_SL_piece_18 : decode m_SL_piece.2.1 18 = .ok (.iconst (-1), 1) := by decide +kernel
theorem d_SL_piece_19 : decode m_SL_piece.2.1 19 = .ok (.ireturn, 1) := by decide +kernel
theorem d_SL_piece_20 : decode m_SL_piece.2.1 20 = .ok (.aload_n 0, 1) := by decide +kernel
theorem d_SL_piece_21 : decode m_SL_piece.2.1 21 = .ok (.getfield 16, 3) := by decide +kernel
theorem d_SL_piece_24 : decode m_SL_piece.2.1 24 = .ok (.aload_n 0, 1) := by decide +kernel
theorem d_SL_piece_25 : decode m_SL_piece.2.1 25 = .ok (.getfield 9, 3) := by decide +kernel
theorem d_SL_piece_28 : decode m_SL_piece.2.1 28 = .ok (.iconst 0, 1) := by decide +kernel
theorem d_SL_piece_29 : decode m_SL_piece.2.1 29 = .ok (.aload_n 0, 1) := by decide +kernel
theorem d_SL_piece_30 : decode m_SL_piece.2.1 30 = .ok (.getfield 62, 3) := by decide +kernel
theorem d_SL_piece_33 : decode m_SL_piece.2.1 33 = .ok (.iconst 0, 1) := by decide +kernel
theorem d_SL_piece_34 : decode m_SL_piece.2.1 34 = .ok (.aload_n 0, 1) := by decide +kernel
theorem d_SL_piece_35 : decode m_SL_piece.2.1 35 = .ok (.getfield 57, 3) := by decide +kernel
theorem d_SL_piece_38 : decode m_SL_piece.2.1 38 = .ok (.invokevirtual 73, 3) := by decide +kernel
theorem d_SL_piece_41 : decode m_SL_piece.2.1 41 = .ok (.getfield 77, 3) := by decide +kernel
theorem d_SL_piece_44 : decode m_SL_piece.2.1 44 = .ok (.invokevirtual 83, 3) := by decide +kernel
theorem d_SL_piece_47 : decode m_SL_piece.2.1 47 = .ok (.ifCond .ne (6), 3) := by decide +kernel
theorem d_SL_piece_50 : decode m_SL_piece.2.1 50 = .ok (.bipush (-2), 2) := by decide +kernel
theorem d_SL_piece_52 : decode m_SL_piece.2.1 52 = .ok (.ireturn, 1) := by decide +kernel
theorem d_SL_piece_53 : decode m_SL_piece.2.1 53 = .ok (.aload_n 0, 1) := by decide +kernel
theorem d_SL_piece_54 : decode m_SL_piece.2.1 54 = .ok (.getfield 57, 3) := by decide +kernel
theorem d_SL_piece_57 : decode m_SL_piece.2.1 57 = .ok (.getfield 87, 3) := by decide +kernel
theorem d_SL_piece_60 : decode m_SL_piece.2.1 60 = .ok (.bipush (9), 2) := by decide +kernel
theorem d_SL_piece_62 : decode m_SL_piece.2.1 62 = .ok (.if_icmp .ne (6), 3) := by decide +kernel
theorem d_SL_piece_65 : decode m_SL_piece.2.1 65 = .ok (.bipush (-3), 2) := by decide +kernel
theorem d_SL_piece_67 : decode m_SL_piece.2.1 67 = .ok (.ireturn, 1) := by decide +kernel
theorem d_SL_piece_68 : decode m_SL_piece.2.1 68 = .ok (.aload_n 0, 1) := by decide +kernel
theorem d_SL_piece_69 : decode m_SL_piece.2.1 69 = .ok (.iload_n 1, 1) := by decide +kernel
theorem d_SL_piece_70 : decode m_SL_piece.2.1 70 = .ok (.iload_n 2, 1) := by decide +kernel
theorem d_SL_piece_71 : decode m_SL_piece.2.1 71 = .ok (.iconst 0, 1) := by decide +kernel
theorem d_SL_piece_72 : decode m_SL_piece.2.1 72 = .ok (.invokevirtual 90, 3) := by decide +kernel
theorem d_SL_piece_75 : decode m_SL_piece.2.1 75 = .ok (.istore_n 3, 1) := by decide +kernel
theorem d_SL_piece_76 : decode m_SL_piece.2.1 76 = .ok (.aload_n 0, 1) := by decide +kernel
theorem d_SL_piece_77 : decode m_SL_piece.2.1 77 = .ok (.iconst 0, 1) := by decide +kernel
theorem d_SL_piece_78 : decode m_SL_piece.2.1 78 = .ok (.iconst 1, 1) := by decide +kernel
theorem d_SL_piece_79 : decode m_SL_piece.2.1 79 = .ok (.invokevirtual 94, 3) := by decide +kernel
theorem d_SL_piece_82 : decode m_SL_piece.2.1 82 = .ok (.pop, 1) := by decide +kernel
theorem d_SL_piece_83 : decode m_SL_piece.2.1 83 = .ok (.iload_n 3, 1) := by decide +kernel
theorem d_SL_piece_84 : decode m_SL_piece.2.1 84 = .ok (.ireturn, 1) := by decide +kernel
theorem d_SL_firstBlank_0 : decode m_SL_firstBlank.2.1 0 = .ok (.iconst 0, 1) := by decide +kernel
theorem d_SL_firstBlank_1 : decode m_SL_firstBlank.2.1 1 = .ok (.istore_n 1, 1) := by decide +kernel
theorem d_SL_firstBlank_2 : decode m_SL_firstBlank.2.1 2 = .ok (.iload_n 1, 1) := by decide +kernel
theorem d_SL_firstBlank_3 : decode m_SL_firstBlank.2.1 3 = .ok (.aload_n 0, 1) := by decide +kernel
theorem d_SL_firstBlank_4 : decode m_SL_firstBlank.2.1 4 = .ok (.getfield 62, 3) := by decide +kernel
theorem d_SL_firstBlank_7 : decode m_SL_firstBlank.2.1 7 = .ok (.if_icmp .ge (22), 3) := by decide +kernel
theorem d_SL_firstBlank_10 : decode m_SL_firstBlank.2.1 10 = .ok (.aload_n 0, 1) := by decide +kernel
theorem d_SL_firstBlank_11 : decode m_SL_firstBlank.2.1 11 = .ok (.getfield 9, 3) := by decide +kernel
theorem d_SL_firstBlank_14 : decode m_SL_firstBlank.2.1 14 = .ok (.iload_n 1, 1) := by decide +kernel
theorem d_SL_firstBlank_15 : decode m_SL_firstBlank.2.1 15 = .ok (.caload, 1) := by decide +kernel
theorem d_SL_firstBlank_16 : decode m_SL_firstBlank.2.1 16 = .ok (.bipush (32), 2) := by decide +kernel
theorem d_SL_firstBlank_18 : decode m_SL_firstBlank.2.1 18 = .ok (.if_icmp .ne (5), 3) := by decide +kernel
theorem d_SL_firstBlank_21 : decode m_SL_firstBlank.2.1 21 = .ok (.iload_n 1, 1) := by decide +kernel
theorem d_SL_firstBlank_22 : decode m_SL_firstBlank.2.1 22 = .ok (.ireturn, 1) := by decide +kernel
theorem d_SL_firstBlank_23 : decode m_SL_firstBlank.2.1 23 = .ok (.iinc 1 (1), 3) := by decide +kernel
theorem d_SL_firstBlank_26 : decode m_SL_firstBlank.2.1 26 = .ok (.goto (-24), 3) := by decide +kernel
theorem d_SL_firstBlank_29 : decode m_SL_firstBlank.2.1 29 = .ok (.aload_n 0, 1) := by decide +kernel
theorem d_SL_firstBlank_30 : decode m_SL_firstBlank.2.1 30 = .ok (.getfield 62, 3) := by decide +kernel
theorem d_SL_firstBlank_33 : decode m_SL_firstBlank.2.1 33 = .ok (.ireturn, 1) := by decide +kernel
theorem d_SL_range_0 : decode m_SL_range.2.1 0 = .ok (.aload_n 0, 1) := by decide +kernel
theorem d_SL_range_1 : decode m_SL_range.2.1 1 = .ok (.getfield 57, 3) := by decide +kernel
theorem d_SL_range_4 : decode m_SL_range.2.1 4 = .ok (.iload_n 1, 1) := by decide +kernel
theorem d_SL_range_5 : decode m_SL_range.2.1 5 = .ok (.invokevirtual 66, 3) := by decide +kernel
theorem d_SL_range_8 : decode m_SL_range.2.1 8 = .ok (.ifCond .eq (10), 3) := by decide +kernel
theorem d_SL_range_11 : decode m_SL_range.2.1 11 = .ok (.iload_n 2, 1) := by decide +kernel
theorem d_SL_range_12 : decode m_SL_range.2.1 12 = .ok (.invokestatic 70, 3) := by decide +kernel
theorem d_SL_range_15 : decode m_SL_range.2.1 15 = .ok (.ifCond .ne (5), 3) := by decide +kernel
theorem d_SL_range_18 : decode m_SL_range.2.1 18 = .ok (.iconst (-1), 1) := by decide +kernel
theorem d_SL_range_19 : decode m_SL_range.2.1 19 = .ok (.ireturn, 1) := by decide +kernel
theorem d_SL_range_20 : decode m_SL_range.2.1 20 = .ok (.aload_n 0, 1) := by decide +kernel
theorem d_SL_range_21 : decode m_SL_range.2.1 21 = .ok (.getfield 57, 3) := by decide +kernel
theorem d_SL_range_24 : decode m_SL_range.2.1 24 = .ok (.invokevirtual 73, 3) := by decide +kernel
theorem d_SL_range_27 : decode m_SL_range.2.1 27 = .ok (.astore_n 3, 1) := by decide +kernel
theorem d_SL_range_28 : decode m_SL_range.2.1 28 = .ok (.aload_n 0, 1) := by decide +kernel
theorem d_SL_range_29 : decode m_SL_range.2.1 29 = .ok (.invokevirtual 98, 3) := by decide +kernel
theorem d_SL_range_32 : decode m_SL_range.2.1 32 = .ok (.istore 4, 2) := by decide +kernel
theorem d_SL_range_34 : decode m_SL_range.2.1 34 = .ok (.aload_n 0, 1) := by decide +kernel
theorem d_SL_range_35 : decode m_SL_range.2.1 35 = .ok (.getfield 16, 3) := by decide +kernel
theorem d_SL_range_38 : decode m_SL_range.2.1 38 = .ok (.aload_n 0, 1) := by decide +kernel
theorem d_SL_range_39 : decode m_SL_range.2.1 39 = .ok (.getfield 9, 3) := by decide +kernel
theorem d_SL_range_42 : decode m_SL_range.2.1 42 = .ok (.iconst 0, 1) := by decide +kernel
theorem d_SL_range_43 : decode m_SL_range.2.1 43 = .ok (.iload 4, 2) := by decide +kernel
theorem d_SL_range_45 : decode m_SL_range.2.1 45 = .ok (.iconst 0, 1) := by decide +kernel
theorem d_SL_range_46 : decode m_SL_range.2.1 46 = .ok (.aload_n 3, 1) := by decide +kernel
theorem d_SL_range_47 : decode m_SL_range.2.1 47 = .ok (.getfield 77, 3) := by decide +kernel
theorem d_SL_range_50 : decode m_SL_range.2.1 50 = .ok (.invokevirtual 83, 3) := by decide +kernel
theorem d_SL_range_53 : decode m_SL_range.2.1 53 = .ok (.ifCond .eq (30), 3) := by decide +kernel
theorem d_SL_range_56 : decode m_SL_range.2.1 56 = .ok (.aload_n 0, 1) := by decide +kernel
theorem d_SL_range_57 : decode m_SL_range.2.1 57 = .ok (.getfield 16, 3) := by decide +kernel
theorem d_SL_range_60 : decode m_SL_range.2.1 60 = .ok (.aload_n 0, 1) := by decide +kernel
theorem d_SL_range_61 : decode m_SL_range.2.1 61 = .ok (.getfield 9, 3) := by decide +kernel
theorem d_SL_range_64 : decode m_SL_range.2.1 64 = .ok (.iload 4, 2) := by decide +kernel
theorem d_SL_range_66 : decode m_SL_range.2.1 66 = .ok (.iconst 1, 1) := by decide +kernel
theorem d_SL_range_67 : decode m_SL_range.2.1 67 = .ok (.iadd, 1) := by decide +kernel
theorem d_SL_range_68 : decode m_SL_range.2.1 68 = .ok (.aload_n 0, 1) := by decide +kernel
theorem d_SL_range_69 : decode m_SL_range.2.1 69 = .ok (.getfield 62, 3) := by decide +kernel
theorem d_SL_range_72 : decode m_SL_range.2.1 72 = .ok (.iconst 1, 1) := by decide +kernel
theorem d_SL_range_73 : decode m_SL_range.2.1 73 = .ok (.aload_n 3, 1) := by decide +kernel
theorem d_SL_range_74 : decode m_SL_range.2.1 74 = .ok (.getfield 102, 3) := by decide +kernel
theorem d_SL_range_77 : decode m_SL_range.2.1 77 = .ok (.invokevirtual 83, 3) := by decide +kernel
theorem d_SL_range_80 : decode m_SL_range.2.1 80 = .ok (.ifCond .ne (6), 3) := by decide +kernel
theorem d_SL_range_83 : decode m_SL_range.2.1 83 = .ok (.bipush (-2), 2) := by decide +kernel
theorem d_SL_range_85 : decode m_SL_range.2.1 85 = .ok (.ireturn, 1) := by decide +kernel
theorem d_SL_range_86 : decode m_SL_range.2.1 86 = .ok (.aload_n 0, 1) := by decide +kernel
theorem d_SL_range_87 : decode m_SL_range.2.1 87 = .ok (.getfield 57, 3) := by decide +kernel
theorem d_SL_range_90 : decode m_SL_range.2.1 90 = .ok (.getfield 87, 3) := by decide +kernel
theorem d_SL_range_93 : decode m_SL_range.2.1 93 = .ok (.bipush (9), 2) := by decide +kernel
theorem d_SL_range_95 : decode m_SL_range.2.1 95 = .ok (.if_icmp .ne (6), 3) := by decide +kernel
theorem d_SL_range_98 : decode m_SL_range.2.1 98 = .ok (.bipush (-3), 2) := by decide +kernel
theorem d_SL_range_100 : decode m_SL_range.2.1 100 = .ok (.ireturn, 1) := by decide +kernel
theorem d_SL_range_101 : decode m_SL_range.2.1 101 = .ok (.aload_n 0, 1) := by decide +kernel
theorem d_SL_range_102 : decode m_SL_range.2.1 102 = .ok (.iload_n 1, 1) := by decide +kernel
theorem d_SL_range_103 : decode m_SL_range.2.1 103 = .ok (.iload_n 2, 1) := by decide +kernel
theorem d_SL_range_104 : decode m_SL_range.2.1 104 = .ok (.iconst 1, 1) := by decide +kernel
theorem d_SL_range_105 : decode m_SL_range.2.1 105 = .ok (.invokevirtual 90, 3) := by decide +kernel
theorem d_SL_range_108 : decode m_SL_range.2.1 108 = .ok (.istore 5, 2) := by decide +kernel
theorem d_SL_range_110 : decode m_SL_range.2.1 110 = .ok (.aload_n 0, 1) := by decide +kernel
theorem d_SL_range_111 : decode m_SL_range.2.1 111 = .ok (.iconst 0, 1) := by decide +kernel
theorem d_SL_range_112 : decode m_SL_range.2.1 112 = .ok (.iconst 1, 1) := by decide +kernel
theorem d_SL_range_113 : decode m_SL_range.2.1 113 = .ok (.invokevirtual 94, 3) := by decide +kernel
theorem d_SL_range_116 : decode m_SL_range.2.1 116 = .ok (.pop, 1) := by decide +kernel
theorem d_SL_range_117 : decode m_SL_range.2.1 117 = .ok (.iload 5, 2) := by decide +kernel
theorem d_SL_range_119 : decode m_SL_range.2.1 119 = .ok (.ireturn, 1) := by decide +kernel
theorem d_SL_include_0 : decode m_SL_include.2.1 0 = .ok (.aload_n 0, 1) := by decide +kernel
theorem d_SL_include_1 : decode m_SL_include.2.1 1 = .ok (.getfield 57, 3) := by decide +kernel
theorem d_SL_include_4 : decode m_SL_include.2.1 4 = .ok (.iload_n 1, 1) := by decide +kernel
theorem d_SL_include_5 : decode m_SL_include.2.1 5 = .ok (.invokevirtual 66, 3) := by decide +kernel
theorem d_SL_include_8 : decode m_SL_include.2.1 8 = .ok (.ifCond .eq (30), 3) := by decide +kernel
theorem d_SL_include_11 : decode m_SL_include.2.1 11 = .ok (.aload_n 0, 1) := by decide +kernel
theorem d_SL_include_12 : decode m_SL_include.2.1 12 = .ok (.getfield 57, 3) := by decide +kernel
theorem d_SL_include_15 : decode m_SL_include.2.1 15 = .ok (.iload_n 2, 1) := by decide +kernel
theorem d_SL_include_16 : decode m_SL_include.2.1 16 = .ok (.invokevirtual 66, 3) := by decide +kernel
theorem d_SL_include_19 : decode m_SL_include.2.1 19 = .ok (.ifCond .eq (19), 3) := by decide +kernel
theorem d_SL_include_22 : decode m_SL_include.2.1 22 = .ok (.aload_n 0, 1) := by decide +kernel
theorem d_SL_include_23 : decode m_SL_include.2.1 23 = .ok (.getfield 57, 3) := by decide +kernel
theorem d_SL_include_26 : decode m_SL_include.2.1 26 = .ok (.getfield 105, 3) := by decide +kernel
theorem d_SL_include_29 : decode m_SL_include.2.1 29 = .ok (.iload_n 1, 1) := by decide +kernel
theorem d_SL_include_30 : decode m_SL_include.2.1 30 = .ok (.aaload, 1) := by decide +kernel
theorem d_SL_include_31 : decode m_SL_include.2.1 31 = .ok (.getfield 109, 3) := by decide +kernel
theorem d_SL_include_34 : decode m_SL_include.2.1 34 = .ok (.iload_n 2, 1) := by decide +kernel
theorem d_SL_include_35 : decode m_SL_include.2.1 35 = .ok (.if_icmp .ne (5), 3) := by decide +kernel
theorem d_SL_include_38 : decode m_SL_include.2.1 38 = .ok (.iconst 0, 1) := by decide +kernel
theorem d_SL_include_39 : decode m_SL_include.2.1 39 = .ok (.ireturn, 1) := by decide +kernel
theorem d_SL_include_40 : decode m_SL_include.2.1 40 = .ok (.aload_n 0, 1) := by decide +kernel
theorem d_SL_include_41 : decode m_SL_include.2.1 41 = .ok (.getfield 57, 3) := by decide +kernel
theorem d_SL_include_44 : decode m_SL_include.2.1 44 = .ok (.getfield 105, 3) := by decide +kernel
theorem d_SL_include_47 : decode m_SL_include.2.1 47 = .ok (.iload_n 1, 1) := by decide +kernel
theorem d_SL_include_48 : decode m_SL_include.2.1 48 = .ok (.aaload, 1) := by decide +kernel
theorem d_SL_include_49 : decode m_SL_include.2.1 49 = .ok (.iload_n 2, 1) := by decide +kernel
theorem d_SL_include_50 : decode m_SL_include.2.1 50 = .ok (.putfield 109, 3) := by decide +kernel
theorem d_SL_include_53 : decode m_SL_include.2.1 53 = .ok (.aload_n 0, 1) := by decide +kernel
theorem d_SL_include_54 : decode m_SL_include.2.1 54 = .ok (.iconst 0, 1) := by decide +kernel
theorem d_SL_include_55 : decode m_SL_include.2.1 55 = .ok (.iconst 1, 1) := by decide +kernel
theorem d_SL_include_56 : decode m_SL_include.2.1 56 = .ok (.invokevirtual 94, 3) := by decide +kernel
theorem d_SL_include_59 : decode m_SL_include.2.1 59 = .ok (.pop, 1) := by decide +kernel
theorem d_SL_include_60 : decode m_SL_include.2.1 60 = .ok (.iconst 1, 1) := by decide +kernel
theorem d_SL_include_61 : decode m_SL_include.2.1 61 = .ok (.ireturn, 1) := by decide +kernel
theorem d_Pa_add_0 : decode m_Pa_add.2.1 0 = .ok (.aload_n 0, 1) := by decide +kernel
theorem d_Pa_add_1 : decode m_Pa_add.2.1 1 = .ok (.getfield 9, 3) := by decide +kernel
theorem d_Pa_add_4 : decode m_Pa_add.2.1 4 = .ok (.aload_n 0, 1) := by decide +kernel
theorem d_Pa_add_5 : decode m_Pa_add.2.1 5 = .ok (.getfield 21, 3) := by decide +kernel
theorem d_Pa_add_8 : decode m_Pa_add.2.1 8 = .ok (.iload_n 1, 1) := by decide +kernel
theorem d_Pa_add_9 : decode m_Pa_add.2.1 9 = .ok (.iastore, 1) := by decide +kernel
theorem d_Pa_add_10 : decode m_Pa_add.2.1 10 = .ok (.aload_n 0, 1) := by decide +kernel
theorem d_Pa_add_11 : decode m_Pa_add.2.1 11 = .ok (.getfield 15, 3) := by decide +kernel
theorem d_Pa_add_14 : decode m_Pa_add.2.1 14 = .ok (.aload_n 0, 1) := by decide +kernel
theorem d_Pa_add_15 : decode m_Pa_add.2.1 15 = .ok (.getfield 21, 3) := by decide +kernel
theorem d_Pa_add_18 : decode m_Pa_add.2.1 18 = .ok (.iload_n 2, 1) := by decide +kernel
theorem d_Pa_add_19 : decode m_Pa_add.2.1 19 = .ok (.iastore, 1) := by decide +kernel
theorem d_Pa_add_20 : decode m_Pa_add.2.1 20 = .ok (.aload_n 0, 1) := by decide +kernel
theorem d_Pa_add_21 : decode m_Pa_add.2.1 21 = .ok (.getfield 18, 3) := by decide +kernel
theorem d_Pa_add_24 : decode m_Pa_add.2.1 24 = .ok (.aload_n 0, 1) := by decide +kernel
theorem d_Pa_add_25 : decode m_Pa_add.2.1 25 = .ok (.getfield 21, 3) := by decide +kernel
theorem d_Pa_add_28 : decode m_Pa_add.2.1 28 = .ok (.iload_n 3, 1) := by decide +kernel
theorem d_Pa_add_29 : decode m_Pa_add.2.1 29 = .ok (.iastore, 1) := by decide +kernel
theorem d_Pa_add_30 : decode m_Pa_add.2.1 30 = .ok (.aload_n 0, 1) := by decide +kernel
theorem d_Pa_add_31 : decode m_Pa_add.2.1 31 = .ok (.dup, 1) := by decide +kernel
theorem d_Pa_add_32 : decode m_Pa_add.2.1 32 = .ok (.getfield 21, 3) := by decide +kernel
theorem d_Pa_add_35 : decode m_Pa_add.2.1 35 = .ok (.iconst 1, 1) := by decide +kernel
theorem d_Pa_add_36 : decode m_Pa_add.2.1 36 = .ok (.iadd, 1) := by decide +kernel
theorem d_Pa_add_37 : decode m_Pa_add.2.1 37 = .ok (.putfield 21, 3) := by decide +kernel
theorem d_Pa_add_40 : decode m_Pa_add.2.1 40 = .ok (.return_, 1) := by decide +kernel
