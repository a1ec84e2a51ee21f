/-! Instructions -/
theorem d_SL_theme_0 : decode m_SL_theme.2.1 0 = .ok (.iload_n 1, 1) := by decide +kernel
theorem d_SL_theme_1 : decode m_SL_theme.2.1 1 = .ok (.invokestatic 70, 3) := by decide +kernel
theorem d_SL_theme_4 : decode m_SL_theme.2.1 4 = .ok (.ifCond .eq (13), 3) := by decide +kernel
theorem d_SL_theme_7 : decode m_SL_theme.2.1 7 = .ok (.iload_n 2, 1) := by decide +kernel
theorem d_SL_theme_8 : decode m_SL_theme.2.1 8 = .ok (.ifCond .lt (9), 3) := by decide +kernel
theorem d_SL_theme_11 : decode m_SL_theme.2.1 11 = .ok (.iload_n 2, 1) := by decide +kernel
theorem d_SL_theme_12 : decode m_SL_theme.2.1 12 = .ok (.bipush (99), 2) := by decide +kernel
theorem d_SL_theme_14 : decode m_SL_theme.2.1 14 = .ok (.if_icmp .le (5), 3) := by decide +kernel
theorem d_SL_theme_17 : decode m_SL_theme.2.1 17 = .ok (.iconst 0, 1) := by decide +kernel
theorem d_SL_theme_18 : decode m_SL_theme.2.1 18 = .ok (.ireturn, 1) := by decide +kernel
theorem d_SL_theme_19 : decode m_SL_theme.2.1 19 = .ok (.iload_n 3, 1) := by decide +kernel
theorem d_SL_theme_20 : decode m_SL_theme.2.1 20 = .ok (.iconst 1, 1) := by decide +kernel
theorem d_SL_theme_21 : decode m_SL_theme.2.1 21 = .ok (.if_icmp .lt (22), 3) := by decide +kernel
theorem d_SL_theme_24 : decode m_SL_theme.2.1 24 = .ok (.iload_n 3, 1) := by decide +kernel
theorem d_SL_theme_25 : decode m_SL_theme.2.1 25 = .ok (.sipush (255), 3) := by decide +kernel
theorem d_SL_theme_28 : decode m_SL_theme.2.1 28 = .ok (.if_icmp .gt (15), 3) := by decide +kernel
theorem d_SL_theme_31 : decode m_SL_theme.2.1 31 = .ok (.aload_n 0, 1) := by decide +kernel
theorem d_SL_theme_32 : decode m_SL_theme.2.1 32 = .ok (.getfield 29, 3) := by decide +kernel
theorem d_SL_theme_35 : decode m_SL_theme.2.1 35 = .ok (.getfield 112, 3) := by decide +kernel
theorem d_SL_theme_38 : decode m_SL_theme.2.1 38 = .ok (.bipush (6), 2) := by decide +kernel
theorem d_SL_theme_40 : decode m_SL_theme.2.1 40 = .ok (.if_icmp .ne (5), 3) := by decide +kernel
theorem d_SL_theme_43 : decode m_SL_theme.2.1 43 = .ok (.iconst 0, 1) := by decide +kernel
theorem d_SL_theme_44 : decode m_SL_theme.2.1 44 = .ok (.ireturn, 1) := by decide +kernel
theorem d_SL_theme_45 : decode m_SL_theme.2.1 45 = .ok (.aload_n 0, 1) := by decide +kernel
theorem d_SL_theme_46 : decode m_SL_theme.2.1 46 = .ok (.getfield 29, 3) := by decide +kernel
theorem d_SL_theme_49 : decode m_SL_theme.2.1 49 = .ok (.iload_n 1, 1) := by decide +kernel
theorem d_SL_theme_50 : decode m_SL_theme.2.1 50 = .ok (.iload_n 2, 1) := by decide +kernel
theorem d_SL_theme_51 : decode m_SL_theme.2.1 51 = .ok (.iload_n 3, 1) := by decide +kernel
theorem d_SL_theme_52 : decode m_SL_theme.2.1 52 = .ok (.invokevirtual 115, 3) := by decide +kernel
theorem d_SL_theme_55 : decode m_SL_theme.2.1 55 = .ok (.iconst 1, 1) := by decide +kernel
theorem d_SL_theme_56 : decode m_SL_theme.2.1 56 = .ok (.ireturn, 1) := by decide +kernel
theorem d_Li_write_0 : decode m_Li_write.2.1 0 = .ok (.aload_n 1, 1) := by decide +kernel
theorem d_Li_write_1 : decode m_Li_write.2.1 1 = .ok (.iconst 0, 1) := by decide +kernel
theorem d_Li_write_2 : decode m_Li_write.2.1 2 = .ok (.aload_n 0, 1) := by decide +kernel
theorem d_Li_write_3 : decode m_Li_write.2.1 3 = .ok (.getfield 9, 3) := by decide +kernel
theorem d_Li_write_6 : decode m_Li_write.2.1 6 = .ok (.iconst 0, 1) := by decide +kernel
theorem d_Li_write_7 : decode m_Li_write.2.1 7 = .ok (.iload_n 2, 1) := by decide +kernel
theorem d_Li_write_8 : decode m_Li_write.2.1 8 = .ok (.invokestatic 32, 3) := by decide +kernel
theorem d_Li_write_11 : decode m_Li_write.2.1 11 = .ok (.aload_n 0, 1) := by decide +kernel
theorem d_Li_write_12 : decode m_Li_write.2.1 12 = .ok (.iload_n 2, 1) := by decide +kernel
theorem d_Li_write_13 : decode m_Li_write.2.1 13 = .ok (.putfield 38, 3) := by decide +kernel
theorem d_Li_write_16 : decode m_Li_write.2.1 16 = .ok (.return_, 1) := by decide +kernel
theorem d_SL_put_0 : decode m_SL_put.2.1 0 = .ok (.iload_n 1, 1) := by decide +kernel
theorem d_SL_put_1 : decode m_SL_put.2.1 1 = .ok (.ifCond .lt (11), 3) := by decide +kernel
theorem d_SL_put_4 : decode m_SL_put.2.1 4 = .ok (.iload_n 1, 1) := by decide +kernel
theorem d_SL_put_5 : decode m_SL_put.2.1 5 = .ok (.aload_n 0, 1) := by decide +kernel
theorem d_SL_put_6 : decode m_SL_put.2.1 6 = .ok (.getfield 119, 3) := by decide +kernel
theorem d_SL_put_9 : decode m_SL_put.2.1 9 = .ok (.if_icmp .le (5), 3) := by decide +kernel
theorem d_SL_put_12 : decode m_SL_put.2.1 12 = .ok (.iconst (-1), 1) := by decide +kernel
theorem d_SL_put_13 : decode m_SL_put.2.1 13 = .ok (.ireturn, 1) := by decide +kernel
theorem d_SL_put_14 : decode m_SL_put.2.1 14 = .ok (.aload_n 0, 1) := by decide +kernel
theorem d_SL_put_15 : decode m_SL_put.2.1 15 = .ok (.getfield 62, 3) := by decide +kernel
theorem d_SL_put_18 : decode m_SL_put.2.1 18 = .ok (.bipush (24), 2) := by decide +kernel
theorem d_SL_put_20 : decode m_SL_put.2.1 20 = .ok (.if_icmp .le (6), 3) := by decide +kernel
theorem d_SL_put_23 : decode m_SL_put.2.1 23 = .ok (.bipush (-2), 2) := by decide +kernel
theorem d_SL_put_25 : decode m_SL_put.2.1 25 = .ok (.ireturn, 1) := by decide +kernel
theorem d_SL_put_26 : decode m_SL_put.2.1 26 = .ok (.iload_n 1, 1) := by decide +kernel
theorem d_SL_put_27 : decode m_SL_put.2.1 27 = .ok (.bipush (6), 2) := by decide +kernel
theorem d_SL_put_29 : decode m_SL_put.2.1 29 = .ok (.if_icmp .ne (6), 3) := by decide +kernel
theorem d_SL_put_32 : decode m_SL_put.2.1 32 = .ok (.bipush (-3), 2) := by decide +kernel
theorem d_SL_put_34 : decode m_SL_put.2.1 34 = .ok (.ireturn, 1) := by decide +kernel
theorem d_SL_put_35 : decode m_SL_put.2.1 35 = .ok (.aload_n 0, 1) := by decide +kernel
theorem d_SL_put_36 : decode m_SL_put.2.1 36 = .ok (.getfield 22, 3) := by decide +kernel
theorem d_SL_put_39 : decode m_SL_put.2.1 39 = .ok (.iload_n 1, 1) := by decide +kernel
theorem d_SL_put_40 : decode m_SL_put.2.1 40 = .ok (.aaload, 1) := by decide +kernel
theorem d_SL_put_41 : decode m_SL_put.2.1 41 = .ok (.aload_n 0, 1) := by decide +kernel
theorem d_SL_put_42 : decode m_SL_put.2.1 42 = .ok (.getfield 9, 3) := by decide +kernel
theorem d_SL_put_45 : decode m_SL_put.2.1 45 = .ok (.aload_n 0, 1) := by decide +kernel
theorem d_SL_put_46 : decode m_SL_put.2.1 46 = .ok (.getfield 62, 3) := by decide +kernel
theorem d_SL_put_49 : decode m_SL_put.2.1 49 = .ok (.invokevirtual 122, 3) := by decide +kernel
theorem d_SL_put_52 : decode m_SL_put.2.1 52 = .ok (.aload_n 0, 1) := by decide +kernel
theorem d_SL_put_53 : decode m_SL_put.2.1 53 = .ok (.iconst 0, 1) := by decide +kernel
theorem d_SL_put_54 : decode m_SL_put.2.1 54 = .ok (.putfield 62, 3) := by decide +kernel
theorem d_SL_put_57 : decode m_SL_put.2.1 57 = .ok (.aload_n 0, 1) := by decide +kernel
theorem d_SL_put_58 : decode m_SL_put.2.1 58 = .ok (.aload_n 0, 1) := by decide +kernel
theorem d_SL_put_59 : decode m_SL_put.2.1 59 = .ok (.getfield 119, 3) := by decide +kernel
theorem d_SL_put_62 : decode m_SL_put.2.1 62 = .ok (.iload_n 1, 1) := by decide +kernel
theorem d_SL_put_63 : decode m_SL_put.2.1 63 = .ok (.iconst 1, 1) := by decide +kernel
theorem d_SL_put_64 : decode m_SL_put.2.1 64 = .ok (.iadd, 1) := by decide +kernel
theorem d_SL_put_65 : decode m_SL_put.2.1 65 = .ok (.invokestatic 51, 3) := by decide +kernel
theorem d_SL_put_68 : decode m_SL_put.2.1 68 = .ok (.putfield 119, 3) := by decide +kernel
theorem d_SL_put_71 : decode m_SL_put.2.1 71 = .ok (.aload_n 0, 1) := by decide +kernel
theorem d_SL_put_72 : decode m_SL_put.2.1 72 = .ok (.iload_n 1, 1) := by decide +kernel
theorem d_SL_put_73 : decode m_SL_put.2.1 73 = .ok (.iconst 0, 1) := by decide +kernel
theorem d_SL_put_74 : decode m_SL_put.2.1 74 = .ok (.invokevirtual 94, 3) := by decide +kernel
theorem d_SL_put_77 : decode m_SL_put.2.1 77 = .ok (.ireturn, 1) := by decide +kernel
theorem d_SL_isLine_0 : decode m_SL_isLine.2.1 0 = .ok (.iload_n 1, 1) := by decide +kernel
theorem d_SL_isLine_1 : decode m_SL_isLine.2.1 1 = .ok (.ifCond .lt (15), 3) := by decide +kernel
theorem d_SL_isLine_4 : decode m_SL_isLine.2.1 4 = .ok (.iload_n 1, 1) := by decide +kernel
theorem d_SL_isLine_5 : decode m_SL_isLine.2.1 5 = .ok (.aload_n 0, 1) := by decide +kernel
theorem d_SL_isLine_6 : decode m_SL_isLine.2.1 6 = .ok (.getfield 119, 3) := by decide +kernel
theorem d_SL_isLine_9 : decode m_SL_isLine.2.1 9 = .ok (.if_icmp .ge (7), 3) := by decide +kernel
theorem d_SL_isLine_12 : decode m_SL_isLine.2.1 12 = .ok (.iconst 1, 1) := by decide +kernel
theorem d_SL_isLine_13 : decode m_SL_isLine.2.1 13 = .ok (.goto (4), 3) := by decide +kernel
theorem d_SL_isLine_16 : decode m_SL_isLine.2.1 16 = .ok (.iconst 0, 1) := by decide +kernel
theorem d_SL_isLine_17 : decode m_SL_isLine.2.1 17 = .ok (.ireturn, 1) := by decide +kernel
theorem d_SL_drop_0 : decode m_SL_drop.2.1 0 = .ok (.aload_n 0, 1) := by decide +kernel
theorem d_SL_drop_1 : decode m_SL_drop.2.1 1 = .ok (.iload_n 1, 1) := by decide +kernel
theorem d_SL_drop_2 : decode m_SL_drop.2.1 2 = .ok (.invokevirtual 126, 3) := by decide +kernel
theorem d_SL_drop_5 : decode m_SL_drop.2.1 5 = .ok (.ifCond .ne (5), 3) := by decide +kernel
theorem d_SL_drop_8 : decode m_SL_drop.2.1 8 = .ok (.iconst (-1), 1) := by decide +kernel
theorem d_SL_drop_9 : decode m_SL_drop.2.1 9 = .ok (.ireturn, 1) := by decide +kernel
theorem d_SL_drop_10 : decode m_SL_drop.2.1 10 = .ok (.aload_n 0, 1) := by decide +kernel
theorem d_SL_drop_11 : decode m_SL_drop.2.1 11 = .ok (.getfield 22, 3) := by decide +kernel
theorem d_SL_drop_14 : decode m_SL_drop.2.1 14 = .ok (.iload_n 1, 1) := by decide +kernel
theorem d_SL_drop_15 : decode m_SL_drop.2.1 15 = .ok (.aaload, 1) := by decide +kernel
theorem d_SL_drop_16 : decode m_SL_drop.2.1 16 = .ok (.astore_n 2, 1) := by decide +kernel
theorem d_SL_drop_17 : decode m_SL_drop.2.1 17 = .ok (.iload_n 1, 1) := by decide +kernel
theorem d_SL_drop_18 : decode m_SL_drop.2.1 18 = .ok (.iconst 1, 1) := by decide +kernel
theorem d_SL_drop_19 : decode m_SL_drop.2.1 19 = .ok (.iadd, 1) := by decide +kernel
theorem d_SL_drop_20 : decode m_SL_drop.2.1 20 = .ok (.istore_n 3, 1) := by decide +kernel
theorem d_SL_drop_21 : decode m_SL_drop.2.1 21 = .ok (.iload_n 3, 1) := by decide +kernel
theorem d_SL_drop_22 : decode m_SL_drop.2.1 22 = .ok (.aload_n 0, 1) := by decide +kernel
theorem d_SL_drop_23 : decode m_SL_drop.2.1 23 = .ok (.getfield 119, 3) := by decide +kernel
theorem d_SL_drop_26 : decode m_SL_drop.2.1 26 = .ok (.if_icmp .ge (23), 3) := by decide +kernel
theorem d_SL_drop_29 : decode m_SL_drop.2.1 29 = .ok (.aload_n 0, 1) := by decide +kernel
theorem d_SL_drop_30 : decode m_SL_drop.2.1 30 = .ok (.getfield 22, 3) := by decide +kernel
theorem d_SL_drop_33 : decode m_SL_drop.2.1 33 = .ok (.iload_n 3, 1) := by decide +kernel
theorem d_SL_drop_34 : decode m_SL_drop.2.1 34 = .ok (.iconst 1, 1) := by decide +kernel
theorem d_SL_drop_35 : decode m_SL_drop.2.1 35 = .ok (.isub, 1) := by decide +kernel
theorem d_SL_drop_36 : decode m_SL_drop.2.1 36 = .ok (.aload_n 0, 1) := by decide +kernel
theorem d_SL_drop_37 : decode m_SL_drop.2.1 37 = .ok (.getfield 22, 3) := by decide +kernel
theorem d_SL_drop_40 : decode m_SL_drop.2.1 40 = .ok (.iload_n 3, 1) := by decide +kernel
theorem d_SL_drop_41 : decode m_SL_drop.2.1 41 = .ok (.aaload, 1) := by decide +kernel
theorem d_SL_drop_42 : decode m_SL_drop.2.1 42 = .ok (.aastore, 1) := by decide +kernel
theorem d_SL_drop_43 : decode m_SL_drop.2.1 43 = .ok (.iinc 3 (1), 3) := by decide +kernel
theorem d_SL_drop_46 : decode m_SL_drop.2.1 46 = .ok (.goto (-25), 3) := by decide +kernel
theorem d_SL_drop_49 : decode m_SL_drop.2.1 49 = .ok (.aload_n 0, 1) := by decide +kernel
theorem d_SL_drop_50 : decode m_SL_drop.2.1 50 = .ok (.dup, 1) := by decide +kernel
theorem d_SL_drop_51 : decode m_SL_drop.2.1 51 = .ok (.getfield 119, 3) := by decide +kernel
theorem d_SL_drop_54 : decode m_SL_drop.2.1 54 = .ok (.iconst 1, 1) := by decide +kernel
theorem d_SL_drop_55 : decode m_SL_drop.2.1 55 = .ok (.isub, 1) := by decide +kernel
theorem d_SL_drop_56 : decode m_SL_drop.2.1 56 = .ok (.putfield 119, 3) := by decide +kernel
theorem d_SL_drop_59 : decode m_SL_drop.2.1 59 = .ok (.aload_n 0, 1) := by decide +kernel
theorem d_SL_drop_60 : decode m_SL_drop.2.1 60 = .ok (.getfield 22, 3) := by decide +kernel
theorem d_SL_drop_63 : decode m_SL_drop.2.1 63 = .ok (.aload_n 0, 1) := by decide +kernel
theorem d_SL_drop_64 : decode m_SL_drop.2.1 64 = .ok (.getfield 119, 3) := by decide +kernel
theorem d_SL_drop_67 : decode m_SL_drop.2.1 67 = .ok (.aload_n 2, 1) := by decide +kernel
theorem d_SL_drop_68 : decode m_SL_drop.2.1 68 = .ok (.aastore, 1) := by decide +kernel
theorem d_SL_drop_69 : decode m_SL_drop.2.1 69 = .ok (.aload_n 0, 1) := by decide +kernel
theorem d_SL_drop_70 : decode m_SL_drop.2.1 70 = .ok (.iload_n 1, 1) := by decide +kernel
theorem d_SL_drop_71 : decode m_SL_drop.2.1 71 = .ok (.iconst 0, 1) := by decide +kernel
theorem d_SL_drop_72 : decode m_SL_drop.2.1 72 = .ok (.invokevirtual 94, 3) := by decide +kernel
theorem d_SL_drop_75 : decode m_SL_drop.2.1 75 = .ok (.ireturn, 1) := by decide +kernel
theorem d_SL_lines_0 : decode m_SL_lines.2.1 0 = .ok (.aload_n 0, 1) := by decide +kernel
theorem d_SL_lines_1 : decode m_SL_lines.2.1 1 = .ok (.getfield 119, 3) := by decide +kernel
theorem d_SL_lines_4 : decode m_SL_lines.2.1 4 = .ok (.ireturn, 1) := by decide +kernel
theorem d_SL_passes_0 : decode m_SL_passes.2.1 0 = .ok (.aload_n 0, 1) := by decide +kernel
theorem d_SL_passes_1 : decode m_SL_passes.2.1 1 = .ok (.getfield 129, 3) := by decide +kernel
theorem d_SL_passes_4 : decode m_SL_passes.2.1 4 = .ok (.ireturn, 1) := by decide +kernel
theorem d_SL_length_0 : decode m_SL_length.2.1 0 = .ok (.aload_n 0, 1) := by decide +kernel
theorem d_SL_length_1 : decode m_SL_length.2.1 1 = .ok (.iload_n 1, 1) := by decide +kernel
theorem d_SL_length_2 : decode m_SL_length.2.1 2 = .ok (.invokevirtual 126, 3) := by decide +kernel
theorem d_SL_length_5 : decode m_SL_length.2.1 5 = .ok (.ifCond .eq (15), 3) := by decide +kernel
theorem d_SL_length_8 : decode m_SL_length.2.1 8 = .ok (.aload_n 0, 1) := by decide +kernel
theorem d_SL_length_9 : decode m_SL_length.2.1 9 = .ok (.getfield 22, 3) := by decide +kernel
theorem d_SL_length_12 : decode m_SL_length.2.1 12 = .ok (.iload_n 1, 1) := by decide +kernel
theorem d_SL_length_13 : decode m_SL_length.2.1 13 = .ok (.aaload, 1) := by decide +kernel
theorem d_SL_length_14 : decode m_SL_length.2.1 14 = .ok (.getfield 132, 3) := by decide +kernel
theorem d_SL_length_17 : decode m_SL_length.2.1 17 = .ok (.goto (4), 3) := by decide +kernel
theorem d_SL_length_20 : decode m_SL_length.2.1 20 = .ok (.iconst (-1), 1) := by decide +kernel
theorem d_SL_length_21 : decode m_SL_length.2.1 21 = .ok (.ireturn, 1) := by decide +kernel
theorem d_SL_tokens_0 : decode m_SL_tokens.2.1 0 = .ok (.aload_n 0, 1) := by decide +kernel
theorem d_SL_tokens_1 : decode m_SL_tokens.2.1 1 = .ok (.iload_n 1, 1) := by decide +kernel
theorem d_SL_tokens_2 : decode m_SL_tokens.2.1 2 = .ok (.invokevirtual 126, 3) := by decide +kernel
theorem d_SL_tokens_5 : decode m_SL_tokens.2.1 5 = .ok (.ifCond .eq (15), 3) := by decide +kernel
theorem d_SL_tokens_8 : decode m_SL_tokens.2.1 8 = .ok (.aload_n 0, 1) := by decide +kernel
theorem d_SL_tokens_9 : decode m_SL_tokens.2.1 9 = .ok (.getfield 22, 3) := by decide +kernel
theorem d_SL_tokens_12 : decode m_SL_tokens.2.1 12 = .ok (.iload_n 1, 1) := by decide +kernel
theorem d_SL_tokens_13 : decode m_SL_tokens.2.1 13 = .ok (.aaload, 1) := by decide +kernel
theorem d_SL_tokens_14 : decode m_SL_tokens.2.1 14 = .ok (.getfield 135, 3) := by decide +kernel
theorem d_SL_tokens_17 : decode m_SL_tokens.2.1 17 = .ok (.goto (4), 3) := by decide +kernel
theorem d_SL_tokens_20 : decode m_SL_tokens.2.1 20 = .ok (.iconst (-1), 1) := by decide +kernel
theorem d_SL_tokens_21 : decode m_SL_tokens.2.1 21 = .ok (.ireturn, 1) := by decide +kernel
theorem d_Li_scopeOf_0 : decode m_Li_scopeOf.2.1 0 = .ok (.aload_n 0, 1) := by decide +kernel
theorem d_Li_scopeOf_1 : decode m_Li_scopeOf.2.1 1 = .ok (.getfield 22, 3) := by decide +kernel
theorem d_Li_scopeOf_4 : decode m_Li_scopeOf.2.1 4 = .ok (.iload_n 1, 1) := by decide +kernel
theorem d_Li_scopeOf_5 : decode m_Li_scopeOf.2.1 5 = .ok (.bipush (6), 2) := by decide +kernel
theorem d_Li_scopeOf_7 : decode m_Li_scopeOf.2.1 7 = .ok (.imul, 1) := by decide +kernel
theorem d_Li_scopeOf_8 : decode m_Li_scopeOf.2.1 8 = .ok (.iload_n 2, 1) := by decide +kernel
theorem d_Li_scopeOf_9 : decode m_Li_scopeOf.2.1 9 = .ok (.iadd, 1) := by decide +kernel
theorem d_Li_scopeOf_10 : decode m_Li_scopeOf.2.1 10 = .ok (.iaload, 1) := by decide +kernel
theorem d_Li_scopeOf_11 : decode m_Li_scopeOf.2.1 11 = .ok (.ireturn, 1) := by decide +kernel
theorem d_Li_lastScope_0 : decode m_Li_lastScope.2.1 0 = .ok (.aload_n 0, 1) := by decide +kernel
theorem d_Li_lastScope_1 : decode m_Li_lastScope.2.1 1 = .ok (.getfield 19, 3) := by decide +kernel
theorem d_Li_lastScope_4 : decode m_Li_lastScope.2.1 4 = .ok (.iload_n 1, 1) := by decide +kernel
theorem d_Li_lastScope_5 : decode m_Li_lastScope.2.1 5 = .ok (.iaload, 1) := by decide +kernel
theorem d_Li_lastScope_6 : decode m_Li_lastScope.2.1 6 = .ok (.ifCond .ne (7), 3) := by decide +kernel
theorem d_Li_lastScope_9 : decode m_Li_lastScope.2.1 9 = .ok (.iconst 0, 1) := by decide +kernel
theorem d_Li_lastScope_10 : decode m_Li_lastScope.2.1 10 = .ok (.goto (16), 3) := by decide +kernel
theorem d_Li_lastScope_13 : decode m_Li_lastScope.2.1 13 = .ok (.aload_n 0, 1) := by decide +kernel
theorem d_Li_lastScope_14 : decode m_Li_lastScope.2.1 14 = .ok (.iload_n 1, 1) := by decide +kernel
theorem d_Li_lastScope_15 : decode m_Li_lastScope.2.1 15 = .ok (.aload_n 0, 1) := by decide +kernel
theorem d_Li_lastScope_16 : decode m_Li_lastScope.2.1 16 = .ok (.getfield 19, 3) := by decide +kernel
theorem d_Li_lastScope_19 : decode m_Li_lastScope.2.1 19 = .ok (.iload_n 1, 1) := by decide +kernel
theorem d_Li_lastScope_20 : decode m_Li_lastScope.2.1 20 = .ok (.iaload, 1) := by decide +kernel
theorem d_Li_lastScope_21 : decode m_Li_lastScope.2.1 21 = .ok (.iconst 1, 1) := by decide +kernel
theorem d_Li_lastScope_22 : decode m_Li_lastScope.2.1 22 = .ok (.isub, 1) := by decide +kernel
theorem d_Li_lastScope_23 : decode m_Li_lastScope.2.1 23 = .ok (.invokevirtual 45, 3) := by decide +kernel
theorem d_Li_lastScope_26 : decode m_Li_lastScope.2.1 26 = .ok (.ireturn, 1) := by decide +kernel
theorem d_Pa_isUnder_0 : decode m_Pa_isUnder.2.1 0 = .ok (.iload_n 3, 1) := by decide +kernel
theorem d_Pa_isUnder_1 : decode m_Pa_isUnder.2.1 1 = .ok (.ifCond .ne (7), 3) := by decide +kernel
theorem d_Pa_isUnder_4 : decode m_Pa_isUnder.2.1 4 = .ok (.iconst 1, 1) := by decide +kernel
theorem d_Pa_isUnder_5 : decode m_Pa_isUnder.2.1 5 = .ok (.goto (4), 3) := by decide +kernel
theorem d_Pa_isUnder_8 : decode m_Pa_isUnder.2.1 8 = .ok (.iconst 0, 1) := by decide +kernel
theorem d_Pa_isUnder_9 : decode m_Pa_isUnder.2.1 9 = .ok (.istore 4, 2) := by decide +kernel
theorem d_Pa_isUnder_11 : decode m_Pa_isUnder.2.1 11 = .ok (.iconst 0, 1) := by decide +kernel
theorem d_Pa_isUnder_12 : decode m_Pa_isUnder.2.1 12 = .ok (.istore 5, 2) := by decide +kernel
theorem d_Pa_isUnder_14 : decode m_Pa_isUnder.2.1 14 = .ok (.iload 5, 2) := by decide +kernel
theorem d_Pa_isUnder_16 : decode m_Pa_isUnder.2.1 16 = .ok (.iload_n 2, 1) := by decide +kernel
theorem d_Pa_isUnder_17 : decode m_Pa_isUnder.2.1 17 = .ok (.if_icmp .ge (32), 3) := by decide +kernel
theorem d_Pa_isUnder_20 : decode m_Pa_isUnder.2.1 20 = .ok (.iload 4, 2) := by decide +kernel
theorem d_Pa_isUnder_22 : decode m_Pa_isUnder.2.1 22 = .ok (.ifCond .ne (27), 3) := by decide +kernel
theorem d_Pa_isUnder_25 : decode m_Pa_isUnder.2.1 25 = .ok (.aload_n 0, 1) := by decide +kernel
theorem d_Pa_isUnder_26 : decode m_Pa_isUnder.2.1 26 = .ok (.iload_n 1, 1) := by decide +kernel
theorem d_Pa_isUnder_27 : decode m_Pa_isUnder.2.1 27 = .ok (.iload 5, 2) := by decide +kernel
theorem d_Pa_isUnder_29 : decode m_Pa_isUnder.2.1 29 = .ok (.invokevirtual 34, 3) := by decide +kernel
theorem d_Pa_isUnder_32 : decode m_Pa_isUnder.2.1 32 = .ok (.iload_n 3, 1) := by decide +kernel
theorem d_Pa_isUnder_33 : decode m_Pa_isUnder.2.1 33 = .ok (.if_icmp .ne (7), 3) := by decide +kernel
theorem d_Pa_isUnder_36 : decode m_Pa_isUnder.2.1 36 = .ok (.iconst 1, 1) := by decide +kernel
theorem d_Pa_isUnder_37 : decode m_Pa_isUnder.2.1 37 = .ok (.goto (4), 3) := by decide +kernel
theorem d_Pa_isUnder_40 : decode m_Pa_isUnder.2.1 40 = .ok (.iconst 0, 1) := by decide +kernel
theorem d_Pa_isUnder_41 : decode m_Pa_isUnder.2.1 41 = .ok (.istore 4, 2) := by decide +kernel
theorem d_Pa_isUnder_43 : decode m_Pa_isUnder.2.1 43 = .ok (.iinc 5 (1), 3) := by decide +kernel
theorem d_Pa_isUnder_46 : decode m_Pa_isUnder.2.1 46 = .ok (.goto (-32), 3) := by decide +kernel
theorem d_Pa_isUnder_49 : decode m_Pa_isUnder.2.1 49 = .ok (.iload 4, 2) := by decide +kernel
theorem d_Pa_isUnder_51 : decode m_Pa_isUnder.2.1 51 = .ok (.ireturn, 1) := by decide +kernel
theorem d_Pa_entryFor_0 : decode m_Pa_entryFor.2.1 0 = .ok (.iconst (-1), 1) := by decide +kernel
theorem d_Pa_entryFor_1 : decode m_Pa_entryFor.2.1 1 = .ok (.istore 4, 2) := by decide +kernel
theorem d_Pa_entryFor_3 : decode m_Pa_entryFor.2.1 3 = .ok (.iconst 0, 1) := by decide +kernel
theorem d_Pa_entryFor_4 : decode m_Pa_entryFor.2.1 4 = .ok (.istore 5, 2) := by decide +kernel
theorem d_Pa_entryFor_6 : decode m_Pa_entryFor.2.1 6 = .ok (.iload 5, 2) := by decide +kernel
theorem d_Pa_entryFor_8 : decode m_Pa_entryFor.2.1 8 = .ok (.aload_n 0, 1) := by decide +kernel
theorem d_Pa_entryFor_9 : decode m_Pa_entryFor.2.1 9 = .ok (.getfield 21, 3) := by decide +kernel
theorem d_Pa_entryFor_12 : decode m_Pa_entryFor.2.1 12 = .ok (.if_icmp .ge (88), 3) := by decide +kernel
theorem d_Pa_entryFor_15 : decode m_Pa_entryFor.2.1 15 = .ok (.aload_n 0, 1) := by decide +kernel
theorem d_Pa_entryFor_16 : decode m_Pa_entryFor.2.1 16 = .ok (.getfield 9, 3) := by decide +kernel
theorem d_Pa_entryFor_19 : decode m_Pa_entryFor.2.1 19 = .ok (.iload 5, 2) := by decide +kernel
theorem d_Pa_entryFor_21 : decode m_Pa_entryFor.2.1 21 = .ok (.iaload, 1) := by decide +kernel
theorem d_Pa_entryFor_22 : decode m_Pa_entryFor.2.1 22 = .ok (.aload_n 1, 1) := by decide +kernel
theorem d_Pa_entryFor_23 : decode m_Pa_entryFor.2.1 23 = .ok (.iload_n 2, 1) := by decide +kernel
theorem d_Pa_entryFor_24 : decode m_Pa_entryFor.2.1 24 = .ok (.iload_n 3, 1) := by decide +kernel
theorem d_Pa_entryFor_25 : decode m_Pa_entryFor.2.1 25 = .ok (.invokevirtual 34, 3) := by decide +kernel
theorem d_Pa_entryFor_28 : decode m_Pa_entryFor.2.1 28 = .ok (.if_icmp .ne (66), 3) := by decide +kernel
theorem d_Pa_entryFor_31 : decode m_Pa_entryFor.2.1 31 = .ok (.aload_n 1, 1) := by decide +kernel
theorem d_Pa_entryFor_32 : decode m_Pa_entryFor.2.1 32 = .ok (.iload_n 2, 1) := by decide +kernel
theorem d_Pa_entryFor_33 : decode m_Pa_entryFor.2.1 33 = .ok (.iload_n 3, 1) := by decide +kernel
theorem d_Pa_entryFor_34 : decode m_Pa_entryFor.2.1 34 = .ok (.aload_n 0, 1) := by decide +kernel
theorem d_Pa_entryFor_35 : decode m_Pa_entryFor.2.1 35 = .ok (.getfield 15, 3) := by decide +kernel
theorem d_Pa_entryFor_38 : decode m_Pa_entryFor.2.1 38 = .ok (.iload 5, 2) := by decide +kernel
theorem d_Pa_entryFor_40 : decode m_Pa_entryFor.2.1 40 = .ok (.iaload, 1) := by decide +kernel
theorem d_Pa_entryFor_41 : decode m_Pa_entryFor.2.1 41 = .ok (.invokestatic 38, 3) := by decide +kernel
theorem d_Pa_entryFor_44 : decode m_Pa_entryFor.2.1 44 = .ok (.ifCond .eq (50), 3) := by decide +kernel
theorem d_Pa_entryFor_47 : decode m_Pa_entryFor.2.1 47 = .ok (.iload 4, 2) := by decide +kernel
theorem d_Pa_entryFor_49 : decode m_Pa_entryFor.2.1 49 = .ok (.iconst (-1), 1) := by decide +kernel
theorem d_Pa_entryFor_50 : decode m_Pa_entryFor.2.1 50 = .ok (.if_icmp .eq (27), 3) := by decide +kernel
theorem d_Pa_entryFor_53 : decode m_Pa_entryFor.2.1 53 = .ok (.aload_n 0, 1) := by decide +kernel
theorem d_Pa_entryFor_54 : decode m_Pa_entryFor.2.1 54 = .ok (.getfield 15, 3) := by decide +kernel
theorem d_Pa_entryFor_57 : decode m_Pa_entryFor.2.1 57 = .ok (.iload 4, 2) := by decide +kernel
theorem d_Pa_entryFor_59 : decode m_Pa_entryFor.2.1 59 = .ok (.iaload, 1) := by decide +kernel
theorem d_Pa_entryFor_60 : decode m_Pa_entryFor.2.1 60 = .ok (.ifCond .eq (17), 3) := by decide +kernel
theorem d_Pa_entryFor_63 : decode m_Pa_entryFor.2.1 63 = .ok (.aload_n 0, 1) := by decide +kernel
theorem d_Pa_entryFor_64 : decode m_Pa_entryFor.2.1 64 = .ok (.getfield 15, 3) := by decide +kernel
theorem d_Pa_entryFor_67 : decode m_Pa_entryFor.2.1 67 = .ok (.iload 5, 2) := by decide +kernel
theorem d_Pa_entryFor_69 : decode m_Pa_entryFor.2.1 69 = .ok (.iaload, 1) := by decide +kernel
theorem d_Pa_entryFor_70 : decode m_Pa_entryFor.2.1 70 = .ok (.ifCond .ne (7), 3) := by decide +kernel
theorem d_Pa_entryFor_73 : decode m_Pa_entryFor.2.1 73 = .ok (.iconst 1, 1) := by decide +kernel
theorem d_Pa_entryFor_74 : decode m_Pa_entryFor.2.1 74 = .ok (.goto (4), 3) := by decide +kernel
theorem d_Pa_entryFor_77 : decode m_Pa_entryFor.2.1 77 = .ok (.iconst 0, 1) := by decide +kernel
theorem d_Pa_entryFor_78 : decode m_Pa_entryFor.2.1 78 = .ok (.istore 6, 2) := by decide +kernel
theorem d_Pa_entryFor_80 : decode m_Pa_entryFor.2.1 80 = .ok (.iload 6, 2) := by decide +kernel
theorem d_Pa_entryFor_82 : decode m_Pa_entryFor.2.1 82 = .ok (.ifCond .eq (8), 3) := by decide +kernel
theorem d_Pa_entryFor_85 : decode m_Pa_entryFor.2.1 85 = .ok (.iload 4, 2) := by decide +kernel
theorem d_Pa_entryFor_87 : decode m_Pa_entryFor.2.1 87 = .ok (.goto (5), 3) := by decide +kernel
theorem d_Pa_entryFor_90 : decode m_Pa_entryFor.2.1 90 = .ok (.iload 5, 2) := by decide +kernel
theorem d_Pa_entryFor_92 : decode m_Pa_entryFor.2.1 92 = .ok (.istore 4, 2) := by decide +kernel
theorem d_Pa_entryFor_94 : decode m_Pa_entryFor.2.1 94 = .ok (.iinc 5 (1), 3) := by decide +kernel
theorem d_Pa_entryFor_97 : decode m_Pa_entryFor.2.1 97 = .ok (.goto (-91), 3) := by decide +kernel
theorem d_Pa_entryFor_100 : decode m_Pa_entryFor.2.1 100 = .ok (.iload 4, 2) := by decide +kernel
theorem d_Pa_entryFor_102 : decode m_Pa_entryFor.2.1 102 = .ok (.ireturn, 1) := by decide +kernel
theorem d_Pa_colourOf_0 : decode m_Pa_colourOf.2.1 0 = .ok (.aload_n 1, 1) := by decide +kernel
theorem d_Pa_colourOf_1 : decode m_Pa_colourOf.2.1 1 = .ok (.getfield 25, 3) := by decide +kernel
theorem d_Pa_colourOf_4 : decode m_Pa_colourOf.2.1 4 = .ok (.iload_n 2, 1) := by decide +kernel
theorem d_Pa_colourOf_5 : decode m_Pa_colourOf.2.1 5 = .ok (.iaload, 1) := by decide +kernel
theorem d_Pa_colourOf_6 : decode m_Pa_colourOf.2.1 6 = .ok (.iconst 1, 1) := by decide +kernel
theorem d_Pa_colourOf_7 : decode m_Pa_colourOf.2.1 7 = .ok (.isub, 1) := by decide +kernel
theorem d_Pa_colourOf_8 : decode m_Pa_colourOf.2.1 8 = .ok (.istore_n 3, 1) := by decide +kernel
theorem d_Pa_colourOf_9 : decode m_Pa_colourOf.2.1 9 = .ok (.iload_n 3, 1) := by decide +kernel
theorem d_Pa_colourOf_10 : decode m_Pa_colourOf.2.1 10 = .ok (.ifCond .lt (32), 3) := by decide +kernel
theorem d_Pa_colourOf_13 : decode m_Pa_colourOf.2.1 13 = .ok (.aload_n 0, 1) := by decide +kernel
theorem d_Pa_colourOf_14 : decode m_Pa_colourOf.2.1 14 = .ok (.aload_n 1, 1) := by decide +kernel
theorem d_Pa_colourOf_15 : decode m_Pa_colourOf.2.1 15 = .ok (.iload_n 2, 1) := by decide +kernel
theorem d_Pa_colourOf_16 : decode m_Pa_colourOf.2.1 16 = .ok (.iload_n 3, 1) := by decide +kernel
theorem d_Pa_colourOf_17 : decode m_Pa_colourOf.2.1 17 = .ok (.invokevirtual 30, 3) := by decide +kernel
theorem d_Pa_colourOf_20 : decode m_Pa_colourOf.2.1 20 = .ok (.istore 4, 2) := by decide +kernel
theorem d_Pa_colourOf_22 : decode m_Pa_colourOf.2.1 22 = .ok (.iload 4, 2) := by decide +kernel
theorem d_Pa_colourOf_24 : decode m_Pa_colourOf.2.1 24 = .ok (.iconst (-1), 1) := by decide +kernel
theorem d_Pa_colourOf_25 : decode m_Pa_colourOf.2.1 25 = .ok (.if_icmp .eq (11), 3) := by decide +kernel
theorem d_Pa_colourOf_28 : decode m_Pa_colourOf.2.1 28 = .ok (.aload_n 0, 1) := by decide +kernel
theorem d_Pa_colourOf_29 : decode m_Pa_colourOf.2.1 29 = .ok (.getfield 18, 3) := by decide +kernel
theorem d_Pa_colourOf_32 : decode m_Pa_colourOf.2.1 32 = .ok (.iload 4, 2) := by decide +kernel
theorem d_Pa_colourOf_34 : decode m_Pa_colourOf.2.1 34 = .ok (.iaload, 1) := by decide +kernel
theorem d_Pa_colourOf_35 : decode m_Pa_colourOf.2.1 35 = .ok (.ireturn, 1) := by decide +kernel
theorem d_Pa_colourOf_36 : decode m_Pa_colourOf.2.1 36 = .ok (.iinc 3 (-1), 3) := by decide +kernel
theorem d_Pa_colourOf_39 : decode m_Pa_colourOf.2.1 39 = .ok (.goto (-30), 3) := by decide +kernel
theorem d_Pa_colourOf_42 : decode m_Pa_colourOf.2.1 42 = .ok (.iconst 0, 1) := by decide +kernel
theorem d_Pa_colourOf_43 : decode m_Pa_colourOf.2.1 43 = .ok (.ireturn, 1) := by decide +kernel
theorem d_SL_token_0 : decode m_SL_token.2.1 0 = .ok (.aload_n 0, 1) := by decide +kernel
theorem d_SL_token_1 : decode m_SL_token.2.1 1 = .ok (.iload_n 1, 1) := by decide +kernel
theorem d_SL_token_2 : decode m_SL_token.2.1 2 = .ok (.invokevirtual 126, 3) := by decide +kernel
theorem d_SL_token_5 : decode m_SL_token.2.1 5 = .ok (.ifCond .eq (20), 3) := by decide +kernel
theorem d_SL_token_8 : decode m_SL_token.2.1 8 = .ok (.iload_n 2, 1) := by decide +kernel
theorem d_SL_token_9 : decode m_SL_token.2.1 9 = .ok (.ifCond .lt (16), 3) := by decide +kernel
theorem d_SL_token_12 : decode m_SL_token.2.1 12 = .ok (.iload_n 2, 1) := by decide +kernel
theorem d_SL_token_13 : decode m_SL_token.2.1 13 = .ok (.aload_n 0, 1) := by decide +kernel
theorem d_SL_token_14 : decode m_SL_token.2.1 14 = .ok (.getfield 22, 3) := by decide +kernel
theorem d_SL_token_17 : decode m_SL_token.2.1 17 = .ok (.iload_n 1, 1) := by decide +kernel
theorem d_SL_token_18 : decode m_SL_token.2.1 18 = .ok (.aaload, 1) := by decide +kernel
theorem d_SL_token_19 : decode m_SL_token.2.1 19 = .ok (.getfield 135, 3) := by decide +kernel
theorem d_SL_token_22 : decode m_SL_token.2.1 22 = .ok (.if_icmp .lt (5), 3) := by decide +kernel
theorem d_SL_token_25 : decode m_SL_token.2.1 25 = .ok (.iconst (-1), 1) := by decide +kernel
theorem d_SL_token_26 : decode m_SL_token.2.1 26 = .ok (.ireturn, 1) := by decide +kernel
theorem d_SL_token_27 : decode m_SL_token.2.1 27 = .ok (.aload_n 0, 1) := by decide +kernel
theorem d_SL_token_28 : decode m_SL_token.2.1 28 = .ok (.getfield 22, 3) := by decide +kernel
theorem d_SL_token_31 : decode m_SL_token.2.1 31 = .ok (.iload_n 1, 1) := by decide +kernel
theorem d_SL_token_32 : decode m_SL_token.2.1 32 = .ok (.aaload, 1) := by decide +kernel
theorem d_SL_token_33 : decode m_SL_token.2.1 33 = .ok (.astore 4, 2) := by decide +kernel
theorem d_SL_token_35 : decode m_SL_token.2.1 35 = .ok (.iload_n 3, 1) := by decide +kernel
theorem d_SL_token_36 : decode m_SL_token.2.1 36 = .ok (.tableswitch (66) (0) (3) #[32, 40, 48, 55], 32) := by decide +kernel
theorem d_SL_token_68 : decode m_SL_token.2.1 68 = .ok (.aload 4, 2) := by decide +kernel
theorem d_SL_token_70 : decode m_SL_token.2.1 70 = .ok (.getfield 138, 3) := by decide +kernel
theorem d_SL_token_73 : decode m_SL_token.2.1 73 = .ok (.iload_n 2, 1) := by decide +kernel
theorem d_SL_token_74 : decode m_SL_token.2.1 74 = .ok (.iaload, 1) := by decide +kernel
theorem d_SL_token_75 : decode m_SL_token.2.1 75 = .ok (.ireturn, 1) := by decide +kernel
theorem d_SL_token_76 : decode m_SL_token.2.1 76 = .ok (.aload 4, 2) := by decide +kernel
theorem d_SL_token_78 : decode m_SL_token.2.1 78 = .ok (.getfield 142, 3) := by decide +kernel
theorem d_SL_token_81 : decode m_SL_token.2.1 81 = .ok (.iload_n 2, 1) := by decide +kernel
theorem d_SL_token_82 : decode m_SL_token.2.1 82 = .ok (.iaload, 1) := by decide +kernel
theorem d_SL_token_83 : decode m_SL_token.2.1 83 = .ok (.ireturn, 1) := by decide +kernel
theorem d_SL_token_84 : decode m_SL_token.2.1 84 = .ok (.aload 4, 2) := by decide +kernel
theorem d_SL_token_86 : decode m_SL_token.2.1 86 = .ok (.iload_n 2, 1) := by decide +kernel
theorem d_SL_token_87 : decode m_SL_token.2.1 87 = .ok (.invokevirtual 145, 3) := by decide +kernel
theorem d_SL_token_90 : decode m_SL_token.2.1 90 = .ok (.ireturn, 1) := by decide +kernel
theorem d_SL_token_91 : decode m_SL_token.2.1 91 = .ok (.aload_n 0, 1) := by decide +kernel
theorem d_SL_token_92 : decode m_SL_token.2.1 92 = .ok (.getfield 29, 3) := by decide +kernel
theorem d_SL_token_95 : decode m_SL_token.2.1 95 = .ok (.aload 4, 2) := by decide +kernel
theorem d_SL_token_97 : decode m_SL_token.2.1 97 = .ok (.iload_n 2, 1) := by decide +kernel
theorem d_SL_token_98 : decode m_SL_token.2.1 98 = .ok (.invokevirtual 149, 3) := by decide +kernel
theorem d_SL_token_101 : decode m_SL_token.2.1 101 = .ok (.ireturn, 1) := by decide +kernel
theorem d_SL_token_102 : decode m_SL_token.2.1 102 = .ok (.iconst (-1), 1) := by decide +kernel
theorem d_SL_token_103 : decode m_SL_token.2.1 103 = .ok (.ireturn, 1) := by decide +kernel
theorem d_SL_marked_0 : decode m_SL_marked.2.1 0 = .ok (.aload_n 0, 1) := by decide +kernel
theorem d_SL_marked_1 : decode m_SL_marked.2.1 1 = .ok (.iload_n 1, 1) := by decide +kernel
theorem d_SL_marked_2 : decode m_SL_marked.2.1 2 = .ok (.invokevirtual 126, 3) := by decide +kernel
theorem d_SL_marked_5 : decode m_SL_marked.2.1 5 = .ok (.ifCond .eq (19), 3) := by decide +kernel
theorem d_SL_marked_8 : decode m_SL_marked.2.1 8 = .ok (.aload_n 0, 1) := by decide +kernel
theorem d_SL_marked_9 : decode m_SL_marked.2.1 9 = .ok (.getfield 22, 3) := by decide +kernel
theorem d_SL_marked_12 : decode m_SL_marked.2.1 12 = .ok (.iload_n 1, 1) := by decide +kernel
theorem d_SL_marked_13 : decode m_SL_marked.2.1 13 = .ok (.aaload, 1) := by decide +kernel
theorem d_SL_marked_14 : decode m_SL_marked.2.1 14 = .ok (.getfield 153, 3) := by decide +kernel
theorem d_SL_marked_17 : decode m_SL_marked.2.1 17 = .ok (.ifCond .eq (7), 3) := by decide +kernel
theorem d_SL_marked_20 : decode m_SL_marked.2.1 20 = .ok (.iconst 1, 1) := by decide +kernel
theorem d_SL_marked_21 : decode m_SL_marked.2.1 21 = .ok (.goto (4), 3) := by decide +kernel
theorem d_SL_marked_24 : decode m_SL_marked.2.1 24 = .ok (.iconst 0, 1) := by decide +kernel
theorem d_SL_marked_25 : decode m_SL_marked.2.1 25 = .ok (.ireturn, 1) := by decide +kernel
theorem d_St_isOpen_0 : decode m_St_isOpen.2.1 0 = .ok (.iload_n 1, 1) := by decide +kernel
theorem d_St_isOpen_1 : decode m_St_isOpen.2.1 1 = .ok (.ifCond .lt (15), 3) := by decide +kernel
theorem d_St_isOpen_4 : decode m_St_isOpen.2.1 4 = .ok (.iload_n 1, 1) := by decide +kernel
theorem d_St_isOpen_5 : decode m_St_isOpen.2.1 5 = .ok (.aload_n 0, 1) := by decide +kernel
theorem d_St_isOpen_6 : decode m_St_isOpen.2.1 6 = .ok (.getfield 22, 3) := by decide +kernel
theorem d_St_isOpen_9 : decode m_St_isOpen.2.1 9 = .ok (.if_icmp .ge (7), 3) := by decide +kernel
theorem d_St_isOpen_12 : decode m_St_isOpen.2.1 12 = .ok (.iconst 1, 1) := by decide +kernel
theorem d_St_isOpen_13 : decode m_St_isOpen.2.1 13 = .ok (.goto (4), 3) := by decide +kernel
theorem d_St_isOpen_16 : decode m_St_isOpen.2.1 16 = .ok (.iconst 0, 1) := by decide +kernel
theorem d_St_isOpen_17 : decode m_St_isOpen.2.1 17 = .ok (.ireturn, 1) := by decide +kernel
theorem d_SL_state_0 : decode m_SL_state.2.1 0 = .ok (.aload_n 0, 1) := by decide +kernel
theorem d_SL_state_1 : decode m_SL_state.2.1 1 = .ok (.iload_n 1, 1) := by decide +kernel
theorem d_SL_state_2 : decode m_SL_state.2.1 2 = .ok (.invokevirtual 126, 3) := by decide +kernel
theorem d_SL_state_5 : decode m_SL_state.2.1 5 = .ok (.ifCond .ne (5), 3) := by decide +kernel
theorem d_SL_state_8 : decode m_SL_state.2.1 8 = .ok (.iconst (-1), 1) := by decide +kernel
theorem d_SL_state_9 : decode m_SL_state.2.1 9 = .ok (.ireturn, 1) := by decide +kernel
theorem d_SL_state_10 : decode m_SL_state.2.1 10 = .ok (.aload_n 0, 1) := by decide +kernel
theorem d_SL_state_11 : decode m_SL_state.2.1 11 = .ok (.getfield 22, 3) := by decide +kernel
theorem d_SL_state_14 : decode m_SL_state.2.1 14 = .ok (.iload_n 1, 1) := by decide +kernel
theorem d_SL_state_15 : decode m_SL_state.2.1 15 = .ok (.aaload, 1) := by decide +kernel
theorem d_SL_state_16 : decode m_SL_state.2.1 16 = .ok (.getfield 157, 3) := by decide +kernel
theorem d_SL_state_19 : decode m_SL_state.2.1 19 = .ok (.astore_n 3, 1) := by decide +kernel
theorem d_SL_state_20 : decode m_SL_state.2.1 20 = .ok (.iload_n 2, 1) := by decide +kernel
theorem d_SL_state_21 : decode m_SL_state.2.1 21 = .ok (.iconst (-1), 1) := by decide +kernel
theorem d_SL_state_22 : decode m_SL_state.2.1 22 = .ok (.if_icmp .ne (8), 3) := by decide +kernel
theorem d_SL_state_25 : decode m_SL_state.2.1 25 = .ok (.aload_n 3, 1) := by decide +kernel
theorem d_SL_state_26 : decode m_SL_state.2.1 26 = .ok (.getfield 159, 3) := by decide +kernel
theorem d_SL_state_29 : decode m_SL_state.2.1 29 = .ok (.ireturn, 1) := by decide +kernel
theorem d_SL_state_30 : decode m_SL_state.2.1 30 = .ok (.aload_n 3, 1) := by decide +kernel
theorem d_SL_state_31 : decode m_SL_state.2.1 31 = .ok (.iload_n 2, 1) := by decide +kernel
theorem d_SL_state_32 : decode m_SL_state.2.1 32 = .ok (.invokevirtual 162, 3) := by decide +kernel
theorem d_SL_state_35 : decode m_SL_state.2.1 35 = .ok (.ifCond .eq (12), 3) := by decide +kernel
theorem d_SL_state_38 : decode m_SL_state.2.1 38 = .ok (.aload_n 3, 1) := by decide +kernel
theorem d_SL_state_39 : decode m_SL_state.2.1 39 = .ok (.getfield 165, 3) := by decide +kernel
theorem d_SL_state_42 : decode m_SL_state.2.1 42 = .ok (.iload_n 2, 1) := by decide +kernel
theorem d_SL_state_43 : decode m_SL_state.2.1 43 = .ok (.iaload, 1) := by decide +kernel
theorem d_SL_state_44 : decode m_SL_state.2.1 44 = .ok (.goto (4), 3) := by decide +kernel
theorem d_SL_state_47 : decode m_SL_state.2.1 47 = .ok (.iconst (-1), 1) := by decide +kernel
theorem d_SL_state_48 : decode m_SL_state.2.1 48 = .ok (.ireturn, 1) := by decide +kernel
theorem d_SL_text_0 : decode m_SL_text.2.1 0 = .ok (.aload_n 0, 1) := by decide +kernel
theorem d_SL_text_1 : decode m_SL_text.2.1 1 = .ok (.iload_n 1, 1) := by decide +kernel
theorem d_SL_text_2 : decode m_SL_text.2.1 2 = .ok (.invokevirtual 126, 3) := by decide +kernel
theorem d_SL_text_5 : decode m_SL_text.2.1 5 = .ok (.ifCond .eq (29), 3) := by decide +kernel
theorem d_SL_text_8 : decode m_SL_text.2.1 8 = .ok (.iload_n 3, 1) := by decide +kernel
theorem d_SL_text_9 : decode m_SL_text.2.1 9 = .ok (.iconst 1, 1) := by decide +kernel
theorem d_SL_text_10 : decode m_SL_text.2.1 10 = .ok (.if_icmp .lt (24), 3) := by decide +kernel
theorem d_SL_text_13 : decode m_SL_text.2.1 13 = .ok (.iload_n 3, 1) := by decide +kernel
theorem d_SL_text_14 : decode m_SL_text.2.1 14 = .ok (.iconst 2, 1) := by decide +kernel
theorem d_SL_text_15 : decode m_SL_text.2.1 15 = .ok (.if_icmp .gt (19), 3) := by decide +kernel
theorem d_SL_text_18 : decode m_SL_text.2.1 18 = .ok (.aload_n 0, 1) := by decide +kernel
theorem d_SL_text_19 : decode m_SL_text.2.1 19 = .ok (.getfield 22, 3) := by decide +kernel
theorem d_SL_text_22 : decode m_SL_text.2.1 22 = .ok (.iload_n 1, 1) := by decide +kernel
theorem d_SL_text_23 : decode m_SL_text.2.1 23 = .ok (.aaload, 1) := by decide +kernel
theorem d_SL_text_24 : decode m_SL_text.2.1 24 = .ok (.getfield 157, 3) := by decide +kernel
theorem d_SL_text_27 : decode m_SL_text.2.1 27 = .ok (.iload_n 2, 1) := by decide +kernel
theorem d_SL_text_28 : decode m_SL_text.2.1 28 = .ok (.invokevirtual 162, 3) := by decide +kernel
theorem d_SL_text_31 : decode m_SL_text.2.1 31 = .ok (.ifCond .ne (5), 3) := by decide +kernel
theorem d_SL_text_34 : decode m_SL_text.2.1 34 = .ok (.iconst (-1), 1) := by decide +kernel
theorem d_SL_text_35 : decode m_SL_text.2.1 35 = .ok (.ireturn, 1) := by decide +kernel
theorem d_SL_text_36 : decode m_SL_text.2.1 36 = .ok (.aload_n 0, 1) := by decide +kernel
theorem d_SL_text_37 : decode m_SL_text.2.1 37 = .ok (.getfield 22, 3) := by decide +kernel
theorem d_SL_text_40 : decode m_SL_text.2.1 40 = .ok (.iload_n 1, 1) := by decide +kernel
theorem d_SL_text_41 : decode m_SL_text.2.1 41 = .ok (.aaload, 1) := by decide +kernel
theorem d_SL_text_42 : decode m_SL_text.2.1 42 = .ok (.getfield 157, 3) := by decide +kernel
theorem d_SL_text_45 : decode m_SL_text.2.1 45 = .ok (.iload_n 2, 1) := by decide +kernel
theorem d_SL_text_46 : decode m_SL_text.2.1 46 = .ok (.iload_n 3, 1) := by decide +kernel
theorem d_SL_text_47 : decode m_SL_text.2.1 47 = .ok (.invokevirtual 168, 3) := by decide +kernel
theorem d_SL_text_50 : decode m_SL_text.2.1 50 = .ok (.ireturn, 1) := by decide +kernel
theorem d_SL_find_0 : decode m_SL_find.2.1 0 = .ok (.iload_n 1, 1) := by decide +kernel
theorem d_SL_find_1 : decode m_SL_find.2.1 1 = .ok (.iconst 1, 1) := by decide +kernel
theorem d_SL_find_2 : decode m_SL_find.2.1 2 = .ok (.if_icmp .lt (22), 3) := by decide +kernel
theorem d_SL_find_5 : decode m_SL_find.2.1 5 = .ok (.iload_n 1, 1) := by decide +kernel
theorem d_SL_find_6 : decode m_SL_find.2.1 6 = .ok (.aload_n 0, 1) := by decide +kernel
theorem d_SL_find_7 : decode m_SL_find.2.1 7 = .ok (.getfield 57, 3) := by decide +kernel
theorem d_SL_find_10 : decode m_SL_find.2.1 10 = .ok (.getfield 87, 3) := by decide +kernel
theorem d_SL_find_13 : decode m_SL_find.2.1 13 = .ok (.if_icmp .gt (11), 3) := by decide +kernel
theorem d_SL_find_16 : decode m_SL_find.2.1 16 = .ok (.aload_n 0, 1) := by decide +kernel
theorem d_SL_find_17 : decode m_SL_find.2.1 17 = .ok (.iload_n 2, 1) := by decide +kernel
theorem d_SL_find_18 : decode m_SL_find.2.1 18 = .ok (.invokevirtual 126, 3) := by decide +kernel
theorem d_SL_find_21 : decode m_SL_find.2.1 21 = .ok (.ifCond .ne (5), 3) := by decide +kernel
theorem d_SL_find_24 : decode m_SL_find.2.1 24 = .ok (.iconst (-1), 1) := by decide +kernel
theorem d_SL_find_25 : decode m_SL_find.2.1 25 = .ok (.ireturn, 1) := by decide +kernel
theorem d_SL_find_26 : decode m_SL_find.2.1 26 = .ok (.iload_n 3, 1) := by decide +kernel
theorem d_SL_find_27 : decode m_SL_find.2.1 27 = .ok (.ifCond .lt (28), 3) := by decide +kernel
theorem d_SL_find_30 : decode m_SL_find.2.1 30 = .ok (.iload_n 3, 1) := by decide +kernel
theorem d_SL_find_31 : decode m_SL_find.2.1 31 = .ok (.aload_n 0, 1) := by decide +kernel
theorem d_SL_find_32 : decode m_SL_find.2.1 32 = .ok (.getfield 22, 3) := by decide +kernel
theorem d_SL_find_35 : decode m_SL_find.2.1 35 = .ok (.iload_n 2, 1) := by decide +kernel
theorem d_SL_find_36 : decode m_SL_find.2.1 36 = .ok (.aaload, 1) := by decide +kernel
theorem d_SL_find_37 : decode m_SL_find.2.1 37 = .ok (.getfield 132, 3) := by decide +kernel
theorem d_SL_find_40 : decode m_SL_find.2.1 40 = .ok (.if_icmp .gt (15), 3) := by decide +kernel
theorem d_SL_find_43 : decode m_SL_find.2.1 43 = .ok (.iload 4, 2) := by decide +kernel
theorem d_SL_find_45 : decode m_SL_find.2.1 45 = .ok (.ifCond .lt (10), 3) := by decide +kernel
theorem d_SL_find_48 : decode m_SL_find.2.1 48 = .ok (.iload 4, 2) := by decide +kernel
theorem d_SL_find_50 : decode m_SL_find.2.1 50 = .ok (.bipush (8), 2) := by decide +kernel
theorem d_SL_find_52 : decode m_SL_find.2.1 52 = .ok (.if_icmp .le (5), 3) := by decide +kernel
theorem d_SL_find_55 : decode m_SL_find.2.1 55 = .ok (.iconst (-1), 1) := by decide +kernel
theorem d_SL_find_56 : decode m_SL_find.2.1 56 = .ok (.ireturn, 1) := by decide +kernel
theorem d_SL_find_57 : decode m_SL_find.2.1 57 = .ok (.aload_n 0, 1) := by decide +kernel
theorem d_SL_find_58 : decode m_SL_find.2.1 58 = .ok (.getfield 57, 3) := by decide +kernel
theorem d_SL_find_61 : decode m_SL_find.2.1 61 = .ok (.getfield 171, 3) := by decide +kernel
theorem d_SL_find_64 : decode m_SL_find.2.1 64 = .ok (.astore 5, 2) := by decide +kernel
theorem d_SL_find_66 : decode m_SL_find.2.1 66 = .ok (.aload 5, 2) := by decide +kernel
theorem d_SL_find_68 : decode m_SL_find.2.1 68 = .ok (.aload_n 0, 1) := by decide +kernel
theorem d_SL_find_69 : decode m_SL_find.2.1 69 = .ok (.getfield 57, 3) := by decide +kernel
theorem d_SL_find_72 : decode m_SL_find.2.1 72 = .ok (.getfield 105, 3) := by decide +kernel
theorem d_SL_find_75 : decode m_SL_find.2.1 75 = .ok (.iload_n 1, 1) := by decide +kernel
theorem d_SL_find_76 : decode m_SL_find.2.1 76 = .ok (.aaload, 1) := by decide +kernel
theorem d_SL_find_77 : decode m_SL_find.2.1 77 = .ok (.getfield 77, 3) := by decide +kernel
theorem d_SL_find_80 : decode m_SL_find.2.1 80 = .ok (.aload_n 0, 1) := by decide +kernel
theorem d_SL_find_81 : decode m_SL_find.2.1 81 = .ok (.getfield 22, 3) := by decide +kernel
theorem d_SL_find_84 : decode m_SL_find.2.1 84 = .ok (.iload_n 2, 1) := by decide +kernel
theorem d_SL_find_85 : decode m_SL_find.2.1 85 = .ok (.aaload, 1) := by decide +kernel
theorem d_SL_find_86 : decode m_SL_find.2.1 86 = .ok (.iload_n 3, 1) := by decide +kernel
theorem d_SL_find_87 : decode m_SL_find.2.1 87 = .ok (.aload_n 0, 1) := by decide +kernel
theorem d_SL_find_88 : decode m_SL_find.2.1 88 = .ok (.getfield 36, 3) := by decide +kernel
theorem d_SL_find_91 : decode m_SL_find.2.1 91 = .ok (.invokevirtual 175, 3) := by decide +kernel
theorem d_SL_find_94 : decode m_SL_find.2.1 94 = .ok (.iload 4, 2) := by decide +kernel
theorem d_SL_find_96 : decode m_SL_find.2.1 96 = .ok (.iconst 2, 1) := by decide +kernel
theorem d_SL_find_97 : decode m_SL_find.2.1 97 = .ok (.if_icmp .ne (9), 3) := by decide +kernel
theorem d_SL_find_100 : decode m_SL_find.2.1 100 = .ok (.aload 5, 2) := by decide +kernel
theorem d_SL_find_102 : decode m_SL_find.2.1 102 = .ok (.getfield 181, 3) := by decide +kernel
theorem d_SL_find_105 : decode m_SL_find.2.1 105 = .ok (.ireturn, 1) := by decide +kernel
theorem d_SL_find_106 : decode m_SL_find.2.1 106 = .ok (.aload 5, 2) := by decide +kernel
theorem d_SL_find_108 : decode m_SL_find.2.1 108 = .ok (.getfield 184, 3) := by decide +kernel
theorem d_SL_find_111 : decode m_SL_find.2.1 111 = .ok (.ifCond .eq (6), 3) := by decide +kernel
theorem d_SL_find_114 : decode m_SL_find.2.1 114 = .ok (.bipush (-4), 2) := by decide +kernel
theorem d_SL_find_116 : decode m_SL_find.2.1 116 = .ok (.ireturn, 1) := by decide +kernel
theorem d_SL_find_117 : decode m_SL_find.2.1 117 = .ok (.iload 4, 2) := by decide +kernel
theorem d_SL_find_119 : decode m_SL_find.2.1 119 = .ok (.iconst 2, 1) := by decide +kernel
theorem d_SL_find_120 : decode m_SL_find.2.1 120 = .ok (.if_icmp .ge (22), 3) := by decide +kernel
theorem d_SL_find_123 : decode m_SL_find.2.1 123 = .ok (.iload 4, 2) := by decide +kernel
theorem d_SL_find_125 : decode m_SL_find.2.1 125 = .ok (.ifCond .ne (11), 3) := by decide +kernel
theorem d_SL_find_128 : decode m_SL_find.2.1 128 = .ok (.aload 5, 2) := by decide +kernel
theorem d_SL_find_130 : decode m_SL_find.2.1 130 = .ok (.getfield 187, 3) := by decide +kernel
theorem d_SL_find_133 : decode m_SL_find.2.1 133 = .ok (.goto (8), 3) := by decide +kernel
theorem d_SL_find_136 : decode m_SL_find.2.1 136 = .ok (.aload 5, 2) := by decide +kernel
theorem d_SL_find_138 : decode m_SL_find.2.1 138 = .ok (.getfield 190, 3) := by decide +kernel
theorem d_SL_find_141 : decode m_SL_find.2.1 141 = .ok (.ireturn, 1) := by decide +kernel
theorem d_SL_find_142 : decode m_SL_find.2.1 142 = .ok (.aload 5, 2) := by decide +kernel
theorem d_SL_find_144 : decode m_SL_find.2.1 144 = .ok (.getfield 187, 3) := by decide +kernel
theorem d_SL_find_147 : decode m_SL_find.2.1 147 = .ok (.iconst (-1), 1) := by decide +kernel
theorem d_SL_find_148 : decode m_SL_find.2.1 148 = .ok (.if_icmp .ne (7), 3) := by decide +kernel
theorem d_SL_find_151 : decode m_SL_find.2.1 151 = .ok (.iconst (-1), 1) := by decide +kernel
theorem d_SL_find_152 : decode m_SL_find.2.1 152 = .ok (.goto (13), 3) := by decide +kernel
theorem d_SL_find_155 : decode m_SL_find.2.1 155 = .ok (.aload 5, 2) := by decide +kernel
theorem d_SL_find_157 : decode m_SL_find.2.1 157 = .ok (.getfield 192, 3) := by decide +kernel
theorem d_SL_find_160 : decode m_SL_find.2.1 160 = .ok (.iload 4, 2) := by decide +kernel
theorem d_SL_find_162 : decode m_SL_find.2.1 162 = .ok (.iconst 3, 1) := by decide +kernel
theorem d_SL_find_163 : decode m_SL_find.2.1 163 = .ok (.isub, 1) := by decide +kernel
theorem d_SL_find_164 : decode m_SL_find.2.1 164 = .ok (.iaload, 1) := by decide +kernel
theorem d_SL_find_165 : decode m_SL_find.2.1 165 = .ok (.ireturn, 1) := by decide +kernel
