/-! Instructions -/
theorem d_St_copy_0 : decode m_St_copy.2.1 0 = .ok (.aload_n 0, 1) := by decide +kernel
theorem d_St_copy_1 : decode m_St_copy.2.1 1 = .ok (.aload_n 1, 1) := by decide +kernel
theorem d_St_copy_2 : decode m_St_copy.2.1 2 = .ok (.getfield 22, 3) := by decide +kernel
theorem d_St_copy_5 : decode m_St_copy.2.1 5 = .ok (.putfield 22, 3) := by decide +kernel
theorem d_St_copy_8 : decode m_St_copy.2.1 8 = .ok (.aload_n 1, 1) := by decide +kernel
theorem d_St_copy_9 : decode m_St_copy.2.1 9 = .ok (.getfield 9, 3) := by decide +kernel
theorem d_St_copy_12 : decode m_St_copy.2.1 12 = .ok (.iconst 0, 1) := by decide +kernel
theorem d_St_copy_13 : decode m_St_copy.2.1 13 = .ok (.aload_n 0, 1) := by decide +kernel
theorem d_St_copy_14 : decode m_St_copy.2.1 14 = .ok (.getfield 9, 3) := by decide +kernel
theorem d_St_copy_17 : decode m_St_copy.2.1 17 = .ok (.iconst 0, 1) := by decide +kernel
theorem d_St_copy_18 : decode m_St_copy.2.1 18 = .ok (.iconst 5, 1) := by decide +kernel
theorem d_St_copy_19 : decode m_St_copy.2.1 19 = .ok (.invokestatic 31, 3) := by decide +kernel
theorem d_St_copy_22 : decode m_St_copy.2.1 22 = .ok (.aload_n 1, 1) := by decide +kernel
theorem d_St_copy_23 : decode m_St_copy.2.1 23 = .ok (.getfield 15, 3) := by decide +kernel
theorem d_St_copy_26 : decode m_St_copy.2.1 26 = .ok (.iconst 0, 1) := by decide +kernel
theorem d_St_copy_27 : decode m_St_copy.2.1 27 = .ok (.aload_n 0, 1) := by decide +kernel
theorem d_St_copy_28 : decode m_St_copy.2.1 28 = .ok (.getfield 15, 3) := by decide +kernel
theorem d_St_copy_31 : decode m_St_copy.2.1 31 = .ok (.iconst 0, 1) := by decide +kernel
theorem d_St_copy_32 : decode m_St_copy.2.1 32 = .ok (.aload_n 0, 1) := by decide +kernel
theorem d_St_copy_33 : decode m_St_copy.2.1 33 = .ok (.getfield 15, 3) := by decide +kernel
theorem d_St_copy_36 : decode m_St_copy.2.1 36 = .ok (.arraylength, 1) := by decide +kernel
theorem d_St_copy_37 : decode m_St_copy.2.1 37 = .ok (.invokestatic 31, 3) := by decide +kernel
theorem d_St_copy_40 : decode m_St_copy.2.1 40 = .ok (.aload_n 1, 1) := by decide +kernel
theorem d_St_copy_41 : decode m_St_copy.2.1 41 = .ok (.getfield 18, 3) := by decide +kernel
theorem d_St_copy_44 : decode m_St_copy.2.1 44 = .ok (.iconst 0, 1) := by decide +kernel
theorem d_St_copy_45 : decode m_St_copy.2.1 45 = .ok (.aload_n 0, 1) := by decide +kernel
theorem d_St_copy_46 : decode m_St_copy.2.1 46 = .ok (.getfield 18, 3) := by decide +kernel
theorem d_St_copy_49 : decode m_St_copy.2.1 49 = .ok (.iconst 0, 1) := by decide +kernel
theorem d_St_copy_50 : decode m_St_copy.2.1 50 = .ok (.aload_n 0, 1) := by decide +kernel
theorem d_St_copy_51 : decode m_St_copy.2.1 51 = .ok (.getfield 18, 3) := by decide +kernel
theorem d_St_copy_54 : decode m_St_copy.2.1 54 = .ok (.arraylength, 1) := by decide +kernel
theorem d_St_copy_55 : decode m_St_copy.2.1 55 = .ok (.invokestatic 31, 3) := by decide +kernel
theorem d_St_copy_58 : decode m_St_copy.2.1 58 = .ok (.return_, 1) := by decide +kernel
theorem d_St_innermost_0 : decode m_St_innermost.2.1 0 = .ok (.aload_n 0, 1) := by decide +kernel
theorem d_St_innermost_1 : decode m_St_innermost.2.1 1 = .ok (.getfield 22, 3) := by decide +kernel
theorem d_St_innermost_4 : decode m_St_innermost.2.1 4 = .ok (.ifCond .ne (7), 3) := by decide +kernel
theorem d_St_innermost_7 : decode m_St_innermost.2.1 7 = .ok (.iconst 0, 1) := by decide +kernel
theorem d_St_innermost_8 : decode m_St_innermost.2.1 8 = .ok (.goto (14), 3) := by decide +kernel
theorem d_St_innermost_11 : decode m_St_innermost.2.1 11 = .ok (.aload_n 0, 1) := by decide +kernel
theorem d_St_innermost_12 : decode m_St_innermost.2.1 12 = .ok (.getfield 9, 3) := by decide +kernel
theorem d_St_innermost_15 : decode m_St_innermost.2.1 15 = .ok (.aload_n 0, 1) := by decide +kernel
theorem d_St_innermost_16 : decode m_St_innermost.2.1 16 = .ok (.getfield 22, 3) := by decide +kernel
theorem d_St_innermost_19 : decode m_St_innermost.2.1 19 = .ok (.iconst 1, 1) := by decide +kernel
theorem d_St_innermost_20 : decode m_St_innermost.2.1 20 = .ok (.isub, 1) := by decide +kernel
theorem d_St_innermost_21 : decode m_St_innermost.2.1 21 = .ok (.iaload, 1) := by decide +kernel
theorem d_St_innermost_22 : decode m_St_innermost.2.1 22 = .ok (.ireturn, 1) := by decide +kernel
theorem d_Gr_listRulesOf_0 : decode m_Gr_listRulesOf.2.1 0 = .ok (.iconst 1, 1) := by decide +kernel
theorem d_Gr_listRulesOf_1 : decode m_Gr_listRulesOf.2.1 1 = .ok (.istore_n 2, 1) := by decide +kernel
theorem d_Gr_listRulesOf_2 : decode m_Gr_listRulesOf.2.1 2 = .ok (.iload_n 2, 1) := by decide +kernel
theorem d_Gr_listRulesOf_3 : decode m_Gr_listRulesOf.2.1 3 = .ok (.aload_n 0, 1) := by decide +kernel
theorem d_Gr_listRulesOf_4 : decode m_Gr_listRulesOf.2.1 4 = .ok (.getfield 45, 3) := by decide +kernel
theorem d_Gr_listRulesOf_7 : decode m_Gr_listRulesOf.2.1 7 = .ok (.if_icmp .gt (42), 3) := by decide +kernel
theorem d_Gr_listRulesOf_10 : decode m_Gr_listRulesOf.2.1 10 = .ok (.aload_n 0, 1) := by decide +kernel
theorem d_Gr_listRulesOf_11 : decode m_Gr_listRulesOf.2.1 11 = .ok (.getfield 11, 3) := by decide +kernel
theorem d_Gr_listRulesOf_14 : decode m_Gr_listRulesOf.2.1 14 = .ok (.iload_n 2, 1) := by decide +kernel
theorem d_Gr_listRulesOf_15 : decode m_Gr_listRulesOf.2.1 15 = .ok (.aaload, 1) := by decide +kernel
theorem d_Gr_listRulesOf_16 : decode m_Gr_listRulesOf.2.1 16 = .ok (.getfield 53, 3) := by decide +kernel
theorem d_Gr_listRulesOf_19 : decode m_Gr_listRulesOf.2.1 19 = .ok (.iload_n 1, 1) := by decide +kernel
theorem d_Gr_listRulesOf_20 : decode m_Gr_listRulesOf.2.1 20 = .ok (.if_icmp .ne (23), 3) := by decide +kernel
theorem d_Gr_listRulesOf_23 : decode m_Gr_listRulesOf.2.1 23 = .ok (.aload_n 0, 1) := by decide +kernel
theorem d_Gr_listRulesOf_24 : decode m_Gr_listRulesOf.2.1 24 = .ok (.getfield 24, 3) := by decide +kernel
theorem d_Gr_listRulesOf_27 : decode m_Gr_listRulesOf.2.1 27 = .ok (.aload_n 0, 1) := by decide +kernel
theorem d_Gr_listRulesOf_28 : decode m_Gr_listRulesOf.2.1 28 = .ok (.getfield 113, 3) := by decide +kernel
theorem d_Gr_listRulesOf_31 : decode m_Gr_listRulesOf.2.1 31 = .ok (.iload_n 2, 1) := by decide +kernel
theorem d_Gr_listRulesOf_32 : decode m_Gr_listRulesOf.2.1 32 = .ok (.iastore, 1) := by decide +kernel
theorem d_Gr_listRulesOf_33 : decode m_Gr_listRulesOf.2.1 33 = .ok (.aload_n 0, 1) := by decide +kernel
theorem d_Gr_listRulesOf_34 : decode m_Gr_listRulesOf.2.1 34 = .ok (.dup, 1) := by decide +kernel
theorem d_Gr_listRulesOf_35 : decode m_Gr_listRulesOf.2.1 35 = .ok (.getfield 113, 3) := by decide +kernel
theorem d_Gr_listRulesOf_38 : decode m_Gr_listRulesOf.2.1 38 = .ok (.iconst 1, 1) := by decide +kernel
theorem d_Gr_listRulesOf_39 : decode m_Gr_listRulesOf.2.1 39 = .ok (.iadd, 1) := by decide +kernel
theorem d_Gr_listRulesOf_40 : decode m_Gr_listRulesOf.2.1 40 = .ok (.putfield 113, 3) := by decide +kernel
theorem d_Gr_listRulesOf_43 : decode m_Gr_listRulesOf.2.1 43 = .ok (.iinc 2 (1), 3) := by decide +kernel
theorem d_Gr_listRulesOf_46 : decode m_Gr_listRulesOf.2.1 46 = .ok (.goto (-44), 3) := by decide +kernel
theorem d_Gr_listRulesOf_49 : decode m_Gr_listRulesOf.2.1 49 = .ok (.return_, 1) := by decide +kernel
theorem d_Gr_listCandidates_0 : decode m_Gr_listCandidates.2.1 0 = .ok (.aload_n 0, 1) := by decide +kernel
theorem d_Gr_listCandidates_1 : decode m_Gr_listCandidates.2.1 1 = .ok (.getfield 20, 3) := by decide +kernel
theorem d_Gr_listCandidates_4 : decode m_Gr_listCandidates.2.1 4 = .ok (.invokevirtual 103, 3) := by decide +kernel
theorem d_Gr_listCandidates_7 : decode m_Gr_listCandidates.2.1 7 = .ok (.istore_n 1, 1) := by decide +kernel
theorem d_Gr_listCandidates_8 : decode m_Gr_listCandidates.2.1 8 = .ok (.aload_n 0, 1) := by decide +kernel
theorem d_Gr_listCandidates_9 : decode m_Gr_listCandidates.2.1 9 = .ok (.iconst 0, 1) := by decide +kernel
theorem d_Gr_listCandidates_10 : decode m_Gr_listCandidates.2.1 10 = .ok (.putfield 113, 3) := by decide +kernel
theorem d_Gr_listCandidates_13 : decode m_Gr_listCandidates.2.1 13 = .ok (.iload_n 1, 1) := by decide +kernel
theorem d_Gr_listCandidates_14 : decode m_Gr_listCandidates.2.1 14 = .ok (.ifCond .eq (15), 3) := by decide +kernel
theorem d_Gr_listCandidates_17 : decode m_Gr_listCandidates.2.1 17 = .ok (.aload_n 0, 1) := by decide +kernel
theorem d_Gr_listCandidates_18 : decode m_Gr_listCandidates.2.1 18 = .ok (.getfield 24, 3) := by decide +kernel
theorem d_Gr_listCandidates_21 : decode m_Gr_listCandidates.2.1 21 = .ok (.iconst 0, 1) := by decide +kernel
theorem d_Gr_listCandidates_22 : decode m_Gr_listCandidates.2.1 22 = .ok (.iconst 0, 1) := by decide +kernel
theorem d_Gr_listCandidates_23 : decode m_Gr_listCandidates.2.1 23 = .ok (.iastore, 1) := by decide +kernel
theorem d_Gr_listCandidates_24 : decode m_Gr_listCandidates.2.1 24 = .ok (.aload_n 0, 1) := by decide +kernel
theorem d_Gr_listCandidates_25 : decode m_Gr_listCandidates.2.1 25 = .ok (.iconst 1, 1) := by decide +kernel
theorem d_Gr_listCandidates_26 : decode m_Gr_listCandidates.2.1 26 = .ok (.putfield 113, 3) := by decide +kernel
theorem d_Gr_listCandidates_29 : decode m_Gr_listCandidates.2.1 29 = .ok (.aload_n 0, 1) := by decide +kernel
theorem d_Gr_listCandidates_30 : decode m_Gr_listCandidates.2.1 30 = .ok (.iload_n 1, 1) := by decide +kernel
theorem d_Gr_listCandidates_31 : decode m_Gr_listCandidates.2.1 31 = .ok (.invokevirtual 135, 3) := by decide +kernel
theorem d_Gr_listCandidates_34 : decode m_Gr_listCandidates.2.1 34 = .ok (.aload_n 0, 1) := by decide +kernel
theorem d_Gr_listCandidates_35 : decode m_Gr_listCandidates.2.1 35 = .ok (.getfield 11, 3) := by decide +kernel
theorem d_Gr_listCandidates_38 : decode m_Gr_listCandidates.2.1 38 = .ok (.iload_n 1, 1) := by decide +kernel
theorem d_Gr_listCandidates_39 : decode m_Gr_listCandidates.2.1 39 = .ok (.aaload, 1) := by decide +kernel
theorem d_Gr_listCandidates_40 : decode m_Gr_listCandidates.2.1 40 = .ok (.getfield 138, 3) := by decide +kernel
theorem d_Gr_listCandidates_43 : decode m_Gr_listCandidates.2.1 43 = .ok (.iconst (-1), 1) := by decide +kernel
theorem d_Gr_listCandidates_44 : decode m_Gr_listCandidates.2.1 44 = .ok (.if_icmp .eq (16), 3) := by decide +kernel
theorem d_Gr_listCandidates_47 : decode m_Gr_listCandidates.2.1 47 = .ok (.aload_n 0, 1) := by decide +kernel
theorem d_Gr_listCandidates_48 : decode m_Gr_listCandidates.2.1 48 = .ok (.aload_n 0, 1) := by decide +kernel
theorem d_Gr_listCandidates_49 : decode m_Gr_listCandidates.2.1 49 = .ok (.getfield 11, 3) := by decide +kernel
theorem d_Gr_listCandidates_52 : decode m_Gr_listCandidates.2.1 52 = .ok (.iload_n 1, 1) := by decide +kernel
theorem d_Gr_listCandidates_53 : decode m_Gr_listCandidates.2.1 53 = .ok (.aaload, 1) := by decide +kernel
theorem d_Gr_listCandidates_54 : decode m_Gr_listCandidates.2.1 54 = .ok (.getfield 138, 3) := by decide +kernel
theorem d_Gr_listCandidates_57 : decode m_Gr_listCandidates.2.1 57 = .ok (.invokevirtual 135, 3) := by decide +kernel
theorem d_Gr_listCandidates_60 : decode m_Gr_listCandidates.2.1 60 = .ok (.return_, 1) := by decide +kernel
theorem d_Ar_fill_0 : decode m_Ar_fill.2.1 0 = .ok (.iconst 0, 1) := by decide +kernel
theorem d_Ar_fill_1 : decode m_Ar_fill.2.1 1 = .ok (.istore_n 2, 1) := by decide +kernel
theorem d_Ar_fill_2 : decode m_Ar_fill.2.1 2 = .ok (.aload_n 0, 1) := by decide +kernel
theorem d_Ar_fill_3 : decode m_Ar_fill.2.1 3 = .ok (.arraylength, 1) := by decide +kernel
theorem d_Ar_fill_4 : decode m_Ar_fill.2.1 4 = .ok (.istore_n 3, 1) := by decide +kernel
theorem d_Ar_fill_5 : decode m_Ar_fill.2.1 5 = .ok (.iload_n 2, 1) := by decide +kernel
theorem d_Ar_fill_6 : decode m_Ar_fill.2.1 6 = .ok (.iload_n 3, 1) := by decide +kernel
theorem d_Ar_fill_7 : decode m_Ar_fill.2.1 7 = .ok (.if_icmp .ge (13), 3) := by decide +kernel
theorem d_Ar_fill_10 : decode m_Ar_fill.2.1 10 = .ok (.aload_n 0, 1) := by decide +kernel
theorem d_Ar_fill_11 : decode m_Ar_fill.2.1 11 = .ok (.iload_n 2, 1) := by decide +kernel
theorem d_Ar_fill_12 : decode m_Ar_fill.2.1 12 = .ok (.iload_n 1, 1) := by decide +kernel
theorem d_Ar_fill_13 : decode m_Ar_fill.2.1 13 = .ok (.iastore, 1) := by decide +kernel
theorem d_Ar_fill_14 : decode m_Ar_fill.2.1 14 = .ok (.iinc 2 (1), 3) := by decide +kernel
theorem d_Ar_fill_17 : decode m_Ar_fill.2.1 17 = .ok (.goto (-12), 3) := by decide +kernel
theorem d_Ar_fill_20 : decode m_Ar_fill.2.1 20 = .ok (.return_, 1) := by decide +kernel
theorem d_Se_leaveWaiting_0 : decode m_Se_leaveWaiting.2.1 0 = .ok (.aload_n 0, 1) := by decide +kernel
theorem d_Se_leaveWaiting_1 : decode m_Se_leaveWaiting.2.1 1 = .ok (.getfield 54, 3) := by decide +kernel
theorem d_Se_leaveWaiting_4 : decode m_Se_leaveWaiting.2.1 4 = .ok (.sipush (500), 3) := by decide +kernel
theorem d_Se_leaveWaiting_7 : decode m_Se_leaveWaiting.2.1 7 = .ok (.if_icmp .ge (33), 3) := by decide +kernel
theorem d_Se_leaveWaiting_10 : decode m_Se_leaveWaiting.2.1 10 = .ok (.aload_n 0, 1) := by decide +kernel
theorem d_Se_leaveWaiting_11 : decode m_Se_leaveWaiting.2.1 11 = .ok (.getfield 17, 3) := by decide +kernel
theorem d_Se_leaveWaiting_14 : decode m_Se_leaveWaiting.2.1 14 = .ok (.aload_n 0, 1) := by decide +kernel
theorem d_Se_leaveWaiting_15 : decode m_Se_leaveWaiting.2.1 15 = .ok (.getfield 54, 3) := by decide +kernel
theorem d_Se_leaveWaiting_18 : decode m_Se_leaveWaiting.2.1 18 = .ok (.iload_n 1, 1) := by decide +kernel
theorem d_Se_leaveWaiting_19 : decode m_Se_leaveWaiting.2.1 19 = .ok (.iastore, 1) := by decide +kernel
theorem d_Se_leaveWaiting_20 : decode m_Se_leaveWaiting.2.1 20 = .ok (.aload_n 0, 1) := by decide +kernel
theorem d_Se_leaveWaiting_21 : decode m_Se_leaveWaiting.2.1 21 = .ok (.getfield 20, 3) := by decide +kernel
theorem d_Se_leaveWaiting_24 : decode m_Se_leaveWaiting.2.1 24 = .ok (.aload_n 0, 1) := by decide +kernel
theorem d_Se_leaveWaiting_25 : decode m_Se_leaveWaiting.2.1 25 = .ok (.getfield 54, 3) := by decide +kernel
theorem d_Se_leaveWaiting_28 : decode m_Se_leaveWaiting.2.1 28 = .ok (.iload_n 2, 1) := by decide +kernel
theorem d_Se_leaveWaiting_29 : decode m_Se_leaveWaiting.2.1 29 = .ok (.iastore, 1) := by decide +kernel
theorem d_Se_leaveWaiting_30 : decode m_Se_leaveWaiting.2.1 30 = .ok (.aload_n 0, 1) := by decide +kernel
theorem d_Se_leaveWaiting_31 : decode m_Se_leaveWaiting.2.1 31 = .ok (.dup, 1) := by decide +kernel
theorem d_Se_leaveWaiting_32 : decode m_Se_leaveWaiting.2.1 32 = .ok (.getfield 54, 3) := by decide +kernel
theorem d_Se_leaveWaiting_35 : decode m_Se_leaveWaiting.2.1 35 = .ok (.iconst 1, 1) := by decide +kernel
theorem d_Se_leaveWaiting_36 : decode m_Se_leaveWaiting.2.1 36 = .ok (.iadd, 1) := by decide +kernel
theorem d_Se_leaveWaiting_37 : decode m_Se_leaveWaiting.2.1 37 = .ok (.putfield 54, 3) := by decide +kernel
theorem d_Se_leaveWaiting_40 : decode m_Se_leaveWaiting.2.1 40 = .ok (.return_, 1) := by decide +kernel
theorem d_St_textLength_0 : decode m_St_textLength.2.1 0 = .ok (.aload_n 0, 1) := by decide +kernel
theorem d_St_textLength_1 : decode m_St_textLength.2.1 1 = .ok (.getfield 15, 3) := by decide +kernel
theorem d_St_textLength_4 : decode m_St_textLength.2.1 4 = .ok (.iload_n 1, 1) := by decide +kernel
theorem d_St_textLength_5 : decode m_St_textLength.2.1 5 = .ok (.iconst 2, 1) := by decide +kernel
theorem d_St_textLength_6 : decode m_St_textLength.2.1 6 = .ok (.imul, 1) := by decide +kernel
theorem d_St_textLength_7 : decode m_St_textLength.2.1 7 = .ok (.iload_n 2, 1) := by decide +kernel
theorem d_St_textLength_8 : decode m_St_textLength.2.1 8 = .ok (.iadd, 1) := by decide +kernel
theorem d_St_textLength_9 : decode m_St_textLength.2.1 9 = .ok (.iconst 1, 1) := by decide +kernel
theorem d_St_textLength_10 : decode m_St_textLength.2.1 10 = .ok (.isub, 1) := by decide +kernel
theorem d_St_textLength_11 : decode m_St_textLength.2.1 11 = .ok (.iaload, 1) := by decide +kernel
theorem d_St_textLength_12 : decode m_St_textLength.2.1 12 = .ok (.ireturn, 1) := by decide +kernel
theorem d_Se_makeStep_0 : decode m_Se_makeStep.2.1 0 = .ok (.aload_n 0, 1) := by decide +kernel
theorem d_Se_makeStep_1 : decode m_Se_makeStep.2.1 1 = .ok (.aload_n 0, 1) := by decide +kernel
theorem d_Se_makeStep_2 : decode m_Se_makeStep.2.1 2 = .ok (.getfield 33, 3) := by decide +kernel
theorem d_Se_makeStep_5 : decode m_Se_makeStep.2.1 5 = .ok (.aload_n 0, 1) := by decide +kernel
theorem d_Se_makeStep_6 : decode m_Se_makeStep.2.1 6 = .ok (.getfield 23, 3) := by decide +kernel
theorem d_Se_makeStep_9 : decode m_Se_makeStep.2.1 9 = .ok (.if_icmp .ne (7), 3) := by decide +kernel
theorem d_Se_makeStep_12 : decode m_Se_makeStep.2.1 12 = .ok (.iconst 1, 1) := by decide +kernel
theorem d_Se_makeStep_13 : decode m_Se_makeStep.2.1 13 = .ok (.goto (4), 3) := by decide +kernel
theorem d_Se_makeStep_16 : decode m_Se_makeStep.2.1 16 = .ok (.iconst 0, 1) := by decide +kernel
theorem d_Se_makeStep_17 : decode m_Se_makeStep.2.1 17 = .ok (.putfield 36, 3) := by decide +kernel
theorem d_Se_makeStep_20 : decode m_Se_makeStep.2.1 20 = .ok (.aload_n 0, 1) := by decide +kernel
theorem d_Se_makeStep_21 : decode m_Se_makeStep.2.1 21 = .ok (.dup, 1) := by decide +kernel
theorem d_Se_makeStep_22 : decode m_Se_makeStep.2.1 22 = .ok (.getfield 33, 3) := by decide +kernel
theorem d_Se_makeStep_25 : decode m_Se_makeStep.2.1 25 = .ok (.aload_n 0, 1) := by decide +kernel
theorem d_Se_makeStep_26 : decode m_Se_makeStep.2.1 26 = .ok (.getfield 36, 3) := by decide +kernel
theorem d_Se_makeStep_29 : decode m_Se_makeStep.2.1 29 = .ok (.ifCond .eq (7), 3) := by decide +kernel
theorem d_Se_makeStep_32 : decode m_Se_makeStep.2.1 32 = .ok (.iconst 0, 1) := by decide +kernel
theorem d_Se_makeStep_33 : decode m_Se_makeStep.2.1 33 = .ok (.goto (4), 3) := by decide +kernel
theorem d_Se_makeStep_36 : decode m_Se_makeStep.2.1 36 = .ok (.iconst 1, 1) := by decide +kernel
theorem d_Se_makeStep_37 : decode m_Se_makeStep.2.1 37 = .ok (.iadd, 1) := by decide +kernel
theorem d_Se_makeStep_38 : decode m_Se_makeStep.2.1 38 = .ok (.putfield 33, 3) := by decide +kernel
theorem d_Se_makeStep_41 : decode m_Se_makeStep.2.1 41 = .ok (.aload_n 0, 1) := by decide +kernel
theorem d_Se_makeStep_42 : decode m_Se_makeStep.2.1 42 = .ok (.getfield 36, 3) := by decide +kernel
theorem d_Se_makeStep_45 : decode m_Se_makeStep.2.1 45 = .ok (.ifCond .ne (7), 3) := by decide +kernel
theorem d_Se_makeStep_48 : decode m_Se_makeStep.2.1 48 = .ok (.iconst 1, 1) := by decide +kernel
theorem d_Se_makeStep_49 : decode m_Se_makeStep.2.1 49 = .ok (.goto (4), 3) := by decide +kernel
theorem d_Se_makeStep_52 : decode m_Se_makeStep.2.1 52 = .ok (.iconst 0, 1) := by decide +kernel
theorem d_Se_makeStep_53 : decode m_Se_makeStep.2.1 53 = .ok (.ireturn, 1) := by decide +kernel
theorem d_St_textCharacter_0 : decode m_St_textCharacter.2.1 0 = .ok (.aload_n 0, 1) := by decide +kernel
theorem d_St_textCharacter_1 : decode m_St_textCharacter.2.1 1 = .ok (.getfield 18, 3) := by decide +kernel
theorem d_St_textCharacter_4 : decode m_St_textCharacter.2.1 4 = .ok (.iload_n 1, 1) := by decide +kernel
theorem d_St_textCharacter_5 : decode m_St_textCharacter.2.1 5 = .ok (.iconst 2, 1) := by decide +kernel
theorem d_St_textCharacter_6 : decode m_St_textCharacter.2.1 6 = .ok (.imul, 1) := by decide +kernel
theorem d_St_textCharacter_7 : decode m_St_textCharacter.2.1 7 = .ok (.iload_n 2, 1) := by decide +kernel
theorem d_St_textCharacter_8 : decode m_St_textCharacter.2.1 8 = .ok (.iadd, 1) := by decide +kernel
theorem d_St_textCharacter_9 : decode m_St_textCharacter.2.1 9 = .ok (.iconst 1, 1) := by decide +kernel
theorem d_St_textCharacter_10 : decode m_St_textCharacter.2.1 10 = .ok (.isub, 1) := by decide +kernel
theorem d_St_textCharacter_11 : decode m_St_textCharacter.2.1 11 = .ok (.bipush (24), 2) := by decide +kernel
theorem d_St_textCharacter_13 : decode m_St_textCharacter.2.1 13 = .ok (.imul, 1) := by decide +kernel
theorem d_St_textCharacter_14 : decode m_St_textCharacter.2.1 14 = .ok (.iload_n 3, 1) := by decide +kernel
theorem d_St_textCharacter_15 : decode m_St_textCharacter.2.1 15 = .ok (.iadd, 1) := by decide +kernel
theorem d_St_textCharacter_16 : decode m_St_textCharacter.2.1 16 = .ok (.caload, 1) := by decide +kernel
theorem d_St_textCharacter_17 : decode m_St_textCharacter.2.1 17 = .ok (.ireturn, 1) := by decide +kernel
theorem d_Se_fitsText_0 : decode m_Se_fitsText.2.1 0 = .ok (.aload_n 2, 1) := by decide +kernel
theorem d_Se_fitsText_1 : decode m_Se_fitsText.2.1 1 = .ok (.getfield 103, 3) := by decide +kernel
theorem d_Se_fitsText_4 : decode m_Se_fitsText.2.1 4 = .ok (.iconst 1, 1) := by decide +kernel
theorem d_Se_fitsText_5 : decode m_Se_fitsText.2.1 5 = .ok (.isub, 1) := by decide +kernel
theorem d_Se_fitsText_6 : decode m_Se_fitsText.2.1 6 = .ok (.istore 4, 2) := by decide +kernel
theorem d_Se_fitsText_8 : decode m_Se_fitsText.2.1 8 = .ok (.iload 4, 2) := by decide +kernel
theorem d_Se_fitsText_10 : decode m_Se_fitsText.2.1 10 = .ok (.ifCond .ge (7), 3) := by decide +kernel
theorem d_Se_fitsText_13 : decode m_Se_fitsText.2.1 13 = .ok (.iconst 0, 1) := by decide +kernel
theorem d_Se_fitsText_14 : decode m_Se_fitsText.2.1 14 = .ok (.goto (10), 3) := by decide +kernel
theorem d_Se_fitsText_17 : decode m_Se_fitsText.2.1 17 = .ok (.aload_n 2, 1) := by decide +kernel
theorem d_Se_fitsText_18 : decode m_Se_fitsText.2.1 18 = .ok (.iload 4, 2) := by decide +kernel
theorem d_Se_fitsText_20 : decode m_Se_fitsText.2.1 20 = .ok (.iload_n 3, 1) := by decide +kernel
theorem d_Se_fitsText_21 : decode m_Se_fitsText.2.1 21 = .ok (.invokevirtual 108, 3) := by decide +kernel
theorem d_Se_fitsText_24 : decode m_Se_fitsText.2.1 24 = .ok (.istore 5, 2) := by decide +kernel
theorem d_Se_fitsText_26 : decode m_Se_fitsText.2.1 26 = .ok (.iconst 1, 1) := by decide +kernel
theorem d_Se_fitsText_27 : decode m_Se_fitsText.2.1 27 = .ok (.istore 6, 2) := by decide +kernel
theorem d_Se_fitsText_29 : decode m_Se_fitsText.2.1 29 = .ok (.iconst 0, 1) := by decide +kernel
theorem d_Se_fitsText_30 : decode m_Se_fitsText.2.1 30 = .ok (.istore 7, 2) := by decide +kernel
theorem d_Se_fitsText_32 : decode m_Se_fitsText.2.1 32 = .ok (.iload 7, 2) := by decide +kernel
theorem d_Se_fitsText_34 : decode m_Se_fitsText.2.1 34 = .ok (.iload 5, 2) := by decide +kernel
theorem d_Se_fitsText_36 : decode m_Se_fitsText.2.1 36 = .ok (.if_icmp .ge (70), 3) := by decide +kernel
theorem d_Se_fitsText_39 : decode m_Se_fitsText.2.1 39 = .ok (.iload 6, 2) := by decide +kernel
theorem d_Se_fitsText_41 : decode m_Se_fitsText.2.1 41 = .ok (.ifCond .eq (65), 3) := by decide +kernel
theorem d_Se_fitsText_44 : decode m_Se_fitsText.2.1 44 = .ok (.aload_n 0, 1) := by decide +kernel
theorem d_Se_fitsText_45 : decode m_Se_fitsText.2.1 45 = .ok (.invokevirtual 84, 3) := by decide +kernel
theorem d_Se_fitsText_48 : decode m_Se_fitsText.2.1 48 = .ok (.ifCond .eq (39), 3) := by decide +kernel
theorem d_Se_fitsText_51 : decode m_Se_fitsText.2.1 51 = .ok (.aload_n 0, 1) := by decide +kernel
theorem d_Se_fitsText_52 : decode m_Se_fitsText.2.1 52 = .ok (.getfield 60, 3) := by decide +kernel
theorem d_Se_fitsText_55 : decode m_Se_fitsText.2.1 55 = .ok (.aload_n 1, 1) := by decide +kernel
theorem d_Se_fitsText_56 : decode m_Se_fitsText.2.1 56 = .ok (.getfield 43, 3) := by decide +kernel
theorem d_Se_fitsText_59 : decode m_Se_fitsText.2.1 59 = .ok (.if_icmp .ge (28), 3) := by decide +kernel
theorem d_Se_fitsText_62 : decode m_Se_fitsText.2.1 62 = .ok (.aload_n 1, 1) := by decide +kernel
theorem d_Se_fitsText_63 : decode m_Se_fitsText.2.1 63 = .ok (.getfield 95, 3) := by decide +kernel
theorem d_Se_fitsText_66 : decode m_Se_fitsText.2.1 66 = .ok (.aload_n 0, 1) := by decide +kernel
theorem d_Se_fitsText_67 : decode m_Se_fitsText.2.1 67 = .ok (.getfield 60, 3) := by decide +kernel
theorem d_Se_fitsText_70 : decode m_Se_fitsText.2.1 70 = .ok (.caload, 1) := by decide +kernel
theorem d_Se_fitsText_71 : decode m_Se_fitsText.2.1 71 = .ok (.aload_n 2, 1) := by decide +kernel
theorem d_Se_fitsText_72 : decode m_Se_fitsText.2.1 72 = .ok (.iload 4, 2) := by decide +kernel
theorem d_Se_fitsText_74 : decode m_Se_fitsText.2.1 74 = .ok (.iload_n 3, 1) := by decide +kernel
theorem d_Se_fitsText_75 : decode m_Se_fitsText.2.1 75 = .ok (.iload 7, 2) := by decide +kernel
theorem d_Se_fitsText_77 : decode m_Se_fitsText.2.1 77 = .ok (.invokevirtual 112, 3) := by decide +kernel
theorem d_Se_fitsText_80 : decode m_Se_fitsText.2.1 80 = .ok (.if_icmp .ne (7), 3) := by decide +kernel
theorem d_Se_fitsText_83 : decode m_Se_fitsText.2.1 83 = .ok (.iconst 1, 1) := by decide +kernel
theorem d_Se_fitsText_84 : decode m_Se_fitsText.2.1 84 = .ok (.goto (4), 3) := by decide +kernel
theorem d_Se_fitsText_87 : decode m_Se_fitsText.2.1 87 = .ok (.iconst 0, 1) := by decide +kernel
theorem d_Se_fitsText_88 : decode m_Se_fitsText.2.1 88 = .ok (.istore 6, 2) := by decide +kernel
theorem d_Se_fitsText_90 : decode m_Se_fitsText.2.1 90 = .ok (.aload_n 0, 1) := by decide +kernel
theorem d_Se_fitsText_91 : decode m_Se_fitsText.2.1 91 = .ok (.dup, 1) := by decide +kernel
theorem d_Se_fitsText_92 : decode m_Se_fitsText.2.1 92 = .ok (.getfield 60, 3) := by decide +kernel
theorem d_Se_fitsText_95 : decode m_Se_fitsText.2.1 95 = .ok (.iconst 1, 1) := by decide +kernel
theorem d_Se_fitsText_96 : decode m_Se_fitsText.2.1 96 = .ok (.iadd, 1) := by decide +kernel
theorem d_Se_fitsText_97 : decode m_Se_fitsText.2.1 97 = .ok (.putfield 60, 3) := by decide +kernel
theorem d_Se_fitsText_100 : decode m_Se_fitsText.2.1 100 = .ok (.iinc 7 (1), 3) := by decide +kernel
theorem d_Se_fitsText_103 : decode m_Se_fitsText.2.1 103 = .ok (.goto (-71), 3) := by decide +kernel
theorem d_Se_fitsText_106 : decode m_Se_fitsText.2.1 106 = .ok (.iload 6, 2) := by decide +kernel
theorem d_Se_fitsText_108 : decode m_Se_fitsText.2.1 108 = .ok (.ireturn, 1) := by decide +kernel
theorem d_Pt_isInSet_0 : decode m_Pt_isInSet.2.1 0 = .ok (.iload_n 2, 1) := by decide +kernel
theorem d_Pt_isInSet_1 : decode m_Pt_isInSet.2.1 1 = .ok (.bipush (32), 2) := by decide +kernel
theorem d_Pt_isInSet_3 : decode m_Pt_isInSet.2.1 3 = .ok (.isub, 1) := by decide +kernel
theorem d_Pt_isInSet_4 : decode m_Pt_isInSet.2.1 4 = .ok (.istore_n 3, 1) := by decide +kernel
theorem d_Pt_isInSet_5 : decode m_Pt_isInSet.2.1 5 = .ok (.iload_n 3, 1) := by decide +kernel
theorem d_Pt_isInSet_6 : decode m_Pt_isInSet.2.1 6 = .ok (.bipush (64), 2) := by decide +kernel
theorem d_Pt_isInSet_8 : decode m_Pt_isInSet.2.1 8 = .ok (.if_icmp .ge (12), 3) := by decide +kernel
theorem d_Pt_isInSet_11 : decode m_Pt_isInSet.2.1 11 = .ok (.aload_n 0, 1) := by decide +kernel
theorem d_Pt_isInSet_12 : decode m_Pt_isInSet.2.1 12 = .ok (.getfield 21, 3) := by decide +kernel
theorem d_Pt_isInSet_15 : decode m_Pt_isInSet.2.1 15 = .ok (.iload_n 1, 1) := by decide +kernel
theorem d_Pt_isInSet_16 : decode m_Pt_isInSet.2.1 16 = .ok (.laload, 1) := by decide +kernel
theorem d_Pt_isInSet_17 : decode m_Pt_isInSet.2.1 17 = .ok (.goto (9), 3) := by decide +kernel
theorem d_Pt_isInSet_20 : decode m_Pt_isInSet.2.1 20 = .ok (.aload_n 0, 1) := by decide +kernel
theorem d_Pt_isInSet_21 : decode m_Pt_isInSet.2.1 21 = .ok (.getfield 25, 3) := by decide +kernel
theorem d_Pt_isInSet_24 : decode m_Pt_isInSet.2.1 24 = .ok (.iload_n 1, 1) := by decide +kernel
theorem d_Pt_isInSet_25 : decode m_Pt_isInSet.2.1 25 = .ok (.laload, 1) := by decide +kernel
theorem d_Pt_isInSet_26 : decode m_Pt_isInSet.2.1 26 = .ok (.lstore 4, 2) := by decide +kernel
theorem d_Pt_isInSet_28 : decode m_Pt_isInSet.2.1 28 = .ok (.lload 4, 2) := by decide +kernel
theorem d_Pt_isInSet_30 : decode m_Pt_isInSet.2.1 30 = .ok (.iload_n 3, 1) := by decide +kernel
theorem d_Pt_isInSet_31 : decode m_Pt_isInSet.2.1 31 = .ok (.bipush (63), 2) := by decide +kernel
theorem d_Pt_isInSet_33 : decode m_Pt_isInSet.2.1 33 = .ok (.iand, 1) := by decide +kernel
theorem d_Pt_isInSet_34 : decode m_Pt_isInSet.2.1 34 = .ok (.lushr, 1) := by decide +kernel
theorem d_Pt_isInSet_35 : decode m_Pt_isInSet.2.1 35 = .ok (.lconst 1, 1) := by decide +kernel
theorem d_Pt_isInSet_36 : decode m_Pt_isInSet.2.1 36 = .ok (.land, 1) := by decide +kernel
theorem d_Pt_isInSet_37 : decode m_Pt_isInSet.2.1 37 = .ok (.lconst 0, 1) := by decide +kernel
theorem d_Pt_isInSet_38 : decode m_Pt_isInSet.2.1 38 = .ok (.lcmp, 1) := by decide +kernel
theorem d_Pt_isInSet_39 : decode m_Pt_isInSet.2.1 39 = .ok (.ifCond .eq (7), 3) := by decide +kernel
theorem d_Pt_isInSet_42 : decode m_Pt_isInSet.2.1 42 = .ok (.iconst 1, 1) := by decide +kernel
theorem d_Pt_isInSet_43 : decode m_Pt_isInSet.2.1 43 = .ok (.goto (4), 3) := by decide +kernel
theorem d_Pt_isInSet_46 : decode m_Pt_isInSet.2.1 46 = .ok (.iconst 0, 1) := by decide +kernel
theorem d_Pt_isInSet_47 : decode m_Pt_isInSet.2.1 47 = .ok (.ireturn, 1) := by decide +kernel
theorem d_Se_fitsAtom_0 : decode m_Se_fitsAtom.2.1 0 = .ok (.aload_n 1, 1) := by decide +kernel
theorem d_Se_fitsAtom_1 : decode m_Se_fitsAtom.2.1 1 = .ok (.getfield 70, 3) := by decide +kernel
theorem d_Se_fitsAtom_4 : decode m_Se_fitsAtom.2.1 4 = .ok (.aload_n 0, 1) := by decide +kernel
theorem d_Se_fitsAtom_5 : decode m_Se_fitsAtom.2.1 5 = .ok (.getfield 57, 3) := by decide +kernel
theorem d_Se_fitsAtom_8 : decode m_Se_fitsAtom.2.1 8 = .ok (.iaload, 1) := by decide +kernel
theorem d_Se_fitsAtom_9 : decode m_Se_fitsAtom.2.1 9 = .ok (.istore 4, 2) := by decide +kernel
theorem d_Se_fitsAtom_11 : decode m_Se_fitsAtom.2.1 11 = .ok (.iload 4, 2) := by decide +kernel
theorem d_Se_fitsAtom_13 : decode m_Se_fitsAtom.2.1 13 = .ok (.iconst 3, 1) := by decide +kernel
theorem d_Se_fitsAtom_14 : decode m_Se_fitsAtom.2.1 14 = .ok (.if_icmp .ne (16), 3) := by decide +kernel
theorem d_Se_fitsAtom_17 : decode m_Se_fitsAtom.2.1 17 = .ok (.aload_n 0, 1) := by decide +kernel
theorem d_Se_fitsAtom_18 : decode m_Se_fitsAtom.2.1 18 = .ok (.getfield 60, 3) := by decide +kernel
theorem d_Se_fitsAtom_21 : decode m_Se_fitsAtom.2.1 21 = .ok (.ifCond .ne (7), 3) := by decide +kernel
theorem d_Se_fitsAtom_24 : decode m_Se_fitsAtom.2.1 24 = .ok (.iconst 1, 1) := by decide +kernel
theorem d_Se_fitsAtom_25 : decode m_Se_fitsAtom.2.1 25 = .ok (.goto (4), 3) := by decide +kernel
theorem d_Se_fitsAtom_28 : decode m_Se_fitsAtom.2.1 28 = .ok (.iconst 0, 1) := by decide +kernel
theorem d_Se_fitsAtom_29 : decode m_Se_fitsAtom.2.1 29 = .ok (.ireturn, 1) := by decide +kernel
theorem d_Se_fitsAtom_30 : decode m_Se_fitsAtom.2.1 30 = .ok (.iload 4, 2) := by decide +kernel
theorem d_Se_fitsAtom_32 : decode m_Se_fitsAtom.2.1 32 = .ok (.iconst 4, 1) := by decide +kernel
theorem d_Se_fitsAtom_33 : decode m_Se_fitsAtom.2.1 33 = .ok (.if_icmp .ne (20), 3) := by decide +kernel
theorem d_Se_fitsAtom_36 : decode m_Se_fitsAtom.2.1 36 = .ok (.aload_n 0, 1) := by decide +kernel
theorem d_Se_fitsAtom_37 : decode m_Se_fitsAtom.2.1 37 = .ok (.getfield 60, 3) := by decide +kernel
theorem d_Se_fitsAtom_40 : decode m_Se_fitsAtom.2.1 40 = .ok (.aload_n 2, 1) := by decide +kernel
theorem d_Se_fitsAtom_41 : decode m_Se_fitsAtom.2.1 41 = .ok (.getfield 43, 3) := by decide +kernel
theorem d_Se_fitsAtom_44 : decode m_Se_fitsAtom.2.1 44 = .ok (.if_icmp .ne (7), 3) := by decide +kernel
theorem d_Se_fitsAtom_47 : decode m_Se_fitsAtom.2.1 47 = .ok (.iconst 1, 1) := by decide +kernel
theorem d_Se_fitsAtom_48 : decode m_Se_fitsAtom.2.1 48 = .ok (.goto (4), 3) := by decide +kernel
theorem d_Se_fitsAtom_51 : decode m_Se_fitsAtom.2.1 51 = .ok (.iconst 0, 1) := by decide +kernel
theorem d_Se_fitsAtom_52 : decode m_Se_fitsAtom.2.1 52 = .ok (.ireturn, 1) := by decide +kernel
theorem d_Se_fitsAtom_53 : decode m_Se_fitsAtom.2.1 53 = .ok (.aload_n 0, 1) := by decide +kernel
theorem d_Se_fitsAtom_54 : decode m_Se_fitsAtom.2.1 54 = .ok (.getfield 60, 3) := by decide +kernel
theorem d_Se_fitsAtom_57 : decode m_Se_fitsAtom.2.1 57 = .ok (.aload_n 2, 1) := by decide +kernel
theorem d_Se_fitsAtom_58 : decode m_Se_fitsAtom.2.1 58 = .ok (.getfield 43, 3) := by decide +kernel
theorem d_Se_fitsAtom_61 : decode m_Se_fitsAtom.2.1 61 = .ok (.if_icmp .lt (5), 3) := by decide +kernel
theorem d_Se_fitsAtom_64 : decode m_Se_fitsAtom.2.1 64 = .ok (.iconst 0, 1) := by decide +kernel
theorem d_Se_fitsAtom_65 : decode m_Se_fitsAtom.2.1 65 = .ok (.ireturn, 1) := by decide +kernel
theorem d_Se_fitsAtom_66 : decode m_Se_fitsAtom.2.1 66 = .ok (.aload_n 2, 1) := by decide +kernel
theorem d_Se_fitsAtom_67 : decode m_Se_fitsAtom.2.1 67 = .ok (.getfield 95, 3) := by decide +kernel
theorem d_Se_fitsAtom_70 : decode m_Se_fitsAtom.2.1 70 = .ok (.aload_n 0, 1) := by decide +kernel
theorem d_Se_fitsAtom_71 : decode m_Se_fitsAtom.2.1 71 = .ok (.getfield 60, 3) := by decide +kernel
theorem d_Se_fitsAtom_74 : decode m_Se_fitsAtom.2.1 74 = .ok (.caload, 1) := by decide +kernel
theorem d_Se_fitsAtom_75 : decode m_Se_fitsAtom.2.1 75 = .ok (.istore 5, 2) := by decide +kernel
theorem d_Se_fitsAtom_77 : decode m_Se_fitsAtom.2.1 77 = .ok (.aload_n 0, 1) := by decide +kernel
theorem d_Se_fitsAtom_78 : decode m_Se_fitsAtom.2.1 78 = .ok (.dup, 1) := by decide +kernel
theorem d_Se_fitsAtom_79 : decode m_Se_fitsAtom.2.1 79 = .ok (.getfield 60, 3) := by decide +kernel
theorem d_Se_fitsAtom_82 : decode m_Se_fitsAtom.2.1 82 = .ok (.iconst 1, 1) := by decide +kernel
theorem d_Se_fitsAtom_83 : decode m_Se_fitsAtom.2.1 83 = .ok (.iadd, 1) := by decide +kernel
theorem d_Se_fitsAtom_84 : decode m_Se_fitsAtom.2.1 84 = .ok (.putfield 60, 3) := by decide +kernel
theorem d_Se_fitsAtom_87 : decode m_Se_fitsAtom.2.1 87 = .ok (.iload 4, 2) := by decide +kernel
theorem d_Se_fitsAtom_89 : decode m_Se_fitsAtom.2.1 89 = .ok (.iconst 1, 1) := by decide +kernel
theorem d_Se_fitsAtom_90 : decode m_Se_fitsAtom.2.1 90 = .ok (.if_icmp .eq (30), 3) := by decide +kernel
theorem d_Se_fitsAtom_93 : decode m_Se_fitsAtom.2.1 93 = .ok (.iload 4, 2) := by decide +kernel
theorem d_Se_fitsAtom_95 : decode m_Se_fitsAtom.2.1 95 = .ok (.ifCond .ne (9), 3) := by decide +kernel
theorem d_Se_fitsAtom_98 : decode m_Se_fitsAtom.2.1 98 = .ok (.iload 5, 2) := by decide +kernel
theorem d_Se_fitsAtom_100 : decode m_Se_fitsAtom.2.1 100 = .ok (.iload_n 3, 1) := by decide +kernel
theorem d_Se_fitsAtom_101 : decode m_Se_fitsAtom.2.1 101 = .ok (.if_icmp .eq (19), 3) := by decide +kernel
theorem d_Se_fitsAtom_104 : decode m_Se_fitsAtom.2.1 104 = .ok (.iload 4, 2) := by decide +kernel
theorem d_Se_fitsAtom_106 : decode m_Se_fitsAtom.2.1 106 = .ok (.iconst 2, 1) := by decide +kernel
theorem d_Se_fitsAtom_107 : decode m_Se_fitsAtom.2.1 107 = .ok (.if_icmp .ne (17), 3) := by decide +kernel
theorem d_Se_fitsAtom_110 : decode m_Se_fitsAtom.2.1 110 = .ok (.aload_n 1, 1) := by decide +kernel
theorem d_Se_fitsAtom_111 : decode m_Se_fitsAtom.2.1 111 = .ok (.iload_n 3, 1) := by decide +kernel
theorem d_Se_fitsAtom_112 : decode m_Se_fitsAtom.2.1 112 = .ok (.iload 5, 2) := by decide +kernel
theorem d_Se_fitsAtom_114 : decode m_Se_fitsAtom.2.1 114 = .ok (.invokevirtual 99, 3) := by decide +kernel
theorem d_Se_fitsAtom_117 : decode m_Se_fitsAtom.2.1 117 = .ok (.ifCond .eq (7), 3) := by decide +kernel
theorem d_Se_fitsAtom_120 : decode m_Se_fitsAtom.2.1 120 = .ok (.iconst 1, 1) := by decide +kernel
theorem d_Se_fitsAtom_121 : decode m_Se_fitsAtom.2.1 121 = .ok (.goto (4), 3) := by decide +kernel
theorem d_Se_fitsAtom_124 : decode m_Se_fitsAtom.2.1 124 = .ok (.iconst 0, 1) := by decide +kernel
theorem d_Se_fitsAtom_125 : decode m_Se_fitsAtom.2.1 125 = .ok (.ireturn, 1) := by decide +kernel
theorem d_Se_goBack_0 : decode m_Se_goBack.2.1 0 = .ok (.iconst 0, 1) := by decide +kernel
theorem d_Se_goBack_1 : decode m_Se_goBack.2.1 1 = .ok (.istore_n 1, 1) := by decide +kernel
theorem d_Se_goBack_2 : decode m_Se_goBack.2.1 2 = .ok (.aload_n 0, 1) := by decide +kernel
theorem d_Se_goBack_3 : decode m_Se_goBack.2.1 3 = .ok (.getfield 54, 3) := by decide +kernel
theorem d_Se_goBack_6 : decode m_Se_goBack.2.1 6 = .ok (.istore_n 2, 1) := by decide +kernel
theorem d_Se_goBack_7 : decode m_Se_goBack.2.1 7 = .ok (.iload_n 2, 1) := by decide +kernel
theorem d_Se_goBack_8 : decode m_Se_goBack.2.1 8 = .ok (.ifCond .le (79), 3) := by decide +kernel
theorem d_Se_goBack_11 : decode m_Se_goBack.2.1 11 = .ok (.iload_n 1, 1) := by decide +kernel
theorem d_Se_goBack_12 : decode m_Se_goBack.2.1 12 = .ok (.ifCond .ne (75), 3) := by decide +kernel
theorem d_Se_goBack_15 : decode m_Se_goBack.2.1 15 = .ok (.aload_n 0, 1) := by decide +kernel
theorem d_Se_goBack_16 : decode m_Se_goBack.2.1 16 = .ok (.iload_n 2, 1) := by decide +kernel
theorem d_Se_goBack_17 : decode m_Se_goBack.2.1 17 = .ok (.iconst 1, 1) := by decide +kernel
theorem d_Se_goBack_18 : decode m_Se_goBack.2.1 18 = .ok (.isub, 1) := by decide +kernel
theorem d_Se_goBack_19 : decode m_Se_goBack.2.1 19 = .ok (.putfield 54, 3) := by decide +kernel
theorem d_Se_goBack_22 : decode m_Se_goBack.2.1 22 = .ok (.aload_n 0, 1) := by decide +kernel
theorem d_Se_goBack_23 : decode m_Se_goBack.2.1 23 = .ok (.getfield 17, 3) := by decide +kernel
theorem d_Se_goBack_26 : decode m_Se_goBack.2.1 26 = .ok (.iload_n 2, 1) := by decide +kernel
theorem d_Se_goBack_27 : decode m_Se_goBack.2.1 27 = .ok (.iconst 1, 1) := by decide +kernel
theorem d_Se_goBack_28 : decode m_Se_goBack.2.1 28 = .ok (.isub, 1) := by decide +kernel
theorem d_Se_goBack_29 : decode m_Se_goBack.2.1 29 = .ok (.iaload, 1) := by decide +kernel
theorem d_Se_goBack_30 : decode m_Se_goBack.2.1 30 = .ok (.istore_n 3, 1) := by decide +kernel
theorem d_Se_goBack_31 : decode m_Se_goBack.2.1 31 = .ok (.iload_n 3, 1) := by decide +kernel
theorem d_Se_goBack_32 : decode m_Se_goBack.2.1 32 = .ok (.ifCond .lt (7), 3) := by decide +kernel
theorem d_Se_goBack_35 : decode m_Se_goBack.2.1 35 = .ok (.iconst 1, 1) := by decide +kernel
theorem d_Se_goBack_36 : decode m_Se_goBack.2.1 36 = .ok (.goto (4), 3) := by decide +kernel
theorem d_Se_goBack_39 : decode m_Se_goBack.2.1 39 = .ok (.iconst 0, 1) := by decide +kernel
theorem d_Se_goBack_40 : decode m_Se_goBack.2.1 40 = .ok (.istore_n 1, 1) := by decide +kernel
theorem d_Se_goBack_41 : decode m_Se_goBack.2.1 41 = .ok (.iload_n 1, 1) := by decide +kernel
theorem d_Se_goBack_42 : decode m_Se_goBack.2.1 42 = .ok (.ifCond .eq (23), 3) := by decide +kernel
theorem d_Se_goBack_45 : decode m_Se_goBack.2.1 45 = .ok (.aload_n 0, 1) := by decide +kernel
theorem d_Se_goBack_46 : decode m_Se_goBack.2.1 46 = .ok (.iload_n 3, 1) := by decide +kernel
theorem d_Se_goBack_47 : decode m_Se_goBack.2.1 47 = .ok (.putfield 57, 3) := by decide +kernel
theorem d_Se_goBack_50 : decode m_Se_goBack.2.1 50 = .ok (.aload_n 0, 1) := by decide +kernel
theorem d_Se_goBack_51 : decode m_Se_goBack.2.1 51 = .ok (.aload_n 0, 1) := by decide +kernel
theorem d_Se_goBack_52 : decode m_Se_goBack.2.1 52 = .ok (.getfield 20, 3) := by decide +kernel
theorem d_Se_goBack_55 : decode m_Se_goBack.2.1 55 = .ok (.iload_n 2, 1) := by decide +kernel
theorem d_Se_goBack_56 : decode m_Se_goBack.2.1 56 = .ok (.iconst 1, 1) := by decide +kernel
theorem d_Se_goBack_57 : decode m_Se_goBack.2.1 57 = .ok (.isub, 1) := by decide +kernel
theorem d_Se_goBack_58 : decode m_Se_goBack.2.1 58 = .ok (.iaload, 1) := by decide +kernel
theorem d_Se_goBack_59 : decode m_Se_goBack.2.1 59 = .ok (.putfield 60, 3) := by decide +kernel
theorem d_Se_goBack_62 : decode m_Se_goBack.2.1 62 = .ok (.goto (19), 3) := by decide +kernel
theorem d_Se_goBack_65 : decode m_Se_goBack.2.1 65 = .ok (.aload_n 0, 1) := by decide +kernel
theorem d_Se_goBack_66 : decode m_Se_goBack.2.1 66 = .ok (.getfield 11, 3) := by decide +kernel
theorem d_Se_goBack_69 : decode m_Se_goBack.2.1 69 = .ok (.iconst (-1), 1) := by decide +kernel
theorem d_Se_goBack_70 : decode m_Se_goBack.2.1 70 = .ok (.iload_n 3, 1) := by decide +kernel
theorem d_Se_goBack_71 : decode m_Se_goBack.2.1 71 = .ok (.isub, 1) := by decide +kernel
theorem d_Se_goBack_72 : decode m_Se_goBack.2.1 72 = .ok (.aload_n 0, 1) := by decide +kernel
theorem d_Se_goBack_73 : decode m_Se_goBack.2.1 73 = .ok (.getfield 20, 3) := by decide +kernel
theorem d_Se_goBack_76 : decode m_Se_goBack.2.1 76 = .ok (.iload_n 2, 1) := by decide +kernel
theorem d_Se_goBack_77 : decode m_Se_goBack.2.1 77 = .ok (.iconst 1, 1) := by decide +kernel
theorem d_Se_goBack_78 : decode m_Se_goBack.2.1 78 = .ok (.isub, 1) := by decide +kernel
theorem d_Se_goBack_79 : decode m_Se_goBack.2.1 79 = .ok (.iaload, 1) := by decide +kernel
theorem d_Se_goBack_80 : decode m_Se_goBack.2.1 80 = .ok (.iastore, 1) := by decide +kernel
theorem d_Se_goBack_81 : decode m_Se_goBack.2.1 81 = .ok (.iinc 2 (-1), 3) := by decide +kernel
theorem d_Se_goBack_84 : decode m_Se_goBack.2.1 84 = .ok (.goto (-77), 3) := by decide +kernel
theorem d_Se_goBack_87 : decode m_Se_goBack.2.1 87 = .ok (.iload_n 1, 1) := by decide +kernel
theorem d_Se_goBack_88 : decode m_Se_goBack.2.1 88 = .ok (.ireturn, 1) := by decide +kernel
theorem d_Se_doNext_0 : decode m_Se_doNext.2.1 0 = .ok (.aload_n 1, 1) := by decide +kernel
theorem d_Se_doNext_1 : decode m_Se_doNext.2.1 1 = .ok (.getfield 67, 3) := by decide +kernel
theorem d_Se_doNext_4 : decode m_Se_doNext.2.1 4 = .ok (.aload_n 0, 1) := by decide +kernel
theorem d_Se_doNext_5 : decode m_Se_doNext.2.1 5 = .ok (.getfield 57, 3) := by decide +kernel
theorem d_Se_doNext_8 : decode m_Se_doNext.2.1 8 = .ok (.iaload, 1) := by decide +kernel
theorem d_Se_doNext_9 : decode m_Se_doNext.2.1 9 = .ok (.istore 4, 2) := by decide +kernel
theorem d_Se_doNext_11 : decode m_Se_doNext.2.1 11 = .ok (.iconst 1, 1) := by decide +kernel
theorem d_Se_doNext_12 : decode m_Se_doNext.2.1 12 = .ok (.istore 5, 2) := by decide +kernel
theorem d_Se_doNext_14 : decode m_Se_doNext.2.1 14 = .ok (.aload_n 1, 1) := by decide +kernel
theorem d_Se_doNext_15 : decode m_Se_doNext.2.1 15 = .ok (.getfield 70, 3) := by decide +kernel
theorem d_Se_doNext_18 : decode m_Se_doNext.2.1 18 = .ok (.aload_n 0, 1) := by decide +kernel
theorem d_Se_doNext_19 : decode m_Se_doNext.2.1 19 = .ok (.getfield 57, 3) := by decide +kernel
theorem d_Se_doNext_22 : decode m_Se_doNext.2.1 22 = .ok (.iaload, 1) := by decide +kernel
theorem d_Se_doNext_23 : decode m_Se_doNext.2.1 23 = .ok (.tableswitch (130) (5) (9) #[117, 53, 40, 88, 33], 33) := by decide +kernel
theorem d_Se_doNext_56 : decode m_Se_doNext.2.1 56 = .ok (.aload_n 0, 1) := by decide +kernel
theorem d_Se_doNext_57 : decode m_Se_doNext.2.1 57 = .ok (.iconst 1, 1) := by decide +kernel
theorem d_Se_doNext_58 : decode m_Se_doNext.2.1 58 = .ok (.putfield 40, 3) := by decide +kernel
theorem d_Se_doNext_61 : decode m_Se_doNext.2.1 61 = .ok (.iconst 0, 1) := by decide +kernel
theorem d_Se_doNext_62 : decode m_Se_doNext.2.1 62 = .ok (.ireturn, 1) := by decide +kernel
theorem d_Se_doNext_63 : decode m_Se_doNext.2.1 63 = .ok (.aload_n 0, 1) := by decide +kernel
theorem d_Se_doNext_64 : decode m_Se_doNext.2.1 64 = .ok (.dup, 1) := by decide +kernel
theorem d_Se_doNext_65 : decode m_Se_doNext.2.1 65 = .ok (.getfield 57, 3) := by decide +kernel
theorem d_Se_doNext_68 : decode m_Se_doNext.2.1 68 = .ok (.iload 4, 2) := by decide +kernel
theorem d_Se_doNext_70 : decode m_Se_doNext.2.1 70 = .ok (.iadd, 1) := by decide +kernel
theorem d_Se_doNext_71 : decode m_Se_doNext.2.1 71 = .ok (.putfield 57, 3) := by decide +kernel
theorem d_Se_doNext_74 : decode m_Se_doNext.2.1 74 = .ok (.iconst 1, 1) := by decide +kernel
theorem d_Se_doNext_75 : decode m_Se_doNext.2.1 75 = .ok (.ireturn, 1) := by decide +kernel
theorem d_Se_doNext_76 : decode m_Se_doNext.2.1 76 = .ok (.aload_n 0, 1) := by decide +kernel
theorem d_Se_doNext_77 : decode m_Se_doNext.2.1 77 = .ok (.aload_n 0, 1) := by decide +kernel
theorem d_Se_doNext_78 : decode m_Se_doNext.2.1 78 = .ok (.getfield 57, 3) := by decide +kernel
theorem d_Se_doNext_81 : decode m_Se_doNext.2.1 81 = .ok (.aload_n 1, 1) := by decide +kernel
theorem d_Se_doNext_82 : decode m_Se_doNext.2.1 82 = .ok (.getfield 73, 3) := by decide +kernel
theorem d_Se_doNext_85 : decode m_Se_doNext.2.1 85 = .ok (.aload_n 0, 1) := by decide +kernel
theorem d_Se_doNext_86 : decode m_Se_doNext.2.1 86 = .ok (.getfield 57, 3) := by decide +kernel
theorem d_Se_doNext_89 : decode m_Se_doNext.2.1 89 = .ok (.iaload, 1) := by decide +kernel
theorem d_Se_doNext_90 : decode m_Se_doNext.2.1 90 = .ok (.iadd, 1) := by decide +kernel
theorem d_Se_doNext_91 : decode m_Se_doNext.2.1 91 = .ok (.aload_n 0, 1) := by decide +kernel
theorem d_Se_doNext_92 : decode m_Se_doNext.2.1 92 = .ok (.getfield 60, 3) := by decide +kernel
theorem d_Se_doNext_95 : decode m_Se_doNext.2.1 95 = .ok (.invokevirtual 76, 3) := by decide +kernel
theorem d_Se_doNext_98 : decode m_Se_doNext.2.1 98 = .ok (.aload_n 0, 1) := by decide +kernel
theorem d_Se_doNext_99 : decode m_Se_doNext.2.1 99 = .ok (.dup, 1) := by decide +kernel
theorem d_Se_doNext_100 : decode m_Se_doNext.2.1 100 = .ok (.getfield 57, 3) := by decide +kernel
theorem d_Se_doNext_103 : decode m_Se_doNext.2.1 103 = .ok (.iload 4, 2) := by decide +kernel
theorem d_Se_doNext_105 : decode m_Se_doNext.2.1 105 = .ok (.iadd, 1) := by decide +kernel
theorem d_Se_doNext_106 : decode m_Se_doNext.2.1 106 = .ok (.putfield 57, 3) := by decide +kernel
theorem d_Se_doNext_109 : decode m_Se_doNext.2.1 109 = .ok (.iconst 1, 1) := by decide +kernel
theorem d_Se_doNext_110 : decode m_Se_doNext.2.1 110 = .ok (.ireturn, 1) := by decide +kernel
theorem d_Se_doNext_111 : decode m_Se_doNext.2.1 111 = .ok (.aload_n 0, 1) := by decide +kernel
theorem d_Se_doNext_112 : decode m_Se_doNext.2.1 112 = .ok (.iconst (-1), 1) := by decide +kernel
theorem d_Se_doNext_113 : decode m_Se_doNext.2.1 113 = .ok (.iload 4, 2) := by decide +kernel
theorem d_Se_doNext_115 : decode m_Se_doNext.2.1 115 = .ok (.isub, 1) := by decide +kernel
theorem d_Se_doNext_116 : decode m_Se_doNext.2.1 116 = .ok (.aload_n 0, 1) := by decide +kernel
theorem d_Se_doNext_117 : decode m_Se_doNext.2.1 117 = .ok (.getfield 11, 3) := by decide +kernel
theorem d_Se_doNext_120 : decode m_Se_doNext.2.1 120 = .ok (.iload 4, 2) := by decide +kernel
theorem d_Se_doNext_122 : decode m_Se_doNext.2.1 122 = .ok (.iaload, 1) := by decide +kernel
theorem d_Se_doNext_123 : decode m_Se_doNext.2.1 123 = .ok (.invokevirtual 76, 3) := by decide +kernel
theorem d_Se_doNext_126 : decode m_Se_doNext.2.1 126 = .ok (.aload_n 0, 1) := by decide +kernel
theorem d_Se_doNext_127 : decode m_Se_doNext.2.1 127 = .ok (.getfield 11, 3) := by decide +kernel
theorem d_Se_doNext_130 : decode m_Se_doNext.2.1 130 = .ok (.iload 4, 2) := by decide +kernel
theorem d_Se_doNext_132 : decode m_Se_doNext.2.1 132 = .ok (.aload_n 0, 1) := by decide +kernel
theorem d_Se_doNext_133 : decode m_Se_doNext.2.1 133 = .ok (.getfield 60, 3) := by decide +kernel
theorem d_Se_doNext_136 : decode m_Se_doNext.2.1 136 = .ok (.iastore, 1) := by decide +kernel
theorem d_Se_doNext_137 : decode m_Se_doNext.2.1 137 = .ok (.goto (41), 3) := by decide +kernel
theorem d_Se_doNext_140 : decode m_Se_doNext.2.1 140 = .ok (.aload_n 0, 1) := by decide +kernel
theorem d_Se_doNext_141 : decode m_Se_doNext.2.1 141 = .ok (.aload_n 2, 1) := by decide +kernel
theorem d_Se_doNext_142 : decode m_Se_doNext.2.1 142 = .ok (.aload_n 3, 1) := by decide +kernel
theorem d_Se_doNext_143 : decode m_Se_doNext.2.1 143 = .ok (.iload 4, 2) := by decide +kernel
theorem d_Se_doNext_145 : decode m_Se_doNext.2.1 145 = .ok (.invokevirtual 80, 3) := by decide +kernel
theorem d_Se_doNext_148 : decode m_Se_doNext.2.1 148 = .ok (.istore 5, 2) := by decide +kernel
theorem d_Se_doNext_150 : decode m_Se_doNext.2.1 150 = .ok (.goto (28), 3) := by decide +kernel
theorem d_Se_doNext_153 : decode m_Se_doNext.2.1 153 = .ok (.aload_n 0, 1) := by decide +kernel
theorem d_Se_doNext_154 : decode m_Se_doNext.2.1 154 = .ok (.invokevirtual 84, 3) := by decide +kernel
theorem d_Se_doNext_157 : decode m_Se_doNext.2.1 157 = .ok (.ifCond .eq (18), 3) := by decide +kernel
theorem d_Se_doNext_160 : decode m_Se_doNext.2.1 160 = .ok (.aload_n 0, 1) := by decide +kernel
theorem d_Se_doNext_161 : decode m_Se_doNext.2.1 161 = .ok (.aload_n 1, 1) := by decide +kernel
theorem d_Se_doNext_162 : decode m_Se_doNext.2.1 162 = .ok (.aload_n 2, 1) := by decide +kernel
theorem d_Se_doNext_163 : decode m_Se_doNext.2.1 163 = .ok (.iload 4, 2) := by decide +kernel
theorem d_Se_doNext_165 : decode m_Se_doNext.2.1 165 = .ok (.invokevirtual 88, 3) := by decide +kernel
theorem d_Se_doNext_168 : decode m_Se_doNext.2.1 168 = .ok (.ifCond .eq (7), 3) := by decide +kernel
theorem d_Se_doNext_171 : decode m_Se_doNext.2.1 171 = .ok (.iconst 1, 1) := by decide +kernel
theorem d_Se_doNext_172 : decode m_Se_doNext.2.1 172 = .ok (.goto (4), 3) := by decide +kernel
theorem d_Se_doNext_175 : decode m_Se_doNext.2.1 175 = .ok (.iconst 0, 1) := by decide +kernel
theorem d_Se_doNext_176 : decode m_Se_doNext.2.1 176 = .ok (.istore 5, 2) := by decide +kernel
theorem d_Se_doNext_178 : decode m_Se_doNext.2.1 178 = .ok (.aload_n 0, 1) := by decide +kernel
theorem d_Se_doNext_179 : decode m_Se_doNext.2.1 179 = .ok (.dup, 1) := by decide +kernel
theorem d_Se_doNext_180 : decode m_Se_doNext.2.1 180 = .ok (.getfield 57, 3) := by decide +kernel
theorem d_Se_doNext_183 : decode m_Se_doNext.2.1 183 = .ok (.iconst 1, 1) := by decide +kernel
theorem d_Se_doNext_184 : decode m_Se_doNext.2.1 184 = .ok (.iadd, 1) := by decide +kernel
theorem d_Se_doNext_185 : decode m_Se_doNext.2.1 185 = .ok (.putfield 57, 3) := by decide +kernel
theorem d_Se_doNext_188 : decode m_Se_doNext.2.1 188 = .ok (.iload 5, 2) := by decide +kernel
theorem d_Se_doNext_190 : decode m_Se_doNext.2.1 190 = .ok (.ifCond .ne (17), 3) := by decide +kernel
theorem d_Se_doNext_193 : decode m_Se_doNext.2.1 193 = .ok (.aload_n 0, 1) := by decide +kernel
theorem d_Se_doNext_194 : decode m_Se_doNext.2.1 194 = .ok (.getfield 36, 3) := by decide +kernel
theorem d_Se_doNext_197 : decode m_Se_doNext.2.1 197 = .ok (.ifCond .ne (14), 3) := by decide +kernel
theorem d_Se_doNext_200 : decode m_Se_doNext.2.1 200 = .ok (.aload_n 0, 1) := by decide +kernel
theorem d_Se_doNext_201 : decode m_Se_doNext.2.1 201 = .ok (.invokevirtual 92, 3) := by decide +kernel
theorem d_Se_doNext_204 : decode m_Se_doNext.2.1 204 = .ok (.ifCond .eq (7), 3) := by decide +kernel
theorem d_Se_doNext_207 : decode m_Se_doNext.2.1 207 = .ok (.iconst 1, 1) := by decide +kernel
theorem d_Se_doNext_208 : decode m_Se_doNext.2.1 208 = .ok (.goto (4), 3) := by decide +kernel
theorem d_Se_doNext_211 : decode m_Se_doNext.2.1 211 = .ok (.iconst 0, 1) := by decide +kernel
theorem d_Se_doNext_212 : decode m_Se_doNext.2.1 212 = .ok (.ireturn, 1) := by decide +kernel
theorem d_Se_run_0 : decode m_Se_run.2.1 0 = .ok (.aload_n 0, 1) := by decide +kernel
theorem d_Se_run_1 : decode m_Se_run.2.1 1 = .ok (.iconst (-1), 1) := by decide +kernel
theorem d_Se_run_2 : decode m_Se_run.2.1 2 = .ok (.putfield 27, 3) := by decide +kernel
theorem d_Se_run_5 : decode m_Se_run.2.1 5 = .ok (.aload_n 0, 1) := by decide +kernel
theorem d_Se_run_6 : decode m_Se_run.2.1 6 = .ok (.iconst (-1), 1) := by decide +kernel
theorem d_Se_run_7 : decode m_Se_run.2.1 7 = .ok (.putfield 30, 3) := by decide +kernel
theorem d_Se_run_10 : decode m_Se_run.2.1 10 = .ok (.aload_n 0, 1) := by decide +kernel
theorem d_Se_run_11 : decode m_Se_run.2.1 11 = .ok (.iconst 0, 1) := by decide +kernel
theorem d_Se_run_12 : decode m_Se_run.2.1 12 = .ok (.putfield 33, 3) := by decide +kernel
theorem d_Se_run_15 : decode m_Se_run.2.1 15 = .ok (.aload_n 0, 1) := by decide +kernel
theorem d_Se_run_16 : decode m_Se_run.2.1 16 = .ok (.iconst 0, 1) := by decide +kernel
theorem d_Se_run_17 : decode m_Se_run.2.1 17 = .ok (.putfield 36, 3) := by decide +kernel
theorem d_Se_run_20 : decode m_Se_run.2.1 20 = .ok (.aload_n 0, 1) := by decide +kernel
theorem d_Se_run_21 : decode m_Se_run.2.1 21 = .ok (.iconst 0, 1) := by decide +kernel
theorem d_Se_run_22 : decode m_Se_run.2.1 22 = .ok (.putfield 40, 3) := by decide +kernel
theorem d_Se_run_25 : decode m_Se_run.2.1 25 = .ok (.iload_n 3, 1) := by decide +kernel
theorem d_Se_run_26 : decode m_Se_run.2.1 26 = .ok (.istore 5, 2) := by decide +kernel
theorem d_Se_run_28 : decode m_Se_run.2.1 28 = .ok (.iload 5, 2) := by decide +kernel
theorem d_Se_run_30 : decode m_Se_run.2.1 30 = .ok (.aload_n 2, 1) := by decide +kernel
theorem d_Se_run_31 : decode m_Se_run.2.1 31 = .ok (.getfield 43, 3) := by decide +kernel
theorem d_Se_run_34 : decode m_Se_run.2.1 34 = .ok (.if_icmp .gt (118), 3) := by decide +kernel
theorem d_Se_run_37 : decode m_Se_run.2.1 37 = .ok (.aload_n 0, 1) := by decide +kernel
theorem d_Se_run_38 : decode m_Se_run.2.1 38 = .ok (.getfield 40, 3) := by decide +kernel
theorem d_Se_run_41 : decode m_Se_run.2.1 41 = .ok (.ifCond .ne (111), 3) := by decide +kernel
theorem d_Se_run_44 : decode m_Se_run.2.1 44 = .ok (.aload_n 0, 1) := by decide +kernel
theorem d_Se_run_45 : decode m_Se_run.2.1 45 = .ok (.getfield 36, 3) := by decide +kernel
theorem d_Se_run_48 : decode m_Se_run.2.1 48 = .ok (.ifCond .ne (104), 3) := by decide +kernel
theorem d_Se_run_51 : decode m_Se_run.2.1 51 = .ok (.aload_n 0, 1) := by decide +kernel
theorem d_Se_run_52 : decode m_Se_run.2.1 52 = .ok (.getfield 11, 3) := by decide +kernel
theorem d_Se_run_55 : decode m_Se_run.2.1 55 = .ok (.iconst (-1), 1) := by decide +kernel
theorem d_Se_run_56 : decode m_Se_run.2.1 56 = .ok (.invokestatic 48, 3) := by decide +kernel
theorem d_Se_run_59 : decode m_Se_run.2.1 59 = .ok (.aload_n 0, 1) := by decide +kernel
theorem d_Se_run_60 : decode m_Se_run.2.1 60 = .ok (.iconst 0, 1) := by decide +kernel
theorem d_Se_run_61 : decode m_Se_run.2.1 61 = .ok (.putfield 54, 3) := by decide +kernel
theorem d_Se_run_64 : decode m_Se_run.2.1 64 = .ok (.aload_n 0, 1) := by decide +kernel
theorem d_Se_run_65 : decode m_Se_run.2.1 65 = .ok (.iconst 0, 1) := by decide +kernel
theorem d_Se_run_66 : decode m_Se_run.2.1 66 = .ok (.putfield 57, 3) := by decide +kernel
theorem d_Se_run_69 : decode m_Se_run.2.1 69 = .ok (.aload_n 0, 1) := by decide +kernel
theorem d_Se_run_70 : decode m_Se_run.2.1 70 = .ok (.iload 5, 2) := by decide +kernel
theorem d_Se_run_72 : decode m_Se_run.2.1 72 = .ok (.putfield 60, 3) := by decide +kernel
theorem d_Se_run_75 : decode m_Se_run.2.1 75 = .ok (.iconst 1, 1) := by decide +kernel
theorem d_Se_run_76 : decode m_Se_run.2.1 76 = .ok (.istore 6, 2) := by decide +kernel
theorem d_Se_run_78 : decode m_Se_run.2.1 78 = .ok (.iconst 0, 1) := by decide +kernel
theorem d_Se_run_79 : decode m_Se_run.2.1 79 = .ok (.istore 7, 2) := by decide +kernel
theorem d_Se_run_81 : decode m_Se_run.2.1 81 = .ok (.iload 7, 2) := by decide +kernel
theorem d_Se_run_83 : decode m_Se_run.2.1 83 = .ok (.sipush (24764), 3) := by decide +kernel
theorem d_Se_run_86 : decode m_Se_run.2.1 86 = .ok (.if_icmp .ge (24), 3) := by decide +kernel
theorem d_Se_run_89 : decode m_Se_run.2.1 89 = .ok (.iload 6, 2) := by decide +kernel
theorem d_Se_run_91 : decode m_Se_run.2.1 91 = .ok (.ifCond .eq (19), 3) := by decide +kernel
theorem d_Se_run_94 : decode m_Se_run.2.1 94 = .ok (.aload_n 0, 1) := by decide +kernel
theorem d_Se_run_95 : decode m_Se_run.2.1 95 = .ok (.aload_n 1, 1) := by decide +kernel
theorem d_Se_run_96 : decode m_Se_run.2.1 96 = .ok (.aload_n 2, 1) := by decide +kernel
theorem d_Se_run_97 : decode m_Se_run.2.1 97 = .ok (.aload 4, 2) := by decide +kernel
theorem d_Se_run_99 : decode m_Se_run.2.1 99 = .ok (.invokevirtual 63, 3) := by decide +kernel
theorem d_Se_run_102 : decode m_Se_run.2.1 102 = .ok (.istore 6, 2) := by decide +kernel
theorem d_Se_run_104 : decode m_Se_run.2.1 104 = .ok (.iinc 7 (1), 3) := by decide +kernel
theorem d_Se_run_107 : decode m_Se_run.2.1 107 = .ok (.goto (-26), 3) := by decide +kernel
theorem d_Se_run_110 : decode m_Se_run.2.1 110 = .ok (.aload_n 0, 1) := by decide +kernel
theorem d_Se_run_111 : decode m_Se_run.2.1 111 = .ok (.aload_n 0, 1) := by decide +kernel
theorem d_Se_run_112 : decode m_Se_run.2.1 112 = .ok (.getfield 40, 3) := by decide +kernel
theorem d_Se_run_115 : decode m_Se_run.2.1 115 = .ok (.ifCond .eq (8), 3) := by decide +kernel
theorem d_Se_run_118 : decode m_Se_run.2.1 118 = .ok (.iload 5, 2) := by decide +kernel
theorem d_Se_run_120 : decode m_Se_run.2.1 120 = .ok (.goto (4), 3) := by decide +kernel
theorem d_Se_run_123 : decode m_Se_run.2.1 123 = .ok (.iconst (-1), 1) := by decide +kernel
theorem d_Se_run_124 : decode m_Se_run.2.1 124 = .ok (.putfield 27, 3) := by decide +kernel
theorem d_Se_run_127 : decode m_Se_run.2.1 127 = .ok (.aload_n 0, 1) := by decide +kernel
theorem d_Se_run_128 : decode m_Se_run.2.1 128 = .ok (.aload_n 0, 1) := by decide +kernel
theorem d_Se_run_129 : decode m_Se_run.2.1 129 = .ok (.getfield 40, 3) := by decide +kernel
theorem d_Se_run_132 : decode m_Se_run.2.1 132 = .ok (.ifCond .eq (10), 3) := by decide +kernel
theorem d_Se_run_135 : decode m_Se_run.2.1 135 = .ok (.aload_n 0, 1) := by decide +kernel
theorem d_Se_run_136 : decode m_Se_run.2.1 136 = .ok (.getfield 60, 3) := by decide +kernel
theorem d_Se_run_139 : decode m_Se_run.2.1 139 = .ok (.goto (4), 3) := by decide +kernel
theorem d_Se_run_142 : decode m_Se_run.2.1 142 = .ok (.iconst (-1), 1) := by decide +kernel
theorem d_Se_run_143 : decode m_Se_run.2.1 143 = .ok (.putfield 30, 3) := by decide +kernel
theorem d_Se_run_146 : decode m_Se_run.2.1 146 = .ok (.iinc 5 (1), 3) := by decide +kernel
theorem d_Se_run_149 : decode m_Se_run.2.1 149 = .ok (.goto (-121), 3) := by decide +kernel
theorem d_Se_run_152 : decode m_Se_run.2.1 152 = .ok (.return_, 1) := by decide +kernel
theorem d_Gr_keepWinner_0 : decode m_Gr_keepWinner.2.1 0 = .ok (.aload_n 0, 1) := by decide +kernel
theorem d_Gr_keepWinner_1 : decode m_Gr_keepWinner.2.1 1 = .ok (.iload_n 1, 1) := by decide +kernel
theorem d_Gr_keepWinner_2 : decode m_Gr_keepWinner.2.1 2 = .ok (.putfield 110, 3) := by decide +kernel
theorem d_Gr_keepWinner_5 : decode m_Gr_keepWinner.2.1 5 = .ok (.aload_n 0, 1) := by decide +kernel
theorem d_Gr_keepWinner_6 : decode m_Gr_keepWinner.2.1 6 = .ok (.aload_n 0, 1) := by decide +kernel
theorem d_Gr_keepWinner_7 : decode m_Gr_keepWinner.2.1 7 = .ok (.getfield 36, 3) := by decide +kernel
theorem d_Gr_keepWinner_10 : decode m_Gr_keepWinner.2.1 10 = .ok (.getfield 129, 3) := by decide +kernel
theorem d_Gr_keepWinner_13 : decode m_Gr_keepWinner.2.1 13 = .ok (.putfield 90, 3) := by decide +kernel
theorem d_Gr_keepWinner_16 : decode m_Gr_keepWinner.2.1 16 = .ok (.aload_n 0, 1) := by decide +kernel
theorem d_Gr_keepWinner_17 : decode m_Gr_keepWinner.2.1 17 = .ok (.aload_n 0, 1) := by decide +kernel
theorem d_Gr_keepWinner_18 : decode m_Gr_keepWinner.2.1 18 = .ok (.getfield 36, 3) := by decide +kernel
theorem d_Gr_keepWinner_21 : decode m_Gr_keepWinner.2.1 21 = .ok (.getfield 141, 3) := by decide +kernel
theorem d_Gr_keepWinner_24 : decode m_Gr_keepWinner.2.1 24 = .ok (.putfield 97, 3) := by decide +kernel
theorem d_Gr_keepWinner_27 : decode m_Gr_keepWinner.2.1 27 = .ok (.aload_n 0, 1) := by decide +kernel
theorem d_Gr_keepWinner_28 : decode m_Gr_keepWinner.2.1 28 = .ok (.getfield 36, 3) := by decide +kernel
theorem d_Gr_keepWinner_31 : decode m_Gr_keepWinner.2.1 31 = .ok (.getfield 143, 3) := by decide +kernel
theorem d_Gr_keepWinner_34 : decode m_Gr_keepWinner.2.1 34 = .ok (.iconst 0, 1) := by decide +kernel
theorem d_Gr_keepWinner_35 : decode m_Gr_keepWinner.2.1 35 = .ok (.aload_n 0, 1) := by decide +kernel
theorem d_Gr_keepWinner_36 : decode m_Gr_keepWinner.2.1 36 = .ok (.getfield 28, 3) := by decide +kernel
theorem d_Gr_keepWinner_39 : decode m_Gr_keepWinner.2.1 39 = .ok (.iconst 0, 1) := by decide +kernel
theorem d_Gr_keepWinner_40 : decode m_Gr_keepWinner.2.1 40 = .ok (.aload_n 0, 1) := by decide +kernel
theorem d_Gr_keepWinner_41 : decode m_Gr_keepWinner.2.1 41 = .ok (.getfield 28, 3) := by decide +kernel
theorem d_Gr_keepWinner_44 : decode m_Gr_keepWinner.2.1 44 = .ok (.arraylength, 1) := by decide +kernel
theorem d_Gr_keepWinner_45 : decode m_Gr_keepWinner.2.1 45 = .ok (.invokestatic 146, 3) := by decide +kernel
theorem d_Gr_keepWinner_48 : decode m_Gr_keepWinner.2.1 48 = .ok (.return_, 1) := by decide +kernel
theorem d_Gr_findWinner_0 : decode m_Gr_findWinner.2.1 0 = .ok (.aload_n 0, 1) := by decide +kernel
theorem d_Gr_findWinner_1 : decode m_Gr_findWinner.2.1 1 = .ok (.getfield 11, 3) := by decide +kernel
theorem d_Gr_findWinner_4 : decode m_Gr_findWinner.2.1 4 = .ok (.aload_n 0, 1) := by decide +kernel
theorem d_Gr_findWinner_5 : decode m_Gr_findWinner.2.1 5 = .ok (.getfield 20, 3) := by decide +kernel
theorem d_Gr_findWinner_8 : decode m_Gr_findWinner.2.1 8 = .ok (.invokevirtual 103, 3) := by decide +kernel
theorem d_Gr_findWinner_11 : decode m_Gr_findWinner.2.1 11 = .ok (.aaload, 1) := by decide +kernel
theorem d_Gr_findWinner_12 : decode m_Gr_findWinner.2.1 12 = .ok (.astore_n 3, 1) := by decide +kernel
theorem d_Gr_findWinner_13 : decode m_Gr_findWinner.2.1 13 = .ok (.aload_n 0, 1) := by decide +kernel
theorem d_Gr_findWinner_14 : decode m_Gr_findWinner.2.1 14 = .ok (.invokevirtual 107, 3) := by decide +kernel
theorem d_Gr_findWinner_17 : decode m_Gr_findWinner.2.1 17 = .ok (.aload_n 0, 1) := by decide +kernel
theorem d_Gr_findWinner_18 : decode m_Gr_findWinner.2.1 18 = .ok (.iconst (-1), 1) := by decide +kernel
theorem d_Gr_findWinner_19 : decode m_Gr_findWinner.2.1 19 = .ok (.putfield 110, 3) := by decide +kernel
theorem d_Gr_findWinner_22 : decode m_Gr_findWinner.2.1 22 = .ok (.iconst 0, 1) := by decide +kernel
theorem d_Gr_findWinner_23 : decode m_Gr_findWinner.2.1 23 = .ok (.istore 4, 2) := by decide +kernel
theorem d_Gr_findWinner_25 : decode m_Gr_findWinner.2.1 25 = .ok (.iload 4, 2) := by decide +kernel
theorem d_Gr_findWinner_27 : decode m_Gr_findWinner.2.1 27 = .ok (.aload_n 0, 1) := by decide +kernel
theorem d_Gr_findWinner_28 : decode m_Gr_findWinner.2.1 28 = .ok (.getfield 113, 3) := by decide +kernel
theorem d_Gr_findWinner_31 : decode m_Gr_findWinner.2.1 31 = .ok (.if_icmp .ge (108), 3) := by decide +kernel
theorem d_Gr_findWinner_34 : decode m_Gr_findWinner.2.1 34 = .ok (.aload_n 0, 1) := by decide +kernel
theorem d_Gr_findWinner_35 : decode m_Gr_findWinner.2.1 35 = .ok (.getfield 24, 3) := by decide +kernel
theorem d_Gr_findWinner_38 : decode m_Gr_findWinner.2.1 38 = .ok (.iload 4, 2) := by decide +kernel
theorem d_Gr_findWinner_40 : decode m_Gr_findWinner.2.1 40 = .ok (.iaload, 1) := by decide +kernel
theorem d_Gr_findWinner_41 : decode m_Gr_findWinner.2.1 41 = .ok (.istore 5, 2) := by decide +kernel
theorem d_Gr_findWinner_43 : decode m_Gr_findWinner.2.1 43 = .ok (.iload 5, 2) := by decide +kernel
theorem d_Gr_findWinner_45 : decode m_Gr_findWinner.2.1 45 = .ok (.ifCond .ne (10), 3) := by decide +kernel
theorem d_Gr_findWinner_48 : decode m_Gr_findWinner.2.1 48 = .ok (.aload_n 3, 1) := by decide +kernel
theorem d_Gr_findWinner_49 : decode m_Gr_findWinner.2.1 49 = .ok (.getfield 116, 3) := by decide +kernel
theorem d_Gr_findWinner_52 : decode m_Gr_findWinner.2.1 52 = .ok (.goto (13), 3) := by decide +kernel
theorem d_Gr_findWinner_55 : decode m_Gr_findWinner.2.1 55 = .ok (.aload_n 0, 1) := by decide +kernel
theorem d_Gr_findWinner_56 : decode m_Gr_findWinner.2.1 56 = .ok (.getfield 11, 3) := by decide +kernel
theorem d_Gr_findWinner_59 : decode m_Gr_findWinner.2.1 59 = .ok (.iload 5, 2) := by decide +kernel
theorem d_Gr_findWinner_61 : decode m_Gr_findWinner.2.1 61 = .ok (.aaload, 1) := by decide +kernel
theorem d_Gr_findWinner_62 : decode m_Gr_findWinner.2.1 62 = .ok (.getfield 119, 3) := by decide +kernel
theorem d_Gr_findWinner_65 : decode m_Gr_findWinner.2.1 65 = .ok (.astore 6, 2) := by decide +kernel
theorem d_Gr_findWinner_67 : decode m_Gr_findWinner.2.1 67 = .ok (.aload_n 0, 1) := by decide +kernel
theorem d_Gr_findWinner_68 : decode m_Gr_findWinner.2.1 68 = .ok (.getfield 36, 3) := by decide +kernel
theorem d_Gr_findWinner_71 : decode m_Gr_findWinner.2.1 71 = .ok (.aload 6, 2) := by decide +kernel
theorem d_Gr_findWinner_73 : decode m_Gr_findWinner.2.1 73 = .ok (.aload_n 1, 1) := by decide +kernel
theorem d_Gr_findWinner_74 : decode m_Gr_findWinner.2.1 74 = .ok (.iload_n 2, 1) := by decide +kernel
theorem d_Gr_findWinner_75 : decode m_Gr_findWinner.2.1 75 = .ok (.aload_n 0, 1) := by decide +kernel
theorem d_Gr_findWinner_76 : decode m_Gr_findWinner.2.1 76 = .ok (.getfield 20, 3) := by decide +kernel
theorem d_Gr_findWinner_79 : decode m_Gr_findWinner.2.1 79 = .ok (.invokevirtual 122, 3) := by decide +kernel
theorem d_Gr_findWinner_82 : decode m_Gr_findWinner.2.1 82 = .ok (.aload_n 0, 1) := by decide +kernel
theorem d_Gr_findWinner_83 : decode m_Gr_findWinner.2.1 83 = .ok (.getfield 36, 3) := by decide +kernel
theorem d_Gr_findWinner_86 : decode m_Gr_findWinner.2.1 86 = .ok (.getfield 126, 3) := by decide +kernel
theorem d_Gr_findWinner_89 : decode m_Gr_findWinner.2.1 89 = .ok (.ifCond .eq (5), 3) := by decide +kernel
theorem d_Gr_findWinner_92 : decode m_Gr_findWinner.2.1 92 = .ok (.iconst 0, 1) := by decide +kernel
theorem d_Gr_findWinner_93 : decode m_Gr_findWinner.2.1 93 = .ok (.ireturn, 1) := by decide +kernel
theorem d_Gr_findWinner_94 : decode m_Gr_findWinner.2.1 94 = .ok (.aload_n 0, 1) := by decide +kernel
theorem d_Gr_findWinner_95 : decode m_Gr_findWinner.2.1 95 = .ok (.getfield 36, 3) := by decide +kernel
theorem d_Gr_findWinner_98 : decode m_Gr_findWinner.2.1 98 = .ok (.getfield 129, 3) := by decide +kernel
theorem d_Gr_findWinner_101 : decode m_Gr_findWinner.2.1 101 = .ok (.iconst (-1), 1) := by decide +kernel
theorem d_Gr_findWinner_102 : decode m_Gr_findWinner.2.1 102 = .ok (.if_icmp .eq (31), 3) := by decide +kernel
theorem d_Gr_findWinner_105 : decode m_Gr_findWinner.2.1 105 = .ok (.aload_n 0, 1) := by decide +kernel
theorem d_Gr_findWinner_106 : decode m_Gr_findWinner.2.1 106 = .ok (.getfield 110, 3) := by decide +kernel
theorem d_Gr_findWinner_109 : decode m_Gr_findWinner.2.1 109 = .ok (.iconst (-1), 1) := by decide +kernel
theorem d_Gr_findWinner_110 : decode m_Gr_findWinner.2.1 110 = .ok (.if_icmp .eq (17), 3) := by decide +kernel
theorem d_Gr_findWinner_113 : decode m_Gr_findWinner.2.1 113 = .ok (.aload_n 0, 1) := by decide +kernel
theorem d_Gr_findWinner_114 : decode m_Gr_findWinner.2.1 114 = .ok (.getfield 36, 3) := by decide +kernel
theorem d_Gr_findWinner_117 : decode m_Gr_findWinner.2.1 117 = .ok (.getfield 129, 3) := by decide +kernel
theorem d_Gr_findWinner_120 : decode m_Gr_findWinner.2.1 120 = .ok (.aload_n 0, 1) := by decide +kernel
theorem d_Gr_findWinner_121 : decode m_Gr_findWinner.2.1 121 = .ok (.getfield 90, 3) := by decide +kernel
theorem d_Gr_findWinner_124 : decode m_Gr_findWinner.2.1 124 = .ok (.if_icmp .ge (9), 3) := by decide +kernel
theorem d_Gr_findWinner_127 : decode m_Gr_findWinner.2.1 127 = .ok (.aload_n 0, 1) := by decide +kernel
theorem d_Gr_findWinner_128 : decode m_Gr_findWinner.2.1 128 = .ok (.iload 5, 2) := by decide +kernel
theorem d_Gr_findWinner_130 : decode m_Gr_findWinner.2.1 130 = .ok (.invokevirtual 132, 3) := by decide +kernel
theorem d_Gr_findWinner_133 : decode m_Gr_findWinner.2.1 133 = .ok (.iinc 4 (1), 3) := by decide +kernel
theorem d_Gr_findWinner_136 : decode m_Gr_findWinner.2.1 136 = .ok (.goto (-111), 3) := by decide +kernel
theorem d_Gr_findWinner_139 : decode m_Gr_findWinner.2.1 139 = .ok (.iconst 1, 1) := by decide +kernel
theorem d_Gr_findWinner_140 : decode m_Gr_findWinner.2.1 140 = .ok (.ireturn, 1) := by decide +kernel
