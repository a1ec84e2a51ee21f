/-! Instructions -/
theorem d_Pr_init_0 : decode m_Pr_init.2.1 0 = .ok (.aload_n 0, 1) := by decide +kernel
theorem d_Pr_init_1 : decode m_Pr_init.2.1 1 = .ok (.invokespecial 3, 3) := by decide +kernel
theorem d_Pr_init_4 : decode m_Pr_init.2.1 4 = .ok (.aload_n 0, 1) := by decide +kernel
theorem d_Pr_init_5 : decode m_Pr_init.2.1 5 = .ok (.bipush (20), 2) := by decide +kernel
theorem d_Pr_init_7 : decode m_Pr_init.2.1 7 = .ok (.newarray .char, 2) := by decide +kernel
theorem d_Pr_init_9 : decode m_Pr_init.2.1 9 = .ok (.putfield 9, 3) := by decide +kernel
theorem d_Pr_init_12 : decode m_Pr_init.2.1 12 = .ok (.aload_n 0, 1) := by decide +kernel
theorem d_Pr_init_13 : decode m_Pr_init.2.1 13 = .ok (.iconst 4, 1) := by decide +kernel
theorem d_Pr_init_14 : decode m_Pr_init.2.1 14 = .ok (.newarray .int, 2) := by decide +kernel
theorem d_Pr_init_16 : decode m_Pr_init.2.1 16 = .ok (.putfield 15, 3) := by decide +kernel
theorem d_Pr_init_19 : decode m_Pr_init.2.1 19 = .ok (.aload_n 0, 1) := by decide +kernel
theorem d_Pr_init_20 : decode m_Pr_init.2.1 20 = .ok (.iconst 4, 1) := by decide +kernel
theorem d_Pr_init_21 : decode m_Pr_init.2.1 21 = .ok (.newarray .int, 2) := by decide +kernel
theorem d_Pr_init_23 : decode m_Pr_init.2.1 23 = .ok (.putfield 19, 3) := by decide +kernel
theorem d_Pr_init_26 : decode m_Pr_init.2.1 26 = .ok (.aload_n 0, 1) := by decide +kernel
theorem d_Pr_init_27 : decode m_Pr_init.2.1 27 = .ok (.iconst 4, 1) := by decide +kernel
theorem d_Pr_init_28 : decode m_Pr_init.2.1 28 = .ok (.newarray .int, 2) := by decide +kernel
theorem d_Pr_init_30 : decode m_Pr_init.2.1 30 = .ok (.putfield 22, 3) := by decide +kernel
theorem d_Pr_init_33 : decode m_Pr_init.2.1 33 = .ok (.aload_n 0, 1) := by decide +kernel
theorem d_Pr_init_34 : decode m_Pr_init.2.1 34 = .ok (.iconst 4, 1) := by decide +kernel
theorem d_Pr_init_35 : decode m_Pr_init.2.1 35 = .ok (.newarray .int, 2) := by decide +kernel
theorem d_Pr_init_37 : decode m_Pr_init.2.1 37 = .ok (.putfield 25, 3) := by decide +kernel
theorem d_Pr_init_40 : decode m_Pr_init.2.1 40 = .ok (.aload_n 0, 1) := by decide +kernel
theorem d_Pr_init_41 : decode m_Pr_init.2.1 41 = .ok (.iconst 4, 1) := by decide +kernel
theorem d_Pr_init_42 : decode m_Pr_init.2.1 42 = .ok (.newarray .boolean, 2) := by decide +kernel
theorem d_Pr_init_44 : decode m_Pr_init.2.1 44 = .ok (.putfield 28, 3) := by decide +kernel
theorem d_Pr_init_47 : decode m_Pr_init.2.1 47 = .ok (.aload_n 0, 1) := by decide +kernel
theorem d_Pr_init_48 : decode m_Pr_init.2.1 48 = .ok (.iconst 4, 1) := by decide +kernel
theorem d_Pr_init_49 : decode m_Pr_init.2.1 49 = .ok (.newarray .boolean, 2) := by decide +kernel
theorem d_Pr_init_51 : decode m_Pr_init.2.1 51 = .ok (.putfield 32, 3) := by decide +kernel
theorem d_Pr_init_54 : decode m_Pr_init.2.1 54 = .ok (.return_, 1) := by decide +kernel
theorem d_Pa_init_0 : decode m_Pa_init.2.1 0 = .ok (.aload_n 0, 1) := by decide +kernel
theorem d_Pa_init_1 : decode m_Pa_init.2.1 1 = .ok (.invokespecial 3, 3) := by decide +kernel
theorem d_Pa_init_4 : decode m_Pa_init.2.1 4 = .ok (.aload_n 0, 1) := by decide +kernel
theorem d_Pa_init_5 : decode m_Pa_init.2.1 5 = .ok (.bipush (6), 2) := by decide +kernel
theorem d_Pa_init_7 : decode m_Pa_init.2.1 7 = .ok (.newarray .int, 2) := by decide +kernel
theorem d_Pa_init_9 : decode m_Pa_init.2.1 9 = .ok (.putfield 9, 3) := by decide +kernel
theorem d_Pa_init_12 : decode m_Pa_init.2.1 12 = .ok (.aload_n 0, 1) := by decide +kernel
theorem d_Pa_init_13 : decode m_Pa_init.2.1 13 = .ok (.bipush (6), 2) := by decide +kernel
theorem d_Pa_init_15 : decode m_Pa_init.2.1 15 = .ok (.newarray .int, 2) := by decide +kernel
theorem d_Pa_init_17 : decode m_Pa_init.2.1 17 = .ok (.putfield 15, 3) := by decide +kernel
theorem d_Pa_init_20 : decode m_Pa_init.2.1 20 = .ok (.aload_n 0, 1) := by decide +kernel
theorem d_Pa_init_21 : decode m_Pa_init.2.1 21 = .ok (.bipush (6), 2) := by decide +kernel
theorem d_Pa_init_23 : decode m_Pa_init.2.1 23 = .ok (.newarray .int, 2) := by decide +kernel
theorem d_Pa_init_25 : decode m_Pa_init.2.1 25 = .ok (.putfield 18, 3) := by decide +kernel
theorem d_Pa_init_28 : decode m_Pa_init.2.1 28 = .ok (.return_, 1) := by decide +kernel
theorem d_St_init_0 : decode m_St_init.2.1 0 = .ok (.aload_n 0, 1) := by decide +kernel
theorem d_St_init_1 : decode m_St_init.2.1 1 = .ok (.invokespecial 3, 3) := by decide +kernel
theorem d_St_init_4 : decode m_St_init.2.1 4 = .ok (.aload_n 0, 1) := by decide +kernel
theorem d_St_init_5 : decode m_St_init.2.1 5 = .ok (.iconst 5, 1) := by decide +kernel
theorem d_St_init_6 : decode m_St_init.2.1 6 = .ok (.newarray .int, 2) := by decide +kernel
theorem d_St_init_8 : decode m_St_init.2.1 8 = .ok (.putfield 9, 3) := by decide +kernel
theorem d_St_init_11 : decode m_St_init.2.1 11 = .ok (.aload_n 0, 1) := by decide +kernel
theorem d_St_init_12 : decode m_St_init.2.1 12 = .ok (.bipush (10), 2) := by decide +kernel
theorem d_St_init_14 : decode m_St_init.2.1 14 = .ok (.newarray .int, 2) := by decide +kernel
theorem d_St_init_16 : decode m_St_init.2.1 16 = .ok (.putfield 15, 3) := by decide +kernel
theorem d_St_init_19 : decode m_St_init.2.1 19 = .ok (.aload_n 0, 1) := by decide +kernel
theorem d_St_init_20 : decode m_St_init.2.1 20 = .ok (.sipush (240), 3) := by decide +kernel
theorem d_St_init_23 : decode m_St_init.2.1 23 = .ok (.newarray .char, 2) := by decide +kernel
theorem d_St_init_25 : decode m_St_init.2.1 25 = .ok (.putfield 18, 3) := by decide +kernel
theorem d_St_init_28 : decode m_St_init.2.1 28 = .ok (.return_, 1) := by decide +kernel
theorem d_Se_init_0 : decode m_Se_init.2.1 0 = .ok (.aload_n 0, 1) := by decide +kernel
theorem d_Se_init_1 : decode m_Se_init.2.1 1 = .ok (.invokespecial 5, 3) := by decide +kernel
theorem d_Se_init_4 : decode m_Se_init.2.1 4 = .ok (.aload_n 0, 1) := by decide +kernel
theorem d_Se_init_5 : decode m_Se_init.2.1 5 = .ok (.bipush (6), 2) := by decide +kernel
theorem d_Se_init_7 : decode m_Se_init.2.1 7 = .ok (.newarray .int, 2) := by decide +kernel
theorem d_Se_init_9 : decode m_Se_init.2.1 9 = .ok (.putfield 11, 3) := by decide +kernel
theorem d_Se_init_12 : decode m_Se_init.2.1 12 = .ok (.aload_n 0, 1) := by decide +kernel
theorem d_Se_init_13 : decode m_Se_init.2.1 13 = .ok (.sipush (500), 3) := by decide +kernel
theorem d_Se_init_16 : decode m_Se_init.2.1 16 = .ok (.newarray .int, 2) := by decide +kernel
theorem d_Se_init_18 : decode m_Se_init.2.1 18 = .ok (.putfield 17, 3) := by decide +kernel
theorem d_Se_init_21 : decode m_Se_init.2.1 21 = .ok (.aload_n 0, 1) := by decide +kernel
theorem d_Se_init_22 : decode m_Se_init.2.1 22 = .ok (.sipush (500), 3) := by decide +kernel
theorem d_Se_init_25 : decode m_Se_init.2.1 25 = .ok (.newarray .int, 2) := by decide +kernel
theorem d_Se_init_27 : decode m_Se_init.2.1 27 = .ok (.putfield 20, 3) := by decide +kernel
theorem d_Se_init_30 : decode m_Se_init.2.1 30 = .ok (.aload_n 0, 1) := by decide +kernel
theorem d_Se_init_31 : decode m_Se_init.2.1 31 = .ok (.iload_n 1, 1) := by decide +kernel
theorem d_Se_init_32 : decode m_Se_init.2.1 32 = .ok (.putfield 23, 3) := by decide +kernel
theorem d_Se_init_35 : decode m_Se_init.2.1 35 = .ok (.return_, 1) := by decide +kernel
theorem d_Pt_init_0 : decode m_Pt_init.2.1 0 = .ok (.aload_n 0, 1) := by decide +kernel
theorem d_Pt_init_1 : decode m_Pt_init.2.1 1 = .ok (.invokespecial 3, 3) := by decide +kernel
theorem d_Pt_init_4 : decode m_Pt_init.2.1 4 = .ok (.aload_n 0, 1) := by decide +kernel
theorem d_Pt_init_5 : decode m_Pt_init.2.1 5 = .ok (.bipush (41), 2) := by decide +kernel
theorem d_Pt_init_7 : decode m_Pt_init.2.1 7 = .ok (.newarray .int, 2) := by decide +kernel
theorem d_Pt_init_9 : decode m_Pt_init.2.1 9 = .ok (.putfield 11, 3) := by decide +kernel
theorem d_Pt_init_12 : decode m_Pt_init.2.1 12 = .ok (.aload_n 0, 1) := by decide +kernel
theorem d_Pt_init_13 : decode m_Pt_init.2.1 13 = .ok (.bipush (41), 2) := by decide +kernel
theorem d_Pt_init_15 : decode m_Pt_init.2.1 15 = .ok (.newarray .int, 2) := by decide +kernel
theorem d_Pt_init_17 : decode m_Pt_init.2.1 17 = .ok (.putfield 15, 3) := by decide +kernel
theorem d_Pt_init_20 : decode m_Pt_init.2.1 20 = .ok (.aload_n 0, 1) := by decide +kernel
theorem d_Pt_init_21 : decode m_Pt_init.2.1 21 = .ok (.bipush (41), 2) := by decide +kernel
theorem d_Pt_init_23 : decode m_Pt_init.2.1 23 = .ok (.newarray .int, 2) := by decide +kernel
theorem d_Pt_init_25 : decode m_Pt_init.2.1 25 = .ok (.putfield 18, 3) := by decide +kernel
theorem d_Pt_init_28 : decode m_Pt_init.2.1 28 = .ok (.aload_n 0, 1) := by decide +kernel
theorem d_Pt_init_29 : decode m_Pt_init.2.1 29 = .ok (.bipush (6), 2) := by decide +kernel
theorem d_Pt_init_31 : decode m_Pt_init.2.1 31 = .ok (.newarray .long, 2) := by decide +kernel
theorem d_Pt_init_33 : decode m_Pt_init.2.1 33 = .ok (.putfield 21, 3) := by decide +kernel
theorem d_Pt_init_36 : decode m_Pt_init.2.1 36 = .ok (.aload_n 0, 1) := by decide +kernel
theorem d_Pt_init_37 : decode m_Pt_init.2.1 37 = .ok (.bipush (6), 2) := by decide +kernel
theorem d_Pt_init_39 : decode m_Pt_init.2.1 39 = .ok (.newarray .long, 2) := by decide +kernel
theorem d_Pt_init_41 : decode m_Pt_init.2.1 41 = .ok (.putfield 25, 3) := by decide +kernel
theorem d_Pt_init_44 : decode m_Pt_init.2.1 44 = .ok (.return_, 1) := by decide +kernel
theorem d_Ru_init_0 : decode m_Ru_init.2.1 0 = .ok (.aload_n 0, 1) := by decide +kernel
theorem d_Ru_init_1 : decode m_Ru_init.2.1 1 = .ok (.invokespecial 3, 3) := by decide +kernel
theorem d_Ru_init_4 : decode m_Ru_init.2.1 4 = .ok (.aload_n 0, 1) := by decide +kernel
theorem d_Ru_init_5 : decode m_Ru_init.2.1 5 = .ok (.new 9, 3) := by decide +kernel
theorem d_Ru_init_8 : decode m_Ru_init.2.1 8 = .ok (.dup, 1) := by decide +kernel
theorem d_Ru_init_9 : decode m_Ru_init.2.1 9 = .ok (.invokespecial 11, 3) := by decide +kernel
theorem d_Ru_init_12 : decode m_Ru_init.2.1 12 = .ok (.putfield 12, 3) := by decide +kernel
theorem d_Ru_init_15 : decode m_Ru_init.2.1 15 = .ok (.aload_n 0, 1) := by decide +kernel
theorem d_Ru_init_16 : decode m_Ru_init.2.1 16 = .ok (.new 9, 3) := by decide +kernel
theorem d_Ru_init_19 : decode m_Ru_init.2.1 19 = .ok (.dup, 1) := by decide +kernel
theorem d_Ru_init_20 : decode m_Ru_init.2.1 20 = .ok (.invokespecial 11, 3) := by decide +kernel
theorem d_Ru_init_23 : decode m_Ru_init.2.1 23 = .ok (.putfield 18, 3) := by decide +kernel
theorem d_Ru_init_26 : decode m_Ru_init.2.1 26 = .ok (.aload_n 0, 1) := by decide +kernel
theorem d_Ru_init_27 : decode m_Ru_init.2.1 27 = .ok (.iconst (-1), 1) := by decide +kernel
theorem d_Ru_init_28 : decode m_Ru_init.2.1 28 = .ok (.putfield 21, 3) := by decide +kernel
theorem d_Ru_init_31 : decode m_Ru_init.2.1 31 = .ok (.return_, 1) := by decide +kernel
theorem d_Gr_init_0 : decode m_Gr_init.2.1 0 = .ok (.aload_n 0, 1) := by decide +kernel
theorem d_Gr_init_1 : decode m_Gr_init.2.1 1 = .ok (.invokespecial 3, 3) := by decide +kernel
theorem d_Gr_init_4 : decode m_Gr_init.2.1 4 = .ok (.aload_n 0, 1) := by decide +kernel
theorem d_Gr_init_5 : decode m_Gr_init.2.1 5 = .ok (.bipush (11), 2) := by decide +kernel
theorem d_Gr_init_7 : decode m_Gr_init.2.1 7 = .ok (.anewarray 9, 3) := by decide +kernel
theorem d_Gr_init_10 : decode m_Gr_init.2.1 10 = .ok (.putfield 11, 3) := by decide +kernel
theorem d_Gr_init_13 : decode m_Gr_init.2.1 13 = .ok (.aload_n 0, 1) := by decide +kernel
theorem d_Gr_init_14 : decode m_Gr_init.2.1 14 = .ok (.new 17, 3) := by decide +kernel
theorem d_Gr_init_17 : decode m_Gr_init.2.1 17 = .ok (.dup, 1) := by decide +kernel
theorem d_Gr_init_18 : decode m_Gr_init.2.1 18 = .ok (.invokespecial 19, 3) := by decide +kernel
theorem d_Gr_init_21 : decode m_Gr_init.2.1 21 = .ok (.putfield 20, 3) := by decide +kernel
theorem d_Gr_init_24 : decode m_Gr_init.2.1 24 = .ok (.aload_n 0, 1) := by decide +kernel
theorem d_Gr_init_25 : decode m_Gr_init.2.1 25 = .ok (.bipush (19), 2) := by decide +kernel
theorem d_Gr_init_27 : decode m_Gr_init.2.1 27 = .ok (.newarray .int, 2) := by decide +kernel
theorem d_Gr_init_29 : decode m_Gr_init.2.1 29 = .ok (.putfield 24, 3) := by decide +kernel
theorem d_Gr_init_32 : decode m_Gr_init.2.1 32 = .ok (.aload_n 0, 1) := by decide +kernel
theorem d_Gr_init_33 : decode m_Gr_init.2.1 33 = .ok (.bipush (6), 2) := by decide +kernel
theorem d_Gr_init_35 : decode m_Gr_init.2.1 35 = .ok (.newarray .int, 2) := by decide +kernel
theorem d_Gr_init_37 : decode m_Gr_init.2.1 37 = .ok (.putfield 28, 3) := by decide +kernel
theorem d_Gr_init_40 : decode m_Gr_init.2.1 40 = .ok (.aload_n 0, 1) := by decide +kernel
theorem d_Gr_init_41 : decode m_Gr_init.2.1 41 = .ok (.new 31, 3) := by decide +kernel
theorem d_Gr_init_44 : decode m_Gr_init.2.1 44 = .ok (.dup, 1) := by decide +kernel
theorem d_Gr_init_45 : decode m_Gr_init.2.1 45 = .ok (.iload_n 1, 1) := by decide +kernel
theorem d_Gr_init_46 : decode m_Gr_init.2.1 46 = .ok (.invokespecial 33, 3) := by decide +kernel
theorem d_Gr_init_49 : decode m_Gr_init.2.1 49 = .ok (.putfield 36, 3) := by decide +kernel
theorem d_Gr_init_52 : decode m_Gr_init.2.1 52 = .ok (.iconst 0, 1) := by decide +kernel
theorem d_Gr_init_53 : decode m_Gr_init.2.1 53 = .ok (.istore_n 2, 1) := by decide +kernel
theorem d_Gr_init_54 : decode m_Gr_init.2.1 54 = .ok (.iload_n 2, 1) := by decide +kernel
theorem d_Gr_init_55 : decode m_Gr_init.2.1 55 = .ok (.aload_n 0, 1) := by decide +kernel
theorem d_Gr_init_56 : decode m_Gr_init.2.1 56 = .ok (.getfield 11, 3) := by decide +kernel
theorem d_Gr_init_59 : decode m_Gr_init.2.1 59 = .ok (.arraylength, 1) := by decide +kernel
theorem d_Gr_init_60 : decode m_Gr_init.2.1 60 = .ok (.if_icmp .ge (22), 3) := by decide +kernel
theorem d_Gr_init_63 : decode m_Gr_init.2.1 63 = .ok (.aload_n 0, 1) := by decide +kernel
theorem d_Gr_init_64 : decode m_Gr_init.2.1 64 = .ok (.getfield 11, 3) := by decide +kernel
theorem d_Gr_init_67 : decode m_Gr_init.2.1 67 = .ok (.iload_n 2, 1) := by decide +kernel
theorem d_Gr_init_68 : decode m_Gr_init.2.1 68 = .ok (.new 9, 3) := by decide +kernel
theorem d_Gr_init_71 : decode m_Gr_init.2.1 71 = .ok (.dup, 1) := by decide +kernel
theorem d_Gr_init_72 : decode m_Gr_init.2.1 72 = .ok (.invokespecial 40, 3) := by decide +kernel
theorem d_Gr_init_75 : decode m_Gr_init.2.1 75 = .ok (.aastore, 1) := by decide +kernel
theorem d_Gr_init_76 : decode m_Gr_init.2.1 76 = .ok (.iinc 2 (1), 3) := by decide +kernel
theorem d_Gr_init_79 : decode m_Gr_init.2.1 79 = .ok (.goto (-25), 3) := by decide +kernel
theorem d_Gr_init_82 : decode m_Gr_init.2.1 82 = .ok (.aload_n 0, 1) := by decide +kernel
theorem d_Gr_init_83 : decode m_Gr_init.2.1 83 = .ok (.getfield 11, 3) := by decide +kernel
theorem d_Gr_init_86 : decode m_Gr_init.2.1 86 = .ok (.iconst 0, 1) := by decide +kernel
theorem d_Gr_init_87 : decode m_Gr_init.2.1 87 = .ok (.aaload, 1) := by decide +kernel
theorem d_Gr_init_88 : decode m_Gr_init.2.1 88 = .ok (.iconst 1, 1) := by decide +kernel
theorem d_Gr_init_89 : decode m_Gr_init.2.1 89 = .ok (.putfield 41, 3) := by decide +kernel
theorem d_Gr_init_92 : decode m_Gr_init.2.1 92 = .ok (.return_, 1) := by decide +kernel
theorem d_Li_init_0 : decode m_Li_init.2.1 0 = .ok (.aload_n 0, 1) := by decide +kernel
theorem d_Li_init_1 : decode m_Li_init.2.1 1 = .ok (.invokespecial 3, 3) := by decide +kernel
theorem d_Li_init_4 : decode m_Li_init.2.1 4 = .ok (.aload_n 0, 1) := by decide +kernel
theorem d_Li_init_5 : decode m_Li_init.2.1 5 = .ok (.bipush (24), 2) := by decide +kernel
theorem d_Li_init_7 : decode m_Li_init.2.1 7 = .ok (.newarray .char, 2) := by decide +kernel
theorem d_Li_init_9 : decode m_Li_init.2.1 9 = .ok (.putfield 9, 3) := by decide +kernel
theorem d_Li_init_12 : decode m_Li_init.2.1 12 = .ok (.aload_n 0, 1) := by decide +kernel
theorem d_Li_init_13 : decode m_Li_init.2.1 13 = .ok (.bipush (24), 2) := by decide +kernel
theorem d_Li_init_15 : decode m_Li_init.2.1 15 = .ok (.newarray .int, 2) := by decide +kernel
theorem d_Li_init_17 : decode m_Li_init.2.1 17 = .ok (.putfield 15, 3) := by decide +kernel
theorem d_Li_init_20 : decode m_Li_init.2.1 20 = .ok (.aload_n 0, 1) := by decide +kernel
theorem d_Li_init_21 : decode m_Li_init.2.1 21 = .ok (.bipush (24), 2) := by decide +kernel
theorem d_Li_init_23 : decode m_Li_init.2.1 23 = .ok (.newarray .int, 2) := by decide +kernel
theorem d_Li_init_25 : decode m_Li_init.2.1 25 = .ok (.putfield 19, 3) := by decide +kernel
theorem d_Li_init_28 : decode m_Li_init.2.1 28 = .ok (.aload_n 0, 1) := by decide +kernel
theorem d_Li_init_29 : decode m_Li_init.2.1 29 = .ok (.sipush (144), 3) := by decide +kernel
theorem d_Li_init_32 : decode m_Li_init.2.1 32 = .ok (.newarray .int, 2) := by decide +kernel
theorem d_Li_init_34 : decode m_Li_init.2.1 34 = .ok (.putfield 22, 3) := by decide +kernel
theorem d_Li_init_37 : decode m_Li_init.2.1 37 = .ok (.aload_n 0, 1) := by decide +kernel
theorem d_Li_init_38 : decode m_Li_init.2.1 38 = .ok (.new 25, 3) := by decide +kernel
theorem d_Li_init_41 : decode m_Li_init.2.1 41 = .ok (.dup, 1) := by decide +kernel
theorem d_Li_init_42 : decode m_Li_init.2.1 42 = .ok (.invokespecial 27, 3) := by decide +kernel
theorem d_Li_init_45 : decode m_Li_init.2.1 45 = .ok (.putfield 28, 3) := by decide +kernel
theorem d_Li_init_48 : decode m_Li_init.2.1 48 = .ok (.return_, 1) := by decide +kernel
theorem d_SL_init_0 : decode m_SL_init.2.1 0 = .ok (.aload_n 0, 1) := by decide +kernel
theorem d_SL_init_1 : decode m_SL_init.2.1 1 = .ok (.invokespecial 1, 3) := by decide +kernel
theorem d_SL_init_4 : decode m_SL_init.2.1 4 = .ok (.aload_n 0, 1) := by decide +kernel
theorem d_SL_init_5 : decode m_SL_init.2.1 5 = .ok (.bipush (40), 2) := by decide +kernel
theorem d_SL_init_7 : decode m_SL_init.2.1 7 = .ok (.newarray .char, 2) := by decide +kernel
theorem d_SL_init_9 : decode m_SL_init.2.1 9 = .ok (.putfield 9, 3) := by decide +kernel
theorem d_SL_init_12 : decode m_SL_init.2.1 12 = .ok (.aload_n 0, 1) := by decide +kernel
theorem d_SL_init_13 : decode m_SL_init.2.1 13 = .ok (.new 13, 3) := by decide +kernel
theorem d_SL_init_16 : decode m_SL_init.2.1 16 = .ok (.dup, 1) := by decide +kernel
theorem d_SL_init_17 : decode m_SL_init.2.1 17 = .ok (.invokespecial 15, 3) := by decide +kernel
theorem d_SL_init_20 : decode m_SL_init.2.1 20 = .ok (.putfield 16, 3) := by decide +kernel
theorem d_SL_init_23 : decode m_SL_init.2.1 23 = .ok (.aload_n 0, 1) := by decide +kernel
theorem d_SL_init_24 : decode m_SL_init.2.1 24 = .ok (.bipush (6), 2) := by decide +kernel
theorem d_SL_init_26 : decode m_SL_init.2.1 26 = .ok (.anewarray 20, 3) := by decide +kernel
theorem d_SL_init_29 : decode m_SL_init.2.1 29 = .ok (.putfield 22, 3) := by decide +kernel
theorem d_SL_init_32 : decode m_SL_init.2.1 32 = .ok (.aload_n 0, 1) := by decide +kernel
theorem d_SL_init_33 : decode m_SL_init.2.1 33 = .ok (.new 26, 3) := by decide +kernel
theorem d_SL_init_36 : decode m_SL_init.2.1 36 = .ok (.dup, 1) := by decide +kernel
theorem d_SL_init_37 : decode m_SL_init.2.1 37 = .ok (.invokespecial 28, 3) := by decide +kernel
theorem d_SL_init_40 : decode m_SL_init.2.1 40 = .ok (.putfield 29, 3) := by decide +kernel
theorem d_SL_init_43 : decode m_SL_init.2.1 43 = .ok (.aload_n 0, 1) := by decide +kernel
theorem d_SL_init_44 : decode m_SL_init.2.1 44 = .ok (.new 33, 3) := by decide +kernel
theorem d_SL_init_47 : decode m_SL_init.2.1 47 = .ok (.dup, 1) := by decide +kernel
theorem d_SL_init_48 : decode m_SL_init.2.1 48 = .ok (.invokespecial 35, 3) := by decide +kernel
theorem d_SL_init_51 : decode m_SL_init.2.1 51 = .ok (.putfield 36, 3) := by decide +kernel
theorem d_SL_init_54 : decode m_SL_init.2.1 54 = .ok (.aload_n 0, 1) := by decide +kernel
theorem d_SL_init_55 : decode m_SL_init.2.1 55 = .ok (.new 33, 3) := by decide +kernel
theorem d_SL_init_58 : decode m_SL_init.2.1 58 = .ok (.dup, 1) := by decide +kernel
theorem d_SL_init_59 : decode m_SL_init.2.1 59 = .ok (.invokespecial 35, 3) := by decide +kernel
theorem d_SL_init_62 : decode m_SL_init.2.1 62 = .ok (.putfield 40, 3) := by decide +kernel
theorem d_SL_init_65 : decode m_SL_init.2.1 65 = .ok (.aload_n 0, 1) := by decide +kernel
theorem d_SL_init_66 : decode m_SL_init.2.1 66 = .ok (.new 43, 3) := by decide +kernel
theorem d_SL_init_69 : decode m_SL_init.2.1 69 = .ok (.dup, 1) := by decide +kernel
theorem d_SL_init_70 : decode m_SL_init.2.1 70 = .ok (.bipush (10), 2) := by decide +kernel
theorem d_SL_init_72 : decode m_SL_init.2.1 72 = .ok (.sipush (300), 3) := by decide +kernel
theorem d_SL_init_75 : decode m_SL_init.2.1 75 = .ok (.iload_n 1, 1) := by decide +kernel
theorem d_SL_init_76 : decode m_SL_init.2.1 76 = .ok (.invokestatic 45, 3) := by decide +kernel
theorem d_SL_init_79 : decode m_SL_init.2.1 79 = .ok (.invokestatic 51, 3) := by decide +kernel
theorem d_SL_init_82 : decode m_SL_init.2.1 82 = .ok (.invokespecial 54, 3) := by decide +kernel
theorem d_SL_init_85 : decode m_SL_init.2.1 85 = .ok (.putfield 57, 3) := by decide +kernel
theorem d_SL_init_88 : decode m_SL_init.2.1 88 = .ok (.iconst 0, 1) := by decide +kernel
theorem d_SL_init_89 : decode m_SL_init.2.1 89 = .ok (.istore_n 2, 1) := by decide +kernel
theorem d_SL_init_90 : decode m_SL_init.2.1 90 = .ok (.iload_n 2, 1) := by decide +kernel
theorem d_SL_init_91 : decode m_SL_init.2.1 91 = .ok (.bipush (6), 2) := by decide +kernel
theorem d_SL_init_93 : decode m_SL_init.2.1 93 = .ok (.if_icmp .ge (22), 3) := by decide +kernel
theorem d_SL_init_96 : decode m_SL_init.2.1 96 = .ok (.aload_n 0, 1) := by decide +kernel
theorem d_SL_init_97 : decode m_SL_init.2.1 97 = .ok (.getfield 22, 3) := by decide +kernel
theorem d_SL_init_100 : decode m_SL_init.2.1 100 = .ok (.iload_n 2, 1) := by decide +kernel
theorem d_SL_init_101 : decode m_SL_init.2.1 101 = .ok (.new 20, 3) := by decide +kernel
theorem d_SL_init_104 : decode m_SL_init.2.1 104 = .ok (.dup, 1) := by decide +kernel
theorem d_SL_init_105 : decode m_SL_init.2.1 105 = .ok (.invokespecial 61, 3) := by decide +kernel
theorem d_SL_init_108 : decode m_SL_init.2.1 108 = .ok (.aastore, 1) := by decide +kernel
theorem d_SL_init_109 : decode m_SL_init.2.1 109 = .ok (.iinc 2 (1), 3) := by decide +kernel
theorem d_SL_init_112 : decode m_SL_init.2.1 112 = .ok (.goto (-22), 3) := by decide +kernel
theorem d_SL_init_115 : decode m_SL_init.2.1 115 = .ok (.return_, 1) := by decide +kernel
theorem d_SL_type_0 : decode m_SL_type.2.1 0 = .ok (.iconst 0, 1) := by decide +kernel
theorem d_SL_type_1 : decode m_SL_type.2.1 1 = .ok (.istore_n 3, 1) := by decide +kernel
theorem d_SL_type_2 : decode m_SL_type.2.1 2 = .ok (.bipush (56), 2) := by decide +kernel
theorem d_SL_type_4 : decode m_SL_type.2.1 4 = .ok (.istore 4, 2) := by decide +kernel
theorem d_SL_type_6 : decode m_SL_type.2.1 6 = .ok (.iload 4, 2) := by decide +kernel
theorem d_SL_type_8 : decode m_SL_type.2.1 8 = .ok (.ifCond .lt (54), 3) := by decide +kernel
theorem d_SL_type_11 : decode m_SL_type.2.1 11 = .ok (.lload_n 1, 1) := by decide +kernel
theorem d_SL_type_12 : decode m_SL_type.2.1 12 = .ok (.iload 4, 2) := by decide +kernel
theorem d_SL_type_14 : decode m_SL_type.2.1 14 = .ok (.lushr, 1) := by decide +kernel
theorem d_SL_type_15 : decode m_SL_type.2.1 15 = .ok (.l2i, 1) := by decide +kernel
theorem d_SL_type_16 : decode m_SL_type.2.1 16 = .ok (.sipush (255), 3) := by decide +kernel
theorem d_SL_type_19 : decode m_SL_type.2.1 19 = .ok (.iand, 1) := by decide +kernel
theorem d_SL_type_20 : decode m_SL_type.2.1 20 = .ok (.istore 5, 2) := by decide +kernel
theorem d_SL_type_22 : decode m_SL_type.2.1 22 = .ok (.iload 5, 2) := by decide +kernel
theorem d_SL_type_24 : decode m_SL_type.2.1 24 = .ok (.ifCond .eq (19), 3) := by decide +kernel
theorem d_SL_type_27 : decode m_SL_type.2.1 27 = .ok (.iload 5, 2) := by decide +kernel
theorem d_SL_type_29 : decode m_SL_type.2.1 29 = .ok (.bipush (32), 2) := by decide +kernel
theorem d_SL_type_31 : decode m_SL_type.2.1 31 = .ok (.if_icmp .lt (10), 3) := by decide +kernel
theorem d_SL_type_34 : decode m_SL_type.2.1 34 = .ok (.iload 5, 2) := by decide +kernel
theorem d_SL_type_36 : decode m_SL_type.2.1 36 = .ok (.bipush (126), 2) := by decide +kernel
theorem d_SL_type_38 : decode m_SL_type.2.1 38 = .ok (.if_icmp .le (5), 3) := by decide +kernel
theorem d_SL_type_41 : decode m_SL_type.2.1 41 = .ok (.iconst 0, 1) := by decide +kernel
theorem d_SL_type_42 : decode m_SL_type.2.1 42 = .ok (.ireturn, 1) := by decide +kernel
theorem d_SL_type_43 : decode m_SL_type.2.1 43 = .ok (.iload_n 3, 1) := by decide +kernel
theorem d_SL_type_44 : decode m_SL_type.2.1 44 = .ok (.iload 5, 2) := by decide +kernel
theorem d_SL_type_46 : decode m_SL_type.2.1 46 = .ok (.ifCond .eq (7), 3) := by decide +kernel
theorem d_SL_type_49 : decode m_SL_type.2.1 49 = .ok (.iconst 1, 1) := by decide +kernel
theorem d_SL_type_50 : decode m_SL_type.2.1 50 = .ok (.goto (4), 3) := by decide +kernel
theorem d_SL_type_53 : decode m_SL_type.2.1 53 = .ok (.iconst 0, 1) := by decide +kernel
theorem d_SL_type_54 : decode m_SL_type.2.1 54 = .ok (.iadd, 1) := by decide +kernel
theorem d_SL_type_55 : decode m_SL_type.2.1 55 = .ok (.istore_n 3, 1) := by decide +kernel
theorem d_SL_type_56 : decode m_SL_type.2.1 56 = .ok (.iinc 4 (-8), 3) := by decide +kernel
theorem d_SL_type_59 : decode m_SL_type.2.1 59 = .ok (.goto (-53), 3) := by decide +kernel
theorem d_SL_type_62 : decode m_SL_type.2.1 62 = .ok (.aload_n 0, 1) := by decide +kernel
theorem d_SL_type_63 : decode m_SL_type.2.1 63 = .ok (.getfield 62, 3) := by decide +kernel
theorem d_SL_type_66 : decode m_SL_type.2.1 66 = .ok (.iload_n 3, 1) := by decide +kernel
theorem d_SL_type_67 : decode m_SL_type.2.1 67 = .ok (.iadd, 1) := by decide +kernel
theorem d_SL_type_68 : decode m_SL_type.2.1 68 = .ok (.bipush (40), 2) := by decide +kernel
theorem d_SL_type_70 : decode m_SL_type.2.1 70 = .ok (.if_icmp .le (5), 3) := by decide +kernel
theorem d_SL_type_73 : decode m_SL_type.2.1 73 = .ok (.iconst 0, 1) := by decide +kernel
theorem d_SL_type_74 : decode m_SL_type.2.1 74 = .ok (.ireturn, 1) := by decide +kernel
theorem d_SL_type_75 : decode m_SL_type.2.1 75 = .ok (.bipush (56), 2) := by decide +kernel
theorem d_SL_type_77 : decode m_SL_type.2.1 77 = .ok (.istore 4, 2) := by decide +kernel
theorem d_SL_type_79 : decode m_SL_type.2.1 79 = .ok (.iload 4, 2) := by decide +kernel
theorem d_SL_type_81 : decode m_SL_type.2.1 81 = .ok (.ifCond .lt (47), 3) := by decide +kernel
theorem d_SL_type_84 : decode m_SL_type.2.1 84 = .ok (.lload_n 1, 1) := by decide +kernel
theorem d_SL_type_85 : decode m_SL_type.2.1 85 = .ok (.iload 4, 2) := by decide +kernel
theorem d_SL_type_87 : decode m_SL_type.2.1 87 = .ok (.lushr, 1) := by decide +kernel
theorem d_SL_type_88 : decode m_SL_type.2.1 88 = .ok (.l2i, 1) := by decide +kernel
theorem d_SL_type_89 : decode m_SL_type.2.1 89 = .ok (.sipush (255), 3) := by decide +kernel
theorem d_SL_type_92 : decode m_SL_type.2.1 92 = .ok (.iand, 1) := by decide +kernel
theorem d_SL_type_93 : decode m_SL_type.2.1 93 = .ok (.istore 5, 2) := by decide +kernel
theorem d_SL_type_95 : decode m_SL_type.2.1 95 = .ok (.iload 5, 2) := by decide +kernel
theorem d_SL_type_97 : decode m_SL_type.2.1 97 = .ok (.ifCond .eq (25), 3) := by decide +kernel
theorem d_SL_type_100 : decode m_SL_type.2.1 100 = .ok (.aload_n 0, 1) := by decide +kernel
theorem d_SL_type_101 : decode m_SL_type.2.1 101 = .ok (.getfield 9, 3) := by decide +kernel
theorem d_SL_type_104 : decode m_SL_type.2.1 104 = .ok (.aload_n 0, 1) := by decide +kernel
theorem d_SL_type_105 : decode m_SL_type.2.1 105 = .ok (.getfield 62, 3) := by decide +kernel
theorem d_SL_type_108 : decode m_SL_type.2.1 108 = .ok (.iload 5, 2) := by decide +kernel
theorem d_SL_type_110 : decode m_SL_type.2.1 110 = .ok (.i2c, 1) := by decide +kernel
theorem d_SL_type_111 : decode m_SL_type.2.1 111 = .ok (.castore, 1) := by decide +kernel
theorem d_SL_type_112 : decode m_SL_type.2.1 112 = .ok (.aload_n 0, 1) := by decide +kernel
theorem d_SL_type_113 : decode m_SL_type.2.1 113 = .ok (.dup, 1) := by decide +kernel
theorem d_SL_type_114 : decode m_SL_type.2.1 114 = .ok (.getfield 62, 3) := by decide +kernel
theorem d_SL_type_117 : decode m_SL_type.2.1 117 = .ok (.iconst 1, 1) := by decide +kernel
theorem d_SL_type_118 : decode m_SL_type.2.1 118 = .ok (.iadd, 1) := by decide +kernel
theorem d_SL_type_119 : decode m_SL_type.2.1 119 = .ok (.putfield 62, 3) := by decide +kernel
theorem d_SL_type_122 : decode m_SL_type.2.1 122 = .ok (.iinc 4 (-8), 3) := by decide +kernel
theorem d_SL_type_125 : decode m_SL_type.2.1 125 = .ok (.goto (-46), 3) := by decide +kernel
theorem d_SL_type_128 : decode m_SL_type.2.1 128 = .ok (.iconst 1, 1) := by decide +kernel
theorem d_SL_type_129 : decode m_SL_type.2.1 129 = .ok (.ireturn, 1) := by decide +kernel
theorem d_SL_wipe_0 : decode m_SL_wipe.2.1 0 = .ok (.aload_n 0, 1) := by decide +kernel
theorem d_SL_wipe_1 : decode m_SL_wipe.2.1 1 = .ok (.iconst 0, 1) := by decide +kernel
theorem d_SL_wipe_2 : decode m_SL_wipe.2.1 2 = .ok (.putfield 62, 3) := by decide +kernel
theorem d_SL_wipe_5 : decode m_SL_wipe.2.1 5 = .ok (.return_, 1) := by decide +kernel
theorem d_Gr_isRange_0 : decode m_Gr_isRange.2.1 0 = .ok (.iload_n 1, 1) := by decide +kernel
theorem d_Gr_isRange_1 : decode m_Gr_isRange.2.1 1 = .ok (.ifCond .lt (27), 3) := by decide +kernel
theorem d_Gr_isRange_4 : decode m_Gr_isRange.2.1 4 = .ok (.iload_n 1, 1) := by decide +kernel
theorem d_Gr_isRange_5 : decode m_Gr_isRange.2.1 5 = .ok (.aload_n 0, 1) := by decide +kernel
theorem d_Gr_isRange_6 : decode m_Gr_isRange.2.1 6 = .ok (.getfield 45, 3) := by decide +kernel
theorem d_Gr_isRange_9 : decode m_Gr_isRange.2.1 9 = .ok (.if_icmp .gt (19), 3) := by decide +kernel
theorem d_Gr_isRange_12 : decode m_Gr_isRange.2.1 12 = .ok (.aload_n 0, 1) := by decide +kernel
theorem d_Gr_isRange_13 : decode m_Gr_isRange.2.1 13 = .ok (.getfield 11, 3) := by decide +kernel
theorem d_Gr_isRange_16 : decode m_Gr_isRange.2.1 16 = .ok (.iload_n 1, 1) := by decide +kernel
theorem d_Gr_isRange_17 : decode m_Gr_isRange.2.1 17 = .ok (.aaload, 1) := by decide +kernel
theorem d_Gr_isRange_18 : decode m_Gr_isRange.2.1 18 = .ok (.getfield 41, 3) := by decide +kernel
theorem d_Gr_isRange_21 : decode m_Gr_isRange.2.1 21 = .ok (.ifCond .eq (7), 3) := by decide +kernel
theorem d_Gr_isRange_24 : decode m_Gr_isRange.2.1 24 = .ok (.iconst 1, 1) := by decide +kernel
theorem d_Gr_isRange_25 : decode m_Gr_isRange.2.1 25 = .ok (.goto (4), 3) := by decide +kernel
theorem d_Gr_isRange_28 : decode m_Gr_isRange.2.1 28 = .ok (.iconst 0, 1) := by decide +kernel
theorem d_Gr_isRange_29 : decode m_Gr_isRange.2.1 29 = .ok (.ireturn, 1) := by decide +kernel
theorem d_SL_isScope_0 : decode m_SL_isScope.2.1 0 = .ok (.iload_n 0, 1) := by decide +kernel
theorem d_SL_isScope_1 : decode m_SL_isScope.2.1 1 = .ok (.iconst 1, 1) := by decide +kernel
theorem d_SL_isScope_2 : decode m_SL_isScope.2.1 2 = .ok (.if_icmp .lt (13), 3) := by decide +kernel
theorem d_SL_isScope_5 : decode m_SL_isScope.2.1 5 = .ok (.iload_n 0, 1) := by decide +kernel
theorem d_SL_isScope_6 : decode m_SL_isScope.2.1 6 = .ok (.bipush (99), 2) := by decide +kernel
theorem d_SL_isScope_8 : decode m_SL_isScope.2.1 8 = .ok (.if_icmp .gt (7), 3) := by decide +kernel
theorem d_SL_isScope_11 : decode m_SL_isScope.2.1 11 = .ok (.iconst 1, 1) := by decide +kernel
theorem d_SL_isScope_12 : decode m_SL_isScope.2.1 12 = .ok (.goto (4), 3) := by decide +kernel
theorem d_SL_isScope_15 : decode m_SL_isScope.2.1 15 = .ok (.iconst 0, 1) := by decide +kernel
theorem d_SL_isScope_16 : decode m_SL_isScope.2.1 16 = .ok (.ireturn, 1) := by decide +kernel
theorem d_Gr_nextRule_0 : decode m_Gr_nextRule.2.1 0 = .ok (.aload_n 0, 1) := by decide +kernel
theorem d_Gr_nextRule_1 : decode m_Gr_nextRule.2.1 1 = .ok (.getfield 11, 3) := by decide +kernel
theorem d_Gr_nextRule_4 : decode m_Gr_nextRule.2.1 4 = .ok (.aload_n 0, 1) := by decide +kernel
theorem d_Gr_nextRule_5 : decode m_Gr_nextRule.2.1 5 = .ok (.getfield 45, 3) := by decide +kernel
theorem d_Gr_nextRule_8 : decode m_Gr_nextRule.2.1 8 = .ok (.iconst 1, 1) := by decide +kernel
theorem d_Gr_nextRule_9 : decode m_Gr_nextRule.2.1 9 = .ok (.iadd, 1) := by decide +kernel
theorem d_Gr_nextRule_10 : decode m_Gr_nextRule.2.1 10 = .ok (.aaload, 1) := by decide +kernel
theorem d_Gr_nextRule_11 : decode m_Gr_nextRule.2.1 11 = .ok (.areturn, 1) := by decide +kernel
theorem d_Pr_hasBlank_0 : decode m_Pr_hasBlank.2.1 0 = .ok (.iconst 0, 1) := by decide +kernel
theorem d_Pr_hasBlank_1 : decode m_Pr_hasBlank.2.1 1 = .ok (.istore_n 1, 1) := by decide +kernel
theorem d_Pr_hasBlank_2 : decode m_Pr_hasBlank.2.1 2 = .ok (.iconst 0, 1) := by decide +kernel
theorem d_Pr_hasBlank_3 : decode m_Pr_hasBlank.2.1 3 = .ok (.istore_n 2, 1) := by decide +kernel
theorem d_Pr_hasBlank_4 : decode m_Pr_hasBlank.2.1 4 = .ok (.iload_n 2, 1) := by decide +kernel
theorem d_Pr_hasBlank_5 : decode m_Pr_hasBlank.2.1 5 = .ok (.aload_n 0, 1) := by decide +kernel
theorem d_Pr_hasBlank_6 : decode m_Pr_hasBlank.2.1 6 = .ok (.getfield 35, 3) := by decide +kernel
theorem d_Pr_hasBlank_9 : decode m_Pr_hasBlank.2.1 9 = .ok (.if_icmp .ge (30), 3) := by decide +kernel
theorem d_Pr_hasBlank_12 : decode m_Pr_hasBlank.2.1 12 = .ok (.iload_n 1, 1) := by decide +kernel
theorem d_Pr_hasBlank_13 : decode m_Pr_hasBlank.2.1 13 = .ok (.ifCond .ne (26), 3) := by decide +kernel
theorem d_Pr_hasBlank_16 : decode m_Pr_hasBlank.2.1 16 = .ok (.aload_n 0, 1) := by decide +kernel
theorem d_Pr_hasBlank_17 : decode m_Pr_hasBlank.2.1 17 = .ok (.getfield 9, 3) := by decide +kernel
theorem d_Pr_hasBlank_20 : decode m_Pr_hasBlank.2.1 20 = .ok (.iload_n 2, 1) := by decide +kernel
theorem d_Pr_hasBlank_21 : decode m_Pr_hasBlank.2.1 21 = .ok (.caload, 1) := by decide +kernel
theorem d_Pr_hasBlank_22 : decode m_Pr_hasBlank.2.1 22 = .ok (.bipush (32), 2) := by decide +kernel
theorem d_Pr_hasBlank_24 : decode m_Pr_hasBlank.2.1 24 = .ok (.if_icmp .ne (7), 3) := by decide +kernel
theorem d_Pr_hasBlank_27 : decode m_Pr_hasBlank.2.1 27 = .ok (.iconst 1, 1) := by decide +kernel
theorem d_Pr_hasBlank_28 : decode m_Pr_hasBlank.2.1 28 = .ok (.goto (4), 3) := by decide +kernel
theorem d_Pr_hasBlank_31 : decode m_Pr_hasBlank.2.1 31 = .ok (.iconst 0, 1) := by decide +kernel
theorem d_Pr_hasBlank_32 : decode m_Pr_hasBlank.2.1 32 = .ok (.istore_n 1, 1) := by decide +kernel
theorem d_Pr_hasBlank_33 : decode m_Pr_hasBlank.2.1 33 = .ok (.iinc 2 (1), 3) := by decide +kernel
theorem d_Pr_hasBlank_36 : decode m_Pr_hasBlank.2.1 36 = .ok (.goto (-32), 3) := by decide +kernel
theorem d_Pr_hasBlank_39 : decode m_Pr_hasBlank.2.1 39 = .ok (.iload_n 1, 1) := by decide +kernel
theorem d_Pr_hasBlank_40 : decode m_Pr_hasBlank.2.1 40 = .ok (.ireturn, 1) := by decide +kernel
theorem d_Pt_clear_0 : decode m_Pt_clear.2.1 0 = .ok (.aload_n 0, 1) := by decide +kernel
theorem d_Pt_clear_1 : decode m_Pt_clear.2.1 1 = .ok (.iconst 0, 1) := by decide +kernel
theorem d_Pt_clear_2 : decode m_Pt_clear.2.1 2 = .ok (.putfield 28, 3) := by decide +kernel
theorem d_Pt_clear_5 : decode m_Pt_clear.2.1 5 = .ok (.aload_n 0, 1) := by decide +kernel
theorem d_Pt_clear_6 : decode m_Pt_clear.2.1 6 = .ok (.iconst 0, 1) := by decide +kernel
theorem d_Pt_clear_7 : decode m_Pt_clear.2.1 7 = .ok (.putfield 32, 3) := by decide +kernel
theorem d_Pt_clear_10 : decode m_Pt_clear.2.1 10 = .ok (.return_, 1) := by decide +kernel
theorem d_Pr_openLevel_0 : decode m_Pr_openLevel.2.1 0 = .ok (.aload_n 0, 1) := by decide +kernel
theorem d_Pr_openLevel_1 : decode m_Pr_openLevel.2.1 1 = .ok (.getfield 19, 3) := by decide +kernel
theorem d_Pr_openLevel_4 : decode m_Pr_openLevel.2.1 4 = .ok (.aload_n 0, 1) := by decide +kernel
theorem d_Pr_openLevel_5 : decode m_Pr_openLevel.2.1 5 = .ok (.getfield 62, 3) := by decide +kernel
theorem d_Pr_openLevel_8 : decode m_Pr_openLevel.2.1 8 = .ok (.iload_n 1, 1) := by decide +kernel
theorem d_Pr_openLevel_9 : decode m_Pr_openLevel.2.1 9 = .ok (.iastore, 1) := by decide +kernel
theorem d_Pr_openLevel_10 : decode m_Pr_openLevel.2.1 10 = .ok (.aload_n 0, 1) := by decide +kernel
theorem d_Pr_openLevel_11 : decode m_Pr_openLevel.2.1 11 = .ok (.getfield 22, 3) := by decide +kernel
theorem d_Pr_openLevel_14 : decode m_Pr_openLevel.2.1 14 = .ok (.aload_n 0, 1) := by decide +kernel
theorem d_Pr_openLevel_15 : decode m_Pr_openLevel.2.1 15 = .ok (.getfield 62, 3) := by decide +kernel
theorem d_Pr_openLevel_18 : decode m_Pr_openLevel.2.1 18 = .ok (.iload_n 1, 1) := by decide +kernel
theorem d_Pr_openLevel_19 : decode m_Pr_openLevel.2.1 19 = .ok (.iastore, 1) := by decide +kernel
theorem d_Pr_openLevel_20 : decode m_Pr_openLevel.2.1 20 = .ok (.aload_n 0, 1) := by decide +kernel
theorem d_Pr_openLevel_21 : decode m_Pr_openLevel.2.1 21 = .ok (.getfield 25, 3) := by decide +kernel
theorem d_Pr_openLevel_24 : decode m_Pr_openLevel.2.1 24 = .ok (.aload_n 0, 1) := by decide +kernel
theorem d_Pr_openLevel_25 : decode m_Pr_openLevel.2.1 25 = .ok (.getfield 62, 3) := by decide +kernel
theorem d_Pr_openLevel_28 : decode m_Pr_openLevel.2.1 28 = .ok (.iconst 0, 1) := by decide +kernel
theorem d_Pr_openLevel_29 : decode m_Pr_openLevel.2.1 29 = .ok (.iastore, 1) := by decide +kernel
theorem d_Pr_openLevel_30 : decode m_Pr_openLevel.2.1 30 = .ok (.aload_n 0, 1) := by decide +kernel
theorem d_Pr_openLevel_31 : decode m_Pr_openLevel.2.1 31 = .ok (.getfield 28, 3) := by decide +kernel
theorem d_Pr_openLevel_34 : decode m_Pr_openLevel.2.1 34 = .ok (.aload_n 0, 1) := by decide +kernel
theorem d_Pr_openLevel_35 : decode m_Pr_openLevel.2.1 35 = .ok (.getfield 62, 3) := by decide +kernel
theorem d_Pr_openLevel_38 : decode m_Pr_openLevel.2.1 38 = .ok (.iconst 1, 1) := by decide +kernel
theorem d_Pr_openLevel_39 : decode m_Pr_openLevel.2.1 39 = .ok (.bastore, 1) := by decide +kernel
theorem d_Pr_openLevel_40 : decode m_Pr_openLevel.2.1 40 = .ok (.aload_n 0, 1) := by decide +kernel
theorem d_Pr_openLevel_41 : decode m_Pr_openLevel.2.1 41 = .ok (.getfield 32, 3) := by decide +kernel
theorem d_Pr_openLevel_44 : decode m_Pr_openLevel.2.1 44 = .ok (.aload_n 0, 1) := by decide +kernel
theorem d_Pr_openLevel_45 : decode m_Pr_openLevel.2.1 45 = .ok (.getfield 62, 3) := by decide +kernel
theorem d_Pr_openLevel_48 : decode m_Pr_openLevel.2.1 48 = .ok (.iconst 0, 1) := by decide +kernel
theorem d_Pr_openLevel_49 : decode m_Pr_openLevel.2.1 49 = .ok (.bastore, 1) := by decide +kernel
theorem d_Pr_openLevel_50 : decode m_Pr_openLevel.2.1 50 = .ok (.return_, 1) := by decide +kernel
theorem d_Pt_insert_0 : decode m_Pt_insert.2.1 0 = .ok (.aload_n 0, 1) := by decide +kernel
theorem d_Pt_insert_1 : decode m_Pt_insert.2.1 1 = .ok (.getfield 28, 3) := by decide +kernel
theorem d_Pt_insert_4 : decode m_Pt_insert.2.1 4 = .ok (.bipush (41), 2) := by decide +kernel
theorem d_Pt_insert_6 : decode m_Pt_insert.2.1 6 = .ok (.if_icmp .ne (4), 3) := by decide +kernel
theorem d_Pt_insert_9 : decode m_Pt_insert.2.1 9 = .ok (.return_, 1) := by decide +kernel
theorem d_Pt_insert_10 : decode m_Pt_insert.2.1 10 = .ok (.aload_n 0, 1) := by decide +kernel
theorem d_Pt_insert_11 : decode m_Pt_insert.2.1 11 = .ok (.getfield 28, 3) := by decide +kernel
theorem d_Pt_insert_14 : decode m_Pt_insert.2.1 14 = .ok (.istore 5, 2) := by decide +kernel
theorem d_Pt_insert_16 : decode m_Pt_insert.2.1 16 = .ok (.iload 5, 2) := by decide +kernel
theorem d_Pt_insert_18 : decode m_Pt_insert.2.1 18 = .ok (.iload_n 1, 1) := by decide +kernel
theorem d_Pt_insert_19 : decode m_Pt_insert.2.1 19 = .ok (.if_icmp .le (57), 3) := by decide +kernel
theorem d_Pt_insert_22 : decode m_Pt_insert.2.1 22 = .ok (.aload_n 0, 1) := by decide +kernel
theorem d_Pt_insert_23 : decode m_Pt_insert.2.1 23 = .ok (.getfield 11, 3) := by decide +kernel
theorem d_Pt_insert_26 : decode m_Pt_insert.2.1 26 = .ok (.iload 5, 2) := by decide +kernel
theorem d_Pt_insert_28 : decode m_Pt_insert.2.1 28 = .ok (.aload_n 0, 1) := by decide +kernel
theorem d_Pt_insert_29 : decode m_Pt_insert.2.1 29 = .ok (.getfield 11, 3) := by decide +kernel
theorem d_Pt_insert_32 : decode m_Pt_insert.2.1 32 = .ok (.iload 5, 2) := by decide +kernel
theorem d_Pt_insert_34 : decode m_Pt_insert.2.1 34 = .ok (.iconst 1, 1) := by decide +kernel
theorem d_Pt_insert_35 : decode m_Pt_insert.2.1 35 = .ok (.isub, 1) := by decide +kernel
theorem d_Pt_insert_36 : decode m_Pt_insert.2.1 36 = .ok (.iaload, 1) := by decide +kernel
theorem d_Pt_insert_37 : decode m_Pt_insert.2.1 37 = .ok (.iastore, 1) := by decide +kernel
theorem d_Pt_insert_38 : decode m_Pt_insert.2.1 38 = .ok (.aload_n 0, 1) := by decide +kernel
theorem d_Pt_insert_39 : decode m_Pt_insert.2.1 39 = .ok (.getfield 15, 3) := by decide +kernel
theorem d_Pt_insert_42 : decode m_Pt_insert.2.1 42 = .ok (.iload 5, 2) := by decide +kernel
theorem d_Pt_insert_44 : decode m_Pt_insert.2.1 44 = .ok (.aload_n 0, 1) := by decide +kernel
theorem d_Pt_insert_45 : decode m_Pt_insert.2.1 45 = .ok (.getfield 15, 3) := by decide +kernel
theorem d_Pt_insert_48 : decode m_Pt_insert.2.1 48 = .ok (.iload 5, 2) := by decide +kernel
theorem d_Pt_insert_50 : decode m_Pt_insert.2.1 50 = .ok (.iconst 1, 1) := by decide +kernel
theorem d_Pt_insert_51 : decode m_Pt_insert.2.1 51 = .ok (.isub, 1) := by decide +kernel
theorem d_Pt_insert_52 : decode m_Pt_insert.2.1 52 = .ok (.iaload, 1) := by decide +kernel
theorem d_Pt_insert_53 : decode m_Pt_insert.2.1 53 = .ok (.iastore, 1) := by decide +kernel
theorem d_Pt_insert_54 : decode m_Pt_insert.2.1 54 = .ok (.aload_n 0, 1) := by decide +kernel
theorem d_Pt_insert_55 : decode m_Pt_insert.2.1 55 = .ok (.getfield 18, 3) := by decide +kernel
theorem d_Pt_insert_58 : decode m_Pt_insert.2.1 58 = .ok (.iload 5, 2) := by decide +kernel
theorem d_Pt_insert_60 : decode m_Pt_insert.2.1 60 = .ok (.aload_n 0, 1) := by decide +kernel
theorem d_Pt_insert_61 : decode m_Pt_insert.2.1 61 = .ok (.getfield 18, 3) := by decide +kernel
theorem d_Pt_insert_64 : decode m_Pt_insert.2.1 64 = .ok (.iload 5, 2) := by decide +kernel
theorem d_Pt_insert_66 : decode m_Pt_insert.2.1 66 = .ok (.iconst 1, 1) := by decide +kernel
theorem d_Pt_insert_67 : decode m_Pt_insert.2.1 67 = .ok (.isub, 1) := by decide +kernel
theorem d_Pt_insert_68 : decode m_Pt_insert.2.1 68 = .ok (.iaload, 1) := by decide +kernel
theorem d_Pt_insert_69 : decode m_Pt_insert.2.1 69 = .ok (.iastore, 1) := by decide +kernel
theorem d_Pt_insert_70 : decode m_Pt_insert.2.1 70 = .ok (.iinc 5 (-1), 3) := by decide +kernel
theorem d_Pt_insert_73 : decode m_Pt_insert.2.1 73 = .ok (.goto (-57), 3) := by decide +kernel
theorem d_Pt_insert_76 : decode m_Pt_insert.2.1 76 = .ok (.aload_n 0, 1) := by decide +kernel
theorem d_Pt_insert_77 : decode m_Pt_insert.2.1 77 = .ok (.getfield 11, 3) := by decide +kernel
theorem d_Pt_insert_80 : decode m_Pt_insert.2.1 80 = .ok (.iload_n 1, 1) := by decide +kernel
theorem d_Pt_insert_81 : decode m_Pt_insert.2.1 81 = .ok (.iload_n 2, 1) := by decide +kernel
theorem d_Pt_insert_82 : decode m_Pt_insert.2.1 82 = .ok (.iastore, 1) := by decide +kernel
theorem d_Pt_insert_83 : decode m_Pt_insert.2.1 83 = .ok (.aload_n 0, 1) := by decide +kernel
theorem d_Pt_insert_84 : decode m_Pt_insert.2.1 84 = .ok (.getfield 15, 3) := by decide +kernel
theorem d_Pt_insert_87 : decode m_Pt_insert.2.1 87 = .ok (.iload_n 1, 1) := by decide +kernel
theorem d_Pt_insert_88 : decode m_Pt_insert.2.1 88 = .ok (.iload_n 3, 1) := by decide +kernel
theorem d_Pt_insert_89 : decode m_Pt_insert.2.1 89 = .ok (.iastore, 1) := by decide +kernel
theorem d_Pt_insert_90 : decode m_Pt_insert.2.1 90 = .ok (.aload_n 0, 1) := by decide +kernel
theorem d_Pt_insert_91 : decode m_Pt_insert.2.1 91 = .ok (.getfield 18, 3) := by decide +kernel
theorem d_Pt_insert_94 : decode m_Pt_insert.2.1 94 = .ok (.iload_n 1, 1) := by decide +kernel
theorem d_Pt_insert_95 : decode m_Pt_insert.2.1 95 = .ok (.iload 4, 2) := by decide +kernel
theorem d_Pt_insert_97 : decode m_Pt_insert.2.1 97 = .ok (.iastore, 1) := by decide +kernel
theorem d_Pt_insert_98 : decode m_Pt_insert.2.1 98 = .ok (.aload_n 0, 1) := by decide +kernel
theorem d_Pt_insert_99 : decode m_Pt_insert.2.1 99 = .ok (.dup, 1) := by decide +kernel
theorem d_Pt_insert_100 : decode m_Pt_insert.2.1 100 = .ok (.getfield 28, 3) := by decide +kernel
theorem d_Pt_insert_103 : decode m_Pt_insert.2.1 103 = .ok (.iconst 1, 1) := by decide +kernel
theorem d_Pt_insert_104 : decode m_Pt_insert.2.1 104 = .ok (.iadd, 1) := by decide +kernel
theorem d_Pt_insert_105 : decode m_Pt_insert.2.1 105 = .ok (.putfield 28, 3) := by decide +kernel
theorem d_Pt_insert_108 : decode m_Pt_insert.2.1 108 = .ok (.return_, 1) := by decide +kernel
theorem d_Pt_append_0 : decode m_Pt_append.2.1 0 = .ok (.aload_n 0, 1) := by decide +kernel
theorem d_Pt_append_1 : decode m_Pt_append.2.1 1 = .ok (.aload_n 0, 1) := by decide +kernel
theorem d_Pt_append_2 : decode m_Pt_append.2.1 2 = .ok (.getfield 28, 3) := by decide +kernel
theorem d_Pt_append_5 : decode m_Pt_append.2.1 5 = .ok (.iload_n 1, 1) := by decide +kernel
theorem d_Pt_append_6 : decode m_Pt_append.2.1 6 = .ok (.iload_n 2, 1) := by decide +kernel
theorem d_Pt_append_7 : decode m_Pt_append.2.1 7 = .ok (.iconst 0, 1) := by decide +kernel
theorem d_Pt_append_8 : decode m_Pt_append.2.1 8 = .ok (.invokevirtual 35, 3) := by decide +kernel
theorem d_Pt_append_11 : decode m_Pt_append.2.1 11 = .ok (.return_, 1) := by decide +kernel
theorem d_Pt_endBranch_0 : decode m_Pt_endBranch.2.1 0 = .ok (.aload_n 0, 1) := by decide +kernel
theorem d_Pt_endBranch_1 : decode m_Pt_endBranch.2.1 1 = .ok (.iload_n 1, 1) := by decide +kernel
theorem d_Pt_endBranch_2 : decode m_Pt_endBranch.2.1 2 = .ok (.bipush (6), 2) := by decide +kernel
theorem d_Pt_endBranch_4 : decode m_Pt_endBranch.2.1 4 = .ok (.iconst 1, 1) := by decide +kernel
theorem d_Pt_endBranch_5 : decode m_Pt_endBranch.2.1 5 = .ok (.aload_n 0, 1) := by decide +kernel
theorem d_Pt_endBranch_6 : decode m_Pt_endBranch.2.1 6 = .ok (.getfield 28, 3) := by decide +kernel
theorem d_Pt_endBranch_9 : decode m_Pt_endBranch.2.1 9 = .ok (.iload_n 1, 1) := by decide +kernel
theorem d_Pt_endBranch_10 : decode m_Pt_endBranch.2.1 10 = .ok (.isub, 1) := by decide +kernel
theorem d_Pt_endBranch_11 : decode m_Pt_endBranch.2.1 11 = .ok (.iconst 2, 1) := by decide +kernel
theorem d_Pt_endBranch_12 : decode m_Pt_endBranch.2.1 12 = .ok (.iadd, 1) := by decide +kernel
theorem d_Pt_endBranch_13 : decode m_Pt_endBranch.2.1 13 = .ok (.invokevirtual 35, 3) := by decide +kernel
theorem d_Pt_endBranch_16 : decode m_Pt_endBranch.2.1 16 = .ok (.aload_n 0, 1) := by decide +kernel
theorem d_Pt_endBranch_17 : decode m_Pt_endBranch.2.1 17 = .ok (.bipush (7), 2) := by decide +kernel
theorem d_Pt_endBranch_19 : decode m_Pt_endBranch.2.1 19 = .ok (.iconst 0, 1) := by decide +kernel
theorem d_Pt_endBranch_20 : decode m_Pt_endBranch.2.1 20 = .ok (.invokevirtual 39, 3) := by decide +kernel
theorem d_Pt_endBranch_23 : decode m_Pt_endBranch.2.1 23 = .ok (.return_, 1) := by decide +kernel
theorem d_Pr_endBranch_0 : decode m_Pr_endBranch.2.1 0 = .ok (.aload_n 1, 1) := by decide +kernel
theorem d_Pr_endBranch_1 : decode m_Pr_endBranch.2.1 1 = .ok (.aload_n 0, 1) := by decide +kernel
theorem d_Pr_endBranch_2 : decode m_Pr_endBranch.2.1 2 = .ok (.getfield 22, 3) := by decide +kernel
theorem d_Pr_endBranch_5 : decode m_Pr_endBranch.2.1 5 = .ok (.aload_n 0, 1) := by decide +kernel
theorem d_Pr_endBranch_6 : decode m_Pr_endBranch.2.1 6 = .ok (.getfield 62, 3) := by decide +kernel
theorem d_Pr_endBranch_9 : decode m_Pr_endBranch.2.1 9 = .ok (.iaload, 1) := by decide +kernel
theorem d_Pr_endBranch_10 : decode m_Pr_endBranch.2.1 10 = .ok (.invokevirtual 107, 3) := by decide +kernel
theorem d_Pr_endBranch_13 : decode m_Pr_endBranch.2.1 13 = .ok (.aload_n 0, 1) := by decide +kernel
theorem d_Pr_endBranch_14 : decode m_Pr_endBranch.2.1 14 = .ok (.getfield 25, 3) := by decide +kernel
theorem d_Pr_endBranch_17 : decode m_Pr_endBranch.2.1 17 = .ok (.aload_n 0, 1) := by decide +kernel
theorem d_Pr_endBranch_18 : decode m_Pr_endBranch.2.1 18 = .ok (.getfield 62, 3) := by decide +kernel
theorem d_Pr_endBranch_21 : decode m_Pr_endBranch.2.1 21 = .ok (.dup2, 1) := by decide +kernel
theorem d_Pr_endBranch_22 : decode m_Pr_endBranch.2.1 22 = .ok (.iaload, 1) := by decide +kernel
theorem d_Pr_endBranch_23 : decode m_Pr_endBranch.2.1 23 = .ok (.iconst 1, 1) := by decide +kernel
theorem d_Pr_endBranch_24 : decode m_Pr_endBranch.2.1 24 = .ok (.iadd, 1) := by decide +kernel
theorem d_Pr_endBranch_25 : decode m_Pr_endBranch.2.1 25 = .ok (.iastore, 1) := by decide +kernel
theorem d_Pr_endBranch_26 : decode m_Pr_endBranch.2.1 26 = .ok (.aload_n 0, 1) := by decide +kernel
theorem d_Pr_endBranch_27 : decode m_Pr_endBranch.2.1 27 = .ok (.getfield 22, 3) := by decide +kernel
theorem d_Pr_endBranch_30 : decode m_Pr_endBranch.2.1 30 = .ok (.aload_n 0, 1) := by decide +kernel
theorem d_Pr_endBranch_31 : decode m_Pr_endBranch.2.1 31 = .ok (.getfield 62, 3) := by decide +kernel
theorem d_Pr_endBranch_34 : decode m_Pr_endBranch.2.1 34 = .ok (.aload_n 1, 1) := by decide +kernel
theorem d_Pr_endBranch_35 : decode m_Pr_endBranch.2.1 35 = .ok (.getfield 95, 3) := by decide +kernel
theorem d_Pr_endBranch_38 : decode m_Pr_endBranch.2.1 38 = .ok (.iastore, 1) := by decide +kernel
theorem d_Pr_endBranch_39 : decode m_Pr_endBranch.2.1 39 = .ok (.aload_n 0, 1) := by decide +kernel
theorem d_Pr_endBranch_40 : decode m_Pr_endBranch.2.1 40 = .ok (.getfield 32, 3) := by decide +kernel
theorem d_Pr_endBranch_43 : decode m_Pr_endBranch.2.1 43 = .ok (.aload_n 0, 1) := by decide +kernel
theorem d_Pr_endBranch_44 : decode m_Pr_endBranch.2.1 44 = .ok (.getfield 62, 3) := by decide +kernel
theorem d_Pr_endBranch_47 : decode m_Pr_endBranch.2.1 47 = .ok (.aload_n 0, 1) := by decide +kernel
theorem d_Pr_endBranch_48 : decode m_Pr_endBranch.2.1 48 = .ok (.getfield 32, 3) := by decide +kernel
theorem d_Pr_endBranch_51 : decode m_Pr_endBranch.2.1 51 = .ok (.aload_n 0, 1) := by decide +kernel
theorem d_Pr_endBranch_52 : decode m_Pr_endBranch.2.1 52 = .ok (.getfield 62, 3) := by decide +kernel
theorem d_Pr_endBranch_55 : decode m_Pr_endBranch.2.1 55 = .ok (.baload, 1) := by decide +kernel
theorem d_Pr_endBranch_56 : decode m_Pr_endBranch.2.1 56 = .ok (.ifCond .ne (15), 3) := by decide +kernel
theorem d_Pr_endBranch_59 : decode m_Pr_endBranch.2.1 59 = .ok (.aload_n 0, 1) := by decide +kernel
theorem d_Pr_endBranch_60 : decode m_Pr_endBranch.2.1 60 = .ok (.getfield 28, 3) := by decide +kernel
theorem d_Pr_endBranch_63 : decode m_Pr_endBranch.2.1 63 = .ok (.aload_n 0, 1) := by decide +kernel
theorem d_Pr_endBranch_64 : decode m_Pr_endBranch.2.1 64 = .ok (.getfield 62, 3) := by decide +kernel
theorem d_Pr_endBranch_67 : decode m_Pr_endBranch.2.1 67 = .ok (.baload, 1) := by decide +kernel
theorem d_Pr_endBranch_68 : decode m_Pr_endBranch.2.1 68 = .ok (.ifCond .eq (7), 3) := by decide +kernel
theorem d_Pr_endBranch_71 : decode m_Pr_endBranch.2.1 71 = .ok (.iconst 1, 1) := by decide +kernel
theorem d_Pr_endBranch_72 : decode m_Pr_endBranch.2.1 72 = .ok (.goto (4), 3) := by decide +kernel
theorem d_Pr_endBranch_75 : decode m_Pr_endBranch.2.1 75 = .ok (.iconst 0, 1) := by decide +kernel
theorem d_Pr_endBranch_76 : decode m_Pr_endBranch.2.1 76 = .ok (.bastore, 1) := by decide +kernel
theorem d_Pr_endBranch_77 : decode m_Pr_endBranch.2.1 77 = .ok (.aload_n 0, 1) := by decide +kernel
theorem d_Pr_endBranch_78 : decode m_Pr_endBranch.2.1 78 = .ok (.getfield 28, 3) := by decide +kernel
theorem d_Pr_endBranch_81 : decode m_Pr_endBranch.2.1 81 = .ok (.aload_n 0, 1) := by decide +kernel
theorem d_Pr_endBranch_82 : decode m_Pr_endBranch.2.1 82 = .ok (.getfield 62, 3) := by decide +kernel
theorem d_Pr_endBranch_85 : decode m_Pr_endBranch.2.1 85 = .ok (.iconst 1, 1) := by decide +kernel
theorem d_Pr_endBranch_86 : decode m_Pr_endBranch.2.1 86 = .ok (.bastore, 1) := by decide +kernel
theorem d_Pr_endBranch_87 : decode m_Pr_endBranch.2.1 87 = .ok (.return_, 1) := by decide +kernel
theorem d_Pr_openGroup_0 : decode m_Pr_openGroup.2.1 0 = .ok (.aload_n 0, 1) := by decide +kernel
theorem d_Pr_openGroup_1 : decode m_Pr_openGroup.2.1 1 = .ok (.getfield 59, 3) := by decide +kernel
theorem d_Pr_openGroup_4 : decode m_Pr_openGroup.2.1 4 = .ok (.iconst 3, 1) := by decide +kernel
theorem d_Pr_openGroup_5 : decode m_Pr_openGroup.2.1 5 = .ok (.if_icmp .ne (9), 3) := by decide +kernel
theorem d_Pr_openGroup_8 : decode m_Pr_openGroup.2.1 8 = .ok (.aload_n 0, 1) := by decide +kernel
theorem d_Pr_openGroup_9 : decode m_Pr_openGroup.2.1 9 = .ok (.iconst 1, 1) := by decide +kernel
theorem d_Pr_openGroup_10 : decode m_Pr_openGroup.2.1 10 = .ok (.putfield 56, 3) := by decide +kernel
theorem d_Pr_openGroup_13 : decode m_Pr_openGroup.2.1 13 = .ok (.return_, 1) := by decide +kernel
theorem d_Pr_openGroup_14 : decode m_Pr_openGroup.2.1 14 = .ok (.aload_n 1, 1) := by decide +kernel
theorem d_Pr_openGroup_15 : decode m_Pr_openGroup.2.1 15 = .ok (.bipush (8), 2) := by decide +kernel
theorem d_Pr_openGroup_17 : decode m_Pr_openGroup.2.1 17 = .ok (.iconst 2, 1) := by decide +kernel
theorem d_Pr_openGroup_18 : decode m_Pr_openGroup.2.1 18 = .ok (.aload_n 0, 1) := by decide +kernel
theorem d_Pr_openGroup_19 : decode m_Pr_openGroup.2.1 19 = .ok (.getfield 59, 3) := by decide +kernel
theorem d_Pr_openGroup_22 : decode m_Pr_openGroup.2.1 22 = .ok (.imul, 1) := by decide +kernel
theorem d_Pr_openGroup_23 : decode m_Pr_openGroup.2.1 23 = .ok (.invokevirtual 82, 3) := by decide +kernel
theorem d_Pr_openGroup_26 : decode m_Pr_openGroup.2.1 26 = .ok (.aload_n 0, 1) := by decide +kernel
theorem d_Pr_openGroup_27 : decode m_Pr_openGroup.2.1 27 = .ok (.dup, 1) := by decide +kernel
theorem d_Pr_openGroup_28 : decode m_Pr_openGroup.2.1 28 = .ok (.getfield 59, 3) := by decide +kernel
theorem d_Pr_openGroup_31 : decode m_Pr_openGroup.2.1 31 = .ok (.iconst 1, 1) := by decide +kernel
theorem d_Pr_openGroup_32 : decode m_Pr_openGroup.2.1 32 = .ok (.iadd, 1) := by decide +kernel
theorem d_Pr_openGroup_33 : decode m_Pr_openGroup.2.1 33 = .ok (.putfield 59, 3) := by decide +kernel
theorem d_Pr_openGroup_36 : decode m_Pr_openGroup.2.1 36 = .ok (.aload_n 0, 1) := by decide +kernel
theorem d_Pr_openGroup_37 : decode m_Pr_openGroup.2.1 37 = .ok (.dup, 1) := by decide +kernel
theorem d_Pr_openGroup_38 : decode m_Pr_openGroup.2.1 38 = .ok (.getfield 62, 3) := by decide +kernel
theorem d_Pr_openGroup_41 : decode m_Pr_openGroup.2.1 41 = .ok (.iconst 1, 1) := by decide +kernel
theorem d_Pr_openGroup_42 : decode m_Pr_openGroup.2.1 42 = .ok (.iadd, 1) := by decide +kernel
theorem d_Pr_openGroup_43 : decode m_Pr_openGroup.2.1 43 = .ok (.putfield 62, 3) := by decide +kernel
theorem d_Pr_openGroup_46 : decode m_Pr_openGroup.2.1 46 = .ok (.aload_n 0, 1) := by decide +kernel
theorem d_Pr_openGroup_47 : decode m_Pr_openGroup.2.1 47 = .ok (.getfield 15, 3) := by decide +kernel
theorem d_Pr_openGroup_50 : decode m_Pr_openGroup.2.1 50 = .ok (.aload_n 0, 1) := by decide +kernel
theorem d_Pr_openGroup_51 : decode m_Pr_openGroup.2.1 51 = .ok (.getfield 62, 3) := by decide +kernel
theorem d_Pr_openGroup_54 : decode m_Pr_openGroup.2.1 54 = .ok (.aload_n 0, 1) := by decide +kernel
theorem d_Pr_openGroup_55 : decode m_Pr_openGroup.2.1 55 = .ok (.getfield 59, 3) := by decide +kernel
theorem d_Pr_openGroup_58 : decode m_Pr_openGroup.2.1 58 = .ok (.iastore, 1) := by decide +kernel
theorem d_Pr_openGroup_59 : decode m_Pr_openGroup.2.1 59 = .ok (.aload_n 0, 1) := by decide +kernel
theorem d_Pr_openGroup_60 : decode m_Pr_openGroup.2.1 60 = .ok (.aload_n 1, 1) := by decide +kernel
theorem d_Pr_openGroup_61 : decode m_Pr_openGroup.2.1 61 = .ok (.getfield 95, 3) := by decide +kernel
theorem d_Pr_openGroup_64 : decode m_Pr_openGroup.2.1 64 = .ok (.invokevirtual 70, 3) := by decide +kernel
theorem d_Pr_openGroup_67 : decode m_Pr_openGroup.2.1 67 = .ok (.return_, 1) := by decide +kernel
theorem d_Pt_joinBranches_0 : decode m_Pt_joinBranches.2.1 0 = .ok (.iload_n 1, 1) := by decide +kernel
theorem d_Pt_joinBranches_1 : decode m_Pt_joinBranches.2.1 1 = .ok (.istore_n 3, 1) := by decide +kernel
theorem d_Pt_joinBranches_2 : decode m_Pt_joinBranches.2.1 2 = .ok (.iconst 0, 1) := by decide +kernel
theorem d_Pt_joinBranches_3 : decode m_Pt_joinBranches.2.1 3 = .ok (.istore 4, 2) := by decide +kernel
theorem d_Pt_joinBranches_5 : decode m_Pt_joinBranches.2.1 5 = .ok (.iload 4, 2) := by decide +kernel
theorem d_Pt_joinBranches_7 : decode m_Pt_joinBranches.2.1 7 = .ok (.iload_n 2, 1) := by decide +kernel
theorem d_Pt_joinBranches_8 : decode m_Pt_joinBranches.2.1 8 = .ok (.if_icmp .ge (40), 3) := by decide +kernel
theorem d_Pt_joinBranches_11 : decode m_Pt_joinBranches.2.1 11 = .ok (.iload_n 3, 1) := by decide +kernel
theorem d_Pt_joinBranches_12 : decode m_Pt_joinBranches.2.1 12 = .ok (.aload_n 0, 1) := by decide +kernel
theorem d_Pt_joinBranches_13 : decode m_Pt_joinBranches.2.1 13 = .ok (.getfield 18, 3) := by decide +kernel
theorem d_Pt_joinBranches_16 : decode m_Pt_joinBranches.2.1 16 = .ok (.iload_n 3, 1) := by decide +kernel
theorem d_Pt_joinBranches_17 : decode m_Pt_joinBranches.2.1 17 = .ok (.iaload, 1) := by decide +kernel
theorem d_Pt_joinBranches_18 : decode m_Pt_joinBranches.2.1 18 = .ok (.iadd, 1) := by decide +kernel
theorem d_Pt_joinBranches_19 : decode m_Pt_joinBranches.2.1 19 = .ok (.istore 5, 2) := by decide +kernel
theorem d_Pt_joinBranches_21 : decode m_Pt_joinBranches.2.1 21 = .ok (.aload_n 0, 1) := by decide +kernel
theorem d_Pt_joinBranches_22 : decode m_Pt_joinBranches.2.1 22 = .ok (.getfield 15, 3) := by decide +kernel
theorem d_Pt_joinBranches_25 : decode m_Pt_joinBranches.2.1 25 = .ok (.iload 5, 2) := by decide +kernel
theorem d_Pt_joinBranches_27 : decode m_Pt_joinBranches.2.1 27 = .ok (.iconst 1, 1) := by decide +kernel
theorem d_Pt_joinBranches_28 : decode m_Pt_joinBranches.2.1 28 = .ok (.isub, 1) := by decide +kernel
theorem d_Pt_joinBranches_29 : decode m_Pt_joinBranches.2.1 29 = .ok (.aload_n 0, 1) := by decide +kernel
theorem d_Pt_joinBranches_30 : decode m_Pt_joinBranches.2.1 30 = .ok (.getfield 28, 3) := by decide +kernel
theorem d_Pt_joinBranches_33 : decode m_Pt_joinBranches.2.1 33 = .ok (.iload 5, 2) := by decide +kernel
theorem d_Pt_joinBranches_35 : decode m_Pt_joinBranches.2.1 35 = .ok (.iconst 1, 1) := by decide +kernel
theorem d_Pt_joinBranches_36 : decode m_Pt_joinBranches.2.1 36 = .ok (.isub, 1) := by decide +kernel
theorem d_Pt_joinBranches_37 : decode m_Pt_joinBranches.2.1 37 = .ok (.isub, 1) := by decide +kernel
theorem d_Pt_joinBranches_38 : decode m_Pt_joinBranches.2.1 38 = .ok (.iastore, 1) := by decide +kernel
theorem d_Pt_joinBranches_39 : decode m_Pt_joinBranches.2.1 39 = .ok (.iload 5, 2) := by decide +kernel
theorem d_Pt_joinBranches_41 : decode m_Pt_joinBranches.2.1 41 = .ok (.istore_n 3, 1) := by decide +kernel
theorem d_Pt_joinBranches_42 : decode m_Pt_joinBranches.2.1 42 = .ok (.iinc 4 (1), 3) := by decide +kernel
theorem d_Pt_joinBranches_45 : decode m_Pt_joinBranches.2.1 45 = .ok (.goto (-40), 3) := by decide +kernel
theorem d_Pt_joinBranches_48 : decode m_Pt_joinBranches.2.1 48 = .ok (.return_, 1) := by decide +kernel
theorem d_Pr_closeLevel_0 : decode m_Pr_closeLevel.2.1 0 = .ok (.aload_n 1, 1) := by decide +kernel
theorem d_Pr_closeLevel_1 : decode m_Pr_closeLevel.2.1 1 = .ok (.aload_n 0, 1) := by decide +kernel
theorem d_Pr_closeLevel_2 : decode m_Pr_closeLevel.2.1 2 = .ok (.getfield 19, 3) := by decide +kernel
theorem d_Pr_closeLevel_5 : decode m_Pr_closeLevel.2.1 5 = .ok (.aload_n 0, 1) := by decide +kernel
theorem d_Pr_closeLevel_6 : decode m_Pr_closeLevel.2.1 6 = .ok (.getfield 62, 3) := by decide +kernel
theorem d_Pr_closeLevel_9 : decode m_Pr_closeLevel.2.1 9 = .ok (.iaload, 1) := by decide +kernel
theorem d_Pr_closeLevel_10 : decode m_Pr_closeLevel.2.1 10 = .ok (.aload_n 0, 1) := by decide +kernel
theorem d_Pr_closeLevel_11 : decode m_Pr_closeLevel.2.1 11 = .ok (.getfield 25, 3) := by decide +kernel
theorem d_Pr_closeLevel_14 : decode m_Pr_closeLevel.2.1 14 = .ok (.aload_n 0, 1) := by decide +kernel
theorem d_Pr_closeLevel_15 : decode m_Pr_closeLevel.2.1 15 = .ok (.getfield 62, 3) := by decide +kernel
theorem d_Pr_closeLevel_18 : decode m_Pr_closeLevel.2.1 18 = .ok (.iaload, 1) := by decide +kernel
theorem d_Pr_closeLevel_19 : decode m_Pr_closeLevel.2.1 19 = .ok (.invokevirtual 104, 3) := by decide +kernel
theorem d_Pr_closeLevel_22 : decode m_Pr_closeLevel.2.1 22 = .ok (.aload_n 0, 1) := by decide +kernel
theorem d_Pr_closeLevel_23 : decode m_Pr_closeLevel.2.1 23 = .ok (.getfield 32, 3) := by decide +kernel
theorem d_Pr_closeLevel_26 : decode m_Pr_closeLevel.2.1 26 = .ok (.aload_n 0, 1) := by decide +kernel
theorem d_Pr_closeLevel_27 : decode m_Pr_closeLevel.2.1 27 = .ok (.getfield 62, 3) := by decide +kernel
theorem d_Pr_closeLevel_30 : decode m_Pr_closeLevel.2.1 30 = .ok (.baload, 1) := by decide +kernel
theorem d_Pr_closeLevel_31 : decode m_Pr_closeLevel.2.1 31 = .ok (.ifCond .ne (15), 3) := by decide +kernel
theorem d_Pr_closeLevel_34 : decode m_Pr_closeLevel.2.1 34 = .ok (.aload_n 0, 1) := by decide +kernel
theorem d_Pr_closeLevel_35 : decode m_Pr_closeLevel.2.1 35 = .ok (.getfield 28, 3) := by decide +kernel
theorem d_Pr_closeLevel_38 : decode m_Pr_closeLevel.2.1 38 = .ok (.aload_n 0, 1) := by decide +kernel
theorem d_Pr_closeLevel_39 : decode m_Pr_closeLevel.2.1 39 = .ok (.getfield 62, 3) := by decide +kernel
theorem d_Pr_closeLevel_42 : decode m_Pr_closeLevel.2.1 42 = .ok (.baload, 1) := by decide +kernel
theorem d_Pr_closeLevel_43 : decode m_Pr_closeLevel.2.1 43 = .ok (.ifCond .eq (7), 3) := by decide +kernel
theorem d_Pr_closeLevel_46 : decode m_Pr_closeLevel.2.1 46 = .ok (.iconst 1, 1) := by decide +kernel
theorem d_Pr_closeLevel_47 : decode m_Pr_closeLevel.2.1 47 = .ok (.goto (4), 3) := by decide +kernel
theorem d_Pr_closeLevel_50 : decode m_Pr_closeLevel.2.1 50 = .ok (.iconst 0, 1) := by decide +kernel
theorem d_Pr_closeLevel_51 : decode m_Pr_closeLevel.2.1 51 = .ok (.ireturn, 1) := by decide +kernel
theorem d_Pt_insertSplit_0 : decode m_Pt_insertSplit.2.1 0 = .ok (.aload_n 0, 1) := by decide +kernel
theorem d_Pt_insertSplit_1 : decode m_Pt_insertSplit.2.1 1 = .ok (.iload_n 1, 1) := by decide +kernel
theorem d_Pt_insertSplit_2 : decode m_Pt_insertSplit.2.1 2 = .ok (.bipush (6), 2) := by decide +kernel
theorem d_Pt_insertSplit_4 : decode m_Pt_insertSplit.2.1 4 = .ok (.iload 4, 2) := by decide +kernel
theorem d_Pt_insertSplit_6 : decode m_Pt_insertSplit.2.1 6 = .ok (.ifCond .eq (7), 3) := by decide +kernel
theorem d_Pt_insertSplit_9 : decode m_Pt_insertSplit.2.1 9 = .ok (.iload_n 3, 1) := by decide +kernel
theorem d_Pt_insertSplit_10 : decode m_Pt_insertSplit.2.1 10 = .ok (.goto (4), 3) := by decide +kernel
theorem d_Pt_insertSplit_13 : decode m_Pt_insertSplit.2.1 13 = .ok (.iload_n 2, 1) := by decide +kernel
theorem d_Pt_insertSplit_14 : decode m_Pt_insertSplit.2.1 14 = .ok (.iload 4, 2) := by decide +kernel
theorem d_Pt_insertSplit_16 : decode m_Pt_insertSplit.2.1 16 = .ok (.ifCond .eq (7), 3) := by decide +kernel
theorem d_Pt_insertSplit_19 : decode m_Pt_insertSplit.2.1 19 = .ok (.iload_n 2, 1) := by decide +kernel
theorem d_Pt_insertSplit_20 : decode m_Pt_insertSplit.2.1 20 = .ok (.goto (4), 3) := by decide +kernel
theorem d_Pt_insertSplit_23 : decode m_Pt_insertSplit.2.1 23 = .ok (.iload_n 3, 1) := by decide +kernel
theorem d_Pt_insertSplit_24 : decode m_Pt_insertSplit.2.1 24 = .ok (.invokevirtual 35, 3) := by decide +kernel
theorem d_Pt_insertSplit_27 : decode m_Pt_insertSplit.2.1 27 = .ok (.return_, 1) := by decide +kernel
