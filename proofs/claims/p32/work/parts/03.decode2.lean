theorem dX9_init_20 : decode cX9_init 20 = .ok (.invokespecial 20, 3) := by decide +kernel
theorem dX9_init_23 : decode cX9_init 23 = .ok (.putfield 21, 3) := by decide +kernel
theorem dX9_init_26 : decode cX9_init 26 = .ok (.aload_n 0, 1) := by decide +kernel
theorem dX9_init_27 : decode cX9_init 27 = .ok (.iconst 4, 1) := by decide +kernel
theorem dX9_init_28 : decode cX9_init 28 = .ok (.newarray .int, 2) := by decide +kernel
theorem dX9_init_30 : decode cX9_init 30 = .ok (.putfield 25, 3) := by decide +kernel
theorem dX9_init_33 : decode cX9_init 33 = .ok (.aload_n 0, 1) := by decide +kernel
theorem dX9_init_34 : decode cX9_init 34 = .ok (.new 29, 3) := by decide +kernel
theorem dX9_init_37 : decode cX9_init 37 = .ok (.dup, 1) := by decide +kernel
theorem dX9_init_38 : decode cX9_init 38 = .ok (.invokespecial 31, 3) := by decide +kernel
theorem dX9_init_41 : decode cX9_init 41 = .ok (.putfield 32, 3) := by decide +kernel
theorem dX9_init_44 : decode cX9_init 44 = .ok (.aload_n 0, 1) := by decide +kernel
theorem dX9_init_45 : decode cX9_init 45 = .ok (.new 29, 3) := by decide +kernel
theorem dX9_init_48 : decode cX9_init 48 = .ok (.dup, 1) := by decide +kernel
theorem dX9_init_49 : decode cX9_init 49 = .ok (.invokespecial 31, 3) := by decide +kernel
theorem dX9_init_52 : decode cX9_init 52 = .ok (.putfield 36, 3) := by decide +kernel
theorem dX9_init_55 : decode cX9_init 55 = .ok (.return_, 1) := by decide +kernel
theorem dX9_tell_0 : decode cX9_tell 0 = .ok (.aload_n 0, 1) := by decide +kernel
theorem dX9_tell_1 : decode cX9_tell 1 = .ok (.getfield 21, 3) := by decide +kernel
theorem dX9_tell_4 : decode cX9_tell 4 = .ok (.invokeinterface 39 1, 5) := by decide +kernel
theorem dX9_tell_9 : decode cX9_tell 9 = .ok (.istore 5, 2) := by decide +kernel
theorem dX9_tell_11 : decode cX9_tell 11 = .ok (.iload_n 3, 1) := by decide +kernel
theorem dX9_tell_12 : decode cX9_tell 12 = .ok (.iconst 1, 1) := by decide +kernel
theorem dX9_tell_13 : decode cX9_tell 13 = .ok (.aload_n 0, 1) := by decide +kernel
theorem dX9_tell_14 : decode cX9_tell 14 = .ok (.getfield 25, 3) := by decide +kernel
theorem dX9_tell_17 : decode cX9_tell 17 = .ok (.iload_n 1, 1) := by decide +kernel
theorem dX9_tell_18 : decode cX9_tell 18 = .ok (.bipush 6, 2) := by decide +kernel
theorem dX9_tell_20 : decode cX9_tell 20 = .ok (.idiv, 1) := by decide +kernel
theorem dX9_tell_21 : decode cX9_tell 21 = .ok (.iaload, 1) := by decide +kernel
theorem dX9_tell_22 : decode cX9_tell 22 = .ok (.invokestatic 45, 3) := by decide +kernel
theorem dX9_tell_25 : decode cX9_tell 25 = .ok (.iadd, 1) := by decide +kernel
theorem dX9_tell_26 : decode cX9_tell 26 = .ok (.istore 6, 2) := by decide +kernel
theorem dX9_tell_28 : decode cX9_tell 28 = .ok (.aload_n 0, 1) := by decide +kernel
theorem dX9_tell_29 : decode cX9_tell 29 = .ok (.getfield 21, 3) := by decide +kernel
theorem dX9_tell_32 : decode cX9_tell 32 = .ok (.new 51, 3) := by decide +kernel
theorem dX9_tell_35 : decode cX9_tell 35 = .ok (.dup, 1) := by decide +kernel
theorem dX9_tell_36 : decode cX9_tell 36 = .ok (.iload 5, 2) := by decide +kernel
theorem dX9_tell_38 : decode cX9_tell 38 = .ok (.iload_n 1, 1) := by decide +kernel
theorem dX9_tell_39 : decode cX9_tell 39 = .ok (.iload_n 2, 1) := by decide +kernel
theorem dX9_tell_40 : decode cX9_tell 40 = .ok (.iload_n 3, 1) := by decide +kernel
theorem dX9_tell_41 : decode cX9_tell 41 = .ok (.iload 6, 2) := by decide +kernel
theorem dX9_tell_43 : decode cX9_tell 43 = .ok (.aload 4, 2) := by decide +kernel
theorem dX9_tell_45 : decode cX9_tell 45 = .ok (.invokespecial 53, 3) := by decide +kernel
theorem dX9_tell_48 : decode cX9_tell 48 = .ok (.invokeinterface 56 2, 5) := by decide +kernel
theorem dX9_tell_53 : decode cX9_tell 53 = .ok (.pop, 1) := by decide +kernel
theorem dX9_tell_54 : decode cX9_tell 54 = .ok (.iload 5, 2) := by decide +kernel
theorem dX9_tell_56 : decode cX9_tell 56 = .ok (.ireturn, 1) := by decide +kernel
theorem dX9_countOf_0 : decode cX9_countOf 0 = .ok (.iconst 0, 1) := by decide +kernel
theorem dX9_countOf_1 : decode cX9_countOf 1 = .ok (.istore_n 2, 1) := by decide +kernel
theorem dX9_countOf_2 : decode cX9_countOf 2 = .ok (.iconst 0, 1) := by decide +kernel
theorem dX9_countOf_3 : decode cX9_countOf 3 = .ok (.istore_n 3, 1) := by decide +kernel
theorem dX9_countOf_4 : decode cX9_countOf 4 = .ok (.iload_n 3, 1) := by decide +kernel
theorem dX9_countOf_5 : decode cX9_countOf 5 = .ok (.aload_n 0, 1) := by decide +kernel
theorem dX9_countOf_6 : decode cX9_countOf 6 = .ok (.getfield 21, 3) := by decide +kernel
theorem dX9_countOf_9 : decode cX9_countOf 9 = .ok (.invokeinterface 39 1, 5) := by decide +kernel
theorem dX9_countOf_14 : decode cX9_countOf 14 = .ok (.if_icmp .ge 32, 3) := by decide +kernel
theorem dX9_countOf_17 : decode cX9_countOf 17 = .ok (.aload_n 0, 1) := by decide +kernel
theorem dX9_countOf_18 : decode cX9_countOf 18 = .ok (.getfield 21, 3) := by decide +kernel
theorem dX9_countOf_21 : decode cX9_countOf 21 = .ok (.iload_n 3, 1) := by decide +kernel
theorem dX9_countOf_22 : decode cX9_countOf 22 = .ok (.invokeinterface 60 2, 5) := by decide +kernel
theorem dX9_countOf_27 : decode cX9_countOf 27 = .ok (.checkcast 51, 3) := by decide +kernel
theorem dX9_countOf_30 : decode cX9_countOf 30 = .ok (.getfield 64, 3) := by decide +kernel
theorem dX9_countOf_33 : decode cX9_countOf 33 = .ok (.iload_n 1, 1) := by decide +kernel
theorem dX9_countOf_34 : decode cX9_countOf 34 = .ok (.if_icmp .ne 6, 3) := by decide +kernel
theorem dX9_countOf_37 : decode cX9_countOf 37 = .ok (.iinc 2 1, 3) := by decide +kernel
theorem dX9_countOf_40 : decode cX9_countOf 40 = .ok (.iinc 3 1, 3) := by decide +kernel
theorem dX9_countOf_43 : decode cX9_countOf 43 = .ok (.goto (-39), 3) := by decide +kernel
theorem dX9_countOf_46 : decode cX9_countOf 46 = .ok (.iload_n 2, 1) := by decide +kernel
theorem dX9_countOf_47 : decode cX9_countOf 47 = .ok (.ireturn, 1) := by decide +kernel
theorem dX9_placed_0 : decode cX9_placed 0 = .ok (.iconst 0, 1) := by decide +kernel
theorem dX9_placed_1 : decode cX9_placed 1 = .ok (.istore_n 3, 1) := by decide +kernel
theorem dX9_placed_2 : decode cX9_placed 2 = .ok (.iconst 0, 1) := by decide +kernel
theorem dX9_placed_3 : decode cX9_placed 3 = .ok (.istore 4, 2) := by decide +kernel
theorem dX9_placed_5 : decode cX9_placed 5 = .ok (.iload 4, 2) := by decide +kernel
theorem dX9_placed_7 : decode cX9_placed 7 = .ok (.aload_n 0, 1) := by decide +kernel
theorem dX9_placed_8 : decode cX9_placed 8 = .ok (.getfield 21, 3) := by decide +kernel
theorem dX9_placed_11 : decode cX9_placed 11 = .ok (.invokeinterface 39 1, 5) := by decide +kernel
theorem dX9_placed_16 : decode cX9_placed 16 = .ok (.if_icmp .ge 45, 3) := by decide +kernel
theorem dX9_placed_19 : decode cX9_placed 19 = .ok (.aload_n 0, 1) := by decide +kernel
theorem dX9_placed_20 : decode cX9_placed 20 = .ok (.getfield 21, 3) := by decide +kernel
theorem dX9_placed_23 : decode cX9_placed 23 = .ok (.iload 4, 2) := by decide +kernel
theorem dX9_placed_25 : decode cX9_placed 25 = .ok (.invokeinterface 60 2, 5) := by decide +kernel
theorem dX9_placed_30 : decode cX9_placed 30 = .ok (.checkcast 51, 3) := by decide +kernel
theorem dX9_placed_33 : decode cX9_placed 33 = .ok (.astore 5, 2) := by decide +kernel
theorem dX9_placed_35 : decode cX9_placed 35 = .ok (.aload 5, 2) := by decide +kernel
theorem dX9_placed_37 : decode cX9_placed 37 = .ok (.getfield 64, 3) := by decide +kernel
theorem dX9_placed_40 : decode cX9_placed 40 = .ok (.iload_n 1, 1) := by decide +kernel
theorem dX9_placed_41 : decode cX9_placed 41 = .ok (.if_icmp .ne 14, 3) := by decide +kernel
theorem dX9_placed_44 : decode cX9_placed 44 = .ok (.iload_n 3, 1) := by decide +kernel
theorem dX9_placed_45 : decode cX9_placed 45 = .ok (.iload_n 2, 1) := by decide +kernel
theorem dX9_placed_46 : decode cX9_placed 46 = .ok (.if_icmp .ne 6, 3) := by decide +kernel
theorem dX9_placed_49 : decode cX9_placed 49 = .ok (.aload 5, 2) := by decide +kernel
theorem dX9_placed_51 : decode cX9_placed 51 = .ok (.areturn, 1) := by decide +kernel
theorem dX9_placed_52 : decode cX9_placed 52 = .ok (.iinc 3 1, 3) := by decide +kernel
theorem dX9_placed_55 : decode cX9_placed 55 = .ok (.iinc 4 1, 3) := by decide +kernel
theorem dX9_placed_58 : decode cX9_placed 58 = .ok (.goto (-53), 3) := by decide +kernel
theorem dX9_placed_61 : decode cX9_placed 61 = .ok (.aconst_null, 1) := by decide +kernel
theorem dX9_placed_62 : decode cX9_placed 62 = .ok (.areturn, 1) := by decide +kernel
theorem dX9_counting_0 : decode cX9_counting 0 = .ok (.aload_n 0, 1) := by decide +kernel
theorem dX9_counting_1 : decode cX9_counting 1 = .ok (.getfield 21, 3) := by decide +kernel
theorem dX9_counting_4 : decode cX9_counting 4 = .ok (.invokeinterface 39 1, 5) := by decide +kernel
theorem dX9_counting_9 : decode cX9_counting 9 = .ok (.iconst 1, 1) := by decide +kernel
theorem dX9_counting_10 : decode cX9_counting 10 = .ok (.isub, 1) := by decide +kernel
theorem dX9_counting_11 : decode cX9_counting 11 = .ok (.istore_n 3, 1) := by decide +kernel
theorem dX9_counting_12 : decode cX9_counting 12 = .ok (.iload_n 3, 1) := by decide +kernel
theorem dX9_counting_13 : decode cX9_counting 13 = .ok (.ifCond .lt 45, 3) := by decide +kernel
theorem dX9_counting_16 : decode cX9_counting 16 = .ok (.aload_n 0, 1) := by decide +kernel
theorem dX9_counting_17 : decode cX9_counting 17 = .ok (.getfield 21, 3) := by decide +kernel
theorem dX9_counting_20 : decode cX9_counting 20 = .ok (.iload_n 3, 1) := by decide +kernel
theorem dX9_counting_21 : decode cX9_counting 21 = .ok (.invokeinterface 60 2, 5) := by decide +kernel
theorem dX9_counting_26 : decode cX9_counting 26 = .ok (.checkcast 51, 3) := by decide +kernel
theorem dX9_counting_29 : decode cX9_counting 29 = .ok (.astore 4, 2) := by decide +kernel
theorem dX9_counting_31 : decode cX9_counting 31 = .ok (.aload 4, 2) := by decide +kernel
theorem dX9_counting_33 : decode cX9_counting 33 = .ok (.getfield 64, 3) := by decide +kernel
theorem dX9_counting_36 : decode cX9_counting 36 = .ok (.iload_n 1, 1) := by decide +kernel
theorem dX9_counting_37 : decode cX9_counting 37 = .ok (.if_icmp .ne 15, 3) := by decide +kernel
theorem dX9_counting_40 : decode cX9_counting 40 = .ok (.aload 4, 2) := by decide +kernel
theorem dX9_counting_42 : decode cX9_counting 42 = .ok (.iload_n 2, 1) := by decide +kernel
theorem dX9_counting_43 : decode cX9_counting 43 = .ok (.invokevirtual 68, 3) := by decide +kernel
theorem dX9_counting_46 : decode cX9_counting 46 = .ok (.ifCond .eq 6, 3) := by decide +kernel
theorem dX9_counting_49 : decode cX9_counting 49 = .ok (.aload 4, 2) := by decide +kernel
theorem dX9_counting_51 : decode cX9_counting 51 = .ok (.areturn, 1) := by decide +kernel
theorem dX9_counting_52 : decode cX9_counting 52 = .ok (.iinc 3 (-1), 3) := by decide +kernel
theorem dX9_counting_55 : decode cX9_counting 55 = .ok (.goto (-43), 3) := by decide +kernel
theorem dX9_counting_58 : decode cX9_counting 58 = .ok (.aconst_null, 1) := by decide +kernel
theorem dX9_counting_59 : decode cX9_counting 59 = .ok (.areturn, 1) := by decide +kernel
theorem dX10_init_0 : decode cX10_init 0 = .ok (.aload_n 0, 1) := by decide +kernel
theorem dX10_init_1 : decode cX10_init 1 = .ok (.invokespecial 1, 3) := by decide +kernel
theorem dX10_init_4 : decode cX10_init 4 = .ok (.aload_n 0, 1) := by decide +kernel
theorem dX10_init_5 : decode cX10_init 5 = .ok (.new 7, 3) := by decide +kernel
theorem dX10_init_8 : decode cX10_init 8 = .ok (.dup, 1) := by decide +kernel
theorem dX10_init_9 : decode cX10_init 9 = .ok (.invokespecial 9, 3) := by decide +kernel
theorem dX10_init_12 : decode cX10_init 12 = .ok (.putfield 10, 3) := by decide +kernel
theorem dX10_init_15 : decode cX10_init 15 = .ok (.aload_n 0, 1) := by decide +kernel
theorem dX10_init_16 : decode cX10_init 16 = .ok (.new 16, 3) := by decide +kernel
theorem dX10_init_19 : decode cX10_init 19 = .ok (.dup, 1) := by decide +kernel
theorem dX10_init_20 : decode cX10_init 20 = .ok (.invokespecial 18, 3) := by decide +kernel
theorem dX10_init_23 : decode cX10_init 23 = .ok (.putfield 19, 3) := by decide +kernel
theorem dX10_init_26 : decode cX10_init 26 = .ok (.aload_n 0, 1) := by decide +kernel
theorem dX10_init_27 : decode cX10_init 27 = .ok (.new 23, 3) := by decide +kernel
theorem dX10_init_30 : decode cX10_init 30 = .ok (.dup, 1) := by decide +kernel
theorem dX10_init_31 : decode cX10_init 31 = .ok (.aload_n 0, 1) := by decide +kernel
theorem dX10_init_32 : decode cX10_init 32 = .ok (.getfield 10, 3) := by decide +kernel
theorem dX10_init_35 : decode cX10_init 35 = .ok (.aload_n 0, 1) := by decide +kernel
theorem dX10_init_36 : decode cX10_init 36 = .ok (.getfield 19, 3) := by decide +kernel
theorem dX10_init_39 : decode cX10_init 39 = .ok (.invokespecial 25, 3) := by decide +kernel
theorem dX10_init_42 : decode cX10_init 42 = .ok (.putfield 28, 3) := by decide +kernel
theorem dX10_init_45 : decode cX10_init 45 = .ok (.aload_n 0, 1) := by decide +kernel
theorem dX10_init_46 : decode cX10_init 46 = .ok (.new 32, 3) := by decide +kernel
theorem dX10_init_49 : decode cX10_init 49 = .ok (.dup, 1) := by decide +kernel
theorem dX10_init_50 : decode cX10_init 50 = .ok (.aload_n 0, 1) := by decide +kernel
theorem dX10_init_51 : decode cX10_init 51 = .ok (.getfield 19, 3) := by decide +kernel
theorem dX10_init_54 : decode cX10_init 54 = .ok (.aload_n 0, 1) := by decide +kernel
theorem dX10_init_55 : decode cX10_init 55 = .ok (.getfield 28, 3) := by decide +kernel
theorem dX10_init_58 : decode cX10_init 58 = .ok (.invokespecial 34, 3) := by decide +kernel
theorem dX10_init_61 : decode cX10_init 61 = .ok (.putfield 37, 3) := by decide +kernel
theorem dX10_init_64 : decode cX10_init 64 = .ok (.aload_n 0, 1) := by decide +kernel
theorem dX10_init_65 : decode cX10_init 65 = .ok (.new 41, 3) := by decide +kernel
theorem dX10_init_68 : decode cX10_init 68 = .ok (.dup, 1) := by decide +kernel
theorem dX10_init_69 : decode cX10_init 69 = .ok (.aload_n 0, 1) := by decide +kernel
theorem dX10_init_70 : decode cX10_init 70 = .ok (.getfield 19, 3) := by decide +kernel
theorem dX10_init_73 : decode cX10_init 73 = .ok (.invokespecial 43, 3) := by decide +kernel
theorem dX10_init_76 : decode cX10_init 76 = .ok (.putfield 46, 3) := by decide +kernel
theorem dX10_init_79 : decode cX10_init 79 = .ok (.aload_n 0, 1) := by decide +kernel
theorem dX10_init_80 : decode cX10_init 80 = .ok (.iconst 0, 1) := by decide +kernel
theorem dX10_init_81 : decode cX10_init 81 = .ok (.putfield 50, 3) := by decide +kernel
theorem dX10_init_84 : decode cX10_init 84 = .ok (.return_, 1) := by decide +kernel
theorem dX10_give_0 : decode cX10_give 0 = .ok (.iload_n 1, 1) := by decide +kernel
theorem dX10_give_1 : decode cX10_give 1 = .ok (.invokestatic 54, 3) := by decide +kernel
theorem dX10_give_4 : decode cX10_give 4 = .ok (.iload 4, 2) := by decide +kernel
theorem dX10_give_6 : decode cX10_give 6 = .ok (.invokestatic 54, 3) := by decide +kernel
theorem dX10_give_9 : decode cX10_give 9 = .ok (.iload_n 2, 1) := by decide +kernel
theorem dX10_give_10 : decode cX10_give 10 = .ok (.iload_n 3, 1) := by decide +kernel
theorem dX10_give_11 : decode cX10_give 11 = .ok (.invokestatic 58, 3) := by decide +kernel
theorem dX10_give_14 : decode cX10_give 14 = .ok (.istore 5, 2) := by decide +kernel
theorem dX10_give_16 : decode cX10_give 16 = .ok (.aload_n 0, 1) := by decide +kernel
theorem dX10_give_17 : decode cX10_give 17 = .ok (.iload_n 1, 1) := by decide +kernel
theorem dX10_give_18 : decode cX10_give 18 = .ok (.iload 5, 2) := by decide +kernel
theorem dX10_give_20 : decode cX10_give 20 = .ok (.invokevirtual 62, 3) := by decide +kernel
theorem dX10_give_23 : decode cX10_give 23 = .ok (.aload_n 0, 1) := by decide +kernel
theorem dX10_give_24 : decode cX10_give 24 = .ok (.getfield 10, 3) := by decide +kernel
theorem dX10_give_27 : decode cX10_give 27 = .ok (.getfield 66, 3) := by decide +kernel
theorem dX10_give_30 : decode cX10_give 30 = .ok (.getfield 70, 3) := by decide +kernel
theorem dX10_give_33 : decode cX10_give 33 = .ok (.iload 5, 2) := by decide +kernel
theorem dX10_give_35 : decode cX10_give 35 = .ok (.iload 4, 2) := by decide +kernel
theorem dX10_give_37 : decode cX10_give 37 = .ok (.iastore, 1) := by decide +kernel
theorem dX10_give_38 : decode cX10_give 38 = .ok (.aload_n 0, 1) := by decide +kernel
theorem dX10_give_39 : decode cX10_give 39 = .ok (.dup, 1) := by decide +kernel
theorem dX10_give_40 : decode cX10_give 40 = .ok (.getfield 50, 3) := by decide +kernel
theorem dX10_give_43 : decode cX10_give 43 = .ok (.iconst 1, 1) := by decide +kernel
theorem dX10_give_44 : decode cX10_give 44 = .ok (.iadd, 1) := by decide +kernel
theorem dX10_give_45 : decode cX10_give 45 = .ok (.putfield 50, 3) := by decide +kernel
theorem dX10_give_48 : decode cX10_give 48 = .ok (.aload_n 0, 1) := by decide +kernel
theorem dX10_give_49 : decode cX10_give 49 = .ok (.getfield 10, 3) := by decide +kernel
theorem dX10_give_52 : decode cX10_give 52 = .ok (.getfield 66, 3) := by decide +kernel
theorem dX10_give_55 : decode cX10_give 55 = .ok (.iload 4, 2) := by decide +kernel
theorem dX10_give_57 : decode cX10_give 57 = .ok (.invokevirtual 76, 3) := by decide +kernel
theorem dX10_give_60 : decode cX10_give 60 = .ok (.ireturn, 1) := by decide +kernel
theorem dX10_let_0 : decode cX10_let 0 = .ok (.iload_n 1, 1) := by decide +kernel
theorem dX10_let_1 : decode cX10_let 1 = .ok (.invokestatic 54, 3) := by decide +kernel
theorem dX10_let_4 : decode cX10_let 4 = .ok (.iload_n 2, 1) := by decide +kernel
theorem dX10_let_5 : decode cX10_let 5 = .ok (.invokestatic 54, 3) := by decide +kernel
theorem dX10_let_8 : decode cX10_let 8 = .ok (.iload_n 3, 1) := by decide +kernel
theorem dX10_let_9 : decode cX10_let 9 = .ok (.iload 4, 2) := by decide +kernel
theorem dX10_let_11 : decode cX10_let 11 = .ok (.invokestatic 58, 3) := by decide +kernel
theorem dX10_let_14 : decode cX10_let 14 = .ok (.istore 7, 2) := by decide +kernel
theorem dX10_let_16 : decode cX10_let 16 = .ok (.iload_n 3, 1) := by decide +kernel
theorem dX10_let_17 : decode cX10_let 17 = .ok (.iload 5, 2) := by decide +kernel
theorem dX10_let_19 : decode cX10_let 19 = .ok (.invokestatic 58, 3) := by decide +kernel
theorem dX10_let_22 : decode cX10_let 22 = .ok (.istore 8, 2) := by decide +kernel
theorem dX10_let_24 : decode cX10_let 24 = .ok (.iload_n 1, 1) := by decide +kernel
theorem dX10_let_25 : decode cX10_let 25 = .ok (.iload_n 2, 1) := by decide +kernel
theorem dX10_let_26 : decode cX10_let 26 = .ok (.if_icmp .ne 13, 3) := by decide +kernel
theorem dX10_let_29 : decode cX10_let 29 = .ok (.new 80, 3) := by decide +kernel
theorem dX10_let_32 : decode cX10_let 32 = .ok (.dup, 1) := by decide +kernel
theorem dX10_let_33 : decode cX10_let 33 = .ok (.ldc 82, 2) := by decide +kernel
theorem dX10_let_35 : decode cX10_let 35 = .ok (.invokespecial 84, 3) := by decide +kernel
theorem dX10_let_38 : decode cX10_let 38 = .ok (.athrow, 1) := by decide +kernel
theorem dX10_let_39 : decode cX10_let 39 = .ok (.iload 8, 2) := by decide +kernel
theorem dX10_let_41 : decode cX10_let 41 = .ok (.iload 7, 2) := by decide +kernel
theorem dX10_let_43 : decode cX10_let 43 = .ok (.if_icmp .ge 13, 3) := by decide +kernel
theorem dX10_let_46 : decode cX10_let 46 = .ok (.new 80, 3) := by decide +kernel
theorem dX10_let_49 : decode cX10_let 49 = .ok (.dup, 1) := by decide +kernel
theorem dX10_let_50 : decode cX10_let 50 = .ok (.ldc 87, 2) := by decide +kernel
theorem dX10_let_52 : decode cX10_let 52 = .ok (.invokespecial 84, 3) := by decide +kernel
theorem dX10_let_55 : decode cX10_let 55 = .ok (.athrow, 1) := by decide +kernel
theorem dX10_let_56 : decode cX10_let 56 = .ok (.aload_n 0, 1) := by decide +kernel
theorem dX10_let_57 : decode cX10_let 57 = .ok (.dup, 1) := by decide +kernel
theorem dX10_let_58 : decode cX10_let 58 = .ok (.getfield 50, 3) := by decide +kernel
theorem dX10_let_61 : decode cX10_let 61 = .ok (.iconst 1, 1) := by decide +kernel
theorem dX10_let_62 : decode cX10_let 62 = .ok (.iadd, 1) := by decide +kernel
theorem dX10_let_63 : decode cX10_let 63 = .ok (.putfield 50, 3) := by decide +kernel
theorem dX10_let_66 : decode cX10_let 66 = .ok (.aload_n 0, 1) := by decide +kernel
theorem dX10_let_67 : decode cX10_let 67 = .ok (.getfield 10, 3) := by decide +kernel
theorem dX10_let_70 : decode cX10_let 70 = .ok (.getfield 66, 3) := by decide +kernel
theorem dX10_let_73 : decode cX10_let 73 = .ok (.iload_n 1, 1) := by decide +kernel
theorem dX10_let_74 : decode cX10_let 74 = .ok (.iload_n 2, 1) := by decide +kernel
theorem dX10_let_75 : decode cX10_let 75 = .ok (.iload 7, 2) := by decide +kernel
theorem dX10_let_77 : decode cX10_let 77 = .ok (.iload 8, 2) := by decide +kernel
theorem dX10_let_79 : decode cX10_let 79 = .ok (.iload 6, 2) := by decide +kernel
theorem dX10_let_81 : decode cX10_let 81 = .ok (.invokevirtual 89, 3) := by decide +kernel
theorem dX10_let_84 : decode cX10_let 84 = .ok (.ireturn, 1) := by decide +kernel
theorem dX10_ownerOf_0 : decode cX10_ownerOf 0 = .ok (.aload_n 0, 1) := by decide +kernel
theorem dX10_ownerOf_1 : decode cX10_ownerOf 1 = .ok (.getfield 10, 3) := by decide +kernel
theorem dX10_ownerOf_4 : decode cX10_ownerOf 4 = .ok (.getfield 66, 3) := by decide +kernel
theorem dX10_ownerOf_7 : decode cX10_ownerOf 7 = .ok (.getfield 70, 3) := by decide +kernel
theorem dX10_ownerOf_10 : decode cX10_ownerOf 10 = .ok (.iload_n 1, 1) := by decide +kernel
theorem dX10_ownerOf_11 : decode cX10_ownerOf 11 = .ok (.iload_n 2, 1) := by decide +kernel
theorem dX10_ownerOf_12 : decode cX10_ownerOf 12 = .ok (.invokestatic 58, 3) := by decide +kernel
theorem dX10_ownerOf_15 : decode cX10_ownerOf 15 = .ok (.iaload, 1) := by decide +kernel
theorem dX10_ownerOf_16 : decode cX10_ownerOf 16 = .ok (.ireturn, 1) := by decide +kernel
theorem dX10_reads_0 : decode cX10_reads 0 = .ok (.iload_n 1, 1) := by decide +kernel
theorem dX10_reads_1 : decode cX10_reads 1 = .ok (.invokestatic 54, 3) := by decide +kernel
theorem dX10_reads_4 : decode cX10_reads 4 = .ok (.aload_n 0, 1) := by decide +kernel
theorem dX10_reads_5 : decode cX10_reads 5 = .ok (.getfield 10, 3) := by decide +kernel
theorem dX10_reads_8 : decode cX10_reads 8 = .ok (.getfield 66, 3) := by decide +kernel
theorem dX10_reads_11 : decode cX10_reads 11 = .ok (.iload_n 1, 1) := by decide +kernel
theorem dX10_reads_12 : decode cX10_reads 12 = .ok (.iload_n 2, 1) := by decide +kernel
theorem dX10_reads_13 : decode cX10_reads 13 = .ok (.iload_n 3, 1) := by decide +kernel
theorem dX10_reads_14 : decode cX10_reads 14 = .ok (.invokestatic 58, 3) := by decide +kernel
theorem dX10_reads_17 : decode cX10_reads 17 = .ok (.invokevirtual 93, 3) := by decide +kernel
theorem dX10_reads_20 : decode cX10_reads 20 = .ok (.ireturn, 1) := by decide +kernel
theorem dX10_word_0 : decode cX10_word 0 = .ok (.iload_n 1, 1) := by decide +kernel
theorem dX10_word_1 : decode cX10_word 1 = .ok (.ifCond .lt 9, 3) := by decide +kernel
theorem dX10_word_4 : decode cX10_word 4 = .ok (.iload_n 1, 1) := by decide +kernel
theorem dX10_word_5 : decode cX10_word 5 = .ok (.bipush 14, 2) := by decide +kernel
theorem dX10_word_7 : decode cX10_word 7 = .ok (.if_icmp .le 13, 3) := by decide +kernel
theorem dX10_word_10 : decode cX10_word 10 = .ok (.new 80, 3) := by decide +kernel
theorem dX10_word_13 : decode cX10_word 13 = .ok (.dup, 1) := by decide +kernel
theorem dX10_word_14 : decode cX10_word 14 = .ok (.ldc 97, 2) := by decide +kernel
theorem dX10_word_16 : decode cX10_word 16 = .ok (.invokespecial 84, 3) := by decide +kernel
theorem dX10_word_19 : decode cX10_word 19 = .ok (.athrow, 1) := by decide +kernel
theorem dX10_word_20 : decode cX10_word 20 = .ok (.iload_n 1, 1) := by decide +kernel
theorem dX10_word_21 : decode cX10_word 21 = .ok (.ifCond .ne 25, 3) := by decide +kernel
theorem dX10_word_24 : decode cX10_word 24 = .ok (.iload_n 2, 1) := by decide +kernel
theorem dX10_word_25 : decode cX10_word 25 = .ok (.ldc 99, 2) := by decide +kernel
theorem dX10_word_27 : decode cX10_word 27 = .ok (.if_icmp .lt 9, 3) := by decide +kernel
theorem dX10_word_30 : decode cX10_word 30 = .ok (.iload_n 2, 1) := by decide +kernel
theorem dX10_word_31 : decode cX10_word 31 = .ok (.ldc 100, 2) := by decide +kernel
theorem dX10_word_33 : decode cX10_word 33 = .ok (.if_icmp .le 13, 3) := by decide +kernel
theorem dX10_word_36 : decode cX10_word 36 = .ok (.new 80, 3) := by decide +kernel
theorem dX10_word_39 : decode cX10_word 39 = .ok (.dup, 1) := by decide +kernel
theorem dX10_word_40 : decode cX10_word 40 = .ok (.ldc 101, 2) := by decide +kernel
theorem dX10_word_42 : decode cX10_word 42 = .ok (.invokespecial 84, 3) := by decide +kernel
theorem dX10_word_45 : decode cX10_word 45 = .ok (.athrow, 1) := by decide +kernel
theorem dX10_word_46 : decode cX10_word 46 = .ok (.iload_n 1, 1) := by decide +kernel
theorem dX10_word_47 : decode cX10_word 47 = .ok (.iconst 1, 1) := by decide +kernel
theorem dX10_word_48 : decode cX10_word 48 = .ok (.if_icmp .lt 28, 3) := by decide +kernel
theorem dX10_word_51 : decode cX10_word 51 = .ok (.iload_n 1, 1) := by decide +kernel
theorem dX10_word_52 : decode cX10_word 52 = .ok (.bipush 7, 2) := by decide +kernel
theorem dX10_word_54 : decode cX10_word 54 = .ok (.if_icmp .gt 22, 3) := by decide +kernel
theorem dX10_word_57 : decode cX10_word 57 = .ok (.iload_n 2, 1) := by decide +kernel
theorem dX10_word_58 : decode cX10_word 58 = .ok (.ifCond .lt 8, 3) := by decide +kernel
theorem dX10_word_61 : decode cX10_word 61 = .ok (.iload_n 2, 1) := by decide +kernel
theorem dX10_word_62 : decode cX10_word 62 = .ok (.iconst 4, 1) := by decide +kernel
theorem dX10_word_63 : decode cX10_word 63 = .ok (.if_icmp .lt 13, 3) := by decide +kernel
theorem dX10_word_66 : decode cX10_word 66 = .ok (.new 80, 3) := by decide +kernel
theorem dX10_word_69 : decode cX10_word 69 = .ok (.dup, 1) := by decide +kernel
theorem dX10_word_70 : decode cX10_word 70 = .ok (.ldc 103, 2) := by decide +kernel
theorem dX10_word_72 : decode cX10_word 72 = .ok (.invokespecial 84, 3) := by decide +kernel
theorem dX10_word_75 : decode cX10_word 75 = .ok (.athrow, 1) := by decide +kernel
theorem dX10_word_76 : decode cX10_word 76 = .ok (.iload_n 1, 1) := by decide +kernel
theorem dX10_word_77 : decode cX10_word 77 = .ok (.iconst 1, 1) := by decide +kernel
theorem dX10_word_78 : decode cX10_word 78 = .ok (.if_icmp .ne 23, 3) := by decide +kernel
theorem dX10_word_81 : decode cX10_word 81 = .ok (.iload_n 3, 1) := by decide +kernel
theorem dX10_word_82 : decode cX10_word 82 = .ok (.ifCond .lt 9, 3) := by decide +kernel
theorem dX10_word_85 : decode cX10_word 85 = .ok (.iload_n 3, 1) := by decide +kernel
theorem dX10_word_86 : decode cX10_word 86 = .ok (.bipush 6, 2) := by decide +kernel
theorem dX10_word_88 : decode cX10_word 88 = .ok (.if_icmp .lt 13, 3) := by decide +kernel
theorem dX10_word_91 : decode cX10_word 91 = .ok (.new 80, 3) := by decide +kernel
theorem dX10_word_94 : decode cX10_word 94 = .ok (.dup, 1) := by decide +kernel
theorem dX10_word_95 : decode cX10_word 95 = .ok (.ldc 105, 2) := by decide +kernel
theorem dX10_word_97 : decode cX10_word 97 = .ok (.invokespecial 84, 3) := by decide +kernel
theorem dX10_word_100 : decode cX10_word 100 = .ok (.athrow, 1) := by decide +kernel
theorem dX10_word_101 : decode cX10_word 101 = .ok (.aload_n 0, 1) := by decide +kernel
theorem dX10_word_102 : decode cX10_word 102 = .ok (.getfield 10, 3) := by decide +kernel
theorem dX10_word_105 : decode cX10_word 105 = .ok (.getfield 107, 3) := by decide +kernel
theorem dX10_word_108 : decode cX10_word 108 = .ok (.getfield 111, 3) := by decide +kernel
theorem dX10_word_111 : decode cX10_word 111 = .ok (.bipush 12, 2) := by decide +kernel
theorem dX10_word_113 : decode cX10_word 113 = .ok (.if_icmp .lt 13, 3) := by decide +kernel
theorem dX10_word_116 : decode cX10_word 116 = .ok (.new 116, 3) := by decide +kernel
theorem dX10_word_119 : decode cX10_word 119 = .ok (.dup, 1) := by decide +kernel
theorem dX10_word_120 : decode cX10_word 120 = .ok (.ldc 118, 2) := by decide +kernel
theorem dX10_word_122 : decode cX10_word 122 = .ok (.invokespecial 120, 3) := by decide +kernel
theorem dX10_word_125 : decode cX10_word 125 = .ok (.athrow, 1) := by decide +kernel
theorem dX10_word_126 : decode cX10_word 126 = .ok (.aload_n 0, 1) := by decide +kernel
theorem dX10_word_127 : decode cX10_word 127 = .ok (.getfield 10, 3) := by decide +kernel
theorem dX10_word_130 : decode cX10_word 130 = .ok (.getfield 107, 3) := by decide +kernel
theorem dX10_word_133 : decode cX10_word 133 = .ok (.getfield 121, 3) := by decide +kernel
theorem dX10_word_136 : decode cX10_word 136 = .ok (.iload_n 1, 1) := by decide +kernel
theorem dX10_word_137 : decode cX10_word 137 = .ok (.invokestatic 124, 3) := by decide +kernel
theorem dX10_word_140 : decode cX10_word 140 = .ok (.if_icmp .ge 13, 3) := by decide +kernel
theorem dX10_word_143 : decode cX10_word 143 = .ok (.new 116, 3) := by decide +kernel
theorem dX10_word_146 : decode cX10_word 146 = .ok (.dup, 1) := by decide +kernel
theorem dX10_word_147 : decode cX10_word 147 = .ok (.ldc 127, 2) := by decide +kernel
theorem dX10_word_149 : decode cX10_word 149 = .ok (.invokespecial 120, 3) := by decide +kernel
theorem dX10_word_152 : decode cX10_word 152 = .ok (.athrow, 1) := by decide +kernel
theorem dX10_word_153 : decode cX10_word 153 = .ok (.aload_n 0, 1) := by decide +kernel
theorem dX10_word_154 : decode cX10_word 154 = .ok (.getfield 10, 3) := by decide +kernel
theorem dX10_word_157 : decode cX10_word 157 = .ok (.getfield 107, 3) := by decide +kernel
theorem dX10_word_160 : decode cX10_word 160 = .ok (.iload_n 1, 1) := by decide +kernel
theorem dX10_word_161 : decode cX10_word 161 = .ok (.iload_n 2, 1) := by decide +kernel
theorem dX10_word_162 : decode cX10_word 162 = .ok (.iload_n 3, 1) := by decide +kernel
theorem dX10_word_163 : decode cX10_word 163 = .ok (.invokevirtual 129, 3) := by decide +kernel
theorem dX10_word_166 : decode cX10_word 166 = .ok (.aload_n 0, 1) := by decide +kernel
theorem dX10_word_167 : decode cX10_word 167 = .ok (.getfield 10, 3) := by decide +kernel
theorem dX10_word_170 : decode cX10_word 170 = .ok (.getfield 107, 3) := by decide +kernel
theorem dX10_word_173 : decode cX10_word 173 = .ok (.getfield 111, 3) := by decide +kernel
theorem dX10_word_176 : decode cX10_word 176 = .ok (.ireturn, 1) := by decide +kernel
theorem dX10_wipe_0 : decode cX10_wipe 0 = .ok (.aload_n 0, 1) := by decide +kernel
theorem dX10_wipe_1 : decode cX10_wipe 1 = .ok (.getfield 10, 3) := by decide +kernel
theorem dX10_wipe_4 : decode cX10_wipe 4 = .ok (.getfield 107, 3) := by decide +kernel
theorem dX10_wipe_7 : decode cX10_wipe 7 = .ok (.getfield 111, 3) := by decide +kernel
theorem dX10_wipe_10 : decode cX10_wipe 10 = .ok (.istore_n 1, 1) := by decide +kernel
theorem dX10_wipe_11 : decode cX10_wipe 11 = .ok (.aload_n 0, 1) := by decide +kernel
theorem dX10_wipe_12 : decode cX10_wipe 12 = .ok (.getfield 10, 3) := by decide +kernel
theorem dX10_wipe_15 : decode cX10_wipe 15 = .ok (.getfield 107, 3) := by decide +kernel
theorem dX10_wipe_18 : decode cX10_wipe 18 = .ok (.invokevirtual 133, 3) := by decide +kernel
theorem dX10_wipe_21 : decode cX10_wipe 21 = .ok (.iload_n 1, 1) := by decide +kernel
theorem dX10_wipe_22 : decode cX10_wipe 22 = .ok (.ireturn, 1) := by decide +kernel
theorem dX10_enter_0 : decode cX10_enter 0 = .ok (.iload_n 1, 1) := by decide +kernel
theorem dX10_enter_1 : decode cX10_enter 1 = .ok (.invokestatic 54, 3) := by decide +kernel
theorem dX10_enter_4 : decode cX10_enter 4 = .ok (.iload_n 2, 1) := by decide +kernel
theorem dX10_enter_5 : decode cX10_enter 5 = .ok (.iload_n 3, 1) := by decide +kernel
theorem dX10_enter_6 : decode cX10_enter 6 = .ok (.invokestatic 58, 3) := by decide +kernel
theorem dX10_enter_9 : decode cX10_enter 9 = .ok (.istore 4, 2) := by decide +kernel
theorem dX10_enter_11 : decode cX10_enter 11 = .ok (.aload_n 0, 1) := by decide +kernel
theorem dX10_enter_12 : decode cX10_enter 12 = .ok (.iload_n 1, 1) := by decide +kernel
theorem dX10_enter_13 : decode cX10_enter 13 = .ok (.iload 4, 2) := by decide +kernel
theorem dX10_enter_15 : decode cX10_enter 15 = .ok (.invokevirtual 136, 3) := by decide +kernel
theorem dX10_enter_18 : decode cX10_enter 18 = .ok (.aload_n 0, 1) := by decide +kernel
theorem dX10_enter_19 : decode cX10_enter 19 = .ok (.getfield 10, 3) := by decide +kernel
theorem dX10_enter_22 : decode cX10_enter 22 = .ok (.getfield 107, 3) := by decide +kernel
theorem dX10_enter_25 : decode cX10_enter 25 = .ok (.getfield 121, 3) := by decide +kernel
theorem dX10_enter_28 : decode cX10_enter 28 = .ok (.iconst 1, 1) := by decide +kernel
theorem dX10_enter_29 : decode cX10_enter 29 = .ok (.if_icmp .eq 13, 3) := by decide +kernel
theorem dX10_enter_32 : decode cX10_enter 32 = .ok (.new 116, 3) := by decide +kernel
theorem dX10_enter_35 : decode cX10_enter 35 = .ok (.dup, 1) := by decide +kernel
theorem dX10_enter_36 : decode cX10_enter 36 = .ok (.ldc 139, 2) := by decide +kernel
theorem dX10_enter_38 : decode cX10_enter 38 = .ok (.invokespecial 120, 3) := by decide +kernel
theorem dX10_enter_41 : decode cX10_enter 41 = .ok (.athrow, 1) := by decide +kernel
theorem dX10_enter_42 : decode cX10_enter 42 = .ok (.aload_n 0, 1) := by decide +kernel
theorem dX10_enter_43 : decode cX10_enter 43 = .ok (.getfield 10, 3) := by decide +kernel
theorem dX10_enter_46 : decode cX10_enter 46 = .ok (.iload 4, 2) := by decide +kernel
theorem dX10_enter_48 : decode cX10_enter 48 = .ok (.iload_n 1, 1) := by decide +kernel
theorem dX10_enter_49 : decode cX10_enter 49 = .ok (.aload_n 0, 1) := by decide +kernel
theorem dX10_enter_50 : decode cX10_enter 50 = .ok (.getfield 50, 3) := by decide +kernel
theorem dX10_enter_53 : decode cX10_enter 53 = .ok (.aload_n 0, 1) := by decide +kernel
theorem dX10_enter_54 : decode cX10_enter 54 = .ok (.getfield 10, 3) := by decide +kernel
theorem dX10_enter_57 : decode cX10_enter 57 = .ok (.getfield 107, 3) := by decide +kernel
theorem dX10_enter_60 : decode cX10_enter 60 = .ok (.invokevirtual 141, 3) := by decide +kernel
theorem dX10_enter_63 : decode cX10_enter 63 = .ok (.istore 5, 2) := by decide +kernel
theorem dX10_enter_65 : decode cX10_enter 65 = .ok (.aload_n 0, 1) := by decide +kernel
theorem dX10_enter_66 : decode cX10_enter 66 = .ok (.getfield 10, 3) := by decide +kernel
theorem dX10_enter_69 : decode cX10_enter 69 = .ok (.new 112, 3) := by decide +kernel
theorem dX10_enter_72 : decode cX10_enter 72 = .ok (.dup, 1) := by decide +kernel
theorem dX10_enter_73 : decode cX10_enter 73 = .ok (.invokespecial 145, 3) := by decide +kernel
theorem dX10_enter_76 : decode cX10_enter 76 = .ok (.putfield 107, 3) := by decide +kernel
theorem dX10_enter_79 : decode cX10_enter 79 = .ok (.aload_n 0, 1) := by decide +kernel
theorem dX10_enter_80 : decode cX10_enter 80 = .ok (.dup, 1) := by decide +kernel
theorem dX10_enter_81 : decode cX10_enter 81 = .ok (.getfield 50, 3) := by decide +kernel
theorem dX10_enter_84 : decode cX10_enter 84 = .ok (.iconst 1, 1) := by decide +kernel
theorem dX10_enter_85 : decode cX10_enter 85 = .ok (.iadd, 1) := by decide +kernel
theorem dX10_enter_86 : decode cX10_enter 86 = .ok (.putfield 50, 3) := by decide +kernel
theorem dX10_enter_89 : decode cX10_enter 89 = .ok (.iload 5, 2) := by decide +kernel
theorem dX10_enter_91 : decode cX10_enter 91 = .ok (.ireturn, 1) := by decide +kernel
theorem dX10_empty_0 : decode cX10_empty 0 = .ok (.iload_n 1, 1) := by decide +kernel
theorem dX10_empty_1 : decode cX10_empty 1 = .ok (.invokestatic 54, 3) := by decide +kernel
theorem dX10_empty_4 : decode cX10_empty 4 = .ok (.iload_n 2, 1) := by decide +kernel
theorem dX10_empty_5 : decode cX10_empty 5 = .ok (.iload_n 3, 1) := by decide +kernel
theorem dX10_empty_6 : decode cX10_empty 6 = .ok (.invokestatic 58, 3) := by decide +kernel
theorem dX10_empty_9 : decode cX10_empty 9 = .ok (.istore 4, 2) := by decide +kernel
theorem dX10_empty_11 : decode cX10_empty 11 = .ok (.aload_n 0, 1) := by decide +kernel
theorem dX10_empty_12 : decode cX10_empty 12 = .ok (.iload_n 1, 1) := by decide +kernel
theorem dX10_empty_13 : decode cX10_empty 13 = .ok (.iload 4, 2) := by decide +kernel
theorem dX10_empty_15 : decode cX10_empty 15 = .ok (.invokevirtual 136, 3) := by decide +kernel
theorem dX10_empty_18 : decode cX10_empty 18 = .ok (.aload_n 0, 1) := by decide +kernel
theorem dX10_empty_19 : decode cX10_empty 19 = .ok (.getfield 10, 3) := by decide +kernel
theorem dX10_empty_22 : decode cX10_empty 22 = .ok (.iload 4, 2) := by decide +kernel
theorem dX10_empty_24 : decode cX10_empty 24 = .ok (.iload_n 1, 1) := by decide +kernel
theorem dX10_empty_25 : decode cX10_empty 25 = .ok (.aload_n 0, 1) := by decide +kernel
theorem dX10_empty_26 : decode cX10_empty 26 = .ok (.getfield 50, 3) := by decide +kernel
theorem dX10_empty_29 : decode cX10_empty 29 = .ok (.aload_n 0, 1) := by decide +kernel
theorem dX10_empty_30 : decode cX10_empty 30 = .ok (.getfield 10, 3) := by decide +kernel
theorem dX10_empty_33 : decode cX10_empty 33 = .ok (.getfield 146, 3) := by decide +kernel
theorem dX10_empty_36 : decode cX10_empty 36 = .ok (.invokevirtual 141, 3) := by decide +kernel
theorem dX10_empty_39 : decode cX10_empty 39 = .ok (.istore 5, 2) := by decide +kernel
theorem dX10_empty_41 : decode cX10_empty 41 = .ok (.aload_n 0, 1) := by decide +kernel
theorem dX10_empty_42 : decode cX10_empty 42 = .ok (.dup, 1) := by decide +kernel
theorem dX10_empty_43 : decode cX10_empty 43 = .ok (.getfield 50, 3) := by decide +kernel
theorem dX10_empty_46 : decode cX10_empty 46 = .ok (.iconst 1, 1) := by decide +kernel
theorem dX10_empty_47 : decode cX10_empty 47 = .ok (.iadd, 1) := by decide +kernel
theorem dX10_empty_48 : decode cX10_empty 48 = .ok (.putfield 50, 3) := by decide +kernel
theorem dX10_empty_51 : decode cX10_empty 51 = .ok (.iload 5, 2) := by decide +kernel
theorem dX10_empty_53 : decode cX10_empty 53 = .ok (.ireturn, 1) := by decide +kernel
theorem dX10_notice_0 : decode cX10_notice 0 = .ok (.iload_n 1, 1) := by decide +kernel
theorem dX10_notice_1 : decode cX10_notice 1 = .ok (.invokestatic 149, 3) := by decide +kernel
theorem dX10_notice_4 : decode cX10_notice 4 = .ok (.iload_n 2, 1) := by decide +kernel
theorem dX10_notice_5 : decode cX10_notice 5 = .ok (.ifCond .lt 9, 3) := by decide +kernel
theorem dX10_notice_8 : decode cX10_notice 8 = .ok (.iload_n 2, 1) := by decide +kernel
theorem dX10_notice_9 : decode cX10_notice 9 = .ok (.bipush 50, 2) := by decide +kernel
theorem dX10_notice_11 : decode cX10_notice 11 = .ok (.if_icmp .le 13, 3) := by decide +kernel
theorem dX10_notice_14 : decode cX10_notice 14 = .ok (.new 80, 3) := by decide +kernel
theorem dX10_notice_17 : decode cX10_notice 17 = .ok (.dup, 1) := by decide +kernel
theorem dX10_notice_18 : decode cX10_notice 18 = .ok (.ldc 152, 2) := by decide +kernel
theorem dX10_notice_20 : decode cX10_notice 20 = .ok (.invokespecial 84, 3) := by decide +kernel
theorem dX10_notice_23 : decode cX10_notice 23 = .ok (.athrow, 1) := by decide +kernel
theorem dX10_notice_24 : decode cX10_notice 24 = .ok (.aload_n 0, 1) := by decide +kernel
theorem dX10_notice_25 : decode cX10_notice 25 = .ok (.getfield 10, 3) := by decide +kernel
theorem dX10_notice_28 : decode cX10_notice 28 = .ok (.getfield 154, 3) := by decide +kernel
theorem dX10_notice_31 : decode cX10_notice 31 = .ok (.iload_n 1, 1) := by decide +kernel
theorem dX10_notice_32 : decode cX10_notice 32 = .ok (.iaload, 1) := by decide +kernel
theorem dX10_notice_33 : decode cX10_notice 33 = .ok (.istore_n 3, 1) := by decide +kernel
theorem dX10_notice_34 : decode cX10_notice 34 = .ok (.aload_n 0, 1) := by decide +kernel
theorem dX10_notice_35 : decode cX10_notice 35 = .ok (.getfield 10, 3) := by decide +kernel
theorem dX10_notice_38 : decode cX10_notice 38 = .ok (.getfield 154, 3) := by decide +kernel
theorem dX10_notice_41 : decode cX10_notice 41 = .ok (.iload_n 1, 1) := by decide +kernel
theorem dX10_notice_42 : decode cX10_notice 42 = .ok (.iload_n 2, 1) := by decide +kernel
theorem dX10_notice_43 : decode cX10_notice 43 = .ok (.iastore, 1) := by decide +kernel
theorem dX10_notice_44 : decode cX10_notice 44 = .ok (.aload_n 0, 1) := by decide +kernel
theorem dX10_notice_45 : decode cX10_notice 45 = .ok (.dup, 1) := by decide +kernel
theorem dX10_notice_46 : decode cX10_notice 46 = .ok (.getfield 50, 3) := by decide +kernel
theorem dX10_notice_49 : decode cX10_notice 49 = .ok (.iconst 1, 1) := by decide +kernel
theorem dX10_notice_50 : decode cX10_notice 50 = .ok (.iadd, 1) := by decide +kernel
theorem dX10_notice_51 : decode cX10_notice 51 = .ok (.putfield 50, 3) := by decide +kernel
theorem dX10_notice_54 : decode cX10_notice 54 = .ok (.iload_n 3, 1) := by decide +kernel
theorem dX10_notice_55 : decode cX10_notice 55 = .ok (.ireturn, 1) := by decide +kernel
theorem dX10_value_0 : decode cX10_value 0 = .ok (.iload_n 1, 1) := by decide +kernel
theorem dX10_value_1 : decode cX10_value 1 = .ok (.invokestatic 54, 3) := by decide +kernel
theorem dX10_value_4 : decode cX10_value 4 = .ok (.iload_n 2, 1) := by decide +kernel
theorem dX10_value_5 : decode cX10_value 5 = .ok (.iload_n 3, 1) := by decide +kernel
theorem dX10_value_6 : decode cX10_value 6 = .ok (.invokestatic 58, 3) := by decide +kernel
theorem dX10_value_9 : decode cX10_value 9 = .ok (.istore 4, 2) := by decide +kernel
theorem dX10_value_11 : decode cX10_value 11 = .ok (.aload_n 0, 1) := by decide +kernel
theorem dX10_value_12 : decode cX10_value 12 = .ok (.iload_n 1, 1) := by decide +kernel
theorem dX10_value_13 : decode cX10_value 13 = .ok (.iload 4, 2) := by decide +kernel
theorem dX10_value_15 : decode cX10_value 15 = .ok (.invokevirtual 157, 3) := by decide +kernel
theorem dX10_value_18 : decode cX10_value 18 = .ok (.aload_n 0, 1) := by decide +kernel
theorem dX10_value_19 : decode cX10_value 19 = .ok (.getfield 28, 3) := by decide +kernel
theorem dX10_value_22 : decode cX10_value 22 = .ok (.aload_n 0, 1) := by decide +kernel
theorem dX10_value_23 : decode cX10_value 23 = .ok (.getfield 50, 3) := by decide +kernel
theorem dX10_value_26 : decode cX10_value 26 = .ok (.aload_n 0, 1) := by decide +kernel
theorem dX10_value_27 : decode cX10_value 27 = .ok (.getfield 10, 3) := by decide +kernel
theorem dX10_value_30 : decode cX10_value 30 = .ok (.getfield 66, 3) := by decide +kernel
theorem dX10_value_33 : decode cX10_value 33 = .ok (.invokevirtual 160, 3) := by decide +kernel
theorem dX10_value_36 : decode cX10_value 36 = .ok (.aload_n 0, 1) := by decide +kernel
theorem dX10_value_37 : decode cX10_value 37 = .ok (.getfield 28, 3) := by decide +kernel
theorem dX10_value_40 : decode cX10_value 40 = .ok (.iload 4, 2) := by decide +kernel
theorem dX10_value_42 : decode cX10_value 42 = .ok (.invokevirtual 164, 3) := by decide +kernel
theorem dX10_value_45 : decode cX10_value 45 = .ok (.ireturn, 1) := by decide +kernel
theorem dX10_fault_0 : decode cX10_fault 0 = .ok (.iload_n 1, 1) := by decide +kernel
theorem dX10_fault_1 : decode cX10_fault 1 = .ok (.invokestatic 54, 3) := by decide +kernel
theorem dX10_fault_4 : decode cX10_fault 4 = .ok (.iload_n 2, 1) := by decide +kernel
theorem dX10_fault_5 : decode cX10_fault 5 = .ok (.iload_n 3, 1) := by decide +kernel
theorem dX10_fault_6 : decode cX10_fault 6 = .ok (.invokestatic 58, 3) := by decide +kernel
theorem dX10_fault_9 : decode cX10_fault 9 = .ok (.istore 4, 2) := by decide +kernel
theorem dX10_fault_11 : decode cX10_fault 11 = .ok (.aload_n 0, 1) := by decide +kernel
theorem dX10_fault_12 : decode cX10_fault 12 = .ok (.iload_n 1, 1) := by decide +kernel
theorem dX10_fault_13 : decode cX10_fault 13 = .ok (.iload 4, 2) := by decide +kernel
theorem dX10_fault_15 : decode cX10_fault 15 = .ok (.invokevirtual 157, 3) := by decide +kernel
theorem dX10_fault_18 : decode cX10_fault 18 = .ok (.aload_n 0, 1) := by decide +kernel
theorem dX10_fault_19 : decode cX10_fault 19 = .ok (.getfield 28, 3) := by decide +kernel
theorem dX10_fault_22 : decode cX10_fault 22 = .ok (.aload_n 0, 1) := by decide +kernel
theorem dX10_fault_23 : decode cX10_fault 23 = .ok (.getfield 50, 3) := by decide +kernel
theorem dX10_fault_26 : decode cX10_fault 26 = .ok (.aload_n 0, 1) := by decide +kernel
theorem dX10_fault_27 : decode cX10_fault 27 = .ok (.getfield 10, 3) := by decide +kernel
theorem dX10_fault_30 : decode cX10_fault 30 = .ok (.getfield 66, 3) := by decide +kernel
theorem dX10_fault_33 : decode cX10_fault 33 = .ok (.invokevirtual 160, 3) := by decide +kernel
theorem dX10_fault_36 : decode cX10_fault 36 = .ok (.aload_n 0, 1) := by decide +kernel
theorem dX10_fault_37 : decode cX10_fault 37 = .ok (.getfield 28, 3) := by decide +kernel
theorem dX10_fault_40 : decode cX10_fault 40 = .ok (.iload 4, 2) := by decide +kernel
theorem dX10_fault_42 : decode cX10_fault 42 = .ok (.invokevirtual 167, 3) := by decide +kernel
theorem dX10_fault_45 : decode cX10_fault 45 = .ok (.ireturn, 1) := by decide +kernel
theorem dX10_edits_0 : decode cX10_edits 0 = .ok (.aload_n 0, 1) := by decide +kernel
theorem dX10_edits_1 : decode cX10_edits 1 = .ok (.getfield 10, 3) := by decide +kernel
theorem dX10_edits_4 : decode cX10_edits 4 = .ok (.iload_n 1, 1) := by decide +kernel
theorem dX10_edits_5 : decode cX10_edits 5 = .ok (.iload_n 2, 1) := by decide +kernel
theorem dX10_edits_6 : decode cX10_edits 6 = .ok (.invokestatic 58, 3) := by decide +kernel
theorem dX10_edits_9 : decode cX10_edits 9 = .ok (.invokevirtual 170, 3) := by decide +kernel
theorem dX10_edits_12 : decode cX10_edits 12 = .ok (.ireturn, 1) := by decide +kernel
theorem dX10_edit_0 : decode cX10_edit 0 = .ok (.iload_n 1, 1) := by decide +kernel
theorem dX10_edit_1 : decode cX10_edit 1 = .ok (.iload_n 2, 1) := by decide +kernel
theorem dX10_edit_2 : decode cX10_edit 2 = .ok (.invokestatic 58, 3) := by decide +kernel
theorem dX10_edit_5 : decode cX10_edit 5 = .ok (.istore 5, 2) := by decide +kernel
theorem dX10_edit_7 : decode cX10_edit 7 = .ok (.aload_n 0, 1) := by decide +kernel
theorem dX10_edit_8 : decode cX10_edit 8 = .ok (.getfield 10, 3) := by decide +kernel
theorem dX10_edit_11 : decode cX10_edit 11 = .ok (.iload 5, 2) := by decide +kernel
theorem dX10_edit_13 : decode cX10_edit 13 = .ok (.iload_n 3, 1) := by decide +kernel
theorem dX10_edit_14 : decode cX10_edit 14 = .ok (.invokevirtual 173, 3) := by decide +kernel
theorem dX10_edit_17 : decode cX10_edit 17 = .ok (.astore 6, 2) := by decide +kernel
theorem dX10_edit_19 : decode cX10_edit 19 = .ok (.aload 6, 2) := by decide +kernel
theorem dX10_edit_21 : decode cX10_edit 21 = .ok (.ifnonnull 13, 3) := by decide +kernel
theorem dX10_edit_24 : decode cX10_edit 24 = .ok (.new 177, 3) := by decide +kernel
theorem dX10_edit_27 : decode cX10_edit 27 = .ok (.dup, 1) := by decide +kernel
theorem dX10_edit_28 : decode cX10_edit 28 = .ok (.ldc 179, 2) := by decide +kernel
theorem dX10_edit_30 : decode cX10_edit 30 = .ok (.invokespecial 181, 3) := by decide +kernel
theorem dX10_edit_33 : decode cX10_edit 33 = .ok (.athrow, 1) := by decide +kernel
theorem dX10_edit_34 : decode cX10_edit 34 = .ok (.iload 4, 2) := by decide +kernel
theorem dX10_edit_36 : decode cX10_edit 36 = .ok (.tableswitch 115 0 6 #[44, 50, 56, 62, 68, 77, 91], 44) := by decide +kernel
theorem dX10_edit_80 : decode cX10_edit 80 = .ok (.aload 6, 2) := by decide +kernel
theorem dX10_edit_82 : decode cX10_edit 82 = .ok (.getfield 182, 3) := by decide +kernel
theorem dX10_edit_85 : decode cX10_edit 85 = .ok (.ireturn, 1) := by decide +kernel
theorem dX10_edit_86 : decode cX10_edit 86 = .ok (.aload 6, 2) := by decide +kernel
theorem dX10_edit_88 : decode cX10_edit 88 = .ok (.getfield 187, 3) := by decide +kernel
theorem dX10_edit_91 : decode cX10_edit 91 = .ok (.ireturn, 1) := by decide +kernel
theorem dX10_edit_92 : decode cX10_edit 92 = .ok (.aload 6, 2) := by decide +kernel
theorem dX10_edit_94 : decode cX10_edit 94 = .ok (.getfield 190, 3) := by decide +kernel
theorem dX10_edit_97 : decode cX10_edit 97 = .ok (.ireturn, 1) := by decide +kernel
theorem dX10_edit_98 : decode cX10_edit 98 = .ok (.aload 6, 2) := by decide +kernel
theorem dX10_edit_100 : decode cX10_edit 100 = .ok (.getfield 193, 3) := by decide +kernel
theorem dX10_edit_103 : decode cX10_edit 103 = .ok (.ireturn, 1) := by decide +kernel
theorem dX10_edit_104 : decode cX10_edit 104 = .ok (.aload 6, 2) := by decide +kernel
theorem dX10_edit_106 : decode cX10_edit 106 = .ok (.getfield 196, 3) := by decide +kernel
theorem dX10_edit_109 : decode cX10_edit 109 = .ok (.getfield 111, 3) := by decide +kernel
theorem dX10_edit_112 : decode cX10_edit 112 = .ok (.ireturn, 1) := by decide +kernel
theorem dX10_edit_113 : decode cX10_edit 113 = .ok (.aload 6, 2) := by decide +kernel
theorem dX10_edit_115 : decode cX10_edit 115 = .ok (.getfield 199, 3) := by decide +kernel
theorem dX10_edit_118 : decode cX10_edit 118 = .ok (.ifCond .eq 7, 3) := by decide +kernel
theorem dX10_edit_121 : decode cX10_edit 121 = .ok (.iconst 1, 1) := by decide +kernel
theorem dX10_edit_122 : decode cX10_edit 122 = .ok (.goto 4, 3) := by decide +kernel
theorem dX10_edit_125 : decode cX10_edit 125 = .ok (.iconst 0, 1) := by decide +kernel
theorem dX10_edit_126 : decode cX10_edit 126 = .ok (.ireturn, 1) := by decide +kernel
theorem dX10_edit_127 : decode cX10_edit 127 = .ok (.aload 6, 2) := by decide +kernel
theorem dX10_edit_129 : decode cX10_edit 129 = .ok (.aload_n 0, 1) := by decide +kernel
theorem dX10_edit_130 : decode cX10_edit 130 = .ok (.getfield 10, 3) := by decide +kernel
theorem dX10_edit_133 : decode cX10_edit 133 = .ok (.iload 5, 2) := by decide +kernel
theorem dX10_edit_135 : decode cX10_edit 135 = .ok (.aload_n 0, 1) := by decide +kernel
theorem dX10_edit_136 : decode cX10_edit 136 = .ok (.getfield 50, 3) := by decide +kernel
theorem dX10_edit_139 : decode cX10_edit 139 = .ok (.invokevirtual 203, 3) := by decide +kernel
theorem dX10_edit_142 : decode cX10_edit 142 = .ok (.if_acmp .ne 7, 3) := by decide +kernel
theorem dX10_edit_145 : decode cX10_edit 145 = .ok (.iconst 1, 1) := by decide +kernel
theorem dX10_edit_146 : decode cX10_edit 146 = .ok (.goto 4, 3) := by decide +kernel
theorem dX10_edit_149 : decode cX10_edit 149 = .ok (.iconst 0, 1) := by decide +kernel
theorem dX10_edit_150 : decode cX10_edit 150 = .ok (.ireturn, 1) := by decide +kernel
theorem dX10_edit_151 : decode cX10_edit 151 = .ok (.new 80, 3) := by decide +kernel
theorem dX10_edit_154 : decode cX10_edit 154 = .ok (.dup, 1) := by decide +kernel
theorem dX10_edit_155 : decode cX10_edit 155 = .ok (.ldc 206, 2) := by decide +kernel
theorem dX10_edit_157 : decode cX10_edit 157 = .ok (.invokespecial 84, 3) := by decide +kernel
theorem dX10_edit_160 : decode cX10_edit 160 = .ok (.athrow, 1) := by decide +kernel
theorem dX10_bid_0 : decode cX10_bid 0 = .ok (.iload_n 1, 1) := by decide +kernel
theorem dX10_bid_1 : decode cX10_bid 1 = .ok (.invokestatic 54, 3) := by decide +kernel
theorem dX10_bid_4 : decode cX10_bid 4 = .ok (.iload_n 2, 1) := by decide +kernel
theorem dX10_bid_5 : decode cX10_bid 5 = .ok (.invokestatic 149, 3) := by decide +kernel
theorem dX10_bid_8 : decode cX10_bid 8 = .ok (.iload 4, 2) := by decide +kernel
theorem dX10_bid_10 : decode cX10_bid 10 = .ok (.iconst 1, 1) := by decide +kernel
theorem dX10_bid_11 : decode cX10_bid 11 = .ok (.if_icmp .lt 10, 3) := by decide +kernel
theorem dX10_bid_14 : decode cX10_bid 14 = .ok (.iload 4, 2) := by decide +kernel
theorem dX10_bid_16 : decode cX10_bid 16 = .ok (.bipush 100, 2) := by decide +kernel
theorem dX10_bid_18 : decode cX10_bid 18 = .ok (.if_icmp .le 13, 3) := by decide +kernel
theorem dX10_bid_21 : decode cX10_bid 21 = .ok (.new 80, 3) := by decide +kernel
theorem dX10_bid_24 : decode cX10_bid 24 = .ok (.dup, 1) := by decide +kernel
theorem dX10_bid_25 : decode cX10_bid 25 = .ok (.ldc 208, 2) := by decide +kernel
theorem dX10_bid_27 : decode cX10_bid 27 = .ok (.invokespecial 84, 3) := by decide +kernel
theorem dX10_bid_30 : decode cX10_bid 30 = .ok (.athrow, 1) := by decide +kernel
theorem dX10_bid_31 : decode cX10_bid 31 = .ok (.iload 5, 2) := by decide +kernel
theorem dX10_bid_33 : decode cX10_bid 33 = .ok (.ifCond .lt 11, 3) := by decide +kernel
theorem dX10_bid_36 : decode cX10_bid 36 = .ok (.iload 5, 2) := by decide +kernel
theorem dX10_bid_38 : decode cX10_bid 38 = .ok (.sipush 9999, 3) := by decide +kernel
theorem dX10_bid_41 : decode cX10_bid 41 = .ok (.if_icmp .le 13, 3) := by decide +kernel
theorem dX10_bid_44 : decode cX10_bid 44 = .ok (.new 80, 3) := by decide +kernel
theorem dX10_bid_47 : decode cX10_bid 47 = .ok (.dup, 1) := by decide +kernel
theorem dX10_bid_48 : decode cX10_bid 48 = .ok (.ldc 210, 2) := by decide +kernel
theorem dX10_bid_50 : decode cX10_bid 50 = .ok (.invokespecial 84, 3) := by decide +kernel
theorem dX10_bid_53 : decode cX10_bid 53 = .ok (.athrow, 1) := by decide +kernel
theorem dX10_bid_54 : decode cX10_bid 54 = .ok (.aload_n 0, 1) := by decide +kernel
theorem dX10_bid_55 : decode cX10_bid 55 = .ok (.getfield 19, 3) := by decide +kernel
theorem dX10_bid_58 : decode cX10_bid 58 = .ok (.getfield 212, 3) := by decide +kernel
theorem dX10_bid_61 : decode cX10_bid 61 = .ok (.iload_n 2, 1) := by decide +kernel
theorem dX10_bid_62 : decode cX10_bid 62 = .ok (.aaload, 1) := by decide +kernel
theorem dX10_bid_63 : decode cX10_bid 63 = .ok (.astore 6, 2) := by decide +kernel
theorem dX10_bid_65 : decode cX10_bid 65 = .ok (.aload 6, 2) := by decide +kernel
theorem dX10_bid_67 : decode cX10_bid 67 = .ok (.invokevirtual 216, 3) := by decide +kernel
theorem dX10_bid_70 : decode cX10_bid 70 = .ok (.ifCond .eq 13, 3) := by decide +kernel
theorem dX10_bid_73 : decode cX10_bid 73 = .ok (.new 116, 3) := by decide +kernel
theorem dX10_bid_76 : decode cX10_bid 76 = .ok (.dup, 1) := by decide +kernel
theorem dX10_bid_77 : decode cX10_bid 77 = .ok (.ldc 222, 2) := by decide +kernel
theorem dX10_bid_79 : decode cX10_bid 79 = .ok (.invokespecial 120, 3) := by decide +kernel
theorem dX10_bid_82 : decode cX10_bid 82 = .ok (.athrow, 1) := by decide +kernel
theorem dX10_bid_83 : decode cX10_bid 83 = .ok (.aload_n 0, 1) := by decide +kernel
theorem dX10_bid_84 : decode cX10_bid 84 = .ok (.getfield 19, 3) := by decide +kernel
theorem dX10_bid_87 : decode cX10_bid 87 = .ok (.getfield 224, 3) := by decide +kernel
theorem dX10_bid_90 : decode cX10_bid 90 = .ok (.invokeinterface 228 1, 5) := by decide +kernel
theorem dX10_bid_95 : decode cX10_bid 95 = .ok (.bipush 80, 2) := by decide +kernel
theorem dX10_bid_97 : decode cX10_bid 97 = .ok (.if_icmp .lt 13, 3) := by decide +kernel
theorem dX10_bid_100 : decode cX10_bid 100 = .ok (.new 116, 3) := by decide +kernel
theorem dX10_bid_103 : decode cX10_bid 103 = .ok (.dup, 1) := by decide +kernel
theorem dX10_bid_104 : decode cX10_bid 104 = .ok (.ldc 234, 2) := by decide +kernel
theorem dX10_bid_106 : decode cX10_bid 106 = .ok (.invokespecial 120, 3) := by decide +kernel
theorem dX10_bid_109 : decode cX10_bid 109 = .ok (.athrow, 1) := by decide +kernel
theorem dX10_bid_110 : decode cX10_bid 110 = .ok (.iload_n 3, 1) := by decide +kernel
theorem dX10_bid_111 : decode cX10_bid 111 = .ok (.ifCond .eq 39, 3) := by decide +kernel
theorem dX10_bid_114 : decode cX10_bid 114 = .ok (.aload_n 0, 1) := by decide +kernel
theorem dX10_bid_115 : decode cX10_bid 115 = .ok (.getfield 46, 3) := by decide +kernel
theorem dX10_bid_118 : decode cX10_bid 118 = .ok (.iload_n 1, 1) := by decide +kernel
theorem dX10_bid_119 : decode cX10_bid 119 = .ok (.invokevirtual 236, 3) := by decide +kernel
theorem dX10_bid_122 : decode cX10_bid 122 = .ok (.iload 4, 2) := by decide +kernel
theorem dX10_bid_124 : decode cX10_bid 124 = .ok (.iload 5, 2) := by decide +kernel
theorem dX10_bid_126 : decode cX10_bid 126 = .ok (.imul, 1) := by decide +kernel
theorem dX10_bid_127 : decode cX10_bid 127 = .ok (.iadd, 1) := by decide +kernel
theorem dX10_bid_128 : decode cX10_bid 128 = .ok (.aload_n 0, 1) := by decide +kernel
theorem dX10_bid_129 : decode cX10_bid 129 = .ok (.getfield 46, 3) := by decide +kernel
theorem dX10_bid_132 : decode cX10_bid 132 = .ok (.getfield 239, 3) := by decide +kernel
theorem dX10_bid_135 : decode cX10_bid 135 = .ok (.iload_n 1, 1) := by decide +kernel
theorem dX10_bid_136 : decode cX10_bid 136 = .ok (.iaload, 1) := by decide +kernel
theorem dX10_bid_137 : decode cX10_bid 137 = .ok (.if_icmp .le 13, 3) := by decide +kernel
theorem dX10_bid_140 : decode cX10_bid 140 = .ok (.new 116, 3) := by decide +kernel
theorem dX10_bid_143 : decode cX10_bid 143 = .ok (.dup, 1) := by decide +kernel
theorem dX10_bid_144 : decode cX10_bid 144 = .ok (.ldc 242, 2) := by decide +kernel
theorem dX10_bid_146 : decode cX10_bid 146 = .ok (.invokespecial 120, 3) := by decide +kernel
theorem dX10_bid_149 : decode cX10_bid 149 = .ok (.athrow, 1) := by decide +kernel
theorem dX10_bid_150 : decode cX10_bid 150 = .ok (.aload_n 0, 1) := by decide +kernel
theorem dX10_bid_151 : decode cX10_bid 151 = .ok (.getfield 19, 3) := by decide +kernel
theorem dX10_bid_154 : decode cX10_bid 154 = .ok (.getfield 224, 3) := by decide +kernel
theorem dX10_bid_157 : decode cX10_bid 157 = .ok (.invokeinterface 228 1, 5) := by decide +kernel
theorem dX10_bid_162 : decode cX10_bid 162 = .ok (.istore 7, 2) := by decide +kernel
theorem dX10_bid_164 : decode cX10_bid 164 = .ok (.aload_n 0, 1) := by decide +kernel
theorem dX10_bid_165 : decode cX10_bid 165 = .ok (.getfield 19, 3) := by decide +kernel
theorem dX10_bid_168 : decode cX10_bid 168 = .ok (.getfield 224, 3) := by decide +kernel
theorem dX10_bid_171 : decode cX10_bid 171 = .ok (.new 244, 3) := by decide +kernel
theorem dX10_bid_174 : decode cX10_bid 174 = .ok (.dup, 1) := by decide +kernel
theorem dX10_bid_175 : decode cX10_bid 175 = .ok (.iload 7, 2) := by decide +kernel
theorem dX10_bid_177 : decode cX10_bid 177 = .ok (.iload_n 1, 1) := by decide +kernel
theorem dX10_bid_178 : decode cX10_bid 178 = .ok (.aload 6, 2) := by decide +kernel
theorem dX10_bid_180 : decode cX10_bid 180 = .ok (.iload_n 3, 1) := by decide +kernel
theorem dX10_bid_181 : decode cX10_bid 181 = .ok (.iload 4, 2) := by decide +kernel
theorem dX10_bid_183 : decode cX10_bid 183 = .ok (.iload 5, 2) := by decide +kernel
theorem dX10_bid_185 : decode cX10_bid 185 = .ok (.aload_n 0, 1) := by decide +kernel
theorem dX10_bid_186 : decode cX10_bid 186 = .ok (.getfield 50, 3) := by decide +kernel
theorem dX10_bid_189 : decode cX10_bid 189 = .ok (.invokespecial 246, 3) := by decide +kernel
theorem dX10_bid_192 : decode cX10_bid 192 = .ok (.invokeinterface 249 2, 5) := by decide +kernel
theorem dX10_bid_197 : decode cX10_bid 197 = .ok (.pop, 1) := by decide +kernel
theorem dX10_bid_198 : decode cX10_bid 198 = .ok (.aload_n 0, 1) := by decide +kernel
theorem dX10_bid_199 : decode cX10_bid 199 = .ok (.dup, 1) := by decide +kernel
theorem dX10_bid_200 : decode cX10_bid 200 = .ok (.getfield 50, 3) := by decide +kernel
theorem dX10_bid_203 : decode cX10_bid 203 = .ok (.iconst 1, 1) := by decide +kernel
theorem dX10_bid_204 : decode cX10_bid 204 = .ok (.iadd, 1) := by decide +kernel
theorem dX10_bid_205 : decode cX10_bid 205 = .ok (.putfield 50, 3) := by decide +kernel
theorem dX10_bid_208 : decode cX10_bid 208 = .ok (.iload 7, 2) := by decide +kernel
theorem dX10_bid_210 : decode cX10_bid 210 = .ok (.ireturn, 1) := by decide +kernel
theorem dX10_withdraw_0 : decode cX10_withdraw 0 = .ok (.iload_n 1, 1) := by decide +kernel
theorem dX10_withdraw_1 : decode cX10_withdraw 1 = .ok (.invokestatic 54, 3) := by decide +kernel
theorem dX10_withdraw_4 : decode cX10_withdraw 4 = .ok (.aload_n 0, 1) := by decide +kernel
theorem dX10_withdraw_5 : decode cX10_withdraw 5 = .ok (.iload_n 2, 1) := by decide +kernel
theorem dX10_withdraw_6 : decode cX10_withdraw 6 = .ok (.invokevirtual 253, 3) := by decide +kernel
theorem dX10_withdraw_9 : decode cX10_withdraw 9 = .ok (.astore_n 3, 1) := by decide +kernel
theorem dX10_withdraw_10 : decode cX10_withdraw 10 = .ok (.aload_n 3, 1) := by decide +kernel
theorem dX10_withdraw_11 : decode cX10_withdraw 11 = .ok (.getfield 257, 3) := by decide +kernel
theorem dX10_withdraw_14 : decode cX10_withdraw 14 = .ok (.iload_n 1, 1) := by decide +kernel
theorem dX10_withdraw_15 : decode cX10_withdraw 15 = .ok (.if_icmp .eq 14, 3) := by decide +kernel
theorem dX10_withdraw_18 : decode cX10_withdraw 18 = .ok (.new 116, 3) := by decide +kernel
theorem dX10_withdraw_21 : decode cX10_withdraw 21 = .ok (.dup, 1) := by decide +kernel
theorem dX10_withdraw_22 : decode cX10_withdraw 22 = .ok (.ldc_w 259, 3) := by decide +kernel
theorem dX10_withdraw_25 : decode cX10_withdraw 25 = .ok (.invokespecial 120, 3) := by decide +kernel
theorem dX10_withdraw_28 : decode cX10_withdraw 28 = .ok (.athrow, 1) := by decide +kernel
theorem dX10_withdraw_29 : decode cX10_withdraw 29 = .ok (.aload_n 3, 1) := by decide +kernel
theorem dX10_withdraw_30 : decode cX10_withdraw 30 = .ok (.getfield 261, 3) := by decide +kernel
theorem dX10_withdraw_33 : decode cX10_withdraw 33 = .ok (.ldc_w 264, 3) := by decide +kernel
theorem dX10_withdraw_36 : decode cX10_withdraw 36 = .ok (.if_icmp .eq 14, 3) := by decide +kernel
theorem dX10_withdraw_39 : decode cX10_withdraw 39 = .ok (.new 116, 3) := by decide +kernel
theorem dX10_withdraw_42 : decode cX10_withdraw 42 = .ok (.dup, 1) := by decide +kernel
theorem dX10_withdraw_43 : decode cX10_withdraw 43 = .ok (.ldc_w 265, 3) := by decide +kernel
theorem dX10_withdraw_46 : decode cX10_withdraw 46 = .ok (.invokespecial 120, 3) := by decide +kernel
theorem dX10_withdraw_49 : decode cX10_withdraw 49 = .ok (.athrow, 1) := by decide +kernel
theorem dX10_withdraw_50 : decode cX10_withdraw 50 = .ok (.aload_n 0, 1) := by decide +kernel
theorem dX10_withdraw_51 : decode cX10_withdraw 51 = .ok (.getfield 19, 3) := by decide +kernel
theorem dX10_withdraw_54 : decode cX10_withdraw 54 = .ok (.getfield 212, 3) := by decide +kernel
theorem dX10_withdraw_57 : decode cX10_withdraw 57 = .ok (.aload_n 3, 1) := by decide +kernel
theorem dX10_withdraw_58 : decode cX10_withdraw 58 = .ok (.getfield 267, 3) := by decide +kernel
theorem dX10_withdraw_61 : decode cX10_withdraw 61 = .ok (.getfield 271, 3) := by decide +kernel
theorem dX10_withdraw_64 : decode cX10_withdraw 64 = .ok (.aaload, 1) := by decide +kernel
theorem dX10_withdraw_65 : decode cX10_withdraw 65 = .ok (.invokevirtual 216, 3) := by decide +kernel
theorem dX10_withdraw_68 : decode cX10_withdraw 68 = .ok (.ifCond .eq 14, 3) := by decide +kernel
theorem dX10_withdraw_71 : decode cX10_withdraw 71 = .ok (.new 116, 3) := by decide +kernel
theorem dX10_withdraw_74 : decode cX10_withdraw 74 = .ok (.dup, 1) := by decide +kernel
theorem dX10_withdraw_75 : decode cX10_withdraw 75 = .ok (.ldc_w 274, 3) := by decide +kernel
theorem dX10_withdraw_78 : decode cX10_withdraw 78 = .ok (.invokespecial 120, 3) := by decide +kernel
theorem dX10_withdraw_81 : decode cX10_withdraw 81 = .ok (.athrow, 1) := by decide +kernel
theorem dX10_withdraw_82 : decode cX10_withdraw 82 = .ok (.aload_n 3, 1) := by decide +kernel
theorem dX10_withdraw_83 : decode cX10_withdraw 83 = .ok (.getfield 267, 3) := by decide +kernel
theorem dX10_withdraw_86 : decode cX10_withdraw 86 = .ok (.invokevirtual 276, 3) := by decide +kernel
theorem dX10_withdraw_89 : decode cX10_withdraw 89 = .ok (.ifCond .eq 14, 3) := by decide +kernel
theorem dX10_withdraw_92 : decode cX10_withdraw 92 = .ok (.new 116, 3) := by decide +kernel
theorem dX10_withdraw_95 : decode cX10_withdraw 95 = .ok (.dup, 1) := by decide +kernel
theorem dX10_withdraw_96 : decode cX10_withdraw 96 = .ok (.ldc_w 279, 3) := by decide +kernel
theorem dX10_withdraw_99 : decode cX10_withdraw 99 = .ok (.invokespecial 120, 3) := by decide +kernel
theorem dX10_withdraw_102 : decode cX10_withdraw 102 = .ok (.athrow, 1) := by decide +kernel
theorem dX10_withdraw_103 : decode cX10_withdraw 103 = .ok (.aload_n 3, 1) := by decide +kernel
theorem dX10_withdraw_104 : decode cX10_withdraw 104 = .ok (.aload_n 0, 1) := by decide +kernel
theorem dX10_withdraw_105 : decode cX10_withdraw 105 = .ok (.getfield 50, 3) := by decide +kernel
theorem dX10_withdraw_108 : decode cX10_withdraw 108 = .ok (.putfield 261, 3) := by decide +kernel
theorem dX10_withdraw_111 : decode cX10_withdraw 111 = .ok (.aload_n 0, 1) := by decide +kernel
theorem dX10_withdraw_112 : decode cX10_withdraw 112 = .ok (.dup, 1) := by decide +kernel
theorem dX10_withdraw_113 : decode cX10_withdraw 113 = .ok (.getfield 50, 3) := by decide +kernel
theorem dX10_withdraw_116 : decode cX10_withdraw 116 = .ok (.iconst 1, 1) := by decide +kernel
theorem dX10_withdraw_117 : decode cX10_withdraw 117 = .ok (.iadd, 1) := by decide +kernel
theorem dX10_withdraw_118 : decode cX10_withdraw 118 = .ok (.putfield 50, 3) := by decide +kernel
theorem dX10_withdraw_121 : decode cX10_withdraw 121 = .ok (.aload_n 3, 1) := by decide +kernel
theorem dX10_withdraw_122 : decode cX10_withdraw 122 = .ok (.getfield 281, 3) := by decide +kernel
theorem dX10_withdraw_125 : decode cX10_withdraw 125 = .ok (.ireturn, 1) := by decide +kernel
theorem dX10_share_0 : decode cX10_share 0 = .ok (.iload_n 1, 1) := by decide +kernel
theorem dX10_share_1 : decode cX10_share 1 = .ok (.invokestatic 149, 3) := by decide +kernel
theorem dX10_share_4 : decode cX10_share 4 = .ok (.aload_n 0, 1) := by decide +kernel
theorem dX10_share_5 : decode cX10_share 5 = .ok (.getfield 19, 3) := by decide +kernel
theorem dX10_share_8 : decode cX10_share 8 = .ok (.getfield 282, 3) := by decide +kernel
theorem dX10_share_11 : decode cX10_share 11 = .ok (.iload_n 1, 1) := by decide +kernel
theorem dX10_share_12 : decode cX10_share 12 = .ok (.baload, 1) := by decide +kernel
theorem dX10_share_13 : decode cX10_share 13 = .ok (.istore_n 3, 1) := by decide +kernel
theorem dX10_share_14 : decode cX10_share 14 = .ok (.aload_n 0, 1) := by decide +kernel
theorem dX10_share_15 : decode cX10_share 15 = .ok (.getfield 19, 3) := by decide +kernel
theorem dX10_share_18 : decode cX10_share 18 = .ok (.getfield 282, 3) := by decide +kernel
theorem dX10_share_21 : decode cX10_share 21 = .ok (.iload_n 1, 1) := by decide +kernel
theorem dX10_share_22 : decode cX10_share 22 = .ok (.iload_n 2, 1) := by decide +kernel
theorem dX10_share_23 : decode cX10_share 23 = .ok (.bastore, 1) := by decide +kernel
theorem dX10_share_24 : decode cX10_share 24 = .ok (.aload_n 0, 1) := by decide +kernel
theorem dX10_share_25 : decode cX10_share 25 = .ok (.dup, 1) := by decide +kernel
theorem dX10_share_26 : decode cX10_share 26 = .ok (.getfield 50, 3) := by decide +kernel
theorem dX10_share_29 : decode cX10_share 29 = .ok (.iconst 1, 1) := by decide +kernel
theorem dX10_share_30 : decode cX10_share 30 = .ok (.iadd, 1) := by decide +kernel
theorem dX10_share_31 : decode cX10_share 31 = .ok (.putfield 50, 3) := by decide +kernel
theorem dX10_share_34 : decode cX10_share 34 = .ok (.iload_n 3, 1) := by decide +kernel
theorem dX10_share_35 : decode cX10_share 35 = .ok (.ireturn, 1) := by decide +kernel
theorem dX10_bell_0 : decode cX10_bell 0 = .ok (.iload_n 1, 1) := by decide +kernel
theorem dX10_bell_1 : decode cX10_bell 1 = .ok (.invokestatic 149, 3) := by decide +kernel
theorem dX10_bell_4 : decode cX10_bell 4 = .ok (.aload_n 0, 1) := by decide +kernel
theorem dX10_bell_5 : decode cX10_bell 5 = .ok (.getfield 19, 3) := by decide +kernel
theorem dX10_bell_8 : decode cX10_bell 8 = .ok (.getfield 212, 3) := by decide +kernel
theorem dX10_bell_11 : decode cX10_bell 11 = .ok (.iload_n 1, 1) := by decide +kernel
theorem dX10_bell_12 : decode cX10_bell 12 = .ok (.aaload, 1) := by decide +kernel
theorem dX10_bell_13 : decode cX10_bell 13 = .ok (.astore_n 2, 1) := by decide +kernel
theorem dX10_bell_14 : decode cX10_bell 14 = .ok (.aload_n 2, 1) := by decide +kernel
theorem dX10_bell_15 : decode cX10_bell 15 = .ok (.invokevirtual 216, 3) := by decide +kernel
theorem dX10_bell_18 : decode cX10_bell 18 = .ok (.ifCond .ne 39, 3) := by decide +kernel
theorem dX10_bell_21 : decode cX10_bell 21 = .ok (.aload_n 2, 1) := by decide +kernel
theorem dX10_bell_22 : decode cX10_bell 22 = .ok (.aload_n 0, 1) := by decide +kernel
theorem dX10_bell_23 : decode cX10_bell 23 = .ok (.getfield 50, 3) := by decide +kernel
theorem dX10_bell_26 : decode cX10_bell 26 = .ok (.aload_n 0, 1) := by decide +kernel
theorem dX10_bell_27 : decode cX10_bell 27 = .ok (.getfield 19, 3) := by decide +kernel
theorem dX10_bell_30 : decode cX10_bell 30 = .ok (.getfield 282, 3) := by decide +kernel
theorem dX10_bell_33 : decode cX10_bell 33 = .ok (.iload_n 1, 1) := by decide +kernel
theorem dX10_bell_34 : decode cX10_bell 34 = .ok (.baload, 1) := by decide +kernel
theorem dX10_bell_35 : decode cX10_bell 35 = .ok (.aload_n 0, 1) := by decide +kernel
theorem dX10_bell_36 : decode cX10_bell 36 = .ok (.getfield 10, 3) := by decide +kernel
theorem dX10_bell_39 : decode cX10_bell 39 = .ok (.getfield 66, 3) := by decide +kernel
theorem dX10_bell_42 : decode cX10_bell 42 = .ok (.invokevirtual 286, 3) := by decide +kernel
theorem dX10_bell_45 : decode cX10_bell 45 = .ok (.aload_n 0, 1) := by decide +kernel
theorem dX10_bell_46 : decode cX10_bell 46 = .ok (.dup, 1) := by decide +kernel
theorem dX10_bell_47 : decode cX10_bell 47 = .ok (.getfield 50, 3) := by decide +kernel
theorem dX10_bell_50 : decode cX10_bell 50 = .ok (.iconst 1, 1) := by decide +kernel
theorem dX10_bell_51 : decode cX10_bell 51 = .ok (.iadd, 1) := by decide +kernel
theorem dX10_bell_52 : decode cX10_bell 52 = .ok (.putfield 50, 3) := by decide +kernel
theorem dX10_bell_55 : decode cX10_bell 55 = .ok (.iconst (-1), 1) := by decide +kernel
theorem dX10_bell_56 : decode cX10_bell 56 = .ok (.ireturn, 1) := by decide +kernel
theorem dX10_bell_57 : decode cX10_bell 57 = .ok (.aload_n 0, 1) := by decide +kernel
theorem dX10_bell_58 : decode cX10_bell 58 = .ok (.getfield 19, 3) := by decide +kernel
theorem dX10_bell_61 : decode cX10_bell 61 = .ok (.getfield 290, 3) := by decide +kernel
theorem dX10_bell_64 : decode cX10_bell 64 = .ok (.invokeinterface 228 1, 5) := by decide +kernel
theorem dX10_bell_69 : decode cX10_bell 69 = .ok (.bipush 30, 2) := by decide +kernel
theorem dX10_bell_71 : decode cX10_bell 71 = .ok (.if_icmp .lt 14, 3) := by decide +kernel
theorem dX10_bell_74 : decode cX10_bell 74 = .ok (.new 116, 3) := by decide +kernel
theorem dX10_bell_77 : decode cX10_bell 77 = .ok (.dup, 1) := by decide +kernel
theorem dX10_bell_78 : decode cX10_bell 78 = .ok (.ldc_w 293, 3) := by decide +kernel
theorem dX10_bell_81 : decode cX10_bell 81 = .ok (.invokespecial 120, 3) := by decide +kernel
theorem dX10_bell_84 : decode cX10_bell 84 = .ok (.athrow, 1) := by decide +kernel
theorem dX10_bell_85 : decode cX10_bell 85 = .ok (.aload_n 0, 1) := by decide +kernel
theorem dX10_bell_86 : decode cX10_bell 86 = .ok (.getfield 19, 3) := by decide +kernel
theorem dX10_bell_89 : decode cX10_bell 89 = .ok (.aload_n 2, 1) := by decide +kernel
theorem dX10_bell_90 : decode cX10_bell 90 = .ok (.aload_n 0, 1) := by decide +kernel
theorem dX10_bell_91 : decode cX10_bell 91 = .ok (.getfield 50, 3) := by decide +kernel
theorem dX10_bell_94 : decode cX10_bell 94 = .ok (.invokevirtual 295, 3) := by decide +kernel
theorem dX10_bell_97 : decode cX10_bell 97 = .ok (.istore_n 3, 1) := by decide +kernel
theorem dX10_bell_98 : decode cX10_bell 98 = .ok (.aload_n 0, 1) := by decide +kernel
theorem dX10_bell_99 : decode cX10_bell 99 = .ok (.getfield 37, 3) := by decide +kernel
theorem dX10_bell_102 : decode cX10_bell 102 = .ok (.aload_n 2, 1) := by decide +kernel
theorem dX10_bell_103 : decode cX10_bell 103 = .ok (.invokevirtual 299, 3) := by decide +kernel
theorem dX10_bell_106 : decode cX10_bell 106 = .ok (.pop, 1) := by decide +kernel
theorem dX10_bell_107 : decode cX10_bell 107 = .ok (.aload_n 0, 1) := by decide +kernel
theorem dX10_bell_108 : decode cX10_bell 108 = .ok (.dup, 1) := by decide +kernel
theorem dX10_bell_109 : decode cX10_bell 109 = .ok (.getfield 50, 3) := by decide +kernel
theorem dX10_bell_112 : decode cX10_bell 112 = .ok (.iconst 1, 1) := by decide +kernel
theorem dX10_bell_113 : decode cX10_bell 113 = .ok (.iadd, 1) := by decide +kernel
theorem dX10_bell_114 : decode cX10_bell 114 = .ok (.putfield 50, 3) := by decide +kernel
theorem dX10_bell_117 : decode cX10_bell 117 = .ok (.iload_n 3, 1) := by decide +kernel
theorem dX10_bell_118 : decode cX10_bell 118 = .ok (.ireturn, 1) := by decide +kernel
theorem dX10_isFrozen_0 : decode cX10_isFrozen 0 = .ok (.iload_n 1, 1) := by decide +kernel
theorem dX10_isFrozen_1 : decode cX10_isFrozen 1 = .ok (.invokestatic 149, 3) := by decide +kernel
theorem dX10_isFrozen_4 : decode cX10_isFrozen 4 = .ok (.aload_n 0, 1) := by decide +kernel
theorem dX10_isFrozen_5 : decode cX10_isFrozen 5 = .ok (.getfield 19, 3) := by decide +kernel
theorem dX10_isFrozen_8 : decode cX10_isFrozen 8 = .ok (.getfield 212, 3) := by decide +kernel
theorem dX10_isFrozen_11 : decode cX10_isFrozen 11 = .ok (.iload_n 1, 1) := by decide +kernel
theorem dX10_isFrozen_12 : decode cX10_isFrozen 12 = .ok (.aaload, 1) := by decide +kernel
theorem dX10_isFrozen_13 : decode cX10_isFrozen 13 = .ok (.invokevirtual 216, 3) := by decide +kernel
theorem dX10_isFrozen_16 : decode cX10_isFrozen 16 = .ok (.ireturn, 1) := by decide +kernel
theorem dX10_round_0 : decode cX10_round 0 = .ok (.aload_n 0, 1) := by decide +kernel
theorem dX10_round_1 : decode cX10_round 1 = .ok (.iload_n 1, 1) := by decide +kernel
theorem dX10_round_2 : decode cX10_round 2 = .ok (.invokevirtual 303, 3) := by decide +kernel
theorem dX10_round_5 : decode cX10_round 5 = .ok (.astore_n 3, 1) := by decide +kernel
theorem dX10_round_6 : decode cX10_round 6 = .ok (.iload_n 2, 1) := by decide +kernel
theorem dX10_round_7 : decode cX10_round 7 = .ok (.tableswitch 71 0 5 #[37, 42, 47, 52, 57, 62], 37) := by decide +kernel
theorem dX10_round_44 : decode cX10_round 44 = .ok (.aload_n 3, 1) := by decide +kernel
theorem dX10_round_45 : decode cX10_round 45 = .ok (.getfield 271, 3) := by decide +kernel
theorem dX10_round_48 : decode cX10_round 48 = .ok (.ireturn, 1) := by decide +kernel
theorem dX10_round_49 : decode cX10_round 49 = .ok (.aload_n 3, 1) := by decide +kernel
theorem dX10_round_50 : decode cX10_round 50 = .ok (.getfield 307, 3) := by decide +kernel
theorem dX10_round_53 : decode cX10_round 53 = .ok (.ireturn, 1) := by decide +kernel
theorem dX10_round_54 : decode cX10_round 54 = .ok (.aload_n 3, 1) := by decide +kernel
theorem dX10_round_55 : decode cX10_round 55 = .ok (.getfield 310, 3) := by decide +kernel
theorem dX10_round_58 : decode cX10_round 58 = .ok (.ireturn, 1) := by decide +kernel
theorem dX10_round_59 : decode cX10_round 59 = .ok (.aload_n 3, 1) := by decide +kernel
theorem dX10_round_60 : decode cX10_round 60 = .ok (.getfield 313, 3) := by decide +kernel
theorem dX10_round_63 : decode cX10_round 63 = .ok (.ireturn, 1) := by decide +kernel
theorem dX10_round_64 : decode cX10_round 64 = .ok (.aload_n 3, 1) := by decide +kernel
theorem dX10_round_65 : decode cX10_round 65 = .ok (.getfield 316, 3) := by decide +kernel
theorem dX10_round_68 : decode cX10_round 68 = .ok (.ireturn, 1) := by decide +kernel
theorem dX10_round_69 : decode cX10_round 69 = .ok (.aload_n 0, 1) := by decide +kernel
theorem dX10_round_70 : decode cX10_round 70 = .ok (.getfield 19, 3) := by decide +kernel
theorem dX10_round_73 : decode cX10_round 73 = .ok (.aload_n 3, 1) := by decide +kernel
theorem dX10_round_74 : decode cX10_round 74 = .ok (.invokevirtual 319, 3) := by decide +kernel
theorem dX10_round_77 : decode cX10_round 77 = .ok (.ireturn, 1) := by decide +kernel
theorem dX10_round_78 : decode cX10_round 78 = .ok (.new 80, 3) := by decide +kernel
theorem dX10_round_81 : decode cX10_round 81 = .ok (.dup, 1) := by decide +kernel
theorem dX10_round_82 : decode cX10_round 82 = .ok (.ldc 206, 2) := by decide +kernel
theorem dX10_round_84 : decode cX10_round 84 = .ok (.invokespecial 84, 3) := by decide +kernel
theorem dX10_round_87 : decode cX10_round 87 = .ok (.athrow, 1) := by decide +kernel
theorem dX10_priceAnew_0 : decode cX10_priceAnew 0 = .ok (.aload_n 0, 1) := by decide +kernel
theorem dX10_priceAnew_1 : decode cX10_priceAnew 1 = .ok (.iload_n 1, 1) := by decide +kernel
theorem dX10_priceAnew_2 : decode cX10_priceAnew 2 = .ok (.invokevirtual 303, 3) := by decide +kernel
theorem dX10_priceAnew_5 : decode cX10_priceAnew 5 = .ok (.astore_n 2, 1) := by decide +kernel
theorem dX10_priceAnew_6 : decode cX10_priceAnew 6 = .ok (.iconst 0, 1) := by decide +kernel
theorem dX10_priceAnew_7 : decode cX10_priceAnew 7 = .ok (.istore_n 3, 1) := by decide +kernel
theorem dX10_priceAnew_8 : decode cX10_priceAnew 8 = .ok (.iload_n 3, 1) := by decide +kernel
theorem dX10_priceAnew_9 : decode cX10_priceAnew 9 = .ok (.iload_n 1, 1) := by decide +kernel
theorem dX10_priceAnew_10 : decode cX10_priceAnew 10 = .ok (.if_icmp .gt 49, 3) := by decide +kernel
theorem dX10_priceAnew_13 : decode cX10_priceAnew 13 = .ok (.iload_n 3, 1) := by decide +kernel
theorem dX10_priceAnew_14 : decode cX10_priceAnew 14 = .ok (.aload_n 0, 1) := by decide +kernel
theorem dX10_priceAnew_15 : decode cX10_priceAnew 15 = .ok (.getfield 19, 3) := by decide +kernel
theorem dX10_priceAnew_18 : decode cX10_priceAnew 18 = .ok (.getfield 290, 3) := by decide +kernel
theorem dX10_priceAnew_21 : decode cX10_priceAnew 21 = .ok (.invokeinterface 228 1, 5) := by decide +kernel
theorem dX10_priceAnew_26 : decode cX10_priceAnew 26 = .ok (.if_icmp .ge 33, 3) := by decide +kernel
theorem dX10_priceAnew_29 : decode cX10_priceAnew 29 = .ok (.aload_n 0, 1) := by decide +kernel
theorem dX10_priceAnew_30 : decode cX10_priceAnew 30 = .ok (.getfield 37, 3) := by decide +kernel
theorem dX10_priceAnew_33 : decode cX10_priceAnew 33 = .ok (.aload_n 0, 1) := by decide +kernel
theorem dX10_priceAnew_34 : decode cX10_priceAnew 34 = .ok (.getfield 19, 3) := by decide +kernel
theorem dX10_priceAnew_37 : decode cX10_priceAnew 37 = .ok (.getfield 290, 3) := by decide +kernel
theorem dX10_priceAnew_40 : decode cX10_priceAnew 40 = .ok (.iload_n 3, 1) := by decide +kernel
theorem dX10_priceAnew_41 : decode cX10_priceAnew 41 = .ok (.invokeinterface 323 2, 5) := by decide +kernel
theorem dX10_priceAnew_46 : decode cX10_priceAnew 46 = .ok (.checkcast 217, 3) := by decide +kernel
theorem dX10_priceAnew_49 : decode cX10_priceAnew 49 = .ok (.invokevirtual 299, 3) := by decide +kernel
theorem dX10_priceAnew_52 : decode cX10_priceAnew 52 = .ok (.pop, 1) := by decide +kernel
theorem dX10_priceAnew_53 : decode cX10_priceAnew 53 = .ok (.iinc 3 1, 3) := by decide +kernel
theorem dX10_priceAnew_56 : decode cX10_priceAnew 56 = .ok (.goto (-48), 3) := by decide +kernel
theorem dX10_priceAnew_59 : decode cX10_priceAnew 59 = .ok (.aload_n 2, 1) := by decide +kernel
theorem dX10_priceAnew_60 : decode cX10_priceAnew 60 = .ok (.getfield 307, 3) := by decide +kernel
theorem dX10_priceAnew_63 : decode cX10_priceAnew 63 = .ok (.ireturn, 1) := by decide +kernel
theorem dX10_got_0 : decode cX10_got 0 = .ok (.aload_n 0, 1) := by decide +kernel
theorem dX10_got_1 : decode cX10_got 1 = .ok (.iload_n 1, 1) := by decide +kernel
theorem dX10_got_2 : decode cX10_got 2 = .ok (.invokevirtual 253, 3) := by decide +kernel
theorem dX10_got_5 : decode cX10_got 5 = .ok (.getfield 327, 3) := by decide +kernel
theorem dX10_got_8 : decode cX10_got 8 = .ok (.ireturn, 1) := by decide +kernel
theorem dX10_due_0 : decode cX10_due 0 = .ok (.iload_n 1, 1) := by decide +kernel
theorem dX10_due_1 : decode cX10_due 1 = .ok (.invokestatic 54, 3) := by decide +kernel
theorem dX10_due_4 : decode cX10_due 4 = .ok (.iload_n 2, 1) := by decide +kernel
theorem dX10_due_5 : decode cX10_due 5 = .ok (.invokestatic 149, 3) := by decide +kernel
theorem dX10_due_8 : decode cX10_due 8 = .ok (.aload_n 0, 1) := by decide +kernel
theorem dX10_due_9 : decode cX10_due 9 = .ok (.getfield 46, 3) := by decide +kernel
theorem dX10_due_12 : decode cX10_due 12 = .ok (.iload_n 1, 1) := by decide +kernel
theorem dX10_due_13 : decode cX10_due 13 = .ok (.iload_n 2, 1) := by decide +kernel
theorem dX10_due_14 : decode cX10_due 14 = .ok (.invokevirtual 330, 3) := by decide +kernel
theorem dX10_due_17 : decode cX10_due 17 = .ok (.ireturn, 1) := by decide +kernel
theorem dX10_settle_0 : decode cX10_settle 0 = .ok (.iload_n 1, 1) := by decide +kernel
theorem dX10_settle_1 : decode cX10_settle 1 = .ok (.invokestatic 149, 3) := by decide +kernel
theorem dX10_settle_4 : decode cX10_settle 4 = .ok (.aload_n 0, 1) := by decide +kernel
theorem dX10_settle_5 : decode cX10_settle 5 = .ok (.dup, 1) := by decide +kernel
theorem dX10_settle_6 : decode cX10_settle 6 = .ok (.getfield 50, 3) := by decide +kernel
theorem dX10_settle_9 : decode cX10_settle 9 = .ok (.iconst 1, 1) := by decide +kernel
theorem dX10_settle_10 : decode cX10_settle 10 = .ok (.iadd, 1) := by decide +kernel
theorem dX10_settle_11 : decode cX10_settle 11 = .ok (.putfield 50, 3) := by decide +kernel
theorem dX10_settle_14 : decode cX10_settle 14 = .ok (.aload_n 0, 1) := by decide +kernel
theorem dX10_settle_15 : decode cX10_settle 15 = .ok (.getfield 46, 3) := by decide +kernel
theorem dX10_settle_18 : decode cX10_settle 18 = .ok (.iload_n 1, 1) := by decide +kernel
theorem dX10_settle_19 : decode cX10_settle 19 = .ok (.invokevirtual 333, 3) := by decide +kernel
theorem dX10_settle_22 : decode cX10_settle 22 = .ok (.ireturn, 1) := by decide +kernel
theorem dX10_cash_0 : decode cX10_cash 0 = .ok (.iload_n 1, 1) := by decide +kernel
theorem dX10_cash_1 : decode cX10_cash 1 = .ok (.invokestatic 54, 3) := by decide +kernel
theorem dX10_cash_4 : decode cX10_cash 4 = .ok (.aload_n 0, 1) := by decide +kernel
theorem dX10_cash_5 : decode cX10_cash 5 = .ok (.getfield 46, 3) := by decide +kernel
theorem dX10_cash_8 : decode cX10_cash 8 = .ok (.getfield 336, 3) := by decide +kernel
theorem dX10_cash_11 : decode cX10_cash 11 = .ok (.iload_n 1, 1) := by decide +kernel
theorem dX10_cash_12 : decode cX10_cash 12 = .ok (.iaload, 1) := by decide +kernel
theorem dX10_cash_13 : decode cX10_cash 13 = .ok (.ireturn, 1) := by decide +kernel
theorem dX10_limit_0 : decode cX10_limit 0 = .ok (.iload_n 1, 1) := by decide +kernel
theorem dX10_limit_1 : decode cX10_limit 1 = .ok (.invokestatic 54, 3) := by decide +kernel
theorem dX10_limit_4 : decode cX10_limit 4 = .ok (.iload_n 2, 1) := by decide +kernel
theorem dX10_limit_5 : decode cX10_limit 5 = .ok (.ifCond .lt 10, 3) := by decide +kernel
theorem dX10_limit_8 : decode cX10_limit 8 = .ok (.iload_n 2, 1) := by decide +kernel
theorem dX10_limit_9 : decode cX10_limit 9 = .ok (.ldc_w 339, 3) := by decide +kernel
theorem dX10_limit_12 : decode cX10_limit 12 = .ok (.if_icmp .le 13, 3) := by decide +kernel
theorem dX10_limit_15 : decode cX10_limit 15 = .ok (.new 80, 3) := by decide +kernel
theorem dX10_limit_18 : decode cX10_limit 18 = .ok (.dup, 1) := by decide +kernel
theorem dX10_limit_19 : decode cX10_limit 19 = .ok (.ldc 210, 2) := by decide +kernel
theorem dX10_limit_21 : decode cX10_limit 21 = .ok (.invokespecial 84, 3) := by decide +kernel
theorem dX10_limit_24 : decode cX10_limit 24 = .ok (.athrow, 1) := by decide +kernel
theorem dX10_limit_25 : decode cX10_limit 25 = .ok (.aload_n 0, 1) := by decide +kernel
theorem dX10_limit_26 : decode cX10_limit 26 = .ok (.getfield 46, 3) := by decide +kernel
theorem dX10_limit_29 : decode cX10_limit 29 = .ok (.getfield 239, 3) := by decide +kernel
theorem dX10_limit_32 : decode cX10_limit 32 = .ok (.iload_n 1, 1) := by decide +kernel
theorem dX10_limit_33 : decode cX10_limit 33 = .ok (.iaload, 1) := by decide +kernel
theorem dX10_limit_34 : decode cX10_limit 34 = .ok (.istore_n 3, 1) := by decide +kernel
theorem dX10_limit_35 : decode cX10_limit 35 = .ok (.aload_n 0, 1) := by decide +kernel
theorem dX10_limit_36 : decode cX10_limit 36 = .ok (.getfield 46, 3) := by decide +kernel
theorem dX10_limit_39 : decode cX10_limit 39 = .ok (.getfield 239, 3) := by decide +kernel
theorem dX10_limit_42 : decode cX10_limit 42 = .ok (.iload_n 1, 1) := by decide +kernel
theorem dX10_limit_43 : decode cX10_limit 43 = .ok (.iload_n 2, 1) := by decide +kernel
theorem dX10_limit_44 : decode cX10_limit 44 = .ok (.iastore, 1) := by decide +kernel
theorem dX10_limit_45 : decode cX10_limit 45 = .ok (.aload_n 0, 1) := by decide +kernel
theorem dX10_limit_46 : decode cX10_limit 46 = .ok (.dup, 1) := by decide +kernel
theorem dX10_limit_47 : decode cX10_limit 47 = .ok (.getfield 50, 3) := by decide +kernel
theorem dX10_limit_50 : decode cX10_limit 50 = .ok (.iconst 1, 1) := by decide +kernel
theorem dX10_limit_51 : decode cX10_limit 51 = .ok (.iadd, 1) := by decide +kernel
theorem dX10_limit_52 : decode cX10_limit 52 = .ok (.putfield 50, 3) := by decide +kernel
theorem dX10_limit_55 : decode cX10_limit 55 = .ok (.iload_n 3, 1) := by decide +kernel
theorem dX10_limit_56 : decode cX10_limit 56 = .ok (.ireturn, 1) := by decide +kernel
theorem dX10_exposure_0 : decode cX10_exposure 0 = .ok (.iload_n 1, 1) := by decide +kernel
theorem dX10_exposure_1 : decode cX10_exposure 1 = .ok (.invokestatic 54, 3) := by decide +kernel
theorem dX10_exposure_4 : decode cX10_exposure 4 = .ok (.aload_n 0, 1) := by decide +kernel
theorem dX10_exposure_5 : decode cX10_exposure 5 = .ok (.getfield 46, 3) := by decide +kernel
theorem dX10_exposure_8 : decode cX10_exposure 8 = .ok (.iload_n 1, 1) := by decide +kernel
theorem dX10_exposure_9 : decode cX10_exposure 9 = .ok (.invokevirtual 236, 3) := by decide +kernel
theorem dX10_exposure_12 : decode cX10_exposure 12 = .ok (.ireturn, 1) := by decide +kernel
theorem dX10_strikeBid_0 : decode cX10_strikeBid 0 = .ok (.aload_n 0, 1) := by decide +kernel
theorem dX10_strikeBid_1 : decode cX10_strikeBid 1 = .ok (.iload_n 1, 1) := by decide +kernel
theorem dX10_strikeBid_2 : decode cX10_strikeBid 2 = .ok (.invokevirtual 253, 3) := by decide +kernel
theorem dX10_strikeBid_5 : decode cX10_strikeBid 5 = .ok (.astore_n 2, 1) := by decide +kernel
theorem dX10_strikeBid_6 : decode cX10_strikeBid 6 = .ok (.aload_n 2, 1) := by decide +kernel
theorem dX10_strikeBid_7 : decode cX10_strikeBid 7 = .ok (.getfield 267, 3) := by decide +kernel
theorem dX10_strikeBid_10 : decode cX10_strikeBid 10 = .ok (.invokevirtual 276, 3) := by decide +kernel
theorem dX10_strikeBid_13 : decode cX10_strikeBid 13 = .ok (.ifCond .ne 14, 3) := by decide +kernel
theorem dX10_strikeBid_16 : decode cX10_strikeBid 16 = .ok (.new 116, 3) := by decide +kernel
theorem dX10_strikeBid_19 : decode cX10_strikeBid 19 = .ok (.dup, 1) := by decide +kernel
theorem dX10_strikeBid_20 : decode cX10_strikeBid 20 = .ok (.ldc_w 340, 3) := by decide +kernel
theorem dX10_strikeBid_23 : decode cX10_strikeBid 23 = .ok (.invokespecial 120, 3) := by decide +kernel
theorem dX10_strikeBid_26 : decode cX10_strikeBid 26 = .ok (.athrow, 1) := by decide +kernel
theorem dX10_strikeBid_27 : decode cX10_strikeBid 27 = .ok (.aload_n 2, 1) := by decide +kernel
theorem dX10_strikeBid_28 : decode cX10_strikeBid 28 = .ok (.getfield 342, 3) := by decide +kernel
theorem dX10_strikeBid_31 : decode cX10_strikeBid 31 = .ok (.ifCond .eq 14, 3) := by decide +kernel
theorem dX10_strikeBid_34 : decode cX10_strikeBid 34 = .ok (.new 116, 3) := by decide +kernel
theorem dX10_strikeBid_37 : decode cX10_strikeBid 37 = .ok (.dup, 1) := by decide +kernel
theorem dX10_strikeBid_38 : decode cX10_strikeBid 38 = .ok (.ldc_w 343, 3) := by decide +kernel
theorem dX10_strikeBid_41 : decode cX10_strikeBid 41 = .ok (.invokespecial 120, 3) := by decide +kernel
theorem dX10_strikeBid_44 : decode cX10_strikeBid 44 = .ok (.athrow, 1) := by decide +kernel
theorem dX10_strikeBid_45 : decode cX10_strikeBid 45 = .ok (.aload_n 2, 1) := by decide +kernel
theorem dX10_strikeBid_46 : decode cX10_strikeBid 46 = .ok (.iconst 1, 1) := by decide +kernel
theorem dX10_strikeBid_47 : decode cX10_strikeBid 47 = .ok (.putfield 342, 3) := by decide +kernel
theorem dX10_strikeBid_50 : decode cX10_strikeBid 50 = .ok (.aload_n 0, 1) := by decide +kernel
theorem dX10_strikeBid_51 : decode cX10_strikeBid 51 = .ok (.dup, 1) := by decide +kernel
theorem dX10_strikeBid_52 : decode cX10_strikeBid 52 = .ok (.getfield 50, 3) := by decide +kernel
theorem dX10_strikeBid_55 : decode cX10_strikeBid 55 = .ok (.iconst 1, 1) := by decide +kernel
theorem dX10_strikeBid_56 : decode cX10_strikeBid 56 = .ok (.iadd, 1) := by decide +kernel
theorem dX10_strikeBid_57 : decode cX10_strikeBid 57 = .ok (.putfield 50, 3) := by decide +kernel
theorem dX10_strikeBid_60 : decode cX10_strikeBid 60 = .ok (.aload_n 0, 1) := by decide +kernel
theorem dX10_strikeBid_61 : decode cX10_strikeBid 61 = .ok (.getfield 37, 3) := by decide +kernel
theorem dX10_strikeBid_64 : decode cX10_strikeBid 64 = .ok (.invokevirtual 345, 3) := by decide +kernel
theorem dX10_strikeBid_67 : decode cX10_strikeBid 67 = .ok (.ireturn, 1) := by decide +kernel
theorem dX10_strikeEdit_0 : decode cX10_strikeEdit 0 = .ok (.iload_n 1, 1) := by decide +kernel
theorem dX10_strikeEdit_1 : decode cX10_strikeEdit 1 = .ok (.ifCond .lt 19, 3) := by decide +kernel
theorem dX10_strikeEdit_4 : decode cX10_strikeEdit 4 = .ok (.iload_n 1, 1) := by decide +kernel
theorem dX10_strikeEdit_5 : decode cX10_strikeEdit 5 = .ok (.aload_n 0, 1) := by decide +kernel
theorem dX10_strikeEdit_6 : decode cX10_strikeEdit 6 = .ok (.getfield 10, 3) := by decide +kernel
theorem dX10_strikeEdit_9 : decode cX10_strikeEdit 9 = .ok (.getfield 348, 3) := by decide +kernel
theorem dX10_strikeEdit_12 : decode cX10_strikeEdit 12 = .ok (.invokeinterface 228 1, 5) := by decide +kernel
theorem dX10_strikeEdit_17 : decode cX10_strikeEdit 17 = .ok (.if_icmp .lt 14, 3) := by decide +kernel
theorem dX10_strikeEdit_20 : decode cX10_strikeEdit 20 = .ok (.new 177, 3) := by decide +kernel
theorem dX10_strikeEdit_23 : decode cX10_strikeEdit 23 = .ok (.dup, 1) := by decide +kernel
theorem dX10_strikeEdit_24 : decode cX10_strikeEdit 24 = .ok (.ldc_w 351, 3) := by decide +kernel
theorem dX10_strikeEdit_27 : decode cX10_strikeEdit 27 = .ok (.invokespecial 181, 3) := by decide +kernel
theorem dX10_strikeEdit_30 : decode cX10_strikeEdit 30 = .ok (.athrow, 1) := by decide +kernel
theorem dX10_strikeEdit_31 : decode cX10_strikeEdit 31 = .ok (.aload_n 0, 1) := by decide +kernel
theorem dX10_strikeEdit_32 : decode cX10_strikeEdit 32 = .ok (.getfield 10, 3) := by decide +kernel
theorem dX10_strikeEdit_35 : decode cX10_strikeEdit 35 = .ok (.getfield 348, 3) := by decide +kernel
theorem dX10_strikeEdit_38 : decode cX10_strikeEdit 38 = .ok (.iload_n 1, 1) := by decide +kernel
theorem dX10_strikeEdit_39 : decode cX10_strikeEdit 39 = .ok (.invokeinterface 323 2, 5) := by decide +kernel
theorem dX10_strikeEdit_44 : decode cX10_strikeEdit 44 = .ok (.checkcast 183, 3) := by decide +kernel
theorem dX10_strikeEdit_47 : decode cX10_strikeEdit 47 = .ok (.astore_n 2, 1) := by decide +kernel
theorem dX10_strikeEdit_48 : decode cX10_strikeEdit 48 = .ok (.aload_n 2, 1) := by decide +kernel
theorem dX10_strikeEdit_49 : decode cX10_strikeEdit 49 = .ok (.getfield 199, 3) := by decide +kernel
theorem dX10_strikeEdit_52 : decode cX10_strikeEdit 52 = .ok (.ifCond .eq 14, 3) := by decide +kernel
theorem dX10_strikeEdit_55 : decode cX10_strikeEdit 55 = .ok (.new 116, 3) := by decide +kernel
theorem dX10_strikeEdit_58 : decode cX10_strikeEdit 58 = .ok (.dup, 1) := by decide +kernel
theorem dX10_strikeEdit_59 : decode cX10_strikeEdit 59 = .ok (.ldc_w 343, 3) := by decide +kernel
theorem dX10_strikeEdit_62 : decode cX10_strikeEdit 62 = .ok (.invokespecial 120, 3) := by decide +kernel
theorem dX10_strikeEdit_65 : decode cX10_strikeEdit 65 = .ok (.athrow, 1) := by decide +kernel
theorem dX10_strikeEdit_66 : decode cX10_strikeEdit 66 = .ok (.aload_n 2, 1) := by decide +kernel
theorem dX10_strikeEdit_67 : decode cX10_strikeEdit 67 = .ok (.iconst 1, 1) := by decide +kernel
theorem dX10_strikeEdit_68 : decode cX10_strikeEdit 68 = .ok (.putfield 199, 3) := by decide +kernel
theorem dX10_strikeEdit_71 : decode cX10_strikeEdit 71 = .ok (.aload_n 0, 1) := by decide +kernel
theorem dX10_strikeEdit_72 : decode cX10_strikeEdit 72 = .ok (.dup, 1) := by decide +kernel
theorem dX10_strikeEdit_73 : decode cX10_strikeEdit 73 = .ok (.getfield 50, 3) := by decide +kernel
theorem dX10_strikeEdit_76 : decode cX10_strikeEdit 76 = .ok (.iconst 1, 1) := by decide +kernel
theorem dX10_strikeEdit_77 : decode cX10_strikeEdit 77 = .ok (.iadd, 1) := by decide +kernel
theorem dX10_strikeEdit_78 : decode cX10_strikeEdit 78 = .ok (.putfield 50, 3) := by decide +kernel
theorem dX10_strikeEdit_81 : decode cX10_strikeEdit 81 = .ok (.aload_n 0, 1) := by decide +kernel
theorem dX10_strikeEdit_82 : decode cX10_strikeEdit 82 = .ok (.getfield 37, 3) := by decide +kernel
theorem dX10_strikeEdit_85 : decode cX10_strikeEdit 85 = .ok (.invokevirtual 345, 3) := by decide +kernel
theorem dX10_strikeEdit_88 : decode cX10_strikeEdit 88 = .ok (.ireturn, 1) := by decide +kernel
theorem dX10_events_0 : decode cX10_events 0 = .ok (.aload_n 0, 1) := by decide +kernel
theorem dX10_events_1 : decode cX10_events 1 = .ok (.getfield 50, 3) := by decide +kernel
theorem dX10_events_4 : decode cX10_events 4 = .ok (.ireturn, 1) := by decide +kernel
theorem dX10_needOwner_0 : decode cX10_needOwner 0 = .ok (.iload_n 0, 1) := by decide +kernel
theorem dX10_needOwner_1 : decode cX10_needOwner 1 = .ok (.ifCond .lt 9, 3) := by decide +kernel
theorem dX10_needOwner_4 : decode cX10_needOwner 4 = .ok (.iload_n 0, 1) := by decide +kernel
theorem dX10_needOwner_5 : decode cX10_needOwner 5 = .ok (.bipush 6, 2) := by decide +kernel
theorem dX10_needOwner_7 : decode cX10_needOwner 7 = .ok (.if_icmp .lt 14, 3) := by decide +kernel
theorem dX10_needOwner_10 : decode cX10_needOwner 10 = .ok (.new 177, 3) := by decide +kernel
theorem dX10_needOwner_13 : decode cX10_needOwner 13 = .ok (.dup, 1) := by decide +kernel
theorem dX10_needOwner_14 : decode cX10_needOwner 14 = .ok (.ldc_w 353, 3) := by decide +kernel
theorem dX10_needOwner_17 : decode cX10_needOwner 17 = .ok (.invokespecial 181, 3) := by decide +kernel
theorem dX10_needOwner_20 : decode cX10_needOwner 20 = .ok (.athrow, 1) := by decide +kernel
theorem dX10_needOwner_21 : decode cX10_needOwner 21 = .ok (.return_, 1) := by decide +kernel
theorem dX10_needColumn_0 : decode cX10_needColumn 0 = .ok (.iload_n 0, 1) := by decide +kernel
theorem dX10_needColumn_1 : decode cX10_needColumn 1 = .ok (.ifCond .lt 8, 3) := by decide +kernel
theorem dX10_needColumn_4 : decode cX10_needColumn 4 = .ok (.iload_n 0, 1) := by decide +kernel
theorem dX10_needColumn_5 : decode cX10_needColumn 5 = .ok (.iconst 4, 1) := by decide +kernel
theorem dX10_needColumn_6 : decode cX10_needColumn 6 = .ok (.if_icmp .lt 13, 3) := by decide +kernel
theorem dX10_needColumn_9 : decode cX10_needColumn 9 = .ok (.new 177, 3) := by decide +kernel
theorem dX10_needColumn_12 : decode cX10_needColumn 12 = .ok (.dup, 1) := by decide +kernel
theorem dX10_needColumn_13 : decode cX10_needColumn 13 = .ok (.ldc 103, 2) := by decide +kernel
theorem dX10_needColumn_15 : decode cX10_needColumn 15 = .ok (.invokespecial 181, 3) := by decide +kernel
theorem dX10_needColumn_18 : decode cX10_needColumn 18 = .ok (.athrow, 1) := by decide +kernel
theorem dX10_needColumn_19 : decode cX10_needColumn 19 = .ok (.return_, 1) := by decide +kernel
theorem dX10_cellAt_0 : decode cX10_cellAt 0 = .ok (.iload_n 0, 1) := by decide +kernel
theorem dX10_cellAt_1 : decode cX10_cellAt 1 = .ok (.invokestatic 149, 3) := by decide +kernel
theorem dX10_cellAt_4 : decode cX10_cellAt 4 = .ok (.iload_n 1, 1) := by decide +kernel
theorem dX10_cellAt_5 : decode cX10_cellAt 5 = .ok (.ifCond .lt 9, 3) := by decide +kernel
theorem dX10_cellAt_8 : decode cX10_cellAt 8 = .ok (.iload_n 1, 1) := by decide +kernel
theorem dX10_cellAt_9 : decode cX10_cellAt 9 = .ok (.bipush 6, 2) := by decide +kernel
theorem dX10_cellAt_11 : decode cX10_cellAt 11 = .ok (.if_icmp .lt 13, 3) := by decide +kernel
theorem dX10_cellAt_14 : decode cX10_cellAt 14 = .ok (.new 177, 3) := by decide +kernel
theorem dX10_cellAt_17 : decode cX10_cellAt 17 = .ok (.dup, 1) := by decide +kernel
theorem dX10_cellAt_18 : decode cX10_cellAt 18 = .ok (.ldc 105, 2) := by decide +kernel
theorem dX10_cellAt_20 : decode cX10_cellAt 20 = .ok (.invokespecial 181, 3) := by decide +kernel
theorem dX10_cellAt_23 : decode cX10_cellAt 23 = .ok (.athrow, 1) := by decide +kernel
theorem dX10_cellAt_24 : decode cX10_cellAt 24 = .ok (.iload_n 0, 1) := by decide +kernel
theorem dX10_cellAt_25 : decode cX10_cellAt 25 = .ok (.bipush 6, 2) := by decide +kernel
theorem dX10_cellAt_27 : decode cX10_cellAt 27 = .ok (.imul, 1) := by decide +kernel
theorem dX10_cellAt_28 : decode cX10_cellAt 28 = .ok (.iload_n 1, 1) := by decide +kernel
theorem dX10_cellAt_29 : decode cX10_cellAt 29 = .ok (.iadd, 1) := by decide +kernel
theorem dX10_cellAt_30 : decode cX10_cellAt 30 = .ok (.ireturn, 1) := by decide +kernel
theorem dX10_needOwnCell_0 : decode cX10_needOwnCell 0 = .ok (.aload_n 0, 1) := by decide +kernel
theorem dX10_needOwnCell_1 : decode cX10_needOwnCell 1 = .ok (.getfield 10, 3) := by decide +kernel
theorem dX10_needOwnCell_4 : decode cX10_needOwnCell 4 = .ok (.getfield 66, 3) := by decide +kernel
theorem dX10_needOwnCell_7 : decode cX10_needOwnCell 7 = .ok (.getfield 70, 3) := by decide +kernel
theorem dX10_needOwnCell_10 : decode cX10_needOwnCell 10 = .ok (.iload_n 2, 1) := by decide +kernel
theorem dX10_needOwnCell_11 : decode cX10_needOwnCell 11 = .ok (.iaload, 1) := by decide +kernel
theorem dX10_needOwnCell_12 : decode cX10_needOwnCell 12 = .ok (.iload_n 1, 1) := by decide +kernel
theorem dX10_needOwnCell_13 : decode cX10_needOwnCell 13 = .ok (.if_icmp .eq 14, 3) := by decide +kernel
theorem dX10_needOwnCell_16 : decode cX10_needOwnCell 16 = .ok (.new 116, 3) := by decide +kernel
theorem dX10_needOwnCell_19 : decode cX10_needOwnCell 19 = .ok (.dup, 1) := by decide +kernel
theorem dX10_needOwnCell_20 : decode cX10_needOwnCell 20 = .ok (.ldc_w 355, 3) := by decide +kernel
theorem dX10_needOwnCell_23 : decode cX10_needOwnCell 23 = .ok (.invokespecial 120, 3) := by decide +kernel
theorem dX10_needOwnCell_26 : decode cX10_needOwnCell 26 = .ok (.athrow, 1) := by decide +kernel
theorem dX10_needOwnCell_27 : decode cX10_needOwnCell 27 = .ok (.return_, 1) := by decide +kernel
theorem dX10_needReader_0 : decode cX10_needReader 0 = .ok (.aload_n 0, 1) := by decide +kernel
theorem dX10_needReader_1 : decode cX10_needReader 1 = .ok (.getfield 10, 3) := by decide +kernel
theorem dX10_needReader_4 : decode cX10_needReader 4 = .ok (.getfield 66, 3) := by decide +kernel
theorem dX10_needReader_7 : decode cX10_needReader 7 = .ok (.iload_n 1, 1) := by decide +kernel
theorem dX10_needReader_8 : decode cX10_needReader 8 = .ok (.iload_n 2, 1) := by decide +kernel
theorem dX10_needReader_9 : decode cX10_needReader 9 = .ok (.invokevirtual 93, 3) := by decide +kernel
theorem dX10_needReader_12 : decode cX10_needReader 12 = .ok (.ifCond .ne 14, 3) := by decide +kernel
theorem dX10_needReader_15 : decode cX10_needReader 15 = .ok (.new 116, 3) := by decide +kernel
theorem dX10_needReader_18 : decode cX10_needReader 18 = .ok (.dup, 1) := by decide +kernel
theorem dX10_needReader_19 : decode cX10_needReader 19 = .ok (.ldc_w 357, 3) := by decide +kernel
theorem dX10_needReader_22 : decode cX10_needReader 22 = .ok (.invokespecial 120, 3) := by decide +kernel
theorem dX10_needReader_25 : decode cX10_needReader 25 = .ok (.athrow, 1) := by decide +kernel
theorem dX10_needReader_26 : decode cX10_needReader 26 = .ok (.return_, 1) := by decide +kernel
theorem dX10_needEditable_0 : decode cX10_needEditable 0 = .ok (.aload_n 0, 1) := by decide +kernel
theorem dX10_needEditable_1 : decode cX10_needEditable 1 = .ok (.iload_n 1, 1) := by decide +kernel
theorem dX10_needEditable_2 : decode cX10_needEditable 2 = .ok (.iload_n 2, 1) := by decide +kernel
theorem dX10_needEditable_3 : decode cX10_needEditable 3 = .ok (.invokevirtual 62, 3) := by decide +kernel
theorem dX10_needEditable_6 : decode cX10_needEditable 6 = .ok (.aload_n 0, 1) := by decide +kernel
theorem dX10_needEditable_7 : decode cX10_needEditable 7 = .ok (.getfield 19, 3) := by decide +kernel
theorem dX10_needEditable_10 : decode cX10_needEditable 10 = .ok (.getfield 212, 3) := by decide +kernel
theorem dX10_needEditable_13 : decode cX10_needEditable 13 = .ok (.iload_n 2, 1) := by decide +kernel
theorem dX10_needEditable_14 : decode cX10_needEditable 14 = .ok (.bipush 6, 2) := by decide +kernel
theorem dX10_needEditable_16 : decode cX10_needEditable 16 = .ok (.idiv, 1) := by decide +kernel
theorem dX10_needEditable_17 : decode cX10_needEditable 17 = .ok (.aaload, 1) := by decide +kernel
theorem dX10_needEditable_18 : decode cX10_needEditable 18 = .ok (.invokevirtual 216, 3) := by decide +kernel
theorem dX10_needEditable_21 : decode cX10_needEditable 21 = .ok (.ifCond .eq 13, 3) := by decide +kernel
theorem dX10_needEditable_24 : decode cX10_needEditable 24 = .ok (.new 116, 3) := by decide +kernel
theorem dX10_needEditable_27 : decode cX10_needEditable 27 = .ok (.dup, 1) := by decide +kernel
theorem dX10_needEditable_28 : decode cX10_needEditable 28 = .ok (.ldc 222, 2) := by decide +kernel
theorem dX10_needEditable_30 : decode cX10_needEditable 30 = .ok (.invokespecial 120, 3) := by decide +kernel
theorem dX10_needEditable_33 : decode cX10_needEditable 33 = .ok (.athrow, 1) := by decide +kernel
theorem dX10_needEditable_34 : decode cX10_needEditable 34 = .ok (.aload_n 0, 1) := by decide +kernel
theorem dX10_needEditable_35 : decode cX10_needEditable 35 = .ok (.getfield 10, 3) := by decide +kernel
theorem dX10_needEditable_38 : decode cX10_needEditable 38 = .ok (.getfield 348, 3) := by decide +kernel
theorem dX10_needEditable_41 : decode cX10_needEditable 41 = .ok (.invokeinterface 228 1, 5) := by decide +kernel
theorem dX10_needEditable_46 : decode cX10_needEditable 46 = .ok (.bipush 60, 2) := by decide +kernel
theorem dX10_needEditable_48 : decode cX10_needEditable 48 = .ok (.if_icmp .lt 14, 3) := by decide +kernel
theorem dX10_needEditable_51 : decode cX10_needEditable 51 = .ok (.new 116, 3) := by decide +kernel
theorem dX10_needEditable_54 : decode cX10_needEditable 54 = .ok (.dup, 1) := by decide +kernel
theorem dX10_needEditable_55 : decode cX10_needEditable 55 = .ok (.ldc_w 359, 3) := by decide +kernel
theorem dX10_needEditable_58 : decode cX10_needEditable 58 = .ok (.invokespecial 120, 3) := by decide +kernel
theorem dX10_needEditable_61 : decode cX10_needEditable 61 = .ok (.athrow, 1) := by decide +kernel
theorem dX10_needEditable_62 : decode cX10_needEditable 62 = .ok (.return_, 1) := by decide +kernel
theorem dX10_bidNumbered_0 : decode cX10_bidNumbered 0 = .ok (.iload_n 1, 1) := by decide +kernel
theorem dX10_bidNumbered_1 : decode cX10_bidNumbered 1 = .ok (.ifCond .lt 19, 3) := by decide +kernel
theorem dX10_bidNumbered_4 : decode cX10_bidNumbered 4 = .ok (.iload_n 1, 1) := by decide +kernel
theorem dX10_bidNumbered_5 : decode cX10_bidNumbered 5 = .ok (.aload_n 0, 1) := by decide +kernel
theorem dX10_bidNumbered_6 : decode cX10_bidNumbered 6 = .ok (.getfield 19, 3) := by decide +kernel
theorem dX10_bidNumbered_9 : decode cX10_bidNumbered 9 = .ok (.getfield 224, 3) := by decide +kernel
theorem dX10_bidNumbered_12 : decode cX10_bidNumbered 12 = .ok (.invokeinterface 228 1, 5) := by decide +kernel
theorem dX10_bidNumbered_17 : decode cX10_bidNumbered 17 = .ok (.if_icmp .lt 14, 3) := by decide +kernel
theorem dX10_bidNumbered_20 : decode cX10_bidNumbered 20 = .ok (.new 177, 3) := by decide +kernel
theorem dX10_bidNumbered_23 : decode cX10_bidNumbered 23 = .ok (.dup, 1) := by decide +kernel
theorem dX10_bidNumbered_24 : decode cX10_bidNumbered 24 = .ok (.ldc_w 361, 3) := by decide +kernel
theorem dX10_bidNumbered_27 : decode cX10_bidNumbered 27 = .ok (.invokespecial 181, 3) := by decide +kernel
theorem dX10_bidNumbered_30 : decode cX10_bidNumbered 30 = .ok (.athrow, 1) := by decide +kernel
theorem dX10_bidNumbered_31 : decode cX10_bidNumbered 31 = .ok (.aload_n 0, 1) := by decide +kernel
theorem dX10_bidNumbered_32 : decode cX10_bidNumbered 32 = .ok (.getfield 19, 3) := by decide +kernel
theorem dX10_bidNumbered_35 : decode cX10_bidNumbered 35 = .ok (.getfield 224, 3) := by decide +kernel
theorem dX10_bidNumbered_38 : decode cX10_bidNumbered 38 = .ok (.iload_n 1, 1) := by decide +kernel
theorem dX10_bidNumbered_39 : decode cX10_bidNumbered 39 = .ok (.invokeinterface 323 2, 5) := by decide +kernel
theorem dX10_bidNumbered_44 : decode cX10_bidNumbered 44 = .ok (.checkcast 244, 3) := by decide +kernel
theorem dX10_bidNumbered_47 : decode cX10_bidNumbered 47 = .ok (.areturn, 1) := by decide +kernel
theorem dX10_roundNumbered_0 : decode cX10_roundNumbered 0 = .ok (.iload_n 1, 1) := by decide +kernel
theorem dX10_roundNumbered_1 : decode cX10_roundNumbered 1 = .ok (.ifCond .lt 19, 3) := by decide +kernel
theorem dX10_roundNumbered_4 : decode cX10_roundNumbered 4 = .ok (.iload_n 1, 1) := by decide +kernel
theorem dX10_roundNumbered_5 : decode cX10_roundNumbered 5 = .ok (.aload_n 0, 1) := by decide +kernel
theorem dX10_roundNumbered_6 : decode cX10_roundNumbered 6 = .ok (.getfield 19, 3) := by decide +kernel
theorem dX10_roundNumbered_9 : decode cX10_roundNumbered 9 = .ok (.getfield 290, 3) := by decide +kernel
theorem dX10_roundNumbered_12 : decode cX10_roundNumbered 12 = .ok (.invokeinterface 228 1, 5) := by decide +kernel
theorem dX10_roundNumbered_17 : decode cX10_roundNumbered 17 = .ok (.if_icmp .lt 14, 3) := by decide +kernel
theorem dX10_roundNumbered_20 : decode cX10_roundNumbered 20 = .ok (.new 177, 3) := by decide +kernel
theorem dX10_roundNumbered_23 : decode cX10_roundNumbered 23 = .ok (.dup, 1) := by decide +kernel
theorem dX10_roundNumbered_24 : decode cX10_roundNumbered 24 = .ok (.ldc_w 363, 3) := by decide +kernel
theorem dX10_roundNumbered_27 : decode cX10_roundNumbered 27 = .ok (.invokespecial 181, 3) := by decide +kernel
theorem dX10_roundNumbered_30 : decode cX10_roundNumbered 30 = .ok (.athrow, 1) := by decide +kernel
theorem dX10_roundNumbered_31 : decode cX10_roundNumbered 31 = .ok (.aload_n 0, 1) := by decide +kernel
theorem dX10_roundNumbered_32 : decode cX10_roundNumbered 32 = .ok (.getfield 19, 3) := by decide +kernel
theorem dX10_roundNumbered_35 : decode cX10_roundNumbered 35 = .ok (.getfield 290, 3) := by decide +kernel
theorem dX10_roundNumbered_38 : decode cX10_roundNumbered 38 = .ok (.iload_n 1, 1) := by decide +kernel
theorem dX10_roundNumbered_39 : decode cX10_roundNumbered 39 = .ok (.invokeinterface 323 2, 5) := by decide +kernel
theorem dX10_roundNumbered_44 : decode cX10_roundNumbered 44 = .ok (.checkcast 217, 3) := by decide +kernel
theorem dX10_roundNumbered_47 : decode cX10_roundNumbered 47 = .ok (.areturn, 1) := by decide +kernel
theorem dX10_taken_0 : decode cX10_taken 0 = .ok (.iload_n 0, 1) := by decide +kernel
theorem dX10_taken_1 : decode cX10_taken 1 = .ok (.bipush 14, 2) := by decide +kernel
theorem dX10_taken_3 : decode cX10_taken 3 = .ok (.if_icmp .ne 5, 3) := by decide +kernel
theorem dX10_taken_6 : decode cX10_taken 6 = .ok (.iconst 3, 1) := by decide +kernel
theorem dX10_taken_7 : decode cX10_taken 7 = .ok (.ireturn, 1) := by decide +kernel
theorem dX10_taken_8 : decode cX10_taken 8 = .ok (.iload_n 0, 1) := by decide +kernel
theorem dX10_taken_9 : decode cX10_taken 9 = .ok (.bipush 8, 2) := by decide +kernel
theorem dX10_taken_11 : decode cX10_taken 11 = .ok (.if_icmp .lt 7, 3) := by decide +kernel
theorem dX10_taken_14 : decode cX10_taken 14 = .ok (.iconst 2, 1) := by decide +kernel
theorem dX10_taken_15 : decode cX10_taken 15 = .ok (.goto 4, 3) := by decide +kernel
theorem dX10_taken_18 : decode cX10_taken 18 = .ok (.iconst 0, 1) := by decide +kernel
theorem dX10_taken_19 : decode cX10_taken 19 = .ok (.ireturn, 1) := by decide +kernel
theorem dJ9_floorDiv_7cf53_0 : decode cJ9_floorDiv_7cf53 0 = .ok (.iload_n 0, 1) := by decide +kernel
theorem dJ9_floorDiv_7cf53_1 : decode cJ9_floorDiv_7cf53 1 = .ok (.iload_n 1, 1) := by decide +kernel
theorem dJ9_floorDiv_7cf53_2 : decode cJ9_floorDiv_7cf53 2 = .ok (.idiv, 1) := by decide +kernel
theorem dJ9_floorDiv_7cf53_3 : decode cJ9_floorDiv_7cf53 3 = .ok (.istore_n 2, 1) := by decide +kernel
theorem dJ9_floorDiv_7cf53_4 : decode cJ9_floorDiv_7cf53 4 = .ok (.iload_n 0, 1) := by decide +kernel
theorem dJ9_floorDiv_7cf53_5 : decode cJ9_floorDiv_7cf53 5 = .ok (.iload_n 1, 1) := by decide +kernel
theorem dJ9_floorDiv_7cf53_6 : decode cJ9_floorDiv_7cf53 6 = .ok (.ixor, 1) := by decide +kernel
theorem dJ9_floorDiv_7cf53_7 : decode cJ9_floorDiv_7cf53 7 = .ok (.ifCond .ge 14, 3) := by decide +kernel
theorem dJ9_floorDiv_7cf53_10 : decode cJ9_floorDiv_7cf53 10 = .ok (.iload_n 2, 1) := by decide +kernel
theorem dJ9_floorDiv_7cf53_11 : decode cJ9_floorDiv_7cf53 11 = .ok (.iload_n 1, 1) := by decide +kernel
theorem dJ9_floorDiv_7cf53_12 : decode cJ9_floorDiv_7cf53 12 = .ok (.imul, 1) := by decide +kernel
theorem dJ9_floorDiv_7cf53_13 : decode cJ9_floorDiv_7cf53 13 = .ok (.iload_n 0, 1) := by decide +kernel
theorem dJ9_floorDiv_7cf53_14 : decode cJ9_floorDiv_7cf53 14 = .ok (.if_icmp .eq 7, 3) := by decide +kernel
theorem dJ9_floorDiv_7cf53_17 : decode cJ9_floorDiv_7cf53 17 = .ok (.iload_n 2, 1) := by decide +kernel
theorem dJ9_floorDiv_7cf53_18 : decode cJ9_floorDiv_7cf53 18 = .ok (.iconst 1, 1) := by decide +kernel
theorem dJ9_floorDiv_7cf53_19 : decode cJ9_floorDiv_7cf53 19 = .ok (.isub, 1) := by decide +kernel
theorem dJ9_floorDiv_7cf53_20 : decode cJ9_floorDiv_7cf53 20 = .ok (.ireturn, 1) := by decide +kernel
theorem dJ9_floorDiv_7cf53_21 : decode cJ9_floorDiv_7cf53 21 = .ok (.iload_n 2, 1) := by decide +kernel
theorem dJ9_floorDiv_7cf53_22 : decode cJ9_floorDiv_7cf53 22 = .ok (.ireturn, 1) := by decide +kernel
theorem dJ9_floorMod_7cf53_0 : decode cJ9_floorMod_7cf53 0 = .ok (.iload_n 0, 1) := by decide +kernel
theorem dJ9_floorMod_7cf53_1 : decode cJ9_floorMod_7cf53 1 = .ok (.iload_n 1, 1) := by decide +kernel
theorem dJ9_floorMod_7cf53_2 : decode cJ9_floorMod_7cf53 2 = .ok (.irem, 1) := by decide +kernel
theorem dJ9_floorMod_7cf53_3 : decode cJ9_floorMod_7cf53 3 = .ok (.istore_n 2, 1) := by decide +kernel
theorem dJ9_floorMod_7cf53_4 : decode cJ9_floorMod_7cf53 4 = .ok (.iload_n 0, 1) := by decide +kernel
theorem dJ9_floorMod_7cf53_5 : decode cJ9_floorMod_7cf53 5 = .ok (.iload_n 1, 1) := by decide +kernel
theorem dJ9_floorMod_7cf53_6 : decode cJ9_floorMod_7cf53 6 = .ok (.ixor, 1) := by decide +kernel
theorem dJ9_floorMod_7cf53_7 : decode cJ9_floorMod_7cf53 7 = .ok (.ifCond .ge 11, 3) := by decide +kernel
theorem dJ9_floorMod_7cf53_10 : decode cJ9_floorMod_7cf53 10 = .ok (.iload_n 2, 1) := by decide +kernel
theorem dJ9_floorMod_7cf53_11 : decode cJ9_floorMod_7cf53 11 = .ok (.ifCond .eq 7, 3) := by decide +kernel
theorem dJ9_floorMod_7cf53_14 : decode cJ9_floorMod_7cf53 14 = .ok (.iload_n 2, 1) := by decide +kernel
theorem dJ9_floorMod_7cf53_15 : decode cJ9_floorMod_7cf53 15 = .ok (.iload_n 1, 1) := by decide +kernel
theorem dJ9_floorMod_7cf53_16 : decode cJ9_floorMod_7cf53 16 = .ok (.iadd, 1) := by decide +kernel
theorem dJ9_floorMod_7cf53_17 : decode cJ9_floorMod_7cf53 17 = .ok (.ireturn, 1) := by decide +kernel
theorem dJ9_floorMod_7cf53_18 : decode cJ9_floorMod_7cf53 18 = .ok (.iload_n 2, 1) := by decide +kernel
theorem dJ9_floorMod_7cf53_19 : decode cJ9_floorMod_7cf53 19 = .ok (.ireturn, 1) := by decide +kernel
theorem dJ9_max_7cf53_0 : decode cJ9_max_7cf53 0 = .ok (.iload_n 0, 1) := by decide +kernel
theorem dJ9_max_7cf53_1 : decode cJ9_max_7cf53 1 = .ok (.iload_n 1, 1) := by decide +kernel
theorem dJ9_max_7cf53_2 : decode cJ9_max_7cf53 2 = .ok (.if_icmp .lt 7, 3) := by decide +kernel
theorem dJ9_max_7cf53_5 : decode cJ9_max_7cf53 5 = .ok (.iload_n 0, 1) := by decide +kernel
theorem dJ9_max_7cf53_6 : decode cJ9_max_7cf53 6 = .ok (.goto 4, 3) := by decide +kernel
theorem dJ9_max_7cf53_9 : decode cJ9_max_7cf53 9 = .ok (.iload_n 1, 1) := by decide +kernel
theorem dJ9_max_7cf53_10 : decode cJ9_max_7cf53 10 = .ok (.ireturn, 1) := by decide +kernel
theorem dJ9_min_7cf53_0 : decode cJ9_min_7cf53 0 = .ok (.iload_n 0, 1) := by decide +kernel
theorem dJ9_min_7cf53_1 : decode cJ9_min_7cf53 1 = .ok (.iload_n 1, 1) := by decide +kernel
theorem dJ9_min_7cf53_2 : decode cJ9_min_7cf53 2 = .ok (.if_icmp .gt 7, 3) := by decide +kernel
theorem dJ9_min_7cf53_5 : decode cJ9_min_7cf53 5 = .ok (.iload_n 0, 1) := by decide +kernel
theorem dJ9_min_7cf53_6 : decode cJ9_min_7cf53 6 = .ok (.goto 4, 3) := by decide +kernel
theorem dJ9_min_7cf53_9 : decode cJ9_min_7cf53 9 = .ok (.iload_n 1, 1) := by decide +kernel
theorem dJ9_min_7cf53_10 : decode cJ9_min_7cf53 10 = .ok (.ireturn, 1) := by decide +kernel
theorem dJxa1e45_init_da8c8_0 : decode cJxa1e45_init_da8c8 0 = .ok (.aload_n 0, 1) := by decide +kernel
theorem dJxa1e45_init_da8c8_1 : decode cJxa1e45_init_da8c8 1 = .ok (.invokespecial 1, 3) := by decide +kernel
theorem dJxa1e45_init_da8c8_4 : decode cJxa1e45_init_da8c8 4 = .ok (.return_, 1) := by decide +kernel
theorem dJxc12de_init_da8c8_0 : decode cJxc12de_init_da8c8 0 = .ok (.aload_n 0, 1) := by decide +kernel
theorem dJxc12de_init_da8c8_1 : decode cJxc12de_init_da8c8 1 = .ok (.invokespecial 1, 3) := by decide +kernel
theorem dJxc12de_init_da8c8_4 : decode cJxc12de_init_da8c8 4 = .ok (.aload_n 0, 1) := by decide +kernel
theorem dJxc12de_init_da8c8_5 : decode cJxc12de_init_da8c8 5 = .ok (.iconst 0, 1) := by decide +kernel
theorem dJxc12de_init_da8c8_6 : decode cJxc12de_init_da8c8 6 = .ok (.putfield 7, 3) := by decide +kernel
theorem dJxc12de_init_da8c8_9 : decode cJxc12de_init_da8c8 9 = .ok (.return_, 1) := by decide +kernel
theorem dJx4a65c_init_da8c8_0 : decode cJx4a65c_init_da8c8 0 = .ok (.aload_n 0, 1) := by decide +kernel
theorem dJx4a65c_init_da8c8_1 : decode cJx4a65c_init_da8c8 1 = .ok (.invokespecial 1, 3) := by decide +kernel
theorem dJx4a65c_init_da8c8_4 : decode cJx4a65c_init_da8c8 4 = .ok (.aload_n 0, 1) := by decide +kernel
theorem dJx4a65c_init_da8c8_5 : decode cJx4a65c_init_da8c8 5 = .ok (.getstatic 39, 3) := by decide +kernel
theorem dJx4a65c_init_da8c8_8 : decode cJx4a65c_init_da8c8 8 = .ok (.putfield 9, 3) := by decide +kernel
theorem dJx4a65c_init_da8c8_11 : decode cJx4a65c_init_da8c8 11 = .ok (.return_, 1) := by decide +kernel
theorem dJx4a65c_grow_92f84_0 : decode cJx4a65c_grow_92f84 0 = .ok (.aload_n 0, 1) := by decide +kernel
theorem dJx4a65c_grow_92f84_1 : decode cJx4a65c_grow_92f84 1 = .ok (.getfield 9, 3) := by decide +kernel
theorem dJx4a65c_grow_92f84_4 : decode cJx4a65c_grow_92f84 4 = .ok (.arraylength, 1) := by decide +kernel
theorem dJx4a65c_grow_92f84_5 : decode cJx4a65c_grow_92f84 5 = .ok (.istore_n 2, 1) := by decide +kernel
theorem dJx4a65c_grow_92f84_6 : decode cJx4a65c_grow_92f84 6 = .ok (.iload_n 2, 1) := by decide +kernel
theorem dJx4a65c_grow_92f84_7 : decode cJx4a65c_grow_92f84 7 = .ok (.ifCond .gt 13, 3) := by decide +kernel
theorem dJx4a65c_grow_92f84_10 : decode cJx4a65c_grow_92f84 10 = .ok (.aload_n 0, 1) := by decide +kernel
theorem dJx4a65c_grow_92f84_11 : decode cJx4a65c_grow_92f84 11 = .ok (.getfield 9, 3) := by decide +kernel
theorem dJx4a65c_grow_92f84_14 : decode cJx4a65c_grow_92f84 14 = .ok (.getstatic 39, 3) := by decide +kernel
theorem dJx4a65c_grow_92f84_17 : decode cJx4a65c_grow_92f84 17 = .ok (.if_acmp .eq 28, 3) := by decide +kernel
theorem dJx4a65c_grow_92f84_20 : decode cJx4a65c_grow_92f84 20 = .ok (.iload_n 2, 1) := by decide +kernel
theorem dJx4a65c_grow_92f84_21 : decode cJx4a65c_grow_92f84 21 = .ok (.iload_n 1, 1) := by decide +kernel
theorem dJx4a65c_grow_92f84_22 : decode cJx4a65c_grow_92f84 22 = .ok (.iload_n 2, 1) := by decide +kernel
theorem dJx4a65c_grow_92f84_23 : decode cJx4a65c_grow_92f84 23 = .ok (.isub, 1) := by decide +kernel
theorem dJx4a65c_grow_92f84_24 : decode cJx4a65c_grow_92f84 24 = .ok (.iload_n 2, 1) := by decide +kernel
theorem dJx4a65c_grow_92f84_25 : decode cJx4a65c_grow_92f84 25 = .ok (.iconst 1, 1) := by decide +kernel
theorem dJx4a65c_grow_92f84_26 : decode cJx4a65c_grow_92f84 26 = .ok (.ishr, 1) := by decide +kernel
theorem dJx4a65c_grow_92f84_27 : decode cJx4a65c_grow_92f84 27 = .ok (.invokestatic 73, 3) := by decide +kernel
theorem dJx4a65c_grow_92f84_30 : decode cJx4a65c_grow_92f84 30 = .ok (.istore_n 3, 1) := by decide +kernel
theorem dJx4a65c_grow_92f84_31 : decode cJx4a65c_grow_92f84 31 = .ok (.aload_n 0, 1) := by decide +kernel
theorem dJx4a65c_grow_92f84_32 : decode cJx4a65c_grow_92f84 32 = .ok (.aload_n 0, 1) := by decide +kernel
theorem dJx4a65c_grow_92f84_33 : decode cJx4a65c_grow_92f84 33 = .ok (.getfield 9, 3) := by decide +kernel
theorem dJx4a65c_grow_92f84_36 : decode cJx4a65c_grow_92f84 36 = .ok (.iload_n 3, 1) := by decide +kernel
theorem dJx4a65c_grow_92f84_37 : decode cJx4a65c_grow_92f84 37 = .ok (.invokestatic 66, 3) := by decide +kernel
theorem dJx4a65c_grow_92f84_40 : decode cJx4a65c_grow_92f84 40 = .ok (.dup_x1, 1) := by decide +kernel
theorem dJx4a65c_grow_92f84_41 : decode cJx4a65c_grow_92f84 41 = .ok (.putfield 9, 3) := by decide +kernel
theorem dJx4a65c_grow_92f84_44 : decode cJx4a65c_grow_92f84 44 = .ok (.areturn, 1) := by decide +kernel
theorem dJx4a65c_grow_92f84_45 : decode cJx4a65c_grow_92f84 45 = .ok (.aload_n 0, 1) := by decide +kernel
theorem dJx4a65c_grow_92f84_46 : decode cJx4a65c_grow_92f84 46 = .ok (.bipush 10, 2) := by decide +kernel
theorem dJx4a65c_grow_92f84_48 : decode cJx4a65c_grow_92f84 48 = .ok (.iload_n 1, 1) := by decide +kernel
theorem dJx4a65c_grow_92f84_49 : decode cJx4a65c_grow_92f84 49 = .ok (.invokestatic 79, 3) := by decide +kernel
theorem dJx4a65c_grow_92f84_52 : decode cJx4a65c_grow_92f84 52 = .ok (.anewarray 7, 3) := by decide +kernel
theorem dJx4a65c_grow_92f84_55 : decode cJx4a65c_grow_92f84 55 = .ok (.dup_x1, 1) := by decide +kernel
theorem dJx4a65c_grow_92f84_56 : decode cJx4a65c_grow_92f84 56 = .ok (.putfield 9, 3) := by decide +kernel
theorem dJx4a65c_grow_92f84_59 : decode cJx4a65c_grow_92f84 59 = .ok (.areturn, 1) := by decide +kernel
theorem dJx4a65c_grow_d5877_0 : decode cJx4a65c_grow_d5877 0 = .ok (.aload_n 0, 1) := by decide +kernel
theorem dJx4a65c_grow_d5877_1 : decode cJx4a65c_grow_d5877 1 = .ok (.aload_n 0, 1) := by decide +kernel
theorem dJx4a65c_grow_d5877_2 : decode cJx4a65c_grow_d5877 2 = .ok (.getfield 48, 3) := by decide +kernel
theorem dJx4a65c_grow_d5877_5 : decode cJx4a65c_grow_d5877 5 = .ok (.iconst 1, 1) := by decide +kernel
theorem dJx4a65c_grow_d5877_6 : decode cJx4a65c_grow_d5877 6 = .ok (.iadd, 1) := by decide +kernel
theorem dJx4a65c_grow_d5877_7 : decode cJx4a65c_grow_d5877 7 = .ok (.invokevirtual 69, 3) := by decide +kernel
theorem dJx4a65c_grow_d5877_10 : decode cJx4a65c_grow_d5877 10 = .ok (.areturn, 1) := by decide +kernel
theorem dJx4a65c_size_8abf5_0 : decode cJx4a65c_size_8abf5 0 = .ok (.aload_n 0, 1) := by decide +kernel
theorem dJx4a65c_size_8abf5_1 : decode cJx4a65c_size_8abf5 1 = .ok (.getfield 48, 3) := by decide +kernel
theorem dJx4a65c_size_8abf5_4 : decode cJx4a65c_size_8abf5 4 = .ok (.ireturn, 1) := by decide +kernel
theorem dJx4a65c_elementData_915e3_0 : decode cJx4a65c_elementData_915e3 0 = .ok (.aload_n 0, 1) := by decide +kernel
theorem dJx4a65c_elementData_915e3_1 : decode cJx4a65c_elementData_915e3 1 = .ok (.getfield 9, 3) := by decide +kernel
theorem dJx4a65c_elementData_915e3_4 : decode cJx4a65c_elementData_915e3 4 = .ok (.iload_n 1, 1) := by decide +kernel
theorem dJx4a65c_elementData_915e3_5 : decode cJx4a65c_elementData_915e3 5 = .ok (.aaload, 1) := by decide +kernel
theorem dJx4a65c_elementData_915e3_6 : decode cJx4a65c_elementData_915e3 6 = .ok (.areturn, 1) := by decide +kernel
theorem dJx4a65c_get_915e3_0 : decode cJx4a65c_get_915e3 0 = .ok (.iload_n 1, 1) := by decide +kernel
theorem dJx4a65c_get_915e3_1 : decode cJx4a65c_get_915e3 1 = .ok (.aload_n 0, 1) := by decide +kernel
theorem dJx4a65c_get_915e3_2 : decode cJx4a65c_get_915e3 2 = .ok (.getfield 48, 3) := by decide +kernel
theorem dJx4a65c_get_915e3_5 : decode cJx4a65c_get_915e3 5 = .ok (.invokestatic 118, 3) := by decide +kernel
theorem dJx4a65c_get_915e3_8 : decode cJx4a65c_get_915e3 8 = .ok (.pop, 1) := by decide +kernel
theorem dJx4a65c_get_915e3_9 : decode cJx4a65c_get_915e3 9 = .ok (.aload_n 0, 1) := by decide +kernel
theorem dJx4a65c_get_915e3_10 : decode cJx4a65c_get_915e3 10 = .ok (.iload_n 1, 1) := by decide +kernel
theorem dJx4a65c_get_915e3_11 : decode cJx4a65c_get_915e3 11 = .ok (.invokevirtual 123, 3) := by decide +kernel
theorem dJx4a65c_get_915e3_14 : decode cJx4a65c_get_915e3 14 = .ok (.areturn, 1) := by decide +kernel
theorem dJx4a65c_add_72be8_0 : decode cJx4a65c_add_72be8 0 = .ok (.iload_n 3, 1) := by decide +kernel
theorem dJx4a65c_add_72be8_1 : decode cJx4a65c_add_72be8 1 = .ok (.aload_n 2, 1) := by decide +kernel
theorem dJx4a65c_add_72be8_2 : decode cJx4a65c_add_72be8 2 = .ok (.arraylength, 1) := by decide +kernel
theorem dJx4a65c_add_72be8_3 : decode cJx4a65c_add_72be8 3 = .ok (.if_icmp .ne 8, 3) := by decide +kernel
theorem dJx4a65c_add_72be8_6 : decode cJx4a65c_add_72be8 6 = .ok (.aload_n 0, 1) := by decide +kernel
theorem dJx4a65c_add_72be8_7 : decode cJx4a65c_add_72be8 7 = .ok (.invokevirtual 129, 3) := by decide +kernel
theorem dJx4a65c_add_72be8_10 : decode cJx4a65c_add_72be8 10 = .ok (.astore_n 2, 1) := by decide +kernel
theorem dJx4a65c_add_72be8_11 : decode cJx4a65c_add_72be8 11 = .ok (.aload_n 2, 1) := by decide +kernel
theorem dJx4a65c_add_72be8_12 : decode cJx4a65c_add_72be8 12 = .ok (.iload_n 3, 1) := by decide +kernel
theorem dJx4a65c_add_72be8_13 : decode cJx4a65c_add_72be8 13 = .ok (.aload_n 1, 1) := by decide +kernel
theorem dJx4a65c_add_72be8_14 : decode cJx4a65c_add_72be8 14 = .ok (.aastore, 1) := by decide +kernel
theorem dJx4a65c_add_72be8_15 : decode cJx4a65c_add_72be8 15 = .ok (.aload_n 0, 1) := by decide +kernel
theorem dJx4a65c_add_72be8_16 : decode cJx4a65c_add_72be8 16 = .ok (.iload_n 3, 1) := by decide +kernel
theorem dJx4a65c_add_72be8_17 : decode cJx4a65c_add_72be8 17 = .ok (.iconst 1, 1) := by decide +kernel
theorem dJx4a65c_add_72be8_18 : decode cJx4a65c_add_72be8 18 = .ok (.iadd, 1) := by decide +kernel
theorem dJx4a65c_add_72be8_19 : decode cJx4a65c_add_72be8 19 = .ok (.putfield 48, 3) := by decide +kernel
theorem dJx4a65c_add_72be8_22 : decode cJx4a65c_add_72be8 22 = .ok (.return_, 1) := by decide +kernel
theorem dJx4a65c_add_9ea2d_0 : decode cJx4a65c_add_9ea2d 0 = .ok (.aload_n 0, 1) := by decide +kernel
theorem dJx4a65c_add_9ea2d_1 : decode cJx4a65c_add_9ea2d 1 = .ok (.dup, 1) := by decide +kernel
theorem dJx4a65c_add_9ea2d_2 : decode cJx4a65c_add_9ea2d 2 = .ok (.getfield 63, 3) := by decide +kernel
theorem dJx4a65c_add_9ea2d_5 : decode cJx4a65c_add_9ea2d 5 = .ok (.iconst 1, 1) := by decide +kernel
theorem dJx4a65c_add_9ea2d_6 : decode cJx4a65c_add_9ea2d 6 = .ok (.iadd, 1) := by decide +kernel
theorem dJx4a65c_add_9ea2d_7 : decode cJx4a65c_add_9ea2d 7 = .ok (.putfield 63, 3) := by decide +kernel
theorem dJx4a65c_add_9ea2d_10 : decode cJx4a65c_add_9ea2d 10 = .ok (.aload_n 0, 1) := by decide +kernel
theorem dJx4a65c_add_9ea2d_11 : decode cJx4a65c_add_9ea2d 11 = .ok (.aload_n 1, 1) := by decide +kernel
theorem dJx4a65c_add_9ea2d_12 : decode cJx4a65c_add_9ea2d 12 = .ok (.aload_n 0, 1) := by decide +kernel
theorem dJx4a65c_add_9ea2d_13 : decode cJx4a65c_add_9ea2d 13 = .ok (.getfield 9, 3) := by decide +kernel
theorem dJx4a65c_add_9ea2d_16 : decode cJx4a65c_add_9ea2d 16 = .ok (.aload_n 0, 1) := by decide +kernel
theorem dJx4a65c_add_9ea2d_17 : decode cJx4a65c_add_9ea2d 17 = .ok (.getfield 48, 3) := by decide +kernel
theorem dJx4a65c_add_9ea2d_20 : decode cJx4a65c_add_9ea2d 20 = .ok (.invokevirtual 131, 3) := by decide +kernel
theorem dJx4a65c_add_9ea2d_23 : decode cJx4a65c_add_9ea2d 23 = .ok (.iconst 1, 1) := by decide +kernel
theorem dJx4a65c_add_9ea2d_24 : decode cJx4a65c_add_9ea2d 24 = .ok (.ireturn, 1) := by decide +kernel
theorem dJ7_copyOf_1904c_0 : decode cJ7_copyOf_1904c 0 = .ok (.aload_n 0, 1) := by decide +kernel
theorem dJ7_copyOf_1904c_1 : decode cJ7_copyOf_1904c 1 = .ok (.iload_n 1, 1) := by decide +kernel
theorem dJ7_copyOf_1904c_2 : decode cJ7_copyOf_1904c 2 = .ok (.aload_n 0, 1) := by decide +kernel
theorem dJ7_copyOf_1904c_3 : decode cJ7_copyOf_1904c 3 = .ok (.invokevirtual 86, 3) := by decide +kernel
theorem dJ7_copyOf_1904c_6 : decode cJ7_copyOf_1904c 6 = .ok (.invokestatic 300, 3) := by decide +kernel
theorem dJ7_copyOf_1904c_9 : decode cJ7_copyOf_1904c 9 = .ok (.areturn, 1) := by decide +kernel
theorem dJ7_copyOf_6403c_0 : decode cJ7_copyOf_6403c 0 = .ok (.aload_n 2, 1) := by decide +kernel
theorem dJ7_copyOf_6403c_1 : decode cJ7_copyOf_6403c 1 = .ok (.ldc 110, 2) := by decide +kernel
theorem dJ7_copyOf_6403c_3 : decode cJ7_copyOf_6403c 3 = .ok (.if_acmp .ne 10, 3) := by decide +kernel
theorem dJ7_copyOf_6403c_6 : decode cJ7_copyOf_6403c 6 = .ok (.iload_n 1, 1) := by decide +kernel
theorem dJ7_copyOf_6403c_7 : decode cJ7_copyOf_6403c 7 = .ok (.anewarray 2, 3) := by decide +kernel
theorem dJ7_copyOf_6403c_10 : decode cJ7_copyOf_6403c 10 = .ok (.goto 14, 3) := by decide +kernel
theorem dJ7_copyOf_6403c_13 : decode cJ7_copyOf_6403c 13 = .ok (.aload_n 2, 1) := by decide +kernel
theorem dJ7_copyOf_6403c_14 : decode cJ7_copyOf_6403c 14 = .ok (.invokevirtual 90, 3) := by decide +kernel
theorem dJ7_copyOf_6403c_17 : decode cJ7_copyOf_6403c 17 = .ok (.iload_n 1, 1) := by decide +kernel
theorem dJ7_copyOf_6403c_18 : decode cJ7_copyOf_6403c 18 = .ok (.invokestatic 95, 3) := by decide +kernel
theorem dJ7_copyOf_6403c_21 : decode cJ7_copyOf_6403c 21 = .ok (.checkcast 110, 3) := by decide +kernel
theorem dJ7_copyOf_6403c_24 : decode cJ7_copyOf_6403c 24 = .ok (.astore_n 3, 1) := by decide +kernel
theorem dJ7_copyOf_6403c_25 : decode cJ7_copyOf_6403c 25 = .ok (.aload_n 0, 1) := by decide +kernel
theorem dJ7_copyOf_6403c_26 : decode cJ7_copyOf_6403c 26 = .ok (.iconst 0, 1) := by decide +kernel
theorem dJ7_copyOf_6403c_27 : decode cJ7_copyOf_6403c 27 = .ok (.aload_n 3, 1) := by decide +kernel
theorem dJ7_copyOf_6403c_28 : decode cJ7_copyOf_6403c 28 = .ok (.iconst 0, 1) := by decide +kernel
theorem dJ7_copyOf_6403c_29 : decode cJ7_copyOf_6403c 29 = .ok (.aload_n 0, 1) := by decide +kernel
theorem dJ7_copyOf_6403c_30 : decode cJ7_copyOf_6403c 30 = .ok (.arraylength, 1) := by decide +kernel
theorem dJ7_copyOf_6403c_31 : decode cJ7_copyOf_6403c 31 = .ok (.iload_n 1, 1) := by decide +kernel
theorem dJ7_copyOf_6403c_32 : decode cJ7_copyOf_6403c 32 = .ok (.invokestatic 304, 3) := by decide +kernel
theorem dJ7_copyOf_6403c_35 : decode cJ7_copyOf_6403c 35 = .ok (.invokestatic 150, 3) := by decide +kernel
theorem dJ7_copyOf_6403c_38 : decode cJ7_copyOf_6403c 38 = .ok (.aload_n 3, 1) := by decide +kernel
theorem dJ7_copyOf_6403c_39 : decode cJ7_copyOf_6403c 39 = .ok (.areturn, 1) := by decide +kernel
theorem dJ15_checkIndex_7cf53_0 : decode cJ15_checkIndex_7cf53 0 = .ok (.iload_n 0, 1) := by decide +kernel
theorem dJ15_checkIndex_7cf53_1 : decode cJ15_checkIndex_7cf53 1 = .ok (.iload_n 1, 1) := by decide +kernel
theorem dJ15_checkIndex_7cf53_2 : decode cJ15_checkIndex_7cf53 2 = .ok (.aconst_null, 1) := by decide +kernel
theorem dJ15_checkIndex_7cf53_3 : decode cJ15_checkIndex_7cf53 3 = .ok (.invokestatic 105, 3) := by decide +kernel
theorem dJ15_checkIndex_7cf53_6 : decode cJ15_checkIndex_7cf53 6 = .ok (.ireturn, 1) := by decide +kernel
theorem dJ8_newLength_cabcc_0 : decode cJ8_newLength_cabcc 0 = .ok (.iload_n 0, 1) := by decide +kernel
theorem dJ8_newLength_cabcc_1 : decode cJ8_newLength_cabcc 1 = .ok (.iload_n 1, 1) := by decide +kernel
theorem dJ8_newLength_cabcc_2 : decode cJ8_newLength_cabcc 2 = .ok (.iload_n 2, 1) := by decide +kernel
theorem dJ8_newLength_cabcc_3 : decode cJ8_newLength_cabcc 3 = .ok (.invokestatic 194, 3) := by decide +kernel
theorem dJ8_newLength_cabcc_6 : decode cJ8_newLength_cabcc 6 = .ok (.iadd, 1) := by decide +kernel
theorem dJ8_newLength_cabcc_7 : decode cJ8_newLength_cabcc 7 = .ok (.istore_n 3, 1) := by decide +kernel
theorem dJ8_newLength_cabcc_8 : decode cJ8_newLength_cabcc 8 = .ok (.iconst 0, 1) := by decide +kernel
theorem dJ8_newLength_cabcc_9 : decode cJ8_newLength_cabcc 9 = .ok (.iload_n 3, 1) := by decide +kernel
theorem dJ8_newLength_cabcc_10 : decode cJ8_newLength_cabcc 10 = .ok (.if_icmp .ge 11, 3) := by decide +kernel
theorem dJ8_newLength_cabcc_13 : decode cJ8_newLength_cabcc 13 = .ok (.iload_n 3, 1) := by decide +kernel
theorem dJ8_newLength_cabcc_14 : decode cJ8_newLength_cabcc 14 = .ok (.ldc 200, 2) := by decide +kernel
theorem dJ8_newLength_cabcc_16 : decode cJ8_newLength_cabcc 16 = .ok (.if_icmp .gt 5, 3) := by decide +kernel
theorem dJ8_newLength_cabcc_19 : decode cJ8_newLength_cabcc 19 = .ok (.iload_n 3, 1) := by decide +kernel
theorem dJ8_newLength_cabcc_20 : decode cJ8_newLength_cabcc 20 = .ok (.ireturn, 1) := by decide +kernel
theorem dJ8_newLength_cabcc_21 : decode cJ8_newLength_cabcc 21 = .ok (.iload_n 0, 1) := by decide +kernel
theorem dJ8_newLength_cabcc_22 : decode cJ8_newLength_cabcc 22 = .ok (.iload_n 1, 1) := by decide +kernel
theorem dJ8_newLength_cabcc_23 : decode cJ8_newLength_cabcc 23 = .ok (.invokestatic 201, 3) := by decide +kernel
theorem dJ8_newLength_cabcc_26 : decode cJ8_newLength_cabcc 26 = .ok (.ireturn, 1) := by decide +kernel
theorem dJ8_hugeLength_7cf53_0 : decode cJ8_hugeLength_7cf53 0 = .ok (.iload_n 0, 1) := by decide +kernel
theorem dJ8_hugeLength_7cf53_1 : decode cJ8_hugeLength_7cf53 1 = .ok (.iload_n 1, 1) := by decide +kernel
theorem dJ8_hugeLength_7cf53_2 : decode cJ8_hugeLength_7cf53 2 = .ok (.iadd, 1) := by decide +kernel
theorem dJ8_hugeLength_7cf53_3 : decode cJ8_hugeLength_7cf53 3 = .ok (.istore_n 2, 1) := by decide +kernel
theorem dJ8_hugeLength_7cf53_4 : decode cJ8_hugeLength_7cf53 4 = .ok (.iload_n 2, 1) := by decide +kernel
theorem dJ8_hugeLength_7cf53_5 : decode cJ8_hugeLength_7cf53 5 = .ok (.ifCond .ge 44, 3) := by decide +kernel
theorem dJ8_hugeLength_7cf53_8 : decode cJ8_hugeLength_7cf53 8 = .ok (.new 204, 3) := by decide +kernel
theorem dJ8_hugeLength_7cf53_11 : decode cJ8_hugeLength_7cf53 11 = .ok (.dup, 1) := by decide +kernel
theorem dJ8_hugeLength_7cf53_12 : decode cJ8_hugeLength_7cf53 12 = .ok (.new 89, 3) := by decide +kernel
theorem dJ8_hugeLength_7cf53_15 : decode cJ8_hugeLength_7cf53 15 = .ok (.dup, 1) := by decide +kernel
theorem dJ8_hugeLength_7cf53_16 : decode cJ8_hugeLength_7cf53 16 = .ok (.invokespecial 91, 3) := by decide +kernel
theorem dJ8_hugeLength_7cf53_19 : decode cJ8_hugeLength_7cf53 19 = .ok (.ldc 206, 2) := by decide +kernel
theorem dJ8_hugeLength_7cf53_21 : decode cJ8_hugeLength_7cf53 21 = .ok (.invokevirtual 94, 3) := by decide +kernel
theorem dJ8_hugeLength_7cf53_24 : decode cJ8_hugeLength_7cf53 24 = .ok (.iload_n 0, 1) := by decide +kernel
theorem dJ8_hugeLength_7cf53_25 : decode cJ8_hugeLength_7cf53 25 = .ok (.invokevirtual 98, 3) := by decide +kernel
theorem dJ8_hugeLength_7cf53_28 : decode cJ8_hugeLength_7cf53 28 = .ok (.ldc 208, 2) := by decide +kernel
theorem dJ8_hugeLength_7cf53_30 : decode cJ8_hugeLength_7cf53 30 = .ok (.invokevirtual 94, 3) := by decide +kernel
theorem dJ8_hugeLength_7cf53_33 : decode cJ8_hugeLength_7cf53 33 = .ok (.iload_n 1, 1) := by decide +kernel
theorem dJ8_hugeLength_7cf53_34 : decode cJ8_hugeLength_7cf53 34 = .ok (.invokevirtual 98, 3) := by decide +kernel
theorem dJ8_hugeLength_7cf53_37 : decode cJ8_hugeLength_7cf53 37 = .ok (.ldc 210, 2) := by decide +kernel
theorem dJ8_hugeLength_7cf53_39 : decode cJ8_hugeLength_7cf53 39 = .ok (.invokevirtual 94, 3) := by decide +kernel
theorem dJ8_hugeLength_7cf53_42 : decode cJ8_hugeLength_7cf53 42 = .ok (.invokevirtual 101, 3) := by decide +kernel
theorem dJ8_hugeLength_7cf53_45 : decode cJ8_hugeLength_7cf53 45 = .ok (.invokespecial 212, 3) := by decide +kernel
theorem dJ8_hugeLength_7cf53_48 : decode cJ8_hugeLength_7cf53 48 = .ok (.athrow, 1) := by decide +kernel
theorem dJ8_hugeLength_7cf53_49 : decode cJ8_hugeLength_7cf53 49 = .ok (.iload_n 2, 1) := by decide +kernel
theorem dJ8_hugeLength_7cf53_50 : decode cJ8_hugeLength_7cf53 50 = .ok (.ldc 200, 2) := by decide +kernel
theorem dJ8_hugeLength_7cf53_52 : decode cJ8_hugeLength_7cf53 52 = .ok (.if_icmp .gt 6, 3) := by decide +kernel
theorem dJ8_hugeLength_7cf53_55 : decode cJ8_hugeLength_7cf53 55 = .ok (.ldc 200, 2) := by decide +kernel
theorem dJ8_hugeLength_7cf53_57 : decode cJ8_hugeLength_7cf53 57 = .ok (.ireturn, 1) := by decide +kernel
theorem dJ8_hugeLength_7cf53_58 : decode cJ8_hugeLength_7cf53 58 = .ok (.iload_n 2, 1) := by decide +kernel
theorem dJ8_hugeLength_7cf53_59 : decode cJ8_hugeLength_7cf53 59 = .ok (.ireturn, 1) := by decide +kernel
theorem dJ3_checkIndex_8e157_0 : decode cJ3_checkIndex_8e157 0 = .ok (.iload_n 0, 1) := by decide +kernel
theorem dJ3_checkIndex_8e157_1 : decode cJ3_checkIndex_8e157 1 = .ok (.ifCond .lt 8, 3) := by decide +kernel
theorem dJ3_checkIndex_8e157_4 : decode cJ3_checkIndex_8e157 4 = .ok (.iload_n 0, 1) := by decide +kernel
theorem dJ3_checkIndex_8e157_5 : decode cJ3_checkIndex_8e157 5 = .ok (.iload_n 1, 1) := by decide +kernel
theorem dJ3_checkIndex_8e157_6 : decode cJ3_checkIndex_8e157 6 = .ok (.if_icmp .lt 10, 3) := by decide +kernel
theorem dJ3_checkIndex_8e157_9 : decode cJ3_checkIndex_8e157 9 = .ok (.aload_n 2, 1) := by decide +kernel
theorem dJ3_checkIndex_8e157_10 : decode cJ3_checkIndex_8e157 10 = .ok (.iload_n 0, 1) := by decide +kernel
theorem dJ3_checkIndex_8e157_11 : decode cJ3_checkIndex_8e157 11 = .ok (.iload_n 1, 1) := by decide +kernel
theorem dJ3_checkIndex_8e157_12 : decode cJ3_checkIndex_8e157 12 = .ok (.invokestatic 95, 3) := by decide +kernel
theorem dJ3_checkIndex_8e157_15 : decode cJ3_checkIndex_8e157 15 = .ok (.athrow, 1) := by decide +kernel
theorem dJ3_checkIndex_8e157_16 : decode cJ3_checkIndex_8e157 16 = .ok (.iload_n 0, 1) := by decide +kernel
theorem dJ3_checkIndex_8e157_17 : decode cJ3_checkIndex_8e157 17 = .ok (.ireturn, 1) := by decide +kernel
theorem dL_cell_0 : decode cL_cell 0 = .ok (.iload_n 1, 1) := by decide +kernel
theorem dL_cell_1 : decode cL_cell 1 = .ok (.aload_n 0, 1) := by decide +kernel
theorem dL_cell_2 : decode cL_cell 2 = .ok (.arraylength, 1) := by decide +kernel
theorem dL_cell_3 : decode cL_cell 3 = .ok (.if_icmp .ge 9, 3) := by decide +kernel
theorem dL_cell_6 : decode cL_cell 6 = .ok (.aload_n 0, 1) := by decide +kernel
theorem dL_cell_7 : decode cL_cell 7 = .ok (.iload_n 1, 1) := by decide +kernel
theorem dL_cell_8 : decode cL_cell 8 = .ok (.iaload, 1) := by decide +kernel
theorem dL_cell_9 : decode cL_cell 9 = .ok (.goto 10, 3) := by decide +kernel
theorem dL_cell_12 : decode cL_cell 12 = .ok (.ldc 7, 2) := by decide +kernel
theorem dL_cell_14 : decode cL_cell 14 = .ok (.iload_n 1, 1) := by decide +kernel
theorem dL_cell_15 : decode cL_cell 15 = .ok (.bipush 61, 2) := by decide +kernel
theorem dL_cell_17 : decode cL_cell 17 = .ok (.iadd, 1) := by decide +kernel
theorem dL_cell_18 : decode cL_cell 18 = .ok (.imul, 1) := by decide +kernel
theorem dL_cell_19 : decode cL_cell 19 = .ok (.istore_n 2, 1) := by decide +kernel
theorem dL_cell_20 : decode cL_cell 20 = .ok (.iload_n 2, 1) := by decide +kernel
theorem dL_cell_21 : decode cL_cell 21 = .ok (.iload_n 2, 1) := by decide +kernel
theorem dL_cell_22 : decode cL_cell 22 = .ok (.bipush 16, 2) := by decide +kernel
theorem dL_cell_24 : decode cL_cell 24 = .ok (.iushr, 1) := by decide +kernel
theorem dL_cell_25 : decode cL_cell 25 = .ok (.ixor, 1) := by decide +kernel
theorem dL_cell_26 : decode cL_cell 26 = .ok (.ldc 8, 2) := by decide +kernel
theorem dL_cell_28 : decode cL_cell 28 = .ok (.imul, 1) := by decide +kernel
theorem dL_cell_29 : decode cL_cell 29 = .ok (.sipush 185, 3) := by decide +kernel
theorem dL_cell_32 : decode cL_cell 32 = .ok (.iload_n 1, 1) := by decide +kernel
theorem dL_cell_33 : decode cL_cell 33 = .ok (.imul, 1) := by decide +kernel
theorem dL_cell_34 : decode cL_cell 34 = .ok (.iadd, 1) := by decide +kernel
theorem dL_cell_35 : decode cL_cell 35 = .ok (.ireturn, 1) := by decide +kernel
theorem dL_some_0 : decode cL_some 0 = .ok (.iload_n 0, 1) := by decide +kernel
theorem dL_some_1 : decode cL_some 1 = .ok (.iconst 1, 1) := by decide +kernel
theorem dL_some_2 : decode cL_some 2 = .ok (.iushr, 1) := by decide +kernel
theorem dL_some_3 : decode cL_some 3 = .ok (.iload_n 1, 1) := by decide +kernel
theorem dL_some_4 : decode cL_some 4 = .ok (.irem, 1) := by decide +kernel
theorem dL_some_5 : decode cL_some 5 = .ok (.ireturn, 1) := by decide +kernel
theorem dL_call_0 : decode cL_call 0 = .ok (.aload_n 0, 1) := by decide +kernel
theorem dL_call_1 : decode cL_call 1 = .ok (.iload_n 1, 1) := by decide +kernel
theorem dL_call_2 : decode cL_call 2 = .ok (.iload_n 2, 1) := by decide +kernel
theorem dL_call_3 : decode cL_call 3 = .ok (.iload_n 3, 1) := by decide +kernel
theorem dL_call_4 : decode cL_call 4 = .ok (.iload 4, 2) := by decide +kernel
theorem dL_call_6 : decode cL_call 6 = .ok (.invokestatic 9, 3) := by decide +kernel
theorem dL_call_9 : decode cL_call 9 = .ok (.ireturn, 1) := by decide +kernel
theorem dL_call_10 : decode cL_call 10 = .ok (.astore 5, 2) := by decide +kernel
theorem dL_call_12 : decode cL_call 12 = .ok (.ldc 17, 2) := by decide +kernel
theorem dL_call_14 : decode cL_call 14 = .ok (.ireturn, 1) := by decide +kernel
theorem dL_call_15 : decode cL_call 15 = .ok (.astore 5, 2) := by decide +kernel
theorem dL_call_17 : decode cL_call 17 = .ok (.ldc 20, 2) := by decide +kernel
theorem dL_call_19 : decode cL_call 19 = .ok (.ireturn, 1) := by decide +kernel
theorem dL_call_20 : decode cL_call 20 = .ok (.astore 5, 2) := by decide +kernel
theorem dL_call_22 : decode cL_call 22 = .ok (.ldc 23, 2) := by decide +kernel
theorem dL_call_24 : decode cL_call 24 = .ok (.ireturn, 1) := by decide +kernel
theorem dL_does_0 : decode cL_does 0 = .ok (.iload_n 1, 1) := by decide +kernel
theorem dL_does_1 : decode cL_does 1 = .ok (.tableswitch 424 0 25 #[119, 139, 186, 195, 204, 213, 220, 229, 238, 245, 266, 303, 310, 334, 340, 354, 361, 367, 373, 380, 386, 392, 399, 405, 411, 417], 119) := by decide +kernel
theorem dL_does_120 : decode cL_does 120 = .ok (.aload_n 0, 1) := by decide +kernel
theorem dL_does_121 : decode cL_does 121 = .ok (.iload_n 2, 1) := by decide +kernel
theorem dL_does_122 : decode cL_does 122 = .ok (.iload_n 3, 1) := by decide +kernel
theorem dL_does_123 : decode cL_does 123 = .ok (.bipush 8, 2) := by decide +kernel
theorem dL_does_125 : decode cL_does 125 = .ok (.idiv, 1) := by decide +kernel
theorem dL_does_126 : decode cL_does 126 = .ok (.iconst 2, 1) := by decide +kernel
theorem dL_does_127 : decode cL_does 127 = .ok (.isub, 1) := by decide +kernel
theorem dL_does_128 : decode cL_does 128 = .ok (.iload_n 3, 1) := by decide +kernel
theorem dL_does_129 : decode cL_does 129 = .ok (.bipush 8, 2) := by decide +kernel
theorem dL_does_131 : decode cL_does 131 = .ok (.irem, 1) := by decide +kernel
theorem dL_does_132 : decode cL_does 132 = .ok (.iconst 1, 1) := by decide +kernel
theorem dL_does_133 : decode cL_does 133 = .ok (.isub, 1) := by decide +kernel
theorem dL_does_134 : decode cL_does 134 = .ok (.iload 4, 2) := by decide +kernel
theorem dL_does_136 : decode cL_does 136 = .ok (.invokevirtual 24, 3) := by decide +kernel
theorem dL_does_139 : decode cL_does 139 = .ok (.ireturn, 1) := by decide +kernel
theorem dL_does_140 : decode cL_does 140 = .ok (.aload_n 0, 1) := by decide +kernel
theorem dL_does_141 : decode cL_does 141 = .ok (.iload_n 2, 1) := by decide +kernel
theorem dL_does_142 : decode cL_does 142 = .ok (.iload_n 3, 1) := by decide +kernel
theorem dL_does_143 : decode cL_does 143 = .ok (.bipush 8, 2) := by decide +kernel
theorem dL_does_145 : decode cL_does 145 = .ok (.idiv, 1) := by decide +kernel
theorem dL_does_146 : decode cL_does 146 = .ok (.iconst 2, 1) := by decide +kernel
theorem dL_does_147 : decode cL_does 147 = .ok (.isub, 1) := by decide +kernel
theorem dL_does_148 : decode cL_does 148 = .ok (.iload_n 3, 1) := by decide +kernel
theorem dL_does_149 : decode cL_does 149 = .ok (.bipush 8, 2) := by decide +kernel
theorem dL_does_151 : decode cL_does 151 = .ok (.irem, 1) := by decide +kernel
theorem dL_does_152 : decode cL_does 152 = .ok (.iconst 2, 1) := by decide +kernel
theorem dL_does_153 : decode cL_does 153 = .ok (.isub, 1) := by decide +kernel
theorem dL_does_154 : decode cL_does 154 = .ok (.iload 4, 2) := by decide +kernel
theorem dL_does_156 : decode cL_does 156 = .ok (.bipush 16, 2) := by decide +kernel
theorem dL_does_158 : decode cL_does 158 = .ok (.idiv, 1) := by decide +kernel
theorem dL_does_159 : decode cL_does 159 = .ok (.iconst 1, 1) := by decide +kernel
theorem dL_does_160 : decode cL_does 160 = .ok (.isub, 1) := by decide +kernel
theorem dL_does_161 : decode cL_does 161 = .ok (.iload 4, 2) := by decide +kernel
theorem dL_does_163 : decode cL_does 163 = .ok (.bipush 16, 2) := by decide +kernel
theorem dL_does_165 : decode cL_does 165 = .ok (.irem, 1) := by decide +kernel
theorem dL_does_166 : decode cL_does 166 = .ok (.iconst 2, 1) := by decide +kernel
theorem dL_does_167 : decode cL_does 167 = .ok (.idiv, 1) := by decide +kernel
theorem dL_does_168 : decode cL_does 168 = .ok (.iconst 1, 1) := by decide +kernel
theorem dL_does_169 : decode cL_does 169 = .ok (.isub, 1) := by decide +kernel
theorem dL_does_170 : decode cL_does 170 = .ok (.iload 4, 2) := by decide +kernel
theorem dL_does_172 : decode cL_does 172 = .ok (.iconst 2, 1) := by decide +kernel
theorem dL_does_173 : decode cL_does 173 = .ok (.irem, 1) := by decide +kernel
theorem dL_does_174 : decode cL_does 174 = .ok (.iconst 1, 1) := by decide +kernel
theorem dL_does_175 : decode cL_does 175 = .ok (.if_icmp .ne 7, 3) := by decide +kernel
theorem dL_does_178 : decode cL_does 178 = .ok (.iconst 1, 1) := by decide +kernel
theorem dL_does_179 : decode cL_does 179 = .ok (.goto 4, 3) := by decide +kernel
theorem dL_does_182 : decode cL_does 182 = .ok (.iconst 0, 1) := by decide +kernel
theorem dL_does_183 : decode cL_does 183 = .ok (.invokevirtual 30, 3) := by decide +kernel
theorem dL_does_186 : decode cL_does 186 = .ok (.ireturn, 1) := by decide +kernel
theorem dL_does_187 : decode cL_does 187 = .ok (.aload_n 0, 1) := by decide +kernel
theorem dL_does_188 : decode cL_does 188 = .ok (.iload_n 2, 1) := by decide +kernel
theorem dL_does_189 : decode cL_does 189 = .ok (.iload_n 3, 1) := by decide +kernel
theorem dL_does_190 : decode cL_does 190 = .ok (.iload 4, 2) := by decide +kernel
theorem dL_does_192 : decode cL_does 192 = .ok (.invokevirtual 34, 3) := by decide +kernel
theorem dL_does_195 : decode cL_does 195 = .ok (.ireturn, 1) := by decide +kernel
theorem dL_does_196 : decode cL_does 196 = .ok (.aload_n 0, 1) := by decide +kernel
theorem dL_does_197 : decode cL_does 197 = .ok (.iload_n 2, 1) := by decide +kernel
theorem dL_does_198 : decode cL_does 198 = .ok (.iload_n 3, 1) := by decide +kernel
theorem dL_does_199 : decode cL_does 199 = .ok (.iload 4, 2) := by decide +kernel
theorem dL_does_201 : decode cL_does 201 = .ok (.invokevirtual 38, 3) := by decide +kernel
theorem dL_does_204 : decode cL_does 204 = .ok (.ireturn, 1) := by decide +kernel
theorem dL_does_205 : decode cL_does 205 = .ok (.aload_n 0, 1) := by decide +kernel
theorem dL_does_206 : decode cL_does 206 = .ok (.iload_n 2, 1) := by decide +kernel
theorem dL_does_207 : decode cL_does 207 = .ok (.iload_n 3, 1) := by decide +kernel
theorem dL_does_208 : decode cL_does 208 = .ok (.iload 4, 2) := by decide +kernel
theorem dL_does_210 : decode cL_does 210 = .ok (.invokevirtual 41, 3) := by decide +kernel
theorem dL_does_213 : decode cL_does 213 = .ok (.ireturn, 1) := by decide +kernel
theorem dL_does_214 : decode cL_does 214 = .ok (.aload_n 0, 1) := by decide +kernel
theorem dL_does_215 : decode cL_does 215 = .ok (.iload_n 2, 1) := by decide +kernel
theorem dL_does_216 : decode cL_does 216 = .ok (.iload_n 3, 1) := by decide +kernel
theorem dL_does_217 : decode cL_does 217 = .ok (.invokevirtual 44, 3) := by decide +kernel
theorem dL_does_220 : decode cL_does 220 = .ok (.ireturn, 1) := by decide +kernel
theorem dL_does_221 : decode cL_does 221 = .ok (.aload_n 0, 1) := by decide +kernel
theorem dL_does_222 : decode cL_does 222 = .ok (.iload_n 2, 1) := by decide +kernel
theorem dL_does_223 : decode cL_does 223 = .ok (.iload_n 3, 1) := by decide +kernel
theorem dL_does_224 : decode cL_does 224 = .ok (.iload 4, 2) := by decide +kernel
theorem dL_does_226 : decode cL_does 226 = .ok (.invokevirtual 48, 3) := by decide +kernel
theorem dL_does_229 : decode cL_does 229 = .ok (.ireturn, 1) := by decide +kernel
theorem dL_does_230 : decode cL_does 230 = .ok (.aload_n 0, 1) := by decide +kernel
theorem dL_does_231 : decode cL_does 231 = .ok (.iload_n 2, 1) := by decide +kernel
theorem dL_does_232 : decode cL_does 232 = .ok (.iload_n 3, 1) := by decide +kernel
theorem dL_does_233 : decode cL_does 233 = .ok (.iload 4, 2) := by decide +kernel
theorem dL_does_235 : decode cL_does 235 = .ok (.invokevirtual 51, 3) := by decide +kernel
theorem dL_does_238 : decode cL_does 238 = .ok (.ireturn, 1) := by decide +kernel
theorem dL_does_239 : decode cL_does 239 = .ok (.aload_n 0, 1) := by decide +kernel
theorem dL_does_240 : decode cL_does 240 = .ok (.iload_n 2, 1) := by decide +kernel
theorem dL_does_241 : decode cL_does 241 = .ok (.iload_n 3, 1) := by decide +kernel
theorem dL_does_242 : decode cL_does 242 = .ok (.invokevirtual 54, 3) := by decide +kernel
theorem dL_does_245 : decode cL_does 245 = .ok (.ireturn, 1) := by decide +kernel
theorem dL_does_246 : decode cL_does 246 = .ok (.aload_n 0, 1) := by decide +kernel
theorem dL_does_247 : decode cL_does 247 = .ok (.iload_n 2, 1) := by decide +kernel
theorem dL_does_248 : decode cL_does 248 = .ok (.iload_n 3, 1) := by decide +kernel
theorem dL_does_249 : decode cL_does 249 = .ok (.iload 4, 2) := by decide +kernel
theorem dL_does_251 : decode cL_does 251 = .ok (.bipush 16, 2) := by decide +kernel
theorem dL_does_253 : decode cL_does 253 = .ok (.idiv, 1) := by decide +kernel
theorem dL_does_254 : decode cL_does 254 = .ok (.iconst 2, 1) := by decide +kernel
theorem dL_does_255 : decode cL_does 255 = .ok (.isub, 1) := by decide +kernel
theorem dL_does_256 : decode cL_does 256 = .ok (.iload 4, 2) := by decide +kernel
theorem dL_does_258 : decode cL_does 258 = .ok (.bipush 16, 2) := by decide +kernel
theorem dL_does_260 : decode cL_does 260 = .ok (.irem, 1) := by decide +kernel
theorem dL_does_261 : decode cL_does 261 = .ok (.iconst 2, 1) := by decide +kernel
theorem dL_does_262 : decode cL_does 262 = .ok (.isub, 1) := by decide +kernel
theorem dL_does_263 : decode cL_does 263 = .ok (.invokevirtual 57, 3) := by decide +kernel
theorem dL_does_266 : decode cL_does 266 = .ok (.ireturn, 1) := by decide +kernel
theorem dL_does_267 : decode cL_does 267 = .ok (.aload_n 0, 1) := by decide +kernel
theorem dL_does_268 : decode cL_does 268 = .ok (.iload_n 2, 1) := by decide +kernel
theorem dL_does_269 : decode cL_does 269 = .ok (.iload_n 3, 1) := by decide +kernel
theorem dL_does_270 : decode cL_does 270 = .ok (.iconst 2, 1) := by decide +kernel
theorem dL_does_271 : decode cL_does 271 = .ok (.idiv, 1) := by decide +kernel
theorem dL_does_272 : decode cL_does 272 = .ok (.iload_n 3, 1) := by decide +kernel
theorem dL_does_273 : decode cL_does 273 = .ok (.iconst 2, 1) := by decide +kernel
theorem dL_does_274 : decode cL_does 274 = .ok (.irem, 1) := by decide +kernel
theorem dL_does_275 : decode cL_does 275 = .ok (.iconst 1, 1) := by decide +kernel
theorem dL_does_276 : decode cL_does 276 = .ok (.if_icmp .ne 7, 3) := by decide +kernel
theorem dL_does_279 : decode cL_does 279 = .ok (.iconst 1, 1) := by decide +kernel
theorem dL_does_280 : decode cL_does 280 = .ok (.goto 4, 3) := by decide +kernel
theorem dL_does_283 : decode cL_does 283 = .ok (.iconst 0, 1) := by decide +kernel
theorem dL_does_284 : decode cL_does 284 = .ok (.iload 4, 2) := by decide +kernel
theorem dL_does_286 : decode cL_does 286 = .ok (.sipush 16384, 3) := by decide +kernel
theorem dL_does_289 : decode cL_does 289 = .ok (.idiv, 1) := by decide +kernel
theorem dL_does_290 : decode cL_does 290 = .ok (.iconst 2, 1) := by decide +kernel
theorem dL_does_291 : decode cL_does 291 = .ok (.isub, 1) := by decide +kernel
theorem dL_does_292 : decode cL_does 292 = .ok (.iload 4, 2) := by decide +kernel
theorem dL_does_294 : decode cL_does 294 = .ok (.sipush 16384, 3) := by decide +kernel
theorem dL_does_297 : decode cL_does 297 = .ok (.irem, 1) := by decide +kernel
theorem dL_does_298 : decode cL_does 298 = .ok (.iconst 2, 1) := by decide +kernel
theorem dL_does_299 : decode cL_does 299 = .ok (.isub, 1) := by decide +kernel
theorem dL_does_300 : decode cL_does 300 = .ok (.invokevirtual 60, 3) := by decide +kernel
theorem dL_does_303 : decode cL_does 303 = .ok (.ireturn, 1) := by decide +kernel
theorem dL_does_304 : decode cL_does 304 = .ok (.aload_n 0, 1) := by decide +kernel
theorem dL_does_305 : decode cL_does 305 = .ok (.iload_n 2, 1) := by decide +kernel
theorem dL_does_306 : decode cL_does 306 = .ok (.iload_n 3, 1) := by decide +kernel
theorem dL_does_307 : decode cL_does 307 = .ok (.invokevirtual 64, 3) := by decide +kernel
theorem dL_does_310 : decode cL_does 310 = .ok (.ireturn, 1) := by decide +kernel
theorem dL_does_311 : decode cL_does 311 = .ok (.aload_n 0, 1) := by decide +kernel
theorem dL_does_312 : decode cL_does 312 = .ok (.iload_n 2, 1) := by decide +kernel
theorem dL_does_313 : decode cL_does 313 = .ok (.iload_n 3, 1) := by decide +kernel
theorem dL_does_314 : decode cL_does 314 = .ok (.iconst 1, 1) := by decide +kernel
theorem dL_does_315 : decode cL_does 315 = .ok (.if_icmp .ne 7, 3) := by decide +kernel
theorem dL_does_318 : decode cL_does 318 = .ok (.iconst 1, 1) := by decide +kernel
theorem dL_does_319 : decode cL_does 319 = .ok (.goto 4, 3) := by decide +kernel
theorem dL_does_322 : decode cL_does 322 = .ok (.iconst 0, 1) := by decide +kernel
theorem dL_does_323 : decode cL_does 323 = .ok (.invokevirtual 67, 3) := by decide +kernel
theorem dL_does_326 : decode cL_does 326 = .ok (.ifCond .eq 7, 3) := by decide +kernel
theorem dL_does_329 : decode cL_does 329 = .ok (.iconst 1, 1) := by decide +kernel
theorem dL_does_330 : decode cL_does 330 = .ok (.goto 4, 3) := by decide +kernel
theorem dL_does_333 : decode cL_does 333 = .ok (.iconst 0, 1) := by decide +kernel
theorem dL_does_334 : decode cL_does 334 = .ok (.ireturn, 1) := by decide +kernel
theorem dL_does_335 : decode cL_does 335 = .ok (.aload_n 0, 1) := by decide +kernel
theorem dL_does_336 : decode cL_does 336 = .ok (.iload_n 2, 1) := by decide +kernel
theorem dL_does_337 : decode cL_does 337 = .ok (.invokevirtual 71, 3) := by decide +kernel
theorem dL_does_340 : decode cL_does 340 = .ok (.ireturn, 1) := by decide +kernel
theorem dL_does_341 : decode cL_does 341 = .ok (.aload_n 0, 1) := by decide +kernel
theorem dL_does_342 : decode cL_does 342 = .ok (.iload_n 2, 1) := by decide +kernel
theorem dL_does_343 : decode cL_does 343 = .ok (.invokevirtual 75, 3) := by decide +kernel
theorem dL_does_346 : decode cL_does 346 = .ok (.ifCond .eq 7, 3) := by decide +kernel
theorem dL_does_349 : decode cL_does 349 = .ok (.iconst 1, 1) := by decide +kernel
theorem dL_does_350 : decode cL_does 350 = .ok (.goto 4, 3) := by decide +kernel
theorem dL_does_353 : decode cL_does 353 = .ok (.iconst 0, 1) := by decide +kernel
theorem dL_does_354 : decode cL_does 354 = .ok (.ireturn, 1) := by decide +kernel
theorem dL_does_355 : decode cL_does 355 = .ok (.aload_n 0, 1) := by decide +kernel
theorem dL_does_356 : decode cL_does 356 = .ok (.iload_n 2, 1) := by decide +kernel
theorem dL_does_357 : decode cL_does 357 = .ok (.iload_n 3, 1) := by decide +kernel
theorem dL_does_358 : decode cL_does 358 = .ok (.invokevirtual 79, 3) := by decide +kernel
theorem dL_does_361 : decode cL_does 361 = .ok (.ireturn, 1) := by decide +kernel
theorem dL_does_362 : decode cL_does 362 = .ok (.aload_n 0, 1) := by decide +kernel
theorem dL_does_363 : decode cL_does 363 = .ok (.iload_n 2, 1) := by decide +kernel
theorem dL_does_364 : decode cL_does 364 = .ok (.invokevirtual 82, 3) := by decide +kernel
theorem dL_does_367 : decode cL_does 367 = .ok (.ireturn, 1) := by decide +kernel
theorem dL_does_368 : decode cL_does 368 = .ok (.aload_n 0, 1) := by decide +kernel
theorem dL_does_369 : decode cL_does 369 = .ok (.iload_n 2, 1) := by decide +kernel
theorem dL_does_370 : decode cL_does 370 = .ok (.invokevirtual 85, 3) := by decide +kernel
theorem dL_does_373 : decode cL_does 373 = .ok (.ireturn, 1) := by decide +kernel
theorem dL_does_374 : decode cL_does 374 = .ok (.aload_n 0, 1) := by decide +kernel
theorem dL_does_375 : decode cL_does 375 = .ok (.iload_n 2, 1) := by decide +kernel
theorem dL_does_376 : decode cL_does 376 = .ok (.iload_n 3, 1) := by decide +kernel
theorem dL_does_377 : decode cL_does 377 = .ok (.invokevirtual 88, 3) := by decide +kernel
theorem dL_does_380 : decode cL_does 380 = .ok (.ireturn, 1) := by decide +kernel
theorem dL_does_381 : decode cL_does 381 = .ok (.aload_n 0, 1) := by decide +kernel
theorem dL_does_382 : decode cL_does 382 = .ok (.iload_n 2, 1) := by decide +kernel
theorem dL_does_383 : decode cL_does 383 = .ok (.invokevirtual 91, 3) := by decide +kernel
theorem dL_does_386 : decode cL_does 386 = .ok (.ireturn, 1) := by decide +kernel
theorem dL_does_387 : decode cL_does 387 = .ok (.aload_n 0, 1) := by decide +kernel
theorem dL_does_388 : decode cL_does 388 = .ok (.iload_n 2, 1) := by decide +kernel
theorem dL_does_389 : decode cL_does 389 = .ok (.invokevirtual 94, 3) := by decide +kernel
theorem dL_does_392 : decode cL_does 392 = .ok (.ireturn, 1) := by decide +kernel
theorem dL_does_393 : decode cL_does 393 = .ok (.aload_n 0, 1) := by decide +kernel
theorem dL_does_394 : decode cL_does 394 = .ok (.iload_n 2, 1) := by decide +kernel
theorem dL_does_395 : decode cL_does 395 = .ok (.iload_n 3, 1) := by decide +kernel
theorem dL_does_396 : decode cL_does 396 = .ok (.invokevirtual 97, 3) := by decide +kernel
theorem dL_does_399 : decode cL_does 399 = .ok (.ireturn, 1) := by decide +kernel
theorem dL_does_400 : decode cL_does 400 = .ok (.aload_n 0, 1) := by decide +kernel
theorem dL_does_401 : decode cL_does 401 = .ok (.iload_n 2, 1) := by decide +kernel
theorem dL_does_402 : decode cL_does 402 = .ok (.invokevirtual 100, 3) := by decide +kernel
theorem dL_does_405 : decode cL_does 405 = .ok (.ireturn, 1) := by decide +kernel
theorem dL_does_406 : decode cL_does 406 = .ok (.aload_n 0, 1) := by decide +kernel
theorem dL_does_407 : decode cL_does 407 = .ok (.iload_n 2, 1) := by decide +kernel
theorem dL_does_408 : decode cL_does 408 = .ok (.invokevirtual 103, 3) := by decide +kernel
theorem dL_does_411 : decode cL_does 411 = .ok (.ireturn, 1) := by decide +kernel
theorem dL_does_412 : decode cL_does 412 = .ok (.aload_n 0, 1) := by decide +kernel
theorem dL_does_413 : decode cL_does 413 = .ok (.iload_n 2, 1) := by decide +kernel
theorem dL_does_414 : decode cL_does 414 = .ok (.invokevirtual 106, 3) := by decide +kernel
theorem dL_does_417 : decode cL_does 417 = .ok (.ireturn, 1) := by decide +kernel
theorem dL_does_418 : decode cL_does 418 = .ok (.aload_n 0, 1) := by decide +kernel
theorem dL_does_419 : decode cL_does 419 = .ok (.iload_n 2, 1) := by decide +kernel
theorem dL_does_420 : decode cL_does 420 = .ok (.iload_n 3, 1) := by decide +kernel
theorem dL_does_421 : decode cL_does 421 = .ok (.invokevirtual 109, 3) := by decide +kernel
theorem dL_does_424 : decode cL_does 424 = .ok (.ireturn, 1) := by decide +kernel
theorem dL_does_425 : decode cL_does 425 = .ok (.aload_n 0, 1) := by decide +kernel
theorem dL_does_426 : decode cL_does 426 = .ok (.iload_n 2, 1) := by decide +kernel
theorem dL_does_427 : decode cL_does 427 = .ok (.iload_n 3, 1) := by decide +kernel
theorem dL_does_428 : decode cL_does 428 = .ok (.iload 4, 2) := by decide +kernel
theorem dL_does_430 : decode cL_does 430 = .ok (.invokevirtual 112, 3) := by decide +kernel
theorem dL_does_433 : decode cL_does 433 = .ok (.ifCond .eq 7, 3) := by decide +kernel
theorem dL_does_436 : decode cL_does 436 = .ok (.iconst 1, 1) := by decide +kernel
theorem dL_does_437 : decode cL_does 437 = .ok (.goto 4, 3) := by decide +kernel
theorem dL_does_440 : decode cL_does 440 = .ok (.iconst 0, 1) := by decide +kernel
theorem dL_does_441 : decode cL_does 441 = .ok (.ireturn, 1) := by decide +kernel
theorem dL_all_0 : decode cL_all 0 = .ok (.aload_n 0, 1) := by decide +kernel
theorem dL_all_1 : decode cL_all 1 = .ok (.invokevirtual 116, 3) := by decide +kernel
theorem dL_all_4 : decode cL_all 4 = .ok (.i2l, 1) := by decide +kernel
theorem dL_all_5 : decode cL_all 5 = .ok (.lstore_n 3, 1) := by decide +kernel
theorem dL_all_6 : decode cL_all 6 = .ok (.iconst 0, 1) := by decide +kernel
theorem dL_all_7 : decode cL_all 7 = .ok (.istore 5, 2) := by decide +kernel
theorem dL_all_9 : decode cL_all 9 = .ok (.iload 5, 2) := by decide +kernel
theorem dL_all_11 : decode cL_all 11 = .ok (.bipush 6, 2) := by decide +kernel
theorem dL_all_13 : decode cL_all 13 = .ok (.if_icmp .ge 66, 3) := by decide +kernel
theorem dL_all_16 : decode cL_all 16 = .ok (.lload_n 3, 1) := by decide +kernel
theorem dL_all_17 : decode cL_all 17 = .ok (.ldc2_w 120, 3) := by decide +kernel
theorem dL_all_20 : decode cL_all 20 = .ok (.lmul, 1) := by decide +kernel
theorem dL_all_21 : decode cL_all 21 = .ok (.aload_n 0, 1) := by decide +kernel
theorem dL_all_22 : decode cL_all 22 = .ok (.iload 5, 2) := by decide +kernel
theorem dL_all_24 : decode cL_all 24 = .ok (.invokevirtual 94, 3) := by decide +kernel
theorem dL_all_27 : decode cL_all 27 = .ok (.i2l, 1) := by decide +kernel
theorem dL_all_28 : decode cL_all 28 = .ok (.ladd, 1) := by decide +kernel
theorem dL_all_29 : decode cL_all 29 = .ok (.ldc2_w 120, 3) := by decide +kernel
theorem dL_all_32 : decode cL_all 32 = .ok (.lmul, 1) := by decide +kernel
theorem dL_all_33 : decode cL_all 33 = .ok (.aload_n 0, 1) := by decide +kernel
theorem dL_all_34 : decode cL_all 34 = .ok (.iload 5, 2) := by decide +kernel
theorem dL_all_36 : decode cL_all 36 = .ok (.invokevirtual 100, 3) := by decide +kernel
theorem dL_all_39 : decode cL_all 39 = .ok (.i2l, 1) := by decide +kernel
theorem dL_all_40 : decode cL_all 40 = .ok (.ladd, 1) := by decide +kernel
theorem dL_all_41 : decode cL_all 41 = .ok (.lstore_n 3, 1) := by decide +kernel
theorem dL_all_42 : decode cL_all 42 = .ok (.iconst 0, 1) := by decide +kernel
theorem dL_all_43 : decode cL_all 43 = .ok (.istore 6, 2) := by decide +kernel
theorem dL_all_45 : decode cL_all 45 = .ok (.iload 6, 2) := by decide +kernel
theorem dL_all_47 : decode cL_all 47 = .ok (.iconst 4, 1) := by decide +kernel
theorem dL_all_48 : decode cL_all 48 = .ok (.if_icmp .ge 25, 3) := by decide +kernel
theorem dL_all_51 : decode cL_all 51 = .ok (.lload_n 3, 1) := by decide +kernel
theorem dL_all_52 : decode cL_all 52 = .ok (.ldc2_w 120, 3) := by decide +kernel
theorem dL_all_55 : decode cL_all 55 = .ok (.lmul, 1) := by decide +kernel
theorem dL_all_56 : decode cL_all 56 = .ok (.aload_n 0, 1) := by decide +kernel
theorem dL_all_57 : decode cL_all 57 = .ok (.iload 5, 2) := by decide +kernel
theorem dL_all_59 : decode cL_all 59 = .ok (.iload 6, 2) := by decide +kernel
theorem dL_all_61 : decode cL_all 61 = .ok (.invokevirtual 88, 3) := by decide +kernel
theorem dL_all_64 : decode cL_all 64 = .ok (.i2l, 1) := by decide +kernel
theorem dL_all_65 : decode cL_all 65 = .ok (.ladd, 1) := by decide +kernel
theorem dL_all_66 : decode cL_all 66 = .ok (.lstore_n 3, 1) := by decide +kernel
theorem dL_all_67 : decode cL_all 67 = .ok (.iinc 6 1, 3) := by decide +kernel
theorem dL_all_70 : decode cL_all 70 = .ok (.goto (-25), 3) := by decide +kernel
theorem dL_all_73 : decode cL_all 73 = .ok (.iinc 5 1, 3) := by decide +kernel
theorem dL_all_76 : decode cL_all 76 = .ok (.goto (-67), 3) := by decide +kernel
theorem dL_all_79 : decode cL_all 79 = .ok (.iconst 0, 1) := by decide +kernel
theorem dL_all_80 : decode cL_all 80 = .ok (.istore 5, 2) := by decide +kernel
theorem dL_all_82 : decode cL_all 82 = .ok (.iload 5, 2) := by decide +kernel
theorem dL_all_84 : decode cL_all 84 = .ok (.iload_n 1, 1) := by decide +kernel
theorem dL_all_85 : decode cL_all 85 = .ok (.if_icmp .ge 23, 3) := by decide +kernel
theorem dL_all_88 : decode cL_all 88 = .ok (.lload_n 3, 1) := by decide +kernel
theorem dL_all_89 : decode cL_all 89 = .ok (.ldc2_w 122, 3) := by decide +kernel
theorem dL_all_92 : decode cL_all 92 = .ok (.lmul, 1) := by decide +kernel
theorem dL_all_93 : decode cL_all 93 = .ok (.aload_n 0, 1) := by decide +kernel
theorem dL_all_94 : decode cL_all 94 = .ok (.iload 5, 2) := by decide +kernel
theorem dL_all_96 : decode cL_all 96 = .ok (.invokevirtual 85, 3) := by decide +kernel
theorem dL_all_99 : decode cL_all 99 = .ok (.i2l, 1) := by decide +kernel
theorem dL_all_100 : decode cL_all 100 = .ok (.ladd, 1) := by decide +kernel
theorem dL_all_101 : decode cL_all 101 = .ok (.lstore_n 3, 1) := by decide +kernel
theorem dL_all_102 : decode cL_all 102 = .ok (.iinc 5 1, 3) := by decide +kernel
theorem dL_all_105 : decode cL_all 105 = .ok (.goto (-23), 3) := by decide +kernel
theorem dL_all_108 : decode cL_all 108 = .ok (.iconst 0, 1) := by decide +kernel
theorem dL_all_109 : decode cL_all 109 = .ok (.istore 5, 2) := by decide +kernel
theorem dL_all_111 : decode cL_all 111 = .ok (.iload 5, 2) := by decide +kernel
theorem dL_all_113 : decode cL_all 113 = .ok (.iload_n 2, 1) := by decide +kernel
