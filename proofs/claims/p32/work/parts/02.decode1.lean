theorem dX0_init_0 : decode cX0_init 0 = .ok (.aload_n 0, 1) := by decide +kernel
theorem dX0_init_1 : decode cX0_init 1 = .ok (.invokespecial 3, 3) := by decide +kernel
theorem dX0_init_4 : decode cX0_init 4 = .ok (.aload_n 0, 1) := by decide +kernel
theorem dX0_init_5 : decode cX0_init 5 = .ok (.ldc 9, 2) := by decide +kernel
theorem dX0_init_7 : decode cX0_init 7 = .ok (.putfield 10, 3) := by decide +kernel
theorem dX0_init_10 : decode cX0_init 10 = .ok (.aload_n 0, 1) := by decide +kernel
theorem dX0_init_11 : decode cX0_init 11 = .ok (.iconst 0, 1) := by decide +kernel
theorem dX0_init_12 : decode cX0_init 12 = .ok (.putfield 16, 3) := by decide +kernel
theorem dX0_init_15 : decode cX0_init 15 = .ok (.aload_n 0, 1) := by decide +kernel
theorem dX0_init_16 : decode cX0_init 16 = .ok (.iconst 0, 1) := by decide +kernel
theorem dX0_init_17 : decode cX0_init 17 = .ok (.putfield 20, 3) := by decide +kernel
theorem dX0_init_20 : decode cX0_init 20 = .ok (.aload_n 0, 1) := by decide +kernel
theorem dX0_init_21 : decode cX0_init 21 = .ok (.iload_n 1, 1) := by decide +kernel
theorem dX0_init_22 : decode cX0_init 22 = .ok (.putfield 23, 3) := by decide +kernel
theorem dX0_init_25 : decode cX0_init 25 = .ok (.aload_n 0, 1) := by decide +kernel
theorem dX0_init_26 : decode cX0_init 26 = .ok (.iload_n 2, 1) := by decide +kernel
theorem dX0_init_27 : decode cX0_init 27 = .ok (.putfield 26, 3) := by decide +kernel
theorem dX0_init_30 : decode cX0_init 30 = .ok (.aload_n 0, 1) := by decide +kernel
theorem dX0_init_31 : decode cX0_init 31 = .ok (.aload_n 3, 1) := by decide +kernel
theorem dX0_init_32 : decode cX0_init 32 = .ok (.putfield 29, 3) := by decide +kernel
theorem dX0_init_35 : decode cX0_init 35 = .ok (.aload_n 0, 1) := by decide +kernel
theorem dX0_init_36 : decode cX0_init 36 = .ok (.iload 4, 2) := by decide +kernel
theorem dX0_init_38 : decode cX0_init 38 = .ok (.putfield 33, 3) := by decide +kernel
theorem dX0_init_41 : decode cX0_init 41 = .ok (.aload_n 0, 1) := by decide +kernel
theorem dX0_init_42 : decode cX0_init 42 = .ok (.iload 5, 2) := by decide +kernel
theorem dX0_init_44 : decode cX0_init 44 = .ok (.putfield 36, 3) := by decide +kernel
theorem dX0_init_47 : decode cX0_init 47 = .ok (.aload_n 0, 1) := by decide +kernel
theorem dX0_init_48 : decode cX0_init 48 = .ok (.iload 6, 2) := by decide +kernel
theorem dX0_init_50 : decode cX0_init 50 = .ok (.putfield 39, 3) := by decide +kernel
theorem dX0_init_53 : decode cX0_init 53 = .ok (.aload_n 0, 1) := by decide +kernel
theorem dX0_init_54 : decode cX0_init 54 = .ok (.iload 7, 2) := by decide +kernel
theorem dX0_init_56 : decode cX0_init 56 = .ok (.putfield 42, 3) := by decide +kernel
theorem dX0_init_59 : decode cX0_init 59 = .ok (.return_, 1) := by decide +kernel
theorem dX0_standsAt_0 : decode cX0_standsAt 0 = .ok (.aload_n 0, 1) := by decide +kernel
theorem dX0_standsAt_1 : decode cX0_standsAt 1 = .ok (.getfield 42, 3) := by decide +kernel
theorem dX0_standsAt_4 : decode cX0_standsAt 4 = .ok (.iload_n 1, 1) := by decide +kernel
theorem dX0_standsAt_5 : decode cX0_standsAt 5 = .ok (.if_icmp .ge 33, 3) := by decide +kernel
theorem dX0_standsAt_8 : decode cX0_standsAt 8 = .ok (.aload_n 0, 1) := by decide +kernel
theorem dX0_standsAt_9 : decode cX0_standsAt 9 = .ok (.getfield 10, 3) := by decide +kernel
theorem dX0_standsAt_12 : decode cX0_standsAt 12 = .ok (.iload_n 1, 1) := by decide +kernel
theorem dX0_standsAt_13 : decode cX0_standsAt 13 = .ok (.if_icmp .lt 25, 3) := by decide +kernel
theorem dX0_standsAt_16 : decode cX0_standsAt 16 = .ok (.aload_n 0, 1) := by decide +kernel
theorem dX0_standsAt_17 : decode cX0_standsAt 17 = .ok (.getfield 29, 3) := by decide +kernel
theorem dX0_standsAt_20 : decode cX0_standsAt 20 = .ok (.getfield 45, 3) := by decide +kernel
theorem dX0_standsAt_23 : decode cX0_standsAt 23 = .ok (.iload_n 1, 1) := by decide +kernel
theorem dX0_standsAt_24 : decode cX0_standsAt 24 = .ok (.if_icmp .lt 14, 3) := by decide +kernel
theorem dX0_standsAt_27 : decode cX0_standsAt 27 = .ok (.aload_n 0, 1) := by decide +kernel
theorem dX0_standsAt_28 : decode cX0_standsAt 28 = .ok (.getfield 16, 3) := by decide +kernel
theorem dX0_standsAt_31 : decode cX0_standsAt 31 = .ok (.ifCond .ne 7, 3) := by decide +kernel
theorem dX0_standsAt_34 : decode cX0_standsAt 34 = .ok (.iconst 1, 1) := by decide +kernel
theorem dX0_standsAt_35 : decode cX0_standsAt 35 = .ok (.goto 4, 3) := by decide +kernel
theorem dX0_standsAt_38 : decode cX0_standsAt 38 = .ok (.iconst 0, 1) := by decide +kernel
theorem dX0_standsAt_39 : decode cX0_standsAt 39 = .ok (.ireturn, 1) := by decide +kernel
theorem dX0_takesPart_0 : decode cX0_takesPart 0 = .ok (.aload_n 0, 1) := by decide +kernel
theorem dX0_takesPart_1 : decode cX0_takesPart 1 = .ok (.getfield 16, 3) := by decide +kernel
theorem dX0_takesPart_4 : decode cX0_takesPart 4 = .ok (.ifCond .ne 23, 3) := by decide +kernel
theorem dX0_takesPart_7 : decode cX0_takesPart 7 = .ok (.aload_n 0, 1) := by decide +kernel
theorem dX0_takesPart_8 : decode cX0_takesPart 8 = .ok (.getfield 10, 3) := by decide +kernel
theorem dX0_takesPart_11 : decode cX0_takesPart 11 = .ok (.ldc 9, 2) := by decide +kernel
theorem dX0_takesPart_13 : decode cX0_takesPart 13 = .ok (.if_icmp .ne 14, 3) := by decide +kernel
theorem dX0_takesPart_16 : decode cX0_takesPart 16 = .ok (.aload_n 0, 1) := by decide +kernel
theorem dX0_takesPart_17 : decode cX0_takesPart 17 = .ok (.getfield 29, 3) := by decide +kernel
theorem dX0_takesPart_20 : decode cX0_takesPart 20 = .ok (.getfield 50, 3) := by decide +kernel
theorem dX0_takesPart_23 : decode cX0_takesPart 23 = .ok (.iconst (-1), 1) := by decide +kernel
theorem dX0_takesPart_24 : decode cX0_takesPart 24 = .ok (.if_icmp .ne 5, 3) := by decide +kernel
theorem dX0_takesPart_27 : decode cX0_takesPart 27 = .ok (.iconst 0, 1) := by decide +kernel
theorem dX0_takesPart_28 : decode cX0_takesPart 28 = .ok (.ireturn, 1) := by decide +kernel
theorem dX0_takesPart_29 : decode cX0_takesPart 29 = .ok (.aload_n 0, 1) := by decide +kernel
theorem dX0_takesPart_30 : decode cX0_takesPart 30 = .ok (.getfield 33, 3) := by decide +kernel
theorem dX0_takesPart_33 : decode cX0_takesPart 33 = .ok (.ifCond .eq 25, 3) := by decide +kernel
theorem dX0_takesPart_36 : decode cX0_takesPart 36 = .ok (.aload_n 0, 1) := by decide +kernel
theorem dX0_takesPart_37 : decode cX0_takesPart 37 = .ok (.getfield 39, 3) := by decide +kernel
theorem dX0_takesPart_40 : decode cX0_takesPart 40 = .ok (.aload_n 0, 1) := by decide +kernel
theorem dX0_takesPart_41 : decode cX0_takesPart 41 = .ok (.getfield 29, 3) := by decide +kernel
theorem dX0_takesPart_44 : decode cX0_takesPart 44 = .ok (.getfield 50, 3) := by decide +kernel
theorem dX0_takesPart_47 : decode cX0_takesPart 47 = .ok (.if_icmp .lt 7, 3) := by decide +kernel
theorem dX0_takesPart_50 : decode cX0_takesPart 50 = .ok (.iconst 1, 1) := by decide +kernel
theorem dX0_takesPart_51 : decode cX0_takesPart 51 = .ok (.goto 26, 3) := by decide +kernel
theorem dX0_takesPart_54 : decode cX0_takesPart 54 = .ok (.iconst 0, 1) := by decide +kernel
theorem dX0_takesPart_55 : decode cX0_takesPart 55 = .ok (.goto 22, 3) := by decide +kernel
theorem dX0_takesPart_58 : decode cX0_takesPart 58 = .ok (.aload_n 0, 1) := by decide +kernel
theorem dX0_takesPart_59 : decode cX0_takesPart 59 = .ok (.getfield 39, 3) := by decide +kernel
theorem dX0_takesPart_62 : decode cX0_takesPart 62 = .ok (.aload_n 0, 1) := by decide +kernel
theorem dX0_takesPart_63 : decode cX0_takesPart 63 = .ok (.getfield 29, 3) := by decide +kernel
theorem dX0_takesPart_66 : decode cX0_takesPart 66 = .ok (.getfield 50, 3) := by decide +kernel
theorem dX0_takesPart_69 : decode cX0_takesPart 69 = .ok (.if_icmp .gt 7, 3) := by decide +kernel
theorem dX0_takesPart_72 : decode cX0_takesPart 72 = .ok (.iconst 1, 1) := by decide +kernel
theorem dX0_takesPart_73 : decode cX0_takesPart 73 = .ok (.goto 4, 3) := by decide +kernel
theorem dX0_takesPart_76 : decode cX0_takesPart 76 = .ok (.iconst 0, 1) := by decide +kernel
theorem dX0_takesPart_77 : decode cX0_takesPart 77 = .ok (.ireturn, 1) := by decide +kernel
theorem dX0_goesAhead_0 : decode cX0_goesAhead 0 = .ok (.aload_n 0, 1) := by decide +kernel
theorem dX0_goesAhead_1 : decode cX0_goesAhead 1 = .ok (.getfield 39, 3) := by decide +kernel
theorem dX0_goesAhead_4 : decode cX0_goesAhead 4 = .ok (.aload_n 1, 1) := by decide +kernel
theorem dX0_goesAhead_5 : decode cX0_goesAhead 5 = .ok (.getfield 39, 3) := by decide +kernel
theorem dX0_goesAhead_8 : decode cX0_goesAhead 8 = .ok (.if_icmp .ne 20, 3) := by decide +kernel
theorem dX0_goesAhead_11 : decode cX0_goesAhead 11 = .ok (.aload_n 0, 1) := by decide +kernel
theorem dX0_goesAhead_12 : decode cX0_goesAhead 12 = .ok (.getfield 23, 3) := by decide +kernel
theorem dX0_goesAhead_15 : decode cX0_goesAhead 15 = .ok (.aload_n 1, 1) := by decide +kernel
theorem dX0_goesAhead_16 : decode cX0_goesAhead 16 = .ok (.getfield 23, 3) := by decide +kernel
theorem dX0_goesAhead_19 : decode cX0_goesAhead 19 = .ok (.if_icmp .ge 7, 3) := by decide +kernel
theorem dX0_goesAhead_22 : decode cX0_goesAhead 22 = .ok (.iconst 1, 1) := by decide +kernel
theorem dX0_goesAhead_23 : decode cX0_goesAhead 23 = .ok (.goto 4, 3) := by decide +kernel
theorem dX0_goesAhead_26 : decode cX0_goesAhead 26 = .ok (.iconst 0, 1) := by decide +kernel
theorem dX0_goesAhead_27 : decode cX0_goesAhead 27 = .ok (.ireturn, 1) := by decide +kernel
theorem dX0_goesAhead_28 : decode cX0_goesAhead 28 = .ok (.aload_n 0, 1) := by decide +kernel
theorem dX0_goesAhead_29 : decode cX0_goesAhead 29 = .ok (.getfield 33, 3) := by decide +kernel
theorem dX0_goesAhead_32 : decode cX0_goesAhead 32 = .ok (.ifCond .eq 22, 3) := by decide +kernel
theorem dX0_goesAhead_35 : decode cX0_goesAhead 35 = .ok (.aload_n 0, 1) := by decide +kernel
theorem dX0_goesAhead_36 : decode cX0_goesAhead 36 = .ok (.getfield 39, 3) := by decide +kernel
theorem dX0_goesAhead_39 : decode cX0_goesAhead 39 = .ok (.aload_n 1, 1) := by decide +kernel
theorem dX0_goesAhead_40 : decode cX0_goesAhead 40 = .ok (.getfield 39, 3) := by decide +kernel
theorem dX0_goesAhead_43 : decode cX0_goesAhead 43 = .ok (.if_icmp .le 7, 3) := by decide +kernel
theorem dX0_goesAhead_46 : decode cX0_goesAhead 46 = .ok (.iconst 1, 1) := by decide +kernel
theorem dX0_goesAhead_47 : decode cX0_goesAhead 47 = .ok (.goto 23, 3) := by decide +kernel
theorem dX0_goesAhead_50 : decode cX0_goesAhead 50 = .ok (.iconst 0, 1) := by decide +kernel
theorem dX0_goesAhead_51 : decode cX0_goesAhead 51 = .ok (.goto 19, 3) := by decide +kernel
theorem dX0_goesAhead_54 : decode cX0_goesAhead 54 = .ok (.aload_n 0, 1) := by decide +kernel
theorem dX0_goesAhead_55 : decode cX0_goesAhead 55 = .ok (.getfield 39, 3) := by decide +kernel
theorem dX0_goesAhead_58 : decode cX0_goesAhead 58 = .ok (.aload_n 1, 1) := by decide +kernel
theorem dX0_goesAhead_59 : decode cX0_goesAhead 59 = .ok (.getfield 39, 3) := by decide +kernel
theorem dX0_goesAhead_62 : decode cX0_goesAhead 62 = .ok (.if_icmp .ge 7, 3) := by decide +kernel
theorem dX0_goesAhead_65 : decode cX0_goesAhead 65 = .ok (.iconst 1, 1) := by decide +kernel
theorem dX0_goesAhead_66 : decode cX0_goesAhead 66 = .ok (.goto 4, 3) := by decide +kernel
theorem dX0_goesAhead_69 : decode cX0_goesAhead 69 = .ok (.iconst 0, 1) := by decide +kernel
theorem dX0_goesAhead_70 : decode cX0_goesAhead 70 = .ok (.ireturn, 1) := by decide +kernel
theorem dX0_worth_0 : decode cX0_worth 0 = .ok (.aload_n 0, 1) := by decide +kernel
theorem dX0_worth_1 : decode cX0_worth 1 = .ok (.getfield 20, 3) := by decide +kernel
theorem dX0_worth_4 : decode cX0_worth 4 = .ok (.ifCond .ne 7, 3) := by decide +kernel
theorem dX0_worth_7 : decode cX0_worth 7 = .ok (.iconst 0, 1) := by decide +kernel
theorem dX0_worth_8 : decode cX0_worth 8 = .ok (.goto 15, 3) := by decide +kernel
theorem dX0_worth_11 : decode cX0_worth 11 = .ok (.aload_n 0, 1) := by decide +kernel
theorem dX0_worth_12 : decode cX0_worth 12 = .ok (.getfield 29, 3) := by decide +kernel
theorem dX0_worth_15 : decode cX0_worth 15 = .ok (.getfield 50, 3) := by decide +kernel
theorem dX0_worth_18 : decode cX0_worth 18 = .ok (.aload_n 0, 1) := by decide +kernel
theorem dX0_worth_19 : decode cX0_worth 19 = .ok (.getfield 20, 3) := by decide +kernel
theorem dX0_worth_22 : decode cX0_worth 22 = .ok (.imul, 1) := by decide +kernel
theorem dX0_worth_23 : decode cX0_worth 23 = .ok (.ireturn, 1) := by decide +kernel
theorem dX0_feePaid_0 : decode cX0_feePaid 0 = .ok (.aload_n 0, 1) := by decide +kernel
theorem dX0_feePaid_1 : decode cX0_feePaid 1 = .ok (.getfield 33, 3) := by decide +kernel
theorem dX0_feePaid_4 : decode cX0_feePaid 4 = .ok (.ifCond .eq 22, 3) := by decide +kernel
theorem dX0_feePaid_7 : decode cX0_feePaid 7 = .ok (.aload_n 0, 1) := by decide +kernel
theorem dX0_feePaid_8 : decode cX0_feePaid 8 = .ok (.invokevirtual 53, 3) := by decide +kernel
theorem dX0_feePaid_11 : decode cX0_feePaid 11 = .ok (.aload_n 0, 1) := by decide +kernel
theorem dX0_feePaid_12 : decode cX0_feePaid 12 = .ok (.getfield 29, 3) := by decide +kernel
theorem dX0_feePaid_15 : decode cX0_feePaid 15 = .ok (.getfield 57, 3) := by decide +kernel
theorem dX0_feePaid_18 : decode cX0_feePaid 18 = .ok (.imul, 1) := by decide +kernel
theorem dX0_feePaid_19 : decode cX0_feePaid 19 = .ok (.sipush 1000, 3) := by decide +kernel
theorem dX0_feePaid_22 : decode cX0_feePaid 22 = .ok (.idiv, 1) := by decide +kernel
theorem dX0_feePaid_23 : decode cX0_feePaid 23 = .ok (.goto 4, 3) := by decide +kernel
theorem dX0_feePaid_26 : decode cX0_feePaid 26 = .ok (.iconst 0, 1) := by decide +kernel
theorem dX0_feePaid_27 : decode cX0_feePaid 27 = .ok (.ireturn, 1) := by decide +kernel
theorem dX0_owed_0 : decode cX0_owed 0 = .ok (.aload_n 0, 1) := by decide +kernel
theorem dX0_owed_1 : decode cX0_owed 1 = .ok (.getfield 33, 3) := by decide +kernel
theorem dX0_owed_4 : decode cX0_owed 4 = .ok (.ifCond .eq 15, 3) := by decide +kernel
theorem dX0_owed_7 : decode cX0_owed 7 = .ok (.aload_n 0, 1) := by decide +kernel
theorem dX0_owed_8 : decode cX0_owed 8 = .ok (.invokevirtual 53, 3) := by decide +kernel
theorem dX0_owed_11 : decode cX0_owed 11 = .ok (.aload_n 0, 1) := by decide +kernel
theorem dX0_owed_12 : decode cX0_owed 12 = .ok (.invokevirtual 60, 3) := by decide +kernel
theorem dX0_owed_15 : decode cX0_owed 15 = .ok (.iadd, 1) := by decide +kernel
theorem dX0_owed_16 : decode cX0_owed 16 = .ok (.goto 8, 3) := by decide +kernel
theorem dX0_owed_19 : decode cX0_owed 19 = .ok (.aload_n 0, 1) := by decide +kernel
theorem dX0_owed_20 : decode cX0_owed 20 = .ok (.invokevirtual 53, 3) := by decide +kernel
theorem dX0_owed_23 : decode cX0_owed 23 = .ok (.ineg, 1) := by decide +kernel
theorem dX0_owed_24 : decode cX0_owed 24 = .ok (.ireturn, 1) := by decide +kernel
theorem dX1_init_0 : decode cX1_init 0 = .ok (.aload_n 0, 1) := by decide +kernel
theorem dX1_init_1 : decode cX1_init 1 = .ok (.invokespecial 3, 3) := by decide +kernel
theorem dX1_init_4 : decode cX1_init 4 = .ok (.aload_n 0, 1) := by decide +kernel
theorem dX1_init_5 : decode cX1_init 5 = .ok (.new 9, 3) := by decide +kernel
theorem dX1_init_8 : decode cX1_init 8 = .ok (.dup, 1) := by decide +kernel
theorem dX1_init_9 : decode cX1_init 9 = .ok (.invokespecial 11, 3) := by decide +kernel
theorem dX1_init_12 : decode cX1_init 12 = .ok (.putfield 12, 3) := by decide +kernel
theorem dX1_init_15 : decode cX1_init 15 = .ok (.aload_n 0, 1) := by decide +kernel
theorem dX1_init_16 : decode cX1_init 16 = .ok (.iconst 4, 1) := by decide +kernel
theorem dX1_init_17 : decode cX1_init 17 = .ok (.anewarray 18, 3) := by decide +kernel
theorem dX1_init_20 : decode cX1_init 20 = .ok (.putfield 20, 3) := by decide +kernel
theorem dX1_init_23 : decode cX1_init 23 = .ok (.aload_n 0, 1) := by decide +kernel
theorem dX1_init_24 : decode cX1_init 24 = .ok (.new 9, 3) := by decide +kernel
theorem dX1_init_27 : decode cX1_init 27 = .ok (.dup, 1) := by decide +kernel
theorem dX1_init_28 : decode cX1_init 28 = .ok (.invokespecial 11, 3) := by decide +kernel
theorem dX1_init_31 : decode cX1_init 31 = .ok (.putfield 24, 3) := by decide +kernel
theorem dX1_init_34 : decode cX1_init 34 = .ok (.aload_n 0, 1) := by decide +kernel
theorem dX1_init_35 : decode cX1_init 35 = .ok (.iconst 4, 1) := by decide +kernel
theorem dX1_init_36 : decode cX1_init 36 = .ok (.newarray .boolean, 2) := by decide +kernel
theorem dX1_init_38 : decode cX1_init 38 = .ok (.putfield 27, 3) := by decide +kernel
theorem dX1_init_41 : decode cX1_init 41 = .ok (.iconst 0, 1) := by decide +kernel
theorem dX1_init_42 : decode cX1_init 42 = .ok (.istore_n 1, 1) := by decide +kernel
theorem dX1_init_43 : decode cX1_init 43 = .ok (.iload_n 1, 1) := by decide +kernel
theorem dX1_init_44 : decode cX1_init 44 = .ok (.iconst 4, 1) := by decide +kernel
theorem dX1_init_45 : decode cX1_init 45 = .ok (.if_icmp .ge 23, 3) := by decide +kernel
theorem dX1_init_48 : decode cX1_init 48 = .ok (.aload_n 0, 1) := by decide +kernel
theorem dX1_init_49 : decode cX1_init 49 = .ok (.getfield 20, 3) := by decide +kernel
theorem dX1_init_52 : decode cX1_init 52 = .ok (.iload_n 1, 1) := by decide +kernel
theorem dX1_init_53 : decode cX1_init 53 = .ok (.new 18, 3) := by decide +kernel
theorem dX1_init_56 : decode cX1_init 56 = .ok (.dup, 1) := by decide +kernel
theorem dX1_init_57 : decode cX1_init 57 = .ok (.iload_n 1, 1) := by decide +kernel
theorem dX1_init_58 : decode cX1_init 58 = .ok (.invokespecial 31, 3) := by decide +kernel
theorem dX1_init_61 : decode cX1_init 61 = .ok (.aastore, 1) := by decide +kernel
theorem dX1_init_62 : decode cX1_init 62 = .ok (.iinc 1 1, 3) := by decide +kernel
theorem dX1_init_65 : decode cX1_init 65 = .ok (.goto (-22), 3) := by decide +kernel
theorem dX1_init_68 : decode cX1_init 68 = .ok (.return_, 1) := by decide +kernel
theorem dX1_close_0 : decode cX1_close 0 = .ok (.aload_n 0, 1) := by decide +kernel
theorem dX1_close_1 : decode cX1_close 1 = .ok (.getfield 24, 3) := by decide +kernel
theorem dX1_close_4 : decode cX1_close 4 = .ok (.invokeinterface 34 1, 5) := by decide +kernel
theorem dX1_close_9 : decode cX1_close 9 = .ok (.istore_n 3, 1) := by decide +kernel
theorem dX1_close_10 : decode cX1_close 10 = .ok (.aload_n 1, 1) := by decide +kernel
theorem dX1_close_11 : decode cX1_close 11 = .ok (.iload_n 2, 1) := by decide +kernel
theorem dX1_close_12 : decode cX1_close 12 = .ok (.putfield 40, 3) := by decide +kernel
theorem dX1_close_15 : decode cX1_close 15 = .ok (.aload_n 0, 1) := by decide +kernel
theorem dX1_close_16 : decode cX1_close 16 = .ok (.getfield 24, 3) := by decide +kernel
theorem dX1_close_19 : decode cX1_close 19 = .ok (.aload_n 1, 1) := by decide +kernel
theorem dX1_close_20 : decode cX1_close 20 = .ok (.invokeinterface 43 2, 5) := by decide +kernel
theorem dX1_close_25 : decode cX1_close 25 = .ok (.pop, 1) := by decide +kernel
theorem dX1_close_26 : decode cX1_close 26 = .ok (.aload_n 0, 1) := by decide +kernel
theorem dX1_close_27 : decode cX1_close 27 = .ok (.getfield 20, 3) := by decide +kernel
theorem dX1_close_30 : decode cX1_close 30 = .ok (.aload_n 1, 1) := by decide +kernel
theorem dX1_close_31 : decode cX1_close 31 = .ok (.getfield 47, 3) := by decide +kernel
theorem dX1_close_34 : decode cX1_close 34 = .ok (.new 18, 3) := by decide +kernel
theorem dX1_close_37 : decode cX1_close 37 = .ok (.dup, 1) := by decide +kernel
theorem dX1_close_38 : decode cX1_close 38 = .ok (.aload_n 1, 1) := by decide +kernel
theorem dX1_close_39 : decode cX1_close 39 = .ok (.getfield 47, 3) := by decide +kernel
theorem dX1_close_42 : decode cX1_close 42 = .ok (.invokespecial 31, 3) := by decide +kernel
theorem dX1_close_45 : decode cX1_close 45 = .ok (.aastore, 1) := by decide +kernel
theorem dX1_close_46 : decode cX1_close 46 = .ok (.iload_n 3, 1) := by decide +kernel
theorem dX1_close_47 : decode cX1_close 47 = .ok (.ireturn, 1) := by decide +kernel
theorem dX1_feesOf_0 : decode cX1_feesOf 0 = .ok (.iconst 0, 1) := by decide +kernel
theorem dX1_feesOf_1 : decode cX1_feesOf 1 = .ok (.istore_n 2, 1) := by decide +kernel
theorem dX1_feesOf_2 : decode cX1_feesOf 2 = .ok (.iconst 0, 1) := by decide +kernel
theorem dX1_feesOf_3 : decode cX1_feesOf 3 = .ok (.istore_n 3, 1) := by decide +kernel
theorem dX1_feesOf_4 : decode cX1_feesOf 4 = .ok (.iload_n 3, 1) := by decide +kernel
theorem dX1_feesOf_5 : decode cX1_feesOf 5 = .ok (.aload_n 0, 1) := by decide +kernel
theorem dX1_feesOf_6 : decode cX1_feesOf 6 = .ok (.getfield 12, 3) := by decide +kernel
theorem dX1_feesOf_9 : decode cX1_feesOf 9 = .ok (.invokeinterface 34 1, 5) := by decide +kernel
theorem dX1_feesOf_14 : decode cX1_feesOf 14 = .ok (.if_icmp .ge 41, 3) := by decide +kernel
theorem dX1_feesOf_17 : decode cX1_feesOf 17 = .ok (.aload_n 0, 1) := by decide +kernel
theorem dX1_feesOf_18 : decode cX1_feesOf 18 = .ok (.getfield 12, 3) := by decide +kernel
theorem dX1_feesOf_21 : decode cX1_feesOf 21 = .ok (.iload_n 3, 1) := by decide +kernel
theorem dX1_feesOf_22 : decode cX1_feesOf 22 = .ok (.invokeinterface 50 2, 5) := by decide +kernel
theorem dX1_feesOf_27 : decode cX1_feesOf 27 = .ok (.checkcast 54, 3) := by decide +kernel
theorem dX1_feesOf_30 : decode cX1_feesOf 30 = .ok (.astore 4, 2) := by decide +kernel
theorem dX1_feesOf_32 : decode cX1_feesOf 32 = .ok (.aload 4, 2) := by decide +kernel
theorem dX1_feesOf_34 : decode cX1_feesOf 34 = .ok (.getfield 56, 3) := by decide +kernel
theorem dX1_feesOf_37 : decode cX1_feesOf 37 = .ok (.aload_n 1, 1) := by decide +kernel
theorem dX1_feesOf_38 : decode cX1_feesOf 38 = .ok (.if_acmp .ne 11, 3) := by decide +kernel
theorem dX1_feesOf_41 : decode cX1_feesOf 41 = .ok (.iload_n 2, 1) := by decide +kernel
theorem dX1_feesOf_42 : decode cX1_feesOf 42 = .ok (.aload 4, 2) := by decide +kernel
theorem dX1_feesOf_44 : decode cX1_feesOf 44 = .ok (.invokevirtual 60, 3) := by decide +kernel
theorem dX1_feesOf_47 : decode cX1_feesOf 47 = .ok (.iadd, 1) := by decide +kernel
theorem dX1_feesOf_48 : decode cX1_feesOf 48 = .ok (.istore_n 2, 1) := by decide +kernel
theorem dX1_feesOf_49 : decode cX1_feesOf 49 = .ok (.iinc 3 1, 3) := by decide +kernel
theorem dX1_feesOf_52 : decode cX1_feesOf 52 = .ok (.goto (-48), 3) := by decide +kernel
theorem dX1_feesOf_55 : decode cX1_feesOf 55 = .ok (.iload_n 2, 1) := by decide +kernel
theorem dX1_feesOf_56 : decode cX1_feesOf 56 = .ok (.ireturn, 1) := by decide +kernel
theorem dX1_owedBy_0 : decode cX1_owedBy 0 = .ok (.iconst 0, 1) := by decide +kernel
theorem dX1_owedBy_1 : decode cX1_owedBy 1 = .ok (.istore_n 3, 1) := by decide +kernel
theorem dX1_owedBy_2 : decode cX1_owedBy 2 = .ok (.iconst 0, 1) := by decide +kernel
theorem dX1_owedBy_3 : decode cX1_owedBy 3 = .ok (.istore 4, 2) := by decide +kernel
theorem dX1_owedBy_5 : decode cX1_owedBy 5 = .ok (.iload 4, 2) := by decide +kernel
theorem dX1_owedBy_7 : decode cX1_owedBy 7 = .ok (.aload_n 0, 1) := by decide +kernel
theorem dX1_owedBy_8 : decode cX1_owedBy 8 = .ok (.getfield 12, 3) := by decide +kernel
theorem dX1_owedBy_11 : decode cX1_owedBy 11 = .ok (.invokeinterface 34 1, 5) := by decide +kernel
theorem dX1_owedBy_16 : decode cX1_owedBy 16 = .ok (.if_icmp .ge 74, 3) := by decide +kernel
theorem dX1_owedBy_19 : decode cX1_owedBy 19 = .ok (.aload_n 0, 1) := by decide +kernel
theorem dX1_owedBy_20 : decode cX1_owedBy 20 = .ok (.getfield 12, 3) := by decide +kernel
theorem dX1_owedBy_23 : decode cX1_owedBy 23 = .ok (.iload 4, 2) := by decide +kernel
theorem dX1_owedBy_25 : decode cX1_owedBy 25 = .ok (.invokeinterface 50 2, 5) := by decide +kernel
theorem dX1_owedBy_30 : decode cX1_owedBy 30 = .ok (.checkcast 54, 3) := by decide +kernel
theorem dX1_owedBy_33 : decode cX1_owedBy 33 = .ok (.astore 5, 2) := by decide +kernel
theorem dX1_owedBy_35 : decode cX1_owedBy 35 = .ok (.aload 5, 2) := by decide +kernel
theorem dX1_owedBy_37 : decode cX1_owedBy 37 = .ok (.getfield 56, 3) := by decide +kernel
theorem dX1_owedBy_40 : decode cX1_owedBy 40 = .ok (.getfield 47, 3) := by decide +kernel
theorem dX1_owedBy_43 : decode cX1_owedBy 43 = .ok (.iload_n 2, 1) := by decide +kernel
theorem dX1_owedBy_44 : decode cX1_owedBy 44 = .ok (.if_icmp .ne 40, 3) := by decide +kernel
theorem dX1_owedBy_47 : decode cX1_owedBy 47 = .ok (.aload 5, 2) := by decide +kernel
theorem dX1_owedBy_49 : decode cX1_owedBy 49 = .ok (.getfield 63, 3) := by decide +kernel
theorem dX1_owedBy_52 : decode cX1_owedBy 52 = .ok (.iload_n 1, 1) := by decide +kernel
theorem dX1_owedBy_53 : decode cX1_owedBy 53 = .ok (.if_icmp .ne 11, 3) := by decide +kernel
theorem dX1_owedBy_56 : decode cX1_owedBy 56 = .ok (.iload_n 3, 1) := by decide +kernel
theorem dX1_owedBy_57 : decode cX1_owedBy 57 = .ok (.aload 5, 2) := by decide +kernel
theorem dX1_owedBy_59 : decode cX1_owedBy 59 = .ok (.invokevirtual 66, 3) := by decide +kernel
theorem dX1_owedBy_62 : decode cX1_owedBy 62 = .ok (.iadd, 1) := by decide +kernel
theorem dX1_owedBy_63 : decode cX1_owedBy 63 = .ok (.istore_n 3, 1) := by decide +kernel
theorem dX1_owedBy_64 : decode cX1_owedBy 64 = .ok (.aload 5, 2) := by decide +kernel
theorem dX1_owedBy_66 : decode cX1_owedBy 66 = .ok (.getfield 56, 3) := by decide +kernel
theorem dX1_owedBy_69 : decode cX1_owedBy 69 = .ok (.invokevirtual 69, 3) := by decide +kernel
theorem dX1_owedBy_72 : decode cX1_owedBy 72 = .ok (.iload_n 1, 1) := by decide +kernel
theorem dX1_owedBy_73 : decode cX1_owedBy 73 = .ok (.if_icmp .ne 11, 3) := by decide +kernel
theorem dX1_owedBy_76 : decode cX1_owedBy 76 = .ok (.iload_n 3, 1) := by decide +kernel
theorem dX1_owedBy_77 : decode cX1_owedBy 77 = .ok (.aload 5, 2) := by decide +kernel
theorem dX1_owedBy_79 : decode cX1_owedBy 79 = .ok (.invokevirtual 60, 3) := by decide +kernel
theorem dX1_owedBy_82 : decode cX1_owedBy 82 = .ok (.isub, 1) := by decide +kernel
theorem dX1_owedBy_83 : decode cX1_owedBy 83 = .ok (.istore_n 3, 1) := by decide +kernel
theorem dX1_owedBy_84 : decode cX1_owedBy 84 = .ok (.iinc 4 1, 3) := by decide +kernel
theorem dX1_owedBy_87 : decode cX1_owedBy 87 = .ok (.goto (-82), 3) := by decide +kernel
theorem dX1_owedBy_90 : decode cX1_owedBy 90 = .ok (.iload_n 3, 1) := by decide +kernel
theorem dX1_owedBy_91 : decode cX1_owedBy 91 = .ok (.ireturn, 1) := by decide +kernel
theorem dX1_offeredBy_0 : decode cX1_offeredBy 0 = .ok (.iconst 0, 1) := by decide +kernel
theorem dX1_offeredBy_1 : decode cX1_offeredBy 1 = .ok (.istore_n 2, 1) := by decide +kernel
theorem dX1_offeredBy_2 : decode cX1_offeredBy 2 = .ok (.iconst 0, 1) := by decide +kernel
theorem dX1_offeredBy_3 : decode cX1_offeredBy 3 = .ok (.istore_n 3, 1) := by decide +kernel
theorem dX1_offeredBy_4 : decode cX1_offeredBy 4 = .ok (.iload_n 3, 1) := by decide +kernel
theorem dX1_offeredBy_5 : decode cX1_offeredBy 5 = .ok (.aload_n 0, 1) := by decide +kernel
theorem dX1_offeredBy_6 : decode cX1_offeredBy 6 = .ok (.getfield 12, 3) := by decide +kernel
theorem dX1_offeredBy_9 : decode cX1_offeredBy 9 = .ok (.invokeinterface 34 1, 5) := by decide +kernel
theorem dX1_offeredBy_14 : decode cX1_offeredBy 14 = .ok (.if_icmp .ge 76, 3) := by decide +kernel
theorem dX1_offeredBy_17 : decode cX1_offeredBy 17 = .ok (.aload_n 0, 1) := by decide +kernel
theorem dX1_offeredBy_18 : decode cX1_offeredBy 18 = .ok (.getfield 12, 3) := by decide +kernel
theorem dX1_offeredBy_21 : decode cX1_offeredBy 21 = .ok (.iload_n 3, 1) := by decide +kernel
theorem dX1_offeredBy_22 : decode cX1_offeredBy 22 = .ok (.invokeinterface 50 2, 5) := by decide +kernel
theorem dX1_offeredBy_27 : decode cX1_offeredBy 27 = .ok (.checkcast 54, 3) := by decide +kernel
theorem dX1_offeredBy_30 : decode cX1_offeredBy 30 = .ok (.astore 4, 2) := by decide +kernel
theorem dX1_offeredBy_32 : decode cX1_offeredBy 32 = .ok (.aload 4, 2) := by decide +kernel
theorem dX1_offeredBy_34 : decode cX1_offeredBy 34 = .ok (.getfield 63, 3) := by decide +kernel
theorem dX1_offeredBy_37 : decode cX1_offeredBy 37 = .ok (.iload_n 1, 1) := by decide +kernel
theorem dX1_offeredBy_38 : decode cX1_offeredBy 38 = .ok (.if_icmp .ne 46, 3) := by decide +kernel
theorem dX1_offeredBy_41 : decode cX1_offeredBy 41 = .ok (.aload 4, 2) := by decide +kernel
theorem dX1_offeredBy_43 : decode cX1_offeredBy 43 = .ok (.getfield 72, 3) := by decide +kernel
theorem dX1_offeredBy_46 : decode cX1_offeredBy 46 = .ok (.ifCond .eq 38, 3) := by decide +kernel
theorem dX1_offeredBy_49 : decode cX1_offeredBy 49 = .ok (.aload 4, 2) := by decide +kernel
theorem dX1_offeredBy_51 : decode cX1_offeredBy 51 = .ok (.getfield 76, 3) := by decide +kernel
theorem dX1_offeredBy_54 : decode cX1_offeredBy 54 = .ok (.ldc 79, 2) := by decide +kernel
theorem dX1_offeredBy_56 : decode cX1_offeredBy 56 = .ok (.if_icmp .ne 28, 3) := by decide +kernel
theorem dX1_offeredBy_59 : decode cX1_offeredBy 59 = .ok (.aload 4, 2) := by decide +kernel
theorem dX1_offeredBy_61 : decode cX1_offeredBy 61 = .ok (.getfield 56, 3) := by decide +kernel
theorem dX1_offeredBy_64 : decode cX1_offeredBy 64 = .ok (.invokevirtual 80, 3) := by decide +kernel
theorem dX1_offeredBy_67 : decode cX1_offeredBy 67 = .ok (.ifCond .ne 17, 3) := by decide +kernel
theorem dX1_offeredBy_70 : decode cX1_offeredBy 70 = .ok (.iload_n 2, 1) := by decide +kernel
theorem dX1_offeredBy_71 : decode cX1_offeredBy 71 = .ok (.aload 4, 2) := by decide +kernel
theorem dX1_offeredBy_73 : decode cX1_offeredBy 73 = .ok (.getfield 84, 3) := by decide +kernel
theorem dX1_offeredBy_76 : decode cX1_offeredBy 76 = .ok (.aload 4, 2) := by decide +kernel
theorem dX1_offeredBy_78 : decode cX1_offeredBy 78 = .ok (.getfield 87, 3) := by decide +kernel
theorem dX1_offeredBy_81 : decode cX1_offeredBy 81 = .ok (.imul, 1) := by decide +kernel
theorem dX1_offeredBy_82 : decode cX1_offeredBy 82 = .ok (.iadd, 1) := by decide +kernel
theorem dX1_offeredBy_83 : decode cX1_offeredBy 83 = .ok (.istore_n 2, 1) := by decide +kernel
theorem dX1_offeredBy_84 : decode cX1_offeredBy 84 = .ok (.iinc 3 1, 3) := by decide +kernel
theorem dX1_offeredBy_87 : decode cX1_offeredBy 87 = .ok (.goto (-83), 3) := by decide +kernel
theorem dX1_offeredBy_90 : decode cX1_offeredBy 90 = .ok (.iload_n 2, 1) := by decide +kernel
theorem dX1_offeredBy_91 : decode cX1_offeredBy 91 = .ok (.ireturn, 1) := by decide +kernel
theorem dX2_init_0 : decode cX2_init 0 = .ok (.aload_n 0, 1) := by decide +kernel
theorem dX2_init_1 : decode cX2_init 1 = .ok (.invokespecial 3, 3) := by decide +kernel
theorem dX2_init_4 : decode cX2_init 4 = .ok (.aload_n 0, 1) := by decide +kernel
theorem dX2_init_5 : decode cX2_init 5 = .ok (.aload_n 1, 1) := by decide +kernel
theorem dX2_init_6 : decode cX2_init 6 = .ok (.putfield 9, 3) := by decide +kernel
theorem dX2_init_9 : decode cX2_init 9 = .ok (.aload_n 0, 1) := by decide +kernel
theorem dX2_init_10 : decode cX2_init 10 = .ok (.aload_n 2, 1) := by decide +kernel
theorem dX2_init_11 : decode cX2_init 11 = .ok (.putfield 15, 3) := by decide +kernel
theorem dX2_init_14 : decode cX2_init 14 = .ok (.return_, 1) := by decide +kernel
theorem dX2_reckonAll_0 : decode cX2_reckonAll 0 = .ok (.iconst 0, 1) := by decide +kernel
theorem dX2_reckonAll_1 : decode cX2_reckonAll 1 = .ok (.istore_n 1, 1) := by decide +kernel
theorem dX2_reckonAll_2 : decode cX2_reckonAll 2 = .ok (.iconst 0, 1) := by decide +kernel
theorem dX2_reckonAll_3 : decode cX2_reckonAll 3 = .ok (.istore_n 2, 1) := by decide +kernel
theorem dX2_reckonAll_4 : decode cX2_reckonAll 4 = .ok (.iload_n 2, 1) := by decide +kernel
theorem dX2_reckonAll_5 : decode cX2_reckonAll 5 = .ok (.aload_n 0, 1) := by decide +kernel
theorem dX2_reckonAll_6 : decode cX2_reckonAll 6 = .ok (.getfield 9, 3) := by decide +kernel
theorem dX2_reckonAll_9 : decode cX2_reckonAll 9 = .ok (.getfield 19, 3) := by decide +kernel
theorem dX2_reckonAll_12 : decode cX2_reckonAll 12 = .ok (.invokeinterface 25 1, 5) := by decide +kernel
theorem dX2_reckonAll_17 : decode cX2_reckonAll 17 = .ok (.if_icmp .ge 35, 3) := by decide +kernel
theorem dX2_reckonAll_20 : decode cX2_reckonAll 20 = .ok (.aload_n 0, 1) := by decide +kernel
theorem dX2_reckonAll_21 : decode cX2_reckonAll 21 = .ok (.aload_n 0, 1) := by decide +kernel
theorem dX2_reckonAll_22 : decode cX2_reckonAll 22 = .ok (.getfield 9, 3) := by decide +kernel
theorem dX2_reckonAll_25 : decode cX2_reckonAll 25 = .ok (.getfield 19, 3) := by decide +kernel
theorem dX2_reckonAll_28 : decode cX2_reckonAll 28 = .ok (.iload_n 2, 1) := by decide +kernel
theorem dX2_reckonAll_29 : decode cX2_reckonAll 29 = .ok (.invokeinterface 31 2, 5) := by decide +kernel
theorem dX2_reckonAll_34 : decode cX2_reckonAll 34 = .ok (.checkcast 35, 3) := by decide +kernel
theorem dX2_reckonAll_37 : decode cX2_reckonAll 37 = .ok (.invokevirtual 37, 3) := by decide +kernel
theorem dX2_reckonAll_40 : decode cX2_reckonAll 40 = .ok (.ifCond .eq 6, 3) := by decide +kernel
theorem dX2_reckonAll_43 : decode cX2_reckonAll 43 = .ok (.iinc 1 1, 3) := by decide +kernel
theorem dX2_reckonAll_46 : decode cX2_reckonAll 46 = .ok (.iinc 2 1, 3) := by decide +kernel
theorem dX2_reckonAll_49 : decode cX2_reckonAll 49 = .ok (.goto (-45), 3) := by decide +kernel
theorem dX2_reckonAll_52 : decode cX2_reckonAll 52 = .ok (.iload_n 1, 1) := by decide +kernel
theorem dX2_reckonAll_53 : decode cX2_reckonAll 53 = .ok (.ireturn, 1) := by decide +kernel
theorem dX2_reckon_0 : decode cX2_reckon 0 = .ok (.aload_n 1, 1) := by decide +kernel
theorem dX2_reckon_1 : decode cX2_reckon 1 = .ok (.getfield 41, 3) := by decide +kernel
theorem dX2_reckon_4 : decode cX2_reckon 4 = .ok (.istore_n 2, 1) := by decide +kernel
theorem dX2_reckon_5 : decode cX2_reckon 5 = .ok (.aload_n 1, 1) := by decide +kernel
theorem dX2_reckon_6 : decode cX2_reckon 6 = .ok (.getfield 45, 3) := by decide +kernel
theorem dX2_reckon_9 : decode cX2_reckon 9 = .ok (.istore_n 3, 1) := by decide +kernel
theorem dX2_reckon_10 : decode cX2_reckon 10 = .ok (.aload_n 1, 1) := by decide +kernel
theorem dX2_reckon_11 : decode cX2_reckon 11 = .ok (.getfield 48, 3) := by decide +kernel
theorem dX2_reckon_14 : decode cX2_reckon 14 = .ok (.istore 4, 2) := by decide +kernel
theorem dX2_reckon_16 : decode cX2_reckon 16 = .ok (.aload_n 0, 1) := by decide +kernel
theorem dX2_reckon_17 : decode cX2_reckon 17 = .ok (.getfield 15, 3) := by decide +kernel
theorem dX2_reckon_20 : decode cX2_reckon 20 = .ok (.aload_n 1, 1) := by decide +kernel
theorem dX2_reckon_21 : decode cX2_reckon 21 = .ok (.getfield 51, 3) := by decide +kernel
theorem dX2_reckon_24 : decode cX2_reckon 24 = .ok (.aload_n 1, 1) := by decide +kernel
theorem dX2_reckon_25 : decode cX2_reckon 25 = .ok (.getfield 54, 3) := by decide +kernel
theorem dX2_reckon_28 : decode cX2_reckon 28 = .ok (.invokevirtual 58, 3) := by decide +kernel
theorem dX2_reckon_31 : decode cX2_reckon 31 = .ok (.aload_n 0, 1) := by decide +kernel
theorem dX2_reckon_32 : decode cX2_reckon 32 = .ok (.aload_n 1, 1) := by decide +kernel
theorem dX2_reckon_33 : decode cX2_reckon 33 = .ok (.invokevirtual 64, 3) := by decide +kernel
theorem dX2_reckon_36 : decode cX2_reckon 36 = .ok (.aload_n 0, 1) := by decide +kernel
theorem dX2_reckon_37 : decode cX2_reckon 37 = .ok (.aload_n 1, 1) := by decide +kernel
theorem dX2_reckon_38 : decode cX2_reckon 38 = .ok (.invokevirtual 68, 3) := by decide +kernel
theorem dX2_reckon_41 : decode cX2_reckon 41 = .ok (.istore 5, 2) := by decide +kernel
theorem dX2_reckon_43 : decode cX2_reckon 43 = .ok (.iload 5, 2) := by decide +kernel
theorem dX2_reckon_45 : decode cX2_reckon 45 = .ok (.ifCond .ne 28, 3) := by decide +kernel
theorem dX2_reckon_48 : decode cX2_reckon 48 = .ok (.iload_n 2, 1) := by decide +kernel
theorem dX2_reckon_49 : decode cX2_reckon 49 = .ok (.aload_n 1, 1) := by decide +kernel
theorem dX2_reckon_50 : decode cX2_reckon 50 = .ok (.getfield 41, 3) := by decide +kernel
theorem dX2_reckon_53 : decode cX2_reckon 53 = .ok (.if_icmp .ne 20, 3) := by decide +kernel
theorem dX2_reckon_56 : decode cX2_reckon 56 = .ok (.iload_n 3, 1) := by decide +kernel
theorem dX2_reckon_57 : decode cX2_reckon 57 = .ok (.aload_n 1, 1) := by decide +kernel
theorem dX2_reckon_58 : decode cX2_reckon 58 = .ok (.getfield 45, 3) := by decide +kernel
theorem dX2_reckon_61 : decode cX2_reckon 61 = .ok (.if_icmp .ne 12, 3) := by decide +kernel
theorem dX2_reckon_64 : decode cX2_reckon 64 = .ok (.iload 4, 2) := by decide +kernel
theorem dX2_reckon_66 : decode cX2_reckon 66 = .ok (.aload_n 1, 1) := by decide +kernel
theorem dX2_reckon_67 : decode cX2_reckon 67 = .ok (.getfield 48, 3) := by decide +kernel
theorem dX2_reckon_70 : decode cX2_reckon 70 = .ok (.if_icmp .eq 7, 3) := by decide +kernel
theorem dX2_reckon_73 : decode cX2_reckon 73 = .ok (.iconst 1, 1) := by decide +kernel
theorem dX2_reckon_74 : decode cX2_reckon 74 = .ok (.goto 4, 3) := by decide +kernel
theorem dX2_reckon_77 : decode cX2_reckon 77 = .ok (.iconst 0, 1) := by decide +kernel
theorem dX2_reckon_78 : decode cX2_reckon 78 = .ok (.ireturn, 1) := by decide +kernel
theorem dX2_findPrice_0 : decode cX2_findPrice 0 = .ok (.aload_n 1, 1) := by decide +kernel
theorem dX2_findPrice_1 : decode cX2_findPrice 1 = .ok (.getfield 71, 3) := by decide +kernel
theorem dX2_findPrice_4 : decode cX2_findPrice 4 = .ok (.bipush 6, 2) := by decide +kernel
theorem dX2_findPrice_6 : decode cX2_findPrice 6 = .ok (.imul, 1) := by decide +kernel
theorem dX2_findPrice_7 : decode cX2_findPrice 7 = .ok (.istore_n 2, 1) := by decide +kernel
theorem dX2_findPrice_8 : decode cX2_findPrice 8 = .ok (.aload_n 0, 1) := by decide +kernel
theorem dX2_findPrice_9 : decode cX2_findPrice 9 = .ok (.getfield 15, 3) := by decide +kernel
theorem dX2_findPrice_12 : decode cX2_findPrice 12 = .ok (.iload_n 2, 1) := by decide +kernel
theorem dX2_findPrice_13 : decode cX2_findPrice 13 = .ok (.invokevirtual 74, 3) := by decide +kernel
theorem dX2_findPrice_16 : decode cX2_findPrice 16 = .ok (.istore_n 3, 1) := by decide +kernel
theorem dX2_findPrice_17 : decode cX2_findPrice 17 = .ok (.aload_n 0, 1) := by decide +kernel
theorem dX2_findPrice_18 : decode cX2_findPrice 18 = .ok (.getfield 15, 3) := by decide +kernel
theorem dX2_findPrice_21 : decode cX2_findPrice 21 = .ok (.iload_n 2, 1) := by decide +kernel
theorem dX2_findPrice_22 : decode cX2_findPrice 22 = .ok (.invokevirtual 78, 3) := by decide +kernel
theorem dX2_findPrice_25 : decode cX2_findPrice 25 = .ok (.ifCond .eq 8, 3) := by decide +kernel
theorem dX2_findPrice_28 : decode cX2_findPrice 28 = .ok (.iconst 5, 1) := by decide +kernel
theorem dX2_findPrice_29 : decode cX2_findPrice 29 = .ok (.istore_n 3, 1) := by decide +kernel
theorem dX2_findPrice_30 : decode cX2_findPrice 30 = .ok (.goto 21, 3) := by decide +kernel
theorem dX2_findPrice_33 : decode cX2_findPrice 33 = .ok (.iload_n 3, 1) := by decide +kernel
theorem dX2_findPrice_34 : decode cX2_findPrice 34 = .ok (.ifCond .ne 17, 3) := by decide +kernel
theorem dX2_findPrice_37 : decode cX2_findPrice 37 = .ok (.aload_n 0, 1) := by decide +kernel
theorem dX2_findPrice_38 : decode cX2_findPrice 38 = .ok (.getfield 15, 3) := by decide +kernel
theorem dX2_findPrice_41 : decode cX2_findPrice 41 = .ok (.iload_n 2, 1) := by decide +kernel
theorem dX2_findPrice_42 : decode cX2_findPrice 42 = .ok (.invokevirtual 82, 3) := by decide +kernel
theorem dX2_findPrice_45 : decode cX2_findPrice 45 = .ok (.ifCond .ge 6, 3) := by decide +kernel
theorem dX2_findPrice_48 : decode cX2_findPrice 48 = .ok (.bipush 6, 2) := by decide +kernel
theorem dX2_findPrice_50 : decode cX2_findPrice 50 = .ok (.istore_n 3, 1) := by decide +kernel
theorem dX2_findPrice_51 : decode cX2_findPrice 51 = .ok (.aload_n 1, 1) := by decide +kernel
theorem dX2_findPrice_52 : decode cX2_findPrice 52 = .ok (.iload_n 3, 1) := by decide +kernel
theorem dX2_findPrice_53 : decode cX2_findPrice 53 = .ok (.putfield 85, 3) := by decide +kernel
theorem dX2_findPrice_56 : decode cX2_findPrice 56 = .ok (.aload_n 1, 1) := by decide +kernel
theorem dX2_findPrice_57 : decode cX2_findPrice 57 = .ok (.iload_n 3, 1) := by decide +kernel
theorem dX2_findPrice_58 : decode cX2_findPrice 58 = .ok (.ifCond .ne 14, 3) := by decide +kernel
theorem dX2_findPrice_61 : decode cX2_findPrice 61 = .ok (.aload_n 0, 1) := by decide +kernel
theorem dX2_findPrice_62 : decode cX2_findPrice 62 = .ok (.getfield 15, 3) := by decide +kernel
theorem dX2_findPrice_65 : decode cX2_findPrice 65 = .ok (.iload_n 2, 1) := by decide +kernel
theorem dX2_findPrice_66 : decode cX2_findPrice 66 = .ok (.invokevirtual 82, 3) := by decide +kernel
theorem dX2_findPrice_69 : decode cX2_findPrice 69 = .ok (.goto 4, 3) := by decide +kernel
theorem dX2_findPrice_72 : decode cX2_findPrice 72 = .ok (.iconst (-1), 1) := by decide +kernel
theorem dX2_findPrice_73 : decode cX2_findPrice 73 = .ok (.putfield 41, 3) := by decide +kernel
theorem dX2_findPrice_76 : decode cX2_findPrice 76 = .ok (.aload_n 1, 1) := by decide +kernel
theorem dX2_findPrice_77 : decode cX2_findPrice 77 = .ok (.iload_n 3, 1) := by decide +kernel
theorem dX2_findPrice_78 : decode cX2_findPrice 78 = .ok (.ifCond .ne 26, 3) := by decide +kernel
theorem dX2_findPrice_81 : decode cX2_findPrice 81 = .ok (.iconst 0, 1) := by decide +kernel
theorem dX2_findPrice_82 : decode cX2_findPrice 82 = .ok (.sipush 1000, 3) := by decide +kernel
theorem dX2_findPrice_85 : decode cX2_findPrice 85 = .ok (.aload_n 0, 1) := by decide +kernel
theorem dX2_findPrice_86 : decode cX2_findPrice 86 = .ok (.getfield 15, 3) := by decide +kernel
theorem dX2_findPrice_89 : decode cX2_findPrice 89 = .ok (.iload_n 2, 1) := by decide +kernel
theorem dX2_findPrice_90 : decode cX2_findPrice 90 = .ok (.iconst 1, 1) := by decide +kernel
theorem dX2_findPrice_91 : decode cX2_findPrice 91 = .ok (.iadd, 1) := by decide +kernel
theorem dX2_findPrice_92 : decode cX2_findPrice 92 = .ok (.invokevirtual 82, 3) := by decide +kernel
theorem dX2_findPrice_95 : decode cX2_findPrice 95 = .ok (.invokestatic 88, 3) := by decide +kernel
theorem dX2_findPrice_98 : decode cX2_findPrice 98 = .ok (.invokestatic 94, 3) := by decide +kernel
theorem dX2_findPrice_101 : decode cX2_findPrice 101 = .ok (.goto 4, 3) := by decide +kernel
theorem dX2_findPrice_104 : decode cX2_findPrice 104 = .ok (.iconst 0, 1) := by decide +kernel
theorem dX2_findPrice_105 : decode cX2_findPrice 105 = .ok (.putfield 48, 3) := by decide +kernel
theorem dX2_findPrice_108 : decode cX2_findPrice 108 = .ok (.return_, 1) := by decide +kernel
theorem dX2_shareOut_0 : decode cX2_shareOut 0 = .ok (.aload_n 0, 1) := by decide +kernel
theorem dX2_shareOut_1 : decode cX2_shareOut 1 = .ok (.aload_n 1, 1) := by decide +kernel
theorem dX2_shareOut_2 : decode cX2_shareOut 2 = .ok (.iconst 1, 1) := by decide +kernel
theorem dX2_shareOut_3 : decode cX2_shareOut 3 = .ok (.invokevirtual 97, 3) := by decide +kernel
theorem dX2_shareOut_6 : decode cX2_shareOut 6 = .ok (.istore_n 2, 1) := by decide +kernel
theorem dX2_shareOut_7 : decode cX2_shareOut 7 = .ok (.aload_n 0, 1) := by decide +kernel
theorem dX2_shareOut_8 : decode cX2_shareOut 8 = .ok (.aload_n 1, 1) := by decide +kernel
theorem dX2_shareOut_9 : decode cX2_shareOut 9 = .ok (.iconst 0, 1) := by decide +kernel
theorem dX2_shareOut_10 : decode cX2_shareOut 10 = .ok (.invokevirtual 97, 3) := by decide +kernel
theorem dX2_shareOut_13 : decode cX2_shareOut 13 = .ok (.istore_n 3, 1) := by decide +kernel
theorem dX2_shareOut_14 : decode cX2_shareOut 14 = .ok (.aload_n 1, 1) := by decide +kernel
theorem dX2_shareOut_15 : decode cX2_shareOut 15 = .ok (.iload_n 2, 1) := by decide +kernel
theorem dX2_shareOut_16 : decode cX2_shareOut 16 = .ok (.iload_n 3, 1) := by decide +kernel
theorem dX2_shareOut_17 : decode cX2_shareOut 17 = .ok (.invokestatic 88, 3) := by decide +kernel
theorem dX2_shareOut_20 : decode cX2_shareOut 20 = .ok (.putfield 45, 3) := by decide +kernel
theorem dX2_shareOut_23 : decode cX2_shareOut 23 = .ok (.iconst 0, 1) := by decide +kernel
theorem dX2_shareOut_24 : decode cX2_shareOut 24 = .ok (.istore 4, 2) := by decide +kernel
theorem dX2_shareOut_26 : decode cX2_shareOut 26 = .ok (.iconst 0, 1) := by decide +kernel
theorem dX2_shareOut_27 : decode cX2_shareOut 27 = .ok (.istore 5, 2) := by decide +kernel
theorem dX2_shareOut_29 : decode cX2_shareOut 29 = .ok (.iload 5, 2) := by decide +kernel
theorem dX2_shareOut_31 : decode cX2_shareOut 31 = .ok (.aload_n 0, 1) := by decide +kernel
theorem dX2_shareOut_32 : decode cX2_shareOut 32 = .ok (.getfield 9, 3) := by decide +kernel
theorem dX2_shareOut_35 : decode cX2_shareOut 35 = .ok (.getfield 101, 3) := by decide +kernel
theorem dX2_shareOut_38 : decode cX2_shareOut 38 = .ok (.invokeinterface 25 1, 5) := by decide +kernel
theorem dX2_shareOut_43 : decode cX2_shareOut 43 = .ok (.if_icmp .ge 114, 3) := by decide +kernel
theorem dX2_shareOut_46 : decode cX2_shareOut 46 = .ok (.aload_n 0, 1) := by decide +kernel
theorem dX2_shareOut_47 : decode cX2_shareOut 47 = .ok (.getfield 9, 3) := by decide +kernel
theorem dX2_shareOut_50 : decode cX2_shareOut 50 = .ok (.getfield 101, 3) := by decide +kernel
theorem dX2_shareOut_53 : decode cX2_shareOut 53 = .ok (.iload 5, 2) := by decide +kernel
theorem dX2_shareOut_55 : decode cX2_shareOut 55 = .ok (.invokeinterface 31 2, 5) := by decide +kernel
theorem dX2_shareOut_60 : decode cX2_shareOut 60 = .ok (.checkcast 104, 3) := by decide +kernel
theorem dX2_shareOut_63 : decode cX2_shareOut 63 = .ok (.astore 6, 2) := by decide +kernel
theorem dX2_shareOut_65 : decode cX2_shareOut 65 = .ok (.aload 6, 2) := by decide +kernel
theorem dX2_shareOut_67 : decode cX2_shareOut 67 = .ok (.getfield 106, 3) := by decide +kernel
theorem dX2_shareOut_70 : decode cX2_shareOut 70 = .ok (.aload_n 1, 1) := by decide +kernel
theorem dX2_shareOut_71 : decode cX2_shareOut 71 = .ok (.if_acmp .ne 80, 3) := by decide +kernel
theorem dX2_shareOut_74 : decode cX2_shareOut 74 = .ok (.iconst 0, 1) := by decide +kernel
theorem dX2_shareOut_75 : decode cX2_shareOut 75 = .ok (.istore 7, 2) := by decide +kernel
theorem dX2_shareOut_77 : decode cX2_shareOut 77 = .ok (.aload 6, 2) := by decide +kernel
theorem dX2_shareOut_79 : decode cX2_shareOut 79 = .ok (.invokevirtual 110, 3) := by decide +kernel
theorem dX2_shareOut_82 : decode cX2_shareOut 82 = .ok (.ifCond .eq 40, 3) := by decide +kernel
theorem dX2_shareOut_85 : decode cX2_shareOut 85 = .ok (.aload_n 1, 1) := by decide +kernel
theorem dX2_shareOut_86 : decode cX2_shareOut 86 = .ok (.getfield 114, 3) := by decide +kernel
theorem dX2_shareOut_89 : decode cX2_shareOut 89 = .ok (.ifCond .eq 25, 3) := by decide +kernel
theorem dX2_shareOut_92 : decode cX2_shareOut 92 = .ok (.aload_n 0, 1) := by decide +kernel
theorem dX2_shareOut_93 : decode cX2_shareOut 93 = .ok (.aload 6, 2) := by decide +kernel
theorem dX2_shareOut_95 : decode cX2_shareOut 95 = .ok (.aload 6, 2) := by decide +kernel
theorem dX2_shareOut_97 : decode cX2_shareOut 97 = .ok (.getfield 118, 3) := by decide +kernel
theorem dX2_shareOut_100 : decode cX2_shareOut 100 = .ok (.ifCond .eq 7, 3) := by decide +kernel
theorem dX2_shareOut_103 : decode cX2_shareOut 103 = .ok (.iload_n 2, 1) := by decide +kernel
theorem dX2_shareOut_104 : decode cX2_shareOut 104 = .ok (.goto 4, 3) := by decide +kernel
theorem dX2_shareOut_107 : decode cX2_shareOut 107 = .ok (.iload_n 3, 1) := by decide +kernel
theorem dX2_shareOut_108 : decode cX2_shareOut 108 = .ok (.invokevirtual 121, 3) := by decide +kernel
theorem dX2_shareOut_111 : decode cX2_shareOut 111 = .ok (.goto 9, 3) := by decide +kernel
theorem dX2_shareOut_114 : decode cX2_shareOut 114 = .ok (.aload_n 0, 1) := by decide +kernel
theorem dX2_shareOut_115 : decode cX2_shareOut 115 = .ok (.aload 6, 2) := by decide +kernel
theorem dX2_shareOut_117 : decode cX2_shareOut 117 = .ok (.invokevirtual 125, 3) := by decide +kernel
theorem dX2_shareOut_120 : decode cX2_shareOut 120 = .ok (.istore 7, 2) := by decide +kernel
theorem dX2_shareOut_122 : decode cX2_shareOut 122 = .ok (.iload 4, 2) := by decide +kernel
theorem dX2_shareOut_124 : decode cX2_shareOut 124 = .ok (.ifCond .ne 13, 3) := by decide +kernel
theorem dX2_shareOut_127 : decode cX2_shareOut 127 = .ok (.iload 7, 2) := by decide +kernel
theorem dX2_shareOut_129 : decode cX2_shareOut 129 = .ok (.aload 6, 2) := by decide +kernel
theorem dX2_shareOut_131 : decode cX2_shareOut 131 = .ok (.getfield 129, 3) := by decide +kernel
theorem dX2_shareOut_134 : decode cX2_shareOut 134 = .ok (.if_icmp .eq 7, 3) := by decide +kernel
theorem dX2_shareOut_137 : decode cX2_shareOut 137 = .ok (.iconst 1, 1) := by decide +kernel
theorem dX2_shareOut_138 : decode cX2_shareOut 138 = .ok (.goto 4, 3) := by decide +kernel
theorem dX2_shareOut_141 : decode cX2_shareOut 141 = .ok (.iconst 0, 1) := by decide +kernel
theorem dX2_shareOut_142 : decode cX2_shareOut 142 = .ok (.istore 4, 2) := by decide +kernel
theorem dX2_shareOut_144 : decode cX2_shareOut 144 = .ok (.aload 6, 2) := by decide +kernel
theorem dX2_shareOut_146 : decode cX2_shareOut 146 = .ok (.iload 7, 2) := by decide +kernel
theorem dX2_shareOut_148 : decode cX2_shareOut 148 = .ok (.putfield 129, 3) := by decide +kernel
theorem dX2_shareOut_151 : decode cX2_shareOut 151 = .ok (.iinc 5 1, 3) := by decide +kernel
theorem dX2_shareOut_154 : decode cX2_shareOut 154 = .ok (.goto (-125), 3) := by decide +kernel
theorem dX2_shareOut_157 : decode cX2_shareOut 157 = .ok (.iload 4, 2) := by decide +kernel
theorem dX2_shareOut_159 : decode cX2_shareOut 159 = .ok (.ireturn, 1) := by decide +kernel
theorem dX2_isOnSide_0 : decode cX2_isOnSide 0 = .ok (.aload_n 0, 1) := by decide +kernel
theorem dX2_isOnSide_1 : decode cX2_isOnSide 1 = .ok (.getfield 106, 3) := by decide +kernel
theorem dX2_isOnSide_4 : decode cX2_isOnSide 4 = .ok (.aload_n 1, 1) := by decide +kernel
theorem dX2_isOnSide_5 : decode cX2_isOnSide 5 = .ok (.if_acmp .ne 22, 3) := by decide +kernel
theorem dX2_isOnSide_8 : decode cX2_isOnSide 8 = .ok (.aload_n 0, 1) := by decide +kernel
theorem dX2_isOnSide_9 : decode cX2_isOnSide 9 = .ok (.getfield 118, 3) := by decide +kernel
theorem dX2_isOnSide_12 : decode cX2_isOnSide 12 = .ok (.iload_n 2, 1) := by decide +kernel
theorem dX2_isOnSide_13 : decode cX2_isOnSide 13 = .ok (.if_icmp .ne 14, 3) := by decide +kernel
theorem dX2_isOnSide_16 : decode cX2_isOnSide 16 = .ok (.aload_n 0, 1) := by decide +kernel
theorem dX2_isOnSide_17 : decode cX2_isOnSide 17 = .ok (.invokevirtual 110, 3) := by decide +kernel
theorem dX2_isOnSide_20 : decode cX2_isOnSide 20 = .ok (.ifCond .eq 7, 3) := by decide +kernel
theorem dX2_isOnSide_23 : decode cX2_isOnSide 23 = .ok (.iconst 1, 1) := by decide +kernel
theorem dX2_isOnSide_24 : decode cX2_isOnSide 24 = .ok (.goto 4, 3) := by decide +kernel
theorem dX2_isOnSide_27 : decode cX2_isOnSide 27 = .ok (.iconst 0, 1) := by decide +kernel
theorem dX2_isOnSide_28 : decode cX2_isOnSide 28 = .ok (.ireturn, 1) := by decide +kernel
theorem dX2_totalOf_0 : decode cX2_totalOf 0 = .ok (.iconst 0, 1) := by decide +kernel
theorem dX2_totalOf_1 : decode cX2_totalOf 1 = .ok (.istore_n 3, 1) := by decide +kernel
theorem dX2_totalOf_2 : decode cX2_totalOf 2 = .ok (.iconst 0, 1) := by decide +kernel
theorem dX2_totalOf_3 : decode cX2_totalOf 3 = .ok (.istore 4, 2) := by decide +kernel
theorem dX2_totalOf_5 : decode cX2_totalOf 5 = .ok (.iload 4, 2) := by decide +kernel
theorem dX2_totalOf_7 : decode cX2_totalOf 7 = .ok (.aload_n 0, 1) := by decide +kernel
theorem dX2_totalOf_8 : decode cX2_totalOf 8 = .ok (.getfield 9, 3) := by decide +kernel
theorem dX2_totalOf_11 : decode cX2_totalOf 11 = .ok (.getfield 101, 3) := by decide +kernel
theorem dX2_totalOf_14 : decode cX2_totalOf 14 = .ok (.invokeinterface 25 1, 5) := by decide +kernel
theorem dX2_totalOf_19 : decode cX2_totalOf 19 = .ok (.if_icmp .ge 46, 3) := by decide +kernel
theorem dX2_totalOf_22 : decode cX2_totalOf 22 = .ok (.aload_n 0, 1) := by decide +kernel
theorem dX2_totalOf_23 : decode cX2_totalOf 23 = .ok (.getfield 9, 3) := by decide +kernel
theorem dX2_totalOf_26 : decode cX2_totalOf 26 = .ok (.getfield 101, 3) := by decide +kernel
theorem dX2_totalOf_29 : decode cX2_totalOf 29 = .ok (.iload 4, 2) := by decide +kernel
theorem dX2_totalOf_31 : decode cX2_totalOf 31 = .ok (.invokeinterface 31 2, 5) := by decide +kernel
theorem dX2_totalOf_36 : decode cX2_totalOf 36 = .ok (.checkcast 104, 3) := by decide +kernel
theorem dX2_totalOf_39 : decode cX2_totalOf 39 = .ok (.astore 5, 2) := by decide +kernel
theorem dX2_totalOf_41 : decode cX2_totalOf 41 = .ok (.aload 5, 2) := by decide +kernel
theorem dX2_totalOf_43 : decode cX2_totalOf 43 = .ok (.aload_n 1, 1) := by decide +kernel
theorem dX2_totalOf_44 : decode cX2_totalOf 44 = .ok (.iload_n 2, 1) := by decide +kernel
theorem dX2_totalOf_45 : decode cX2_totalOf 45 = .ok (.invokestatic 132, 3) := by decide +kernel
theorem dX2_totalOf_48 : decode cX2_totalOf 48 = .ok (.ifCond .eq 11, 3) := by decide +kernel
theorem dX2_totalOf_51 : decode cX2_totalOf 51 = .ok (.iload_n 3, 1) := by decide +kernel
theorem dX2_totalOf_52 : decode cX2_totalOf 52 = .ok (.aload 5, 2) := by decide +kernel
theorem dX2_totalOf_54 : decode cX2_totalOf 54 = .ok (.getfield 136, 3) := by decide +kernel
theorem dX2_totalOf_57 : decode cX2_totalOf 57 = .ok (.iadd, 1) := by decide +kernel
theorem dX2_totalOf_58 : decode cX2_totalOf 58 = .ok (.istore_n 3, 1) := by decide +kernel
theorem dX2_totalOf_59 : decode cX2_totalOf 59 = .ok (.iinc 4 1, 3) := by decide +kernel
theorem dX2_totalOf_62 : decode cX2_totalOf 62 = .ok (.goto (-57), 3) := by decide +kernel
theorem dX2_totalOf_65 : decode cX2_totalOf 65 = .ok (.iload_n 3, 1) := by decide +kernel
theorem dX2_totalOf_66 : decode cX2_totalOf 66 = .ok (.ireturn, 1) := by decide +kernel
theorem dX2_partByOrder_0 : decode cX2_partByOrder 0 = .ok (.aload_n 1, 1) := by decide +kernel
theorem dX2_partByOrder_1 : decode cX2_partByOrder 1 = .ok (.getfield 106, 3) := by decide +kernel
theorem dX2_partByOrder_4 : decode cX2_partByOrder 4 = .ok (.getfield 45, 3) := by decide +kernel
theorem dX2_partByOrder_7 : decode cX2_partByOrder 7 = .ok (.istore_n 2, 1) := by decide +kernel
theorem dX2_partByOrder_8 : decode cX2_partByOrder 8 = .ok (.iconst 0, 1) := by decide +kernel
theorem dX2_partByOrder_9 : decode cX2_partByOrder 9 = .ok (.istore_n 3, 1) := by decide +kernel
theorem dX2_partByOrder_10 : decode cX2_partByOrder 10 = .ok (.iload_n 3, 1) := by decide +kernel
theorem dX2_partByOrder_11 : decode cX2_partByOrder 11 = .ok (.aload_n 0, 1) := by decide +kernel
theorem dX2_partByOrder_12 : decode cX2_partByOrder 12 = .ok (.getfield 9, 3) := by decide +kernel
theorem dX2_partByOrder_15 : decode cX2_partByOrder 15 = .ok (.getfield 101, 3) := by decide +kernel
theorem dX2_partByOrder_18 : decode cX2_partByOrder 18 = .ok (.invokeinterface 25 1, 5) := by decide +kernel
theorem dX2_partByOrder_23 : decode cX2_partByOrder 23 = .ok (.if_icmp .ge 60, 3) := by decide +kernel
theorem dX2_partByOrder_26 : decode cX2_partByOrder 26 = .ok (.aload_n 0, 1) := by decide +kernel
theorem dX2_partByOrder_27 : decode cX2_partByOrder 27 = .ok (.getfield 9, 3) := by decide +kernel
theorem dX2_partByOrder_30 : decode cX2_partByOrder 30 = .ok (.getfield 101, 3) := by decide +kernel
theorem dX2_partByOrder_33 : decode cX2_partByOrder 33 = .ok (.iload_n 3, 1) := by decide +kernel
theorem dX2_partByOrder_34 : decode cX2_partByOrder 34 = .ok (.invokeinterface 31 2, 5) := by decide +kernel
theorem dX2_partByOrder_39 : decode cX2_partByOrder 39 = .ok (.checkcast 104, 3) := by decide +kernel
theorem dX2_partByOrder_42 : decode cX2_partByOrder 42 = .ok (.astore 4, 2) := by decide +kernel
theorem dX2_partByOrder_44 : decode cX2_partByOrder 44 = .ok (.aload 4, 2) := by decide +kernel
theorem dX2_partByOrder_46 : decode cX2_partByOrder 46 = .ok (.aload_n 1, 1) := by decide +kernel
theorem dX2_partByOrder_47 : decode cX2_partByOrder 47 = .ok (.getfield 106, 3) := by decide +kernel
theorem dX2_partByOrder_50 : decode cX2_partByOrder 50 = .ok (.aload_n 1, 1) := by decide +kernel
theorem dX2_partByOrder_51 : decode cX2_partByOrder 51 = .ok (.getfield 118, 3) := by decide +kernel
theorem dX2_partByOrder_54 : decode cX2_partByOrder 54 = .ok (.invokestatic 132, 3) := by decide +kernel
theorem dX2_partByOrder_57 : decode cX2_partByOrder 57 = .ok (.ifCond .eq 20, 3) := by decide +kernel
theorem dX2_partByOrder_60 : decode cX2_partByOrder 60 = .ok (.aload 4, 2) := by decide +kernel
theorem dX2_partByOrder_62 : decode cX2_partByOrder 62 = .ok (.aload_n 1, 1) := by decide +kernel
theorem dX2_partByOrder_63 : decode cX2_partByOrder 63 = .ok (.invokevirtual 139, 3) := by decide +kernel
theorem dX2_partByOrder_66 : decode cX2_partByOrder 66 = .ok (.ifCond .eq 11, 3) := by decide +kernel
theorem dX2_partByOrder_69 : decode cX2_partByOrder 69 = .ok (.iload_n 2, 1) := by decide +kernel
theorem dX2_partByOrder_70 : decode cX2_partByOrder 70 = .ok (.aload 4, 2) := by decide +kernel
theorem dX2_partByOrder_72 : decode cX2_partByOrder 72 = .ok (.getfield 136, 3) := by decide +kernel
theorem dX2_partByOrder_75 : decode cX2_partByOrder 75 = .ok (.isub, 1) := by decide +kernel
theorem dX2_partByOrder_76 : decode cX2_partByOrder 76 = .ok (.istore_n 2, 1) := by decide +kernel
theorem dX2_partByOrder_77 : decode cX2_partByOrder 77 = .ok (.iinc 3 1, 3) := by decide +kernel
theorem dX2_partByOrder_80 : decode cX2_partByOrder 80 = .ok (.goto (-70), 3) := by decide +kernel
theorem dX2_partByOrder_83 : decode cX2_partByOrder 83 = .ok (.iconst 0, 1) := by decide +kernel
theorem dX2_partByOrder_84 : decode cX2_partByOrder 84 = .ok (.aload_n 1, 1) := by decide +kernel
theorem dX2_partByOrder_85 : decode cX2_partByOrder 85 = .ok (.getfield 136, 3) := by decide +kernel
theorem dX2_partByOrder_88 : decode cX2_partByOrder 88 = .ok (.iload_n 2, 1) := by decide +kernel
theorem dX2_partByOrder_89 : decode cX2_partByOrder 89 = .ok (.invokestatic 88, 3) := by decide +kernel
theorem dX2_partByOrder_92 : decode cX2_partByOrder 92 = .ok (.invokestatic 94, 3) := by decide +kernel
theorem dX2_partByOrder_95 : decode cX2_partByOrder 95 = .ok (.ireturn, 1) := by decide +kernel
theorem dX2_partByShares_0 : decode cX2_partByShares 0 = .ok (.iload_n 2, 1) := by decide +kernel
theorem dX2_partByShares_1 : decode cX2_partByShares 1 = .ok (.ifCond .gt 5, 3) := by decide +kernel
theorem dX2_partByShares_4 : decode cX2_partByShares 4 = .ok (.iconst 0, 1) := by decide +kernel
theorem dX2_partByShares_5 : decode cX2_partByShares 5 = .ok (.ireturn, 1) := by decide +kernel
theorem dX2_partByShares_6 : decode cX2_partByShares 6 = .ok (.aload_n 1, 1) := by decide +kernel
theorem dX2_partByShares_7 : decode cX2_partByShares 7 = .ok (.getfield 106, 3) := by decide +kernel
theorem dX2_partByShares_10 : decode cX2_partByShares 10 = .ok (.getfield 45, 3) := by decide +kernel
theorem dX2_partByShares_13 : decode cX2_partByShares 13 = .ok (.istore_n 3, 1) := by decide +kernel
theorem dX2_partByShares_14 : decode cX2_partByShares 14 = .ok (.iload_n 3, 1) := by decide +kernel
theorem dX2_partByShares_15 : decode cX2_partByShares 15 = .ok (.aload_n 1, 1) := by decide +kernel
theorem dX2_partByShares_16 : decode cX2_partByShares 16 = .ok (.getfield 136, 3) := by decide +kernel
theorem dX2_partByShares_19 : decode cX2_partByShares 19 = .ok (.imul, 1) := by decide +kernel
theorem dX2_partByShares_20 : decode cX2_partByShares 20 = .ok (.iload_n 2, 1) := by decide +kernel
theorem dX2_partByShares_21 : decode cX2_partByShares 21 = .ok (.irem, 1) := by decide +kernel
theorem dX2_partByShares_22 : decode cX2_partByShares 22 = .ok (.istore 4, 2) := by decide +kernel
theorem dX2_partByShares_24 : decode cX2_partByShares 24 = .ok (.iload_n 3, 1) := by decide +kernel
theorem dX2_partByShares_25 : decode cX2_partByShares 25 = .ok (.istore 5, 2) := by decide +kernel
theorem dX2_partByShares_27 : decode cX2_partByShares 27 = .ok (.iconst 0, 1) := by decide +kernel
theorem dX2_partByShares_28 : decode cX2_partByShares 28 = .ok (.istore 6, 2) := by decide +kernel
theorem dX2_partByShares_30 : decode cX2_partByShares 30 = .ok (.iconst 0, 1) := by decide +kernel
theorem dX2_partByShares_31 : decode cX2_partByShares 31 = .ok (.istore 7, 2) := by decide +kernel
theorem dX2_partByShares_33 : decode cX2_partByShares 33 = .ok (.iload 7, 2) := by decide +kernel
theorem dX2_partByShares_35 : decode cX2_partByShares 35 = .ok (.aload_n 0, 1) := by decide +kernel
theorem dX2_partByShares_36 : decode cX2_partByShares 36 = .ok (.getfield 9, 3) := by decide +kernel
theorem dX2_partByShares_39 : decode cX2_partByShares 39 = .ok (.getfield 101, 3) := by decide +kernel
theorem dX2_partByShares_42 : decode cX2_partByShares 42 = .ok (.invokeinterface 25 1, 5) := by decide +kernel
theorem dX2_partByShares_47 : decode cX2_partByShares 47 = .ok (.if_icmp .ge 98, 3) := by decide +kernel
theorem dX2_partByShares_50 : decode cX2_partByShares 50 = .ok (.aload_n 0, 1) := by decide +kernel
theorem dX2_partByShares_51 : decode cX2_partByShares 51 = .ok (.getfield 9, 3) := by decide +kernel
theorem dX2_partByShares_54 : decode cX2_partByShares 54 = .ok (.getfield 101, 3) := by decide +kernel
theorem dX2_partByShares_57 : decode cX2_partByShares 57 = .ok (.iload 7, 2) := by decide +kernel
theorem dX2_partByShares_59 : decode cX2_partByShares 59 = .ok (.invokeinterface 31 2, 5) := by decide +kernel
theorem dX2_partByShares_64 : decode cX2_partByShares 64 = .ok (.checkcast 104, 3) := by decide +kernel
theorem dX2_partByShares_67 : decode cX2_partByShares 67 = .ok (.astore 8, 2) := by decide +kernel
theorem dX2_partByShares_69 : decode cX2_partByShares 69 = .ok (.aload 8, 2) := by decide +kernel
theorem dX2_partByShares_71 : decode cX2_partByShares 71 = .ok (.aload_n 1, 1) := by decide +kernel
theorem dX2_partByShares_72 : decode cX2_partByShares 72 = .ok (.getfield 106, 3) := by decide +kernel
theorem dX2_partByShares_75 : decode cX2_partByShares 75 = .ok (.aload_n 1, 1) := by decide +kernel
theorem dX2_partByShares_76 : decode cX2_partByShares 76 = .ok (.getfield 118, 3) := by decide +kernel
theorem dX2_partByShares_79 : decode cX2_partByShares 79 = .ok (.invokestatic 132, 3) := by decide +kernel
theorem dX2_partByShares_82 : decode cX2_partByShares 82 = .ok (.ifCond .eq 57, 3) := by decide +kernel
theorem dX2_partByShares_85 : decode cX2_partByShares 85 = .ok (.iload_n 3, 1) := by decide +kernel
theorem dX2_partByShares_86 : decode cX2_partByShares 86 = .ok (.aload 8, 2) := by decide +kernel
theorem dX2_partByShares_88 : decode cX2_partByShares 88 = .ok (.getfield 136, 3) := by decide +kernel
theorem dX2_partByShares_91 : decode cX2_partByShares 91 = .ok (.imul, 1) := by decide +kernel
theorem dX2_partByShares_92 : decode cX2_partByShares 92 = .ok (.iload_n 2, 1) := by decide +kernel
theorem dX2_partByShares_93 : decode cX2_partByShares 93 = .ok (.irem, 1) := by decide +kernel
theorem dX2_partByShares_94 : decode cX2_partByShares 94 = .ok (.istore 9, 2) := by decide +kernel
theorem dX2_partByShares_96 : decode cX2_partByShares 96 = .ok (.iload 5, 2) := by decide +kernel
theorem dX2_partByShares_98 : decode cX2_partByShares 98 = .ok (.iload_n 3, 1) := by decide +kernel
theorem dX2_partByShares_99 : decode cX2_partByShares 99 = .ok (.aload 8, 2) := by decide +kernel
theorem dX2_partByShares_101 : decode cX2_partByShares 101 = .ok (.getfield 136, 3) := by decide +kernel
theorem dX2_partByShares_104 : decode cX2_partByShares 104 = .ok (.imul, 1) := by decide +kernel
theorem dX2_partByShares_105 : decode cX2_partByShares 105 = .ok (.iload_n 2, 1) := by decide +kernel
theorem dX2_partByShares_106 : decode cX2_partByShares 106 = .ok (.idiv, 1) := by decide +kernel
theorem dX2_partByShares_107 : decode cX2_partByShares 107 = .ok (.isub, 1) := by decide +kernel
theorem dX2_partByShares_108 : decode cX2_partByShares 108 = .ok (.istore 5, 2) := by decide +kernel
theorem dX2_partByShares_110 : decode cX2_partByShares 110 = .ok (.iload 9, 2) := by decide +kernel
theorem dX2_partByShares_112 : decode cX2_partByShares 112 = .ok (.iload 4, 2) := by decide +kernel
theorem dX2_partByShares_114 : decode cX2_partByShares 114 = .ok (.if_icmp .gt 22, 3) := by decide +kernel
theorem dX2_partByShares_117 : decode cX2_partByShares 117 = .ok (.iload 9, 2) := by decide +kernel
theorem dX2_partByShares_119 : decode cX2_partByShares 119 = .ok (.iload 4, 2) := by decide +kernel
theorem dX2_partByShares_121 : decode cX2_partByShares 121 = .ok (.if_icmp .ne 18, 3) := by decide +kernel
theorem dX2_partByShares_124 : decode cX2_partByShares 124 = .ok (.aload 8, 2) := by decide +kernel
theorem dX2_partByShares_126 : decode cX2_partByShares 126 = .ok (.getfield 143, 3) := by decide +kernel
theorem dX2_partByShares_129 : decode cX2_partByShares 129 = .ok (.aload_n 1, 1) := by decide +kernel
theorem dX2_partByShares_130 : decode cX2_partByShares 130 = .ok (.getfield 143, 3) := by decide +kernel
theorem dX2_partByShares_133 : decode cX2_partByShares 133 = .ok (.if_icmp .ge 6, 3) := by decide +kernel
theorem dX2_partByShares_136 : decode cX2_partByShares 136 = .ok (.iinc 6 1, 3) := by decide +kernel
theorem dX2_partByShares_139 : decode cX2_partByShares 139 = .ok (.iinc 7 1, 3) := by decide +kernel
theorem dX2_partByShares_142 : decode cX2_partByShares 142 = .ok (.goto (-109), 3) := by decide +kernel
theorem dX2_partByShares_145 : decode cX2_partByShares 145 = .ok (.iload_n 3, 1) := by decide +kernel
theorem dX2_partByShares_146 : decode cX2_partByShares 146 = .ok (.aload_n 1, 1) := by decide +kernel
theorem dX2_partByShares_147 : decode cX2_partByShares 147 = .ok (.getfield 136, 3) := by decide +kernel
theorem dX2_partByShares_150 : decode cX2_partByShares 150 = .ok (.imul, 1) := by decide +kernel
theorem dX2_partByShares_151 : decode cX2_partByShares 151 = .ok (.iload_n 2, 1) := by decide +kernel
theorem dX2_partByShares_152 : decode cX2_partByShares 152 = .ok (.idiv, 1) := by decide +kernel
theorem dX2_partByShares_153 : decode cX2_partByShares 153 = .ok (.iload 6, 2) := by decide +kernel
theorem dX2_partByShares_155 : decode cX2_partByShares 155 = .ok (.iload 5, 2) := by decide +kernel
theorem dX2_partByShares_157 : decode cX2_partByShares 157 = .ok (.if_icmp .ge 7, 3) := by decide +kernel
theorem dX2_partByShares_160 : decode cX2_partByShares 160 = .ok (.iconst 1, 1) := by decide +kernel
theorem dX2_partByShares_161 : decode cX2_partByShares 161 = .ok (.goto 4, 3) := by decide +kernel
theorem dX2_partByShares_164 : decode cX2_partByShares 164 = .ok (.iconst 0, 1) := by decide +kernel
theorem dX2_partByShares_165 : decode cX2_partByShares 165 = .ok (.iadd, 1) := by decide +kernel
theorem dX2_partByShares_166 : decode cX2_partByShares 166 = .ok (.ireturn, 1) := by decide +kernel
theorem dX3_init_0 : decode cX3_init 0 = .ok (.aload_n 0, 1) := by decide +kernel
theorem dX3_init_1 : decode cX3_init 1 = .ok (.invokespecial 1, 3) := by decide +kernel
theorem dX3_init_4 : decode cX3_init 4 = .ok (.aload_n 0, 1) := by decide +kernel
theorem dX3_init_5 : decode cX3_init 5 = .ok (.iconst 0, 1) := by decide +kernel
theorem dX3_init_6 : decode cX3_init 6 = .ok (.putfield 7, 3) := by decide +kernel
theorem dX3_init_9 : decode cX3_init 9 = .ok (.aload_n 0, 1) := by decide +kernel
theorem dX3_init_10 : decode cX3_init 10 = .ok (.iload_n 1, 1) := by decide +kernel
theorem dX3_init_11 : decode cX3_init 11 = .ok (.putfield 13, 3) := by decide +kernel
theorem dX3_init_14 : decode cX3_init 14 = .ok (.aload_n 0, 1) := by decide +kernel
theorem dX3_init_15 : decode cX3_init 15 = .ok (.iload_n 2, 1) := by decide +kernel
theorem dX3_init_16 : decode cX3_init 16 = .ok (.putfield 17, 3) := by decide +kernel
theorem dX3_init_19 : decode cX3_init 19 = .ok (.aload_n 0, 1) := by decide +kernel
theorem dX3_init_20 : decode cX3_init 20 = .ok (.iload_n 3, 1) := by decide +kernel
theorem dX3_init_21 : decode cX3_init 21 = .ok (.putfield 20, 3) := by decide +kernel
theorem dX3_init_24 : decode cX3_init 24 = .ok (.aload_n 0, 1) := by decide +kernel
theorem dX3_init_25 : decode cX3_init 25 = .ok (.iload 4, 2) := by decide +kernel
theorem dX3_init_27 : decode cX3_init 27 = .ok (.putfield 23, 3) := by decide +kernel
theorem dX3_init_30 : decode cX3_init 30 = .ok (.aload_n 0, 1) := by decide +kernel
theorem dX3_init_31 : decode cX3_init 31 = .ok (.iload 5, 2) := by decide +kernel
theorem dX3_init_33 : decode cX3_init 33 = .ok (.putfield 26, 3) := by decide +kernel
theorem dX3_init_36 : decode cX3_init 36 = .ok (.aload_n 0, 1) := by decide +kernel
theorem dX3_init_37 : decode cX3_init 37 = .ok (.aload 6, 2) := by decide +kernel
theorem dX3_init_39 : decode cX3_init 39 = .ok (.putfield 29, 3) := by decide +kernel
theorem dX3_init_42 : decode cX3_init 42 = .ok (.return_, 1) := by decide +kernel
theorem dX3_countsAt_0 : decode cX3_countsAt 0 = .ok (.aload_n 0, 1) := by decide +kernel
theorem dX3_countsAt_1 : decode cX3_countsAt 1 = .ok (.getfield 7, 3) := by decide +kernel
theorem dX3_countsAt_4 : decode cX3_countsAt 4 = .ok (.ifCond .ne 15, 3) := by decide +kernel
theorem dX3_countsAt_7 : decode cX3_countsAt 7 = .ok (.aload_n 0, 1) := by decide +kernel
theorem dX3_countsAt_8 : decode cX3_countsAt 8 = .ok (.getfield 26, 3) := by decide +kernel
theorem dX3_countsAt_11 : decode cX3_countsAt 11 = .ok (.iload_n 1, 1) := by decide +kernel
theorem dX3_countsAt_12 : decode cX3_countsAt 12 = .ok (.if_icmp .gt 7, 3) := by decide +kernel
theorem dX3_countsAt_15 : decode cX3_countsAt 15 = .ok (.iconst 1, 1) := by decide +kernel
theorem dX3_countsAt_16 : decode cX3_countsAt 16 = .ok (.goto 4, 3) := by decide +kernel
theorem dX3_countsAt_19 : decode cX3_countsAt 19 = .ok (.iconst 0, 1) := by decide +kernel
theorem dX3_countsAt_20 : decode cX3_countsAt 20 = .ok (.ireturn, 1) := by decide +kernel
theorem dX4_init_0 : decode cX4_init 0 = .ok (.aload_n 0, 1) := by decide +kernel
theorem dX4_init_1 : decode cX4_init 1 = .ok (.invokespecial 3, 3) := by decide +kernel
theorem dX4_init_4 : decode cX4_init 4 = .ok (.aload_n 0, 1) := by decide +kernel
theorem dX4_init_5 : decode cX4_init 5 = .ok (.bipush 24, 2) := by decide +kernel
theorem dX4_init_7 : decode cX4_init 7 = .ok (.anewarray 9, 3) := by decide +kernel
theorem dX4_init_10 : decode cX4_init 10 = .ok (.putfield 11, 3) := by decide +kernel
theorem dX4_init_13 : decode cX4_init 13 = .ok (.aload_n 0, 1) := by decide +kernel
theorem dX4_init_14 : decode cX4_init 14 = .ok (.bipush 24, 2) := by decide +kernel
theorem dX4_init_16 : decode cX4_init 16 = .ok (.newarray .int, 2) := by decide +kernel
theorem dX4_init_18 : decode cX4_init 18 = .ok (.putfield 17, 3) := by decide +kernel
theorem dX4_init_21 : decode cX4_init 21 = .ok (.aload_n 0, 1) := by decide +kernel
theorem dX4_init_22 : decode cX4_init 22 = .ok (.bipush 24, 2) := by decide +kernel
theorem dX4_init_24 : decode cX4_init 24 = .ok (.newarray .int, 2) := by decide +kernel
theorem dX4_init_26 : decode cX4_init 26 = .ok (.putfield 21, 3) := by decide +kernel
theorem dX4_init_29 : decode cX4_init 29 = .ok (.aload_n 0, 1) := by decide +kernel
theorem dX4_init_30 : decode cX4_init 30 = .ok (.bipush 24, 2) := by decide +kernel
theorem dX4_init_32 : decode cX4_init 32 = .ok (.newarray .int, 2) := by decide +kernel
theorem dX4_init_34 : decode cX4_init 34 = .ok (.putfield 24, 3) := by decide +kernel
theorem dX4_init_37 : decode cX4_init 37 = .ok (.aload_n 0, 1) := by decide +kernel
theorem dX4_init_38 : decode cX4_init 38 = .ok (.bipush 8, 2) := by decide +kernel
theorem dX4_init_40 : decode cX4_init 40 = .ok (.iconst 4, 1) := by decide +kernel
theorem dX4_init_41 : decode cX4_init 41 = .ok (.multianewarray 27 2, 4) := by decide +kernel
theorem dX4_init_45 : decode cX4_init 45 = .ok (.putfield 29, 3) := by decide +kernel
theorem dX4_init_48 : decode cX4_init 48 = .ok (.aload_n 0, 1) := by decide +kernel
theorem dX4_init_49 : decode cX4_init 49 = .ok (.sipush 291, 3) := by decide +kernel
theorem dX4_init_52 : decode cX4_init 52 = .ok (.newarray .int, 2) := by decide +kernel
theorem dX4_init_54 : decode cX4_init 54 = .ok (.putfield 32, 3) := by decide +kernel
theorem dX4_init_57 : decode cX4_init 57 = .ok (.aload_n 0, 1) := by decide +kernel
theorem dX4_init_58 : decode cX4_init 58 = .ok (.iconst 0, 1) := by decide +kernel
theorem dX4_init_59 : decode cX4_init 59 = .ok (.putfield 35, 3) := by decide +kernel
theorem dX4_init_62 : decode cX4_init 62 = .ok (.aload_n 0, 1) := by decide +kernel
theorem dX4_init_63 : decode cX4_init 63 = .ok (.aload_n 1, 1) := by decide +kernel
theorem dX4_init_64 : decode cX4_init 64 = .ok (.putfield 39, 3) := by decide +kernel
theorem dX4_init_67 : decode cX4_init 67 = .ok (.aload_n 0, 1) := by decide +kernel
theorem dX4_init_68 : decode cX4_init 68 = .ok (.aload_n 2, 1) := by decide +kernel
theorem dX4_init_69 : decode cX4_init 69 = .ok (.putfield 43, 3) := by decide +kernel
theorem dX4_init_72 : decode cX4_init 72 = .ok (.aload_n 0, 1) := by decide +kernel
theorem dX4_init_73 : decode cX4_init 73 = .ok (.aload_n 1, 1) := by decide +kernel
theorem dX4_init_74 : decode cX4_init 74 = .ok (.getfield 47, 3) := by decide +kernel
theorem dX4_init_77 : decode cX4_init 77 = .ok (.putfield 53, 3) := by decide +kernel
theorem dX4_init_80 : decode cX4_init 80 = .ok (.iconst 0, 1) := by decide +kernel
theorem dX4_init_81 : decode cX4_init 81 = .ok (.istore_n 3, 1) := by decide +kernel
theorem dX4_init_82 : decode cX4_init 82 = .ok (.iload_n 3, 1) := by decide +kernel
theorem dX4_init_83 : decode cX4_init 83 = .ok (.bipush 24, 2) := by decide +kernel
theorem dX4_init_85 : decode cX4_init 85 = .ok (.if_icmp .ge 19, 3) := by decide +kernel
theorem dX4_init_88 : decode cX4_init 88 = .ok (.aload_n 0, 1) := by decide +kernel
theorem dX4_init_89 : decode cX4_init 89 = .ok (.getfield 11, 3) := by decide +kernel
theorem dX4_init_92 : decode cX4_init 92 = .ok (.iload_n 3, 1) := by decide +kernel
theorem dX4_init_93 : decode cX4_init 93 = .ok (.aload_n 1, 1) := by decide +kernel
theorem dX4_init_94 : decode cX4_init 94 = .ok (.getfield 54, 3) := by decide +kernel
theorem dX4_init_97 : decode cX4_init 97 = .ok (.aastore, 1) := by decide +kernel
theorem dX4_init_98 : decode cX4_init 98 = .ok (.iinc 3 1, 3) := by decide +kernel
theorem dX4_init_101 : decode cX4_init 101 = .ok (.goto (-19), 3) := by decide +kernel
theorem dX4_init_104 : decode cX4_init 104 = .ok (.return_, 1) := by decide +kernel
theorem dX4_goTo_0 : decode cX4_goTo 0 = .ok (.aload_n 0, 1) := by decide +kernel
theorem dX4_goTo_1 : decode cX4_goTo 1 = .ok (.aload_n 2, 1) := by decide +kernel
theorem dX4_goTo_2 : decode cX4_goTo 2 = .ok (.putfield 53, 3) := by decide +kernel
theorem dX4_goTo_5 : decode cX4_goTo 5 = .ok (.iconst 0, 1) := by decide +kernel
theorem dX4_goTo_6 : decode cX4_goTo 6 = .ok (.istore_n 3, 1) := by decide +kernel
theorem dX4_goTo_7 : decode cX4_goTo 7 = .ok (.iload_n 3, 1) := by decide +kernel
theorem dX4_goTo_8 : decode cX4_goTo 8 = .ok (.bipush 24, 2) := by decide +kernel
theorem dX4_goTo_10 : decode cX4_goTo 10 = .ok (.if_icmp .ge 29, 3) := by decide +kernel
theorem dX4_goTo_13 : decode cX4_goTo 13 = .ok (.aload_n 0, 1) := by decide +kernel
theorem dX4_goTo_14 : decode cX4_goTo 14 = .ok (.getfield 17, 3) := by decide +kernel
theorem dX4_goTo_17 : decode cX4_goTo 17 = .ok (.iload_n 3, 1) := by decide +kernel
theorem dX4_goTo_18 : decode cX4_goTo 18 = .ok (.iconst 0, 1) := by decide +kernel
theorem dX4_goTo_19 : decode cX4_goTo 19 = .ok (.iastore, 1) := by decide +kernel
theorem dX4_goTo_20 : decode cX4_goTo 20 = .ok (.aload_n 0, 1) := by decide +kernel
theorem dX4_goTo_21 : decode cX4_goTo 21 = .ok (.getfield 11, 3) := by decide +kernel
theorem dX4_goTo_24 : decode cX4_goTo 24 = .ok (.iload_n 3, 1) := by decide +kernel
theorem dX4_goTo_25 : decode cX4_goTo 25 = .ok (.aload_n 0, 1) := by decide +kernel
theorem dX4_goTo_26 : decode cX4_goTo 26 = .ok (.getfield 39, 3) := by decide +kernel
theorem dX4_goTo_29 : decode cX4_goTo 29 = .ok (.getfield 54, 3) := by decide +kernel
theorem dX4_goTo_32 : decode cX4_goTo 32 = .ok (.aastore, 1) := by decide +kernel
theorem dX4_goTo_33 : decode cX4_goTo 33 = .ok (.iinc 3 1, 3) := by decide +kernel
theorem dX4_goTo_36 : decode cX4_goTo 36 = .ok (.goto (-29), 3) := by decide +kernel
theorem dX4_goTo_39 : decode cX4_goTo 39 = .ok (.iconst 0, 1) := by decide +kernel
theorem dX4_goTo_40 : decode cX4_goTo 40 = .ok (.istore_n 3, 1) := by decide +kernel
theorem dX4_goTo_41 : decode cX4_goTo 41 = .ok (.iload_n 3, 1) := by decide +kernel
theorem dX4_goTo_42 : decode cX4_goTo 42 = .ok (.aload_n 0, 1) := by decide +kernel
theorem dX4_goTo_43 : decode cX4_goTo 43 = .ok (.getfield 39, 3) := by decide +kernel
theorem dX4_goTo_46 : decode cX4_goTo 46 = .ok (.getfield 58, 3) := by decide +kernel
theorem dX4_goTo_49 : decode cX4_goTo 49 = .ok (.invokeinterface 62 1, 5) := by decide +kernel
theorem dX4_goTo_54 : decode cX4_goTo 54 = .ok (.if_icmp .ge 51, 3) := by decide +kernel
theorem dX4_goTo_57 : decode cX4_goTo 57 = .ok (.aload_n 0, 1) := by decide +kernel
theorem dX4_goTo_58 : decode cX4_goTo 58 = .ok (.getfield 39, 3) := by decide +kernel
theorem dX4_goTo_61 : decode cX4_goTo 61 = .ok (.getfield 58, 3) := by decide +kernel
theorem dX4_goTo_64 : decode cX4_goTo 64 = .ok (.iload_n 3, 1) := by decide +kernel
theorem dX4_goTo_65 : decode cX4_goTo 65 = .ok (.invokeinterface 68 2, 5) := by decide +kernel
theorem dX4_goTo_70 : decode cX4_goTo 70 = .ok (.checkcast 72, 3) := by decide +kernel
theorem dX4_goTo_73 : decode cX4_goTo 73 = .ok (.astore 4, 2) := by decide +kernel
theorem dX4_goTo_75 : decode cX4_goTo 75 = .ok (.aload 4, 2) := by decide +kernel
theorem dX4_goTo_77 : decode cX4_goTo 77 = .ok (.iload_n 1, 1) := by decide +kernel
theorem dX4_goTo_78 : decode cX4_goTo 78 = .ok (.invokevirtual 74, 3) := by decide +kernel
theorem dX4_goTo_81 : decode cX4_goTo 81 = .ok (.ifCond .eq 18, 3) := by decide +kernel
theorem dX4_goTo_84 : decode cX4_goTo 84 = .ok (.aload_n 0, 1) := by decide +kernel
theorem dX4_goTo_85 : decode cX4_goTo 85 = .ok (.getfield 11, 3) := by decide +kernel
theorem dX4_goTo_88 : decode cX4_goTo 88 = .ok (.aload 4, 2) := by decide +kernel
theorem dX4_goTo_90 : decode cX4_goTo 90 = .ok (.getfield 78, 3) := by decide +kernel
theorem dX4_goTo_93 : decode cX4_goTo 93 = .ok (.aload 4, 2) := by decide +kernel
theorem dX4_goTo_95 : decode cX4_goTo 95 = .ok (.getfield 81, 3) := by decide +kernel
theorem dX4_goTo_98 : decode cX4_goTo 98 = .ok (.aastore, 1) := by decide +kernel
theorem dX4_goTo_99 : decode cX4_goTo 99 = .ok (.iinc 3 1, 3) := by decide +kernel
theorem dX4_goTo_102 : decode cX4_goTo 102 = .ok (.goto (-61), 3) := by decide +kernel
theorem dX4_goTo_105 : decode cX4_goTo 105 = .ok (.aload_n 0, 1) := by decide +kernel
theorem dX4_goTo_106 : decode cX4_goTo 106 = .ok (.invokevirtual 84, 3) := by decide +kernel
theorem dX4_goTo_109 : decode cX4_goTo 109 = .ok (.iconst 0, 1) := by decide +kernel
theorem dX4_goTo_110 : decode cX4_goTo 110 = .ok (.istore_n 3, 1) := by decide +kernel
theorem dX4_goTo_111 : decode cX4_goTo 111 = .ok (.iload_n 3, 1) := by decide +kernel
theorem dX4_goTo_112 : decode cX4_goTo 112 = .ok (.aload_n 0, 1) := by decide +kernel
theorem dX4_goTo_113 : decode cX4_goTo 113 = .ok (.getfield 43, 3) := by decide +kernel
theorem dX4_goTo_116 : decode cX4_goTo 116 = .ok (.getfield 87, 3) := by decide +kernel
theorem dX4_goTo_119 : decode cX4_goTo 119 = .ok (.invokeinterface 62 1, 5) := by decide +kernel
theorem dX4_goTo_124 : decode cX4_goTo 124 = .ok (.if_icmp .ge 42, 3) := by decide +kernel
theorem dX4_goTo_127 : decode cX4_goTo 127 = .ok (.aload_n 0, 1) := by decide +kernel
theorem dX4_goTo_128 : decode cX4_goTo 128 = .ok (.getfield 43, 3) := by decide +kernel
theorem dX4_goTo_131 : decode cX4_goTo 131 = .ok (.getfield 87, 3) := by decide +kernel
theorem dX4_goTo_134 : decode cX4_goTo 134 = .ok (.iload_n 3, 1) := by decide +kernel
theorem dX4_goTo_135 : decode cX4_goTo 135 = .ok (.invokeinterface 68 2, 5) := by decide +kernel
theorem dX4_goTo_140 : decode cX4_goTo 140 = .ok (.checkcast 92, 3) := by decide +kernel
theorem dX4_goTo_143 : decode cX4_goTo 143 = .ok (.astore 4, 2) := by decide +kernel
theorem dX4_goTo_145 : decode cX4_goTo 145 = .ok (.aload 4, 2) := by decide +kernel
theorem dX4_goTo_147 : decode cX4_goTo 147 = .ok (.iload_n 1, 1) := by decide +kernel
theorem dX4_goTo_148 : decode cX4_goTo 148 = .ok (.invokevirtual 94, 3) := by decide +kernel
theorem dX4_goTo_151 : decode cX4_goTo 151 = .ok (.ifCond .eq 9, 3) := by decide +kernel
theorem dX4_goTo_154 : decode cX4_goTo 154 = .ok (.aload_n 0, 1) := by decide +kernel
theorem dX4_goTo_155 : decode cX4_goTo 155 = .ok (.aload 4, 2) := by decide +kernel
theorem dX4_goTo_157 : decode cX4_goTo 157 = .ok (.invokevirtual 97, 3) := by decide +kernel
theorem dX4_goTo_160 : decode cX4_goTo 160 = .ok (.iinc 3 1, 3) := by decide +kernel
theorem dX4_goTo_163 : decode cX4_goTo 163 = .ok (.goto (-52), 3) := by decide +kernel
theorem dX4_goTo_166 : decode cX4_goTo 166 = .ok (.iconst 0, 1) := by decide +kernel
theorem dX4_goTo_167 : decode cX4_goTo 167 = .ok (.istore_n 3, 1) := by decide +kernel
theorem dX4_goTo_168 : decode cX4_goTo 168 = .ok (.iload_n 3, 1) := by decide +kernel
theorem dX4_goTo_169 : decode cX4_goTo 169 = .ok (.aload_n 0, 1) := by decide +kernel
theorem dX4_goTo_170 : decode cX4_goTo 170 = .ok (.getfield 43, 3) := by decide +kernel
theorem dX4_goTo_173 : decode cX4_goTo 173 = .ok (.getfield 101, 3) := by decide +kernel
theorem dX4_goTo_176 : decode cX4_goTo 176 = .ok (.invokeinterface 62 1, 5) := by decide +kernel
theorem dX4_goTo_181 : decode cX4_goTo 181 = .ok (.if_icmp .ge 63, 3) := by decide +kernel
theorem dX4_goTo_184 : decode cX4_goTo 184 = .ok (.aload_n 0, 1) := by decide +kernel
theorem dX4_goTo_185 : decode cX4_goTo 185 = .ok (.getfield 43, 3) := by decide +kernel
theorem dX4_goTo_188 : decode cX4_goTo 188 = .ok (.getfield 101, 3) := by decide +kernel
theorem dX4_goTo_191 : decode cX4_goTo 191 = .ok (.iload_n 3, 1) := by decide +kernel
theorem dX4_goTo_192 : decode cX4_goTo 192 = .ok (.invokeinterface 68 2, 5) := by decide +kernel
theorem dX4_goTo_197 : decode cX4_goTo 197 = .ok (.checkcast 104, 3) := by decide +kernel
theorem dX4_goTo_200 : decode cX4_goTo 200 = .ok (.astore 4, 2) := by decide +kernel
theorem dX4_goTo_202 : decode cX4_goTo 202 = .ok (.aload 4, 2) := by decide +kernel
theorem dX4_goTo_204 : decode cX4_goTo 204 = .ok (.getfield 106, 3) := by decide +kernel
theorem dX4_goTo_207 : decode cX4_goTo 207 = .ok (.iload_n 1, 1) := by decide +kernel
theorem dX4_goTo_208 : decode cX4_goTo 208 = .ok (.if_icmp .ge 30, 3) := by decide +kernel
theorem dX4_goTo_211 : decode cX4_goTo 211 = .ok (.aload 4, 2) := by decide +kernel
theorem dX4_goTo_213 : decode cX4_goTo 213 = .ok (.getfield 108, 3) := by decide +kernel
theorem dX4_goTo_216 : decode cX4_goTo 216 = .ok (.iconst (-1), 1) := by decide +kernel
theorem dX4_goTo_217 : decode cX4_goTo 217 = .ok (.if_icmp .eq 21, 3) := by decide +kernel
theorem dX4_goTo_220 : decode cX4_goTo 220 = .ok (.aload_n 0, 1) := by decide +kernel
theorem dX4_goTo_221 : decode cX4_goTo 221 = .ok (.getfield 29, 3) := by decide +kernel
theorem dX4_goTo_224 : decode cX4_goTo 224 = .ok (.bipush 7, 2) := by decide +kernel
theorem dX4_goTo_226 : decode cX4_goTo 226 = .ok (.aaload, 1) := by decide +kernel
theorem dX4_goTo_227 : decode cX4_goTo 227 = .ok (.aload 4, 2) := by decide +kernel
theorem dX4_goTo_229 : decode cX4_goTo 229 = .ok (.getfield 111, 3) := by decide +kernel
theorem dX4_goTo_232 : decode cX4_goTo 232 = .ok (.aload 4, 2) := by decide +kernel
theorem dX4_goTo_234 : decode cX4_goTo 234 = .ok (.getfield 108, 3) := by decide +kernel
theorem dX4_goTo_237 : decode cX4_goTo 237 = .ok (.iastore, 1) := by decide +kernel
theorem dX4_goTo_238 : decode cX4_goTo 238 = .ok (.iinc 3 1, 3) := by decide +kernel
theorem dX4_goTo_241 : decode cX4_goTo 241 = .ok (.goto (-73), 3) := by decide +kernel
theorem dX4_goTo_244 : decode cX4_goTo 244 = .ok (.return_, 1) := by decide +kernel
theorem dX4_isEmpty_0 : decode cX4_isEmpty 0 = .ok (.aload_n 0, 1) := by decide +kernel
theorem dX4_isEmpty_1 : decode cX4_isEmpty 1 = .ok (.getfield 11, 3) := by decide +kernel
theorem dX4_isEmpty_4 : decode cX4_isEmpty 4 = .ok (.iload_n 1, 1) := by decide +kernel
theorem dX4_isEmpty_5 : decode cX4_isEmpty 5 = .ok (.aaload, 1) := by decide +kernel
theorem dX4_isEmpty_6 : decode cX4_isEmpty 6 = .ok (.getfield 114, 3) := by decide +kernel
theorem dX4_isEmpty_9 : decode cX4_isEmpty 9 = .ok (.ifCond .ne 7, 3) := by decide +kernel
theorem dX4_isEmpty_12 : decode cX4_isEmpty 12 = .ok (.iconst 1, 1) := by decide +kernel
theorem dX4_isEmpty_13 : decode cX4_isEmpty 13 = .ok (.goto 4, 3) := by decide +kernel
theorem dX4_isEmpty_16 : decode cX4_isEmpty 16 = .ok (.iconst 0, 1) := by decide +kernel
theorem dX4_isEmpty_17 : decode cX4_isEmpty 17 = .ok (.ireturn, 1) := by decide +kernel
theorem dX4_faultOf_0 : decode cX4_faultOf 0 = .ok (.aload_n 0, 1) := by decide +kernel
theorem dX4_faultOf_1 : decode cX4_faultOf 1 = .ok (.iload_n 1, 1) := by decide +kernel
theorem dX4_faultOf_2 : decode cX4_faultOf 2 = .ok (.iconst 0, 1) := by decide +kernel
theorem dX4_faultOf_3 : decode cX4_faultOf 3 = .ok (.invokevirtual 117, 3) := by decide +kernel
theorem dX4_faultOf_6 : decode cX4_faultOf 6 = .ok (.ireturn, 1) := by decide +kernel
theorem dX4_numberOf_0 : decode cX4_numberOf 0 = .ok (.aload_n 0, 1) := by decide +kernel
theorem dX4_numberOf_1 : decode cX4_numberOf 1 = .ok (.iload_n 1, 1) := by decide +kernel
theorem dX4_numberOf_2 : decode cX4_numberOf 2 = .ok (.iconst 0, 1) := by decide +kernel
theorem dX4_numberOf_3 : decode cX4_numberOf 3 = .ok (.invokevirtual 117, 3) := by decide +kernel
theorem dX4_numberOf_6 : decode cX4_numberOf 6 = .ok (.ifCond .ne 12, 3) := by decide +kernel
theorem dX4_numberOf_9 : decode cX4_numberOf 9 = .ok (.aload_n 0, 1) := by decide +kernel
theorem dX4_numberOf_10 : decode cX4_numberOf 10 = .ok (.getfield 21, 3) := by decide +kernel
theorem dX4_numberOf_13 : decode cX4_numberOf 13 = .ok (.iload_n 1, 1) := by decide +kernel
theorem dX4_numberOf_14 : decode cX4_numberOf 14 = .ok (.iaload, 1) := by decide +kernel
theorem dX4_numberOf_15 : decode cX4_numberOf 15 = .ok (.goto 4, 3) := by decide +kernel
theorem dX4_numberOf_18 : decode cX4_numberOf 18 = .ok (.iconst 0, 1) := by decide +kernel
theorem dX4_numberOf_19 : decode cX4_numberOf 19 = .ok (.ireturn, 1) := by decide +kernel
theorem dX4_forgetFacts_0 : decode cX4_forgetFacts 0 = .ok (.iconst 0, 1) := by decide +kernel
theorem dX4_forgetFacts_1 : decode cX4_forgetFacts 1 = .ok (.istore_n 1, 1) := by decide +kernel
theorem dX4_forgetFacts_2 : decode cX4_forgetFacts 2 = .ok (.iload_n 1, 1) := by decide +kernel
theorem dX4_forgetFacts_3 : decode cX4_forgetFacts 3 = .ok (.iconst 4, 1) := by decide +kernel
theorem dX4_forgetFacts_4 : decode cX4_forgetFacts 4 = .ok (.if_icmp .ge 32, 3) := by decide +kernel
theorem dX4_forgetFacts_7 : decode cX4_forgetFacts 7 = .ok (.iconst 2, 1) := by decide +kernel
theorem dX4_forgetFacts_8 : decode cX4_forgetFacts 8 = .ok (.istore_n 2, 1) := by decide +kernel
theorem dX4_forgetFacts_9 : decode cX4_forgetFacts 9 = .ok (.iload_n 2, 1) := by decide +kernel
theorem dX4_forgetFacts_10 : decode cX4_forgetFacts 10 = .ok (.bipush 7, 2) := by decide +kernel
theorem dX4_forgetFacts_12 : decode cX4_forgetFacts 12 = .ok (.if_icmp .gt 18, 3) := by decide +kernel
theorem dX4_forgetFacts_15 : decode cX4_forgetFacts 15 = .ok (.aload_n 0, 1) := by decide +kernel
theorem dX4_forgetFacts_16 : decode cX4_forgetFacts 16 = .ok (.getfield 29, 3) := by decide +kernel
theorem dX4_forgetFacts_19 : decode cX4_forgetFacts 19 = .ok (.iload_n 2, 1) := by decide +kernel
theorem dX4_forgetFacts_20 : decode cX4_forgetFacts 20 = .ok (.aaload, 1) := by decide +kernel
theorem dX4_forgetFacts_21 : decode cX4_forgetFacts 21 = .ok (.iload_n 1, 1) := by decide +kernel
theorem dX4_forgetFacts_22 : decode cX4_forgetFacts 22 = .ok (.iconst 0, 1) := by decide +kernel
theorem dX4_forgetFacts_23 : decode cX4_forgetFacts 23 = .ok (.iastore, 1) := by decide +kernel
theorem dX4_forgetFacts_24 : decode cX4_forgetFacts 24 = .ok (.iinc 2 1, 3) := by decide +kernel
theorem dX4_forgetFacts_27 : decode cX4_forgetFacts 27 = .ok (.goto (-18), 3) := by decide +kernel
theorem dX4_forgetFacts_30 : decode cX4_forgetFacts 30 = .ok (.iinc 1 1, 3) := by decide +kernel
theorem dX4_forgetFacts_33 : decode cX4_forgetFacts 33 = .ok (.goto (-31), 3) := by decide +kernel
theorem dX4_forgetFacts_36 : decode cX4_forgetFacts 36 = .ok (.return_, 1) := by decide +kernel
theorem dX4_addBid_0 : decode cX4_addBid 0 = .ok (.aload_n 1, 1) := by decide +kernel
theorem dX4_addBid_1 : decode cX4_addBid 1 = .ok (.getfield 121, 3) := by decide +kernel
theorem dX4_addBid_4 : decode cX4_addBid 4 = .ok (.getfield 111, 3) := by decide +kernel
theorem dX4_addBid_7 : decode cX4_addBid 7 = .ok (.istore_n 2, 1) := by decide +kernel
theorem dX4_addBid_8 : decode cX4_addBid 8 = .ok (.aload_n 0, 1) := by decide +kernel
theorem dX4_addBid_9 : decode cX4_addBid 9 = .ok (.getfield 29, 3) := by decide +kernel
theorem dX4_addBid_12 : decode cX4_addBid 12 = .ok (.bipush 6, 2) := by decide +kernel
theorem dX4_addBid_14 : decode cX4_addBid 14 = .ok (.aaload, 1) := by decide +kernel
theorem dX4_addBid_15 : decode cX4_addBid 15 = .ok (.iload_n 2, 1) := by decide +kernel
theorem dX4_addBid_16 : decode cX4_addBid 16 = .ok (.dup2, 1) := by decide +kernel
theorem dX4_addBid_17 : decode cX4_addBid 17 = .ok (.iaload, 1) := by decide +kernel
theorem dX4_addBid_18 : decode cX4_addBid 18 = .ok (.iconst 1, 1) := by decide +kernel
theorem dX4_addBid_19 : decode cX4_addBid 19 = .ok (.iadd, 1) := by decide +kernel
theorem dX4_addBid_20 : decode cX4_addBid 20 = .ok (.iastore, 1) := by decide +kernel
theorem dX4_addBid_21 : decode cX4_addBid 21 = .ok (.aload_n 1, 1) := by decide +kernel
theorem dX4_addBid_22 : decode cX4_addBid 22 = .ok (.getfield 125, 3) := by decide +kernel
theorem dX4_addBid_25 : decode cX4_addBid 25 = .ok (.ifCond .eq 42, 3) := by decide +kernel
theorem dX4_addBid_28 : decode cX4_addBid 28 = .ok (.aload_n 0, 1) := by decide +kernel
theorem dX4_addBid_29 : decode cX4_addBid 29 = .ok (.getfield 29, 3) := by decide +kernel
theorem dX4_addBid_32 : decode cX4_addBid 32 = .ok (.iconst 2, 1) := by decide +kernel
theorem dX4_addBid_33 : decode cX4_addBid 33 = .ok (.aaload, 1) := by decide +kernel
theorem dX4_addBid_34 : decode cX4_addBid 34 = .ok (.iload_n 2, 1) := by decide +kernel
theorem dX4_addBid_35 : decode cX4_addBid 35 = .ok (.aload_n 0, 1) := by decide +kernel
theorem dX4_addBid_36 : decode cX4_addBid 36 = .ok (.getfield 29, 3) := by decide +kernel
theorem dX4_addBid_39 : decode cX4_addBid 39 = .ok (.iconst 2, 1) := by decide +kernel
theorem dX4_addBid_40 : decode cX4_addBid 40 = .ok (.aaload, 1) := by decide +kernel
theorem dX4_addBid_41 : decode cX4_addBid 41 = .ok (.iload_n 2, 1) := by decide +kernel
theorem dX4_addBid_42 : decode cX4_addBid 42 = .ok (.iaload, 1) := by decide +kernel
theorem dX4_addBid_43 : decode cX4_addBid 43 = .ok (.aload_n 1, 1) := by decide +kernel
theorem dX4_addBid_44 : decode cX4_addBid 44 = .ok (.getfield 129, 3) := by decide +kernel
theorem dX4_addBid_47 : decode cX4_addBid 47 = .ok (.invokestatic 132, 3) := by decide +kernel
theorem dX4_addBid_50 : decode cX4_addBid 50 = .ok (.iastore, 1) := by decide +kernel
theorem dX4_addBid_51 : decode cX4_addBid 51 = .ok (.aload_n 0, 1) := by decide +kernel
theorem dX4_addBid_52 : decode cX4_addBid 52 = .ok (.getfield 29, 3) := by decide +kernel
theorem dX4_addBid_55 : decode cX4_addBid 55 = .ok (.iconst 4, 1) := by decide +kernel
theorem dX4_addBid_56 : decode cX4_addBid 56 = .ok (.aaload, 1) := by decide +kernel
theorem dX4_addBid_57 : decode cX4_addBid 57 = .ok (.iload_n 2, 1) := by decide +kernel
theorem dX4_addBid_58 : decode cX4_addBid 58 = .ok (.dup2, 1) := by decide +kernel
theorem dX4_addBid_59 : decode cX4_addBid 59 = .ok (.iaload, 1) := by decide +kernel
theorem dX4_addBid_60 : decode cX4_addBid 60 = .ok (.aload_n 1, 1) := by decide +kernel
theorem dX4_addBid_61 : decode cX4_addBid 61 = .ok (.getfield 137, 3) := by decide +kernel
theorem dX4_addBid_64 : decode cX4_addBid 64 = .ok (.iadd, 1) := by decide +kernel
theorem dX4_addBid_65 : decode cX4_addBid 65 = .ok (.iastore, 1) := by decide +kernel
theorem dX4_addBid_66 : decode cX4_addBid 66 = .ok (.return_, 1) := by decide +kernel
theorem dX4_addBid_67 : decode cX4_addBid 67 = .ok (.aload_n 0, 1) := by decide +kernel
theorem dX4_addBid_68 : decode cX4_addBid 68 = .ok (.getfield 29, 3) := by decide +kernel
theorem dX4_addBid_71 : decode cX4_addBid 71 = .ok (.iconst 5, 1) := by decide +kernel
theorem dX4_addBid_72 : decode cX4_addBid 72 = .ok (.aaload, 1) := by decide +kernel
theorem dX4_addBid_73 : decode cX4_addBid 73 = .ok (.iload_n 2, 1) := by decide +kernel
theorem dX4_addBid_74 : decode cX4_addBid 74 = .ok (.iaload, 1) := by decide +kernel
theorem dX4_addBid_75 : decode cX4_addBid 75 = .ok (.ifCond .ne 7, 3) := by decide +kernel
theorem dX4_addBid_78 : decode cX4_addBid 78 = .ok (.iconst 1, 1) := by decide +kernel
theorem dX4_addBid_79 : decode cX4_addBid 79 = .ok (.goto 4, 3) := by decide +kernel
theorem dX4_addBid_82 : decode cX4_addBid 82 = .ok (.iconst 0, 1) := by decide +kernel
theorem dX4_addBid_83 : decode cX4_addBid 83 = .ok (.istore_n 3, 1) := by decide +kernel
theorem dX4_addBid_84 : decode cX4_addBid 84 = .ok (.aload_n 0, 1) := by decide +kernel
theorem dX4_addBid_85 : decode cX4_addBid 85 = .ok (.getfield 29, 3) := by decide +kernel
theorem dX4_addBid_88 : decode cX4_addBid 88 = .ok (.iconst 3, 1) := by decide +kernel
theorem dX4_addBid_89 : decode cX4_addBid 89 = .ok (.aaload, 1) := by decide +kernel
theorem dX4_addBid_90 : decode cX4_addBid 90 = .ok (.iload_n 2, 1) := by decide +kernel
theorem dX4_addBid_91 : decode cX4_addBid 91 = .ok (.iload_n 3, 1) := by decide +kernel
theorem dX4_addBid_92 : decode cX4_addBid 92 = .ok (.ifCond .eq 10, 3) := by decide +kernel
theorem dX4_addBid_95 : decode cX4_addBid 95 = .ok (.aload_n 1, 1) := by decide +kernel
theorem dX4_addBid_96 : decode cX4_addBid 96 = .ok (.getfield 129, 3) := by decide +kernel
theorem dX4_addBid_99 : decode cX4_addBid 99 = .ok (.goto 18, 3) := by decide +kernel
theorem dX4_addBid_102 : decode cX4_addBid 102 = .ok (.aload_n 0, 1) := by decide +kernel
theorem dX4_addBid_103 : decode cX4_addBid 103 = .ok (.getfield 29, 3) := by decide +kernel
theorem dX4_addBid_106 : decode cX4_addBid 106 = .ok (.iconst 3, 1) := by decide +kernel
theorem dX4_addBid_107 : decode cX4_addBid 107 = .ok (.aaload, 1) := by decide +kernel
theorem dX4_addBid_108 : decode cX4_addBid 108 = .ok (.iload_n 2, 1) := by decide +kernel
theorem dX4_addBid_109 : decode cX4_addBid 109 = .ok (.iaload, 1) := by decide +kernel
theorem dX4_addBid_110 : decode cX4_addBid 110 = .ok (.aload_n 1, 1) := by decide +kernel
theorem dX4_addBid_111 : decode cX4_addBid 111 = .ok (.getfield 129, 3) := by decide +kernel
theorem dX4_addBid_114 : decode cX4_addBid 114 = .ok (.invokestatic 138, 3) := by decide +kernel
theorem dX4_addBid_117 : decode cX4_addBid 117 = .ok (.iastore, 1) := by decide +kernel
theorem dX4_addBid_118 : decode cX4_addBid 118 = .ok (.aload_n 0, 1) := by decide +kernel
theorem dX4_addBid_119 : decode cX4_addBid 119 = .ok (.getfield 29, 3) := by decide +kernel
theorem dX4_addBid_122 : decode cX4_addBid 122 = .ok (.iconst 5, 1) := by decide +kernel
theorem dX4_addBid_123 : decode cX4_addBid 123 = .ok (.aaload, 1) := by decide +kernel
theorem dX4_addBid_124 : decode cX4_addBid 124 = .ok (.iload_n 2, 1) := by decide +kernel
theorem dX4_addBid_125 : decode cX4_addBid 125 = .ok (.dup2, 1) := by decide +kernel
theorem dX4_addBid_126 : decode cX4_addBid 126 = .ok (.iaload, 1) := by decide +kernel
theorem dX4_addBid_127 : decode cX4_addBid 127 = .ok (.aload_n 1, 1) := by decide +kernel
theorem dX4_addBid_128 : decode cX4_addBid 128 = .ok (.getfield 137, 3) := by decide +kernel
theorem dX4_addBid_131 : decode cX4_addBid 131 = .ok (.iadd, 1) := by decide +kernel
theorem dX4_addBid_132 : decode cX4_addBid 132 = .ok (.iastore, 1) := by decide +kernel
theorem dX4_addBid_133 : decode cX4_addBid 133 = .ok (.return_, 1) := by decide +kernel
theorem dX4_find_0 : decode cX4_find 0 = .ok (.aload_n 0, 1) := by decide +kernel
theorem dX4_find_1 : decode cX4_find 1 = .ok (.getfield 17, 3) := by decide +kernel
theorem dX4_find_4 : decode cX4_find 4 = .ok (.iload_n 1, 1) := by decide +kernel
theorem dX4_find_5 : decode cX4_find 5 = .ok (.iaload, 1) := by decide +kernel
theorem dX4_find_6 : decode cX4_find 6 = .ok (.iconst 2, 1) := by decide +kernel
theorem dX4_find_7 : decode cX4_find 7 = .ok (.if_icmp .ne 10, 3) := by decide +kernel
theorem dX4_find_10 : decode cX4_find 10 = .ok (.aload_n 0, 1) := by decide +kernel
theorem dX4_find_11 : decode cX4_find 11 = .ok (.getfield 24, 3) := by decide +kernel
theorem dX4_find_14 : decode cX4_find 14 = .ok (.iload_n 1, 1) := by decide +kernel
theorem dX4_find_15 : decode cX4_find 15 = .ok (.iaload, 1) := by decide +kernel
theorem dX4_find_16 : decode cX4_find 16 = .ok (.ireturn, 1) := by decide +kernel
theorem dX4_find_17 : decode cX4_find 17 = .ok (.aload_n 0, 1) := by decide +kernel
theorem dX4_find_18 : decode cX4_find 18 = .ok (.getfield 17, 3) := by decide +kernel
theorem dX4_find_21 : decode cX4_find 21 = .ok (.iload_n 1, 1) := by decide +kernel
theorem dX4_find_22 : decode cX4_find 22 = .ok (.iaload, 1) := by decide +kernel
theorem dX4_find_23 : decode cX4_find 23 = .ok (.iconst 1, 1) := by decide +kernel
theorem dX4_find_24 : decode cX4_find 24 = .ok (.if_icmp .eq 9, 3) := by decide +kernel
theorem dX4_find_27 : decode cX4_find 27 = .ok (.iload_n 2, 1) := by decide +kernel
theorem dX4_find_28 : decode cX4_find 28 = .ok (.bipush 24, 2) := by decide +kernel
theorem dX4_find_30 : decode cX4_find 30 = .ok (.if_icmp .lt 5, 3) := by decide +kernel
theorem dX4_find_33 : decode cX4_find 33 = .ok (.iconst 2, 1) := by decide +kernel
theorem dX4_find_34 : decode cX4_find 34 = .ok (.ireturn, 1) := by decide +kernel
theorem dX4_find_35 : decode cX4_find 35 = .ok (.aload_n 0, 1) := by decide +kernel
theorem dX4_find_36 : decode cX4_find 36 = .ok (.getfield 17, 3) := by decide +kernel
theorem dX4_find_39 : decode cX4_find 39 = .ok (.iload_n 1, 1) := by decide +kernel
theorem dX4_find_40 : decode cX4_find 40 = .ok (.iconst 1, 1) := by decide +kernel
theorem dX4_find_41 : decode cX4_find 41 = .ok (.iastore, 1) := by decide +kernel
theorem dX4_find_42 : decode cX4_find 42 = .ok (.aload_n 0, 1) := by decide +kernel
theorem dX4_find_43 : decode cX4_find 43 = .ok (.iconst 0, 1) := by decide +kernel
theorem dX4_find_44 : decode cX4_find 44 = .ok (.putfield 35, 3) := by decide +kernel
theorem dX4_find_47 : decode cX4_find 47 = .ok (.aload_n 0, 1) := by decide +kernel
theorem dX4_find_48 : decode cX4_find 48 = .ok (.getfield 24, 3) := by decide +kernel
theorem dX4_find_51 : decode cX4_find 51 = .ok (.iload_n 1, 1) := by decide +kernel
theorem dX4_find_52 : decode cX4_find 52 = .ok (.aload_n 0, 1) := by decide +kernel
theorem dX4_find_53 : decode cX4_find 53 = .ok (.aload_n 0, 1) := by decide +kernel
theorem dX4_find_54 : decode cX4_find 54 = .ok (.getfield 11, 3) := by decide +kernel
theorem dX4_find_57 : decode cX4_find 57 = .ok (.iload_n 1, 1) := by decide +kernel
theorem dX4_find_58 : decode cX4_find 58 = .ok (.aaload, 1) := by decide +kernel
theorem dX4_find_59 : decode cX4_find 59 = .ok (.iload_n 1, 1) := by decide +kernel
theorem dX4_find_60 : decode cX4_find 60 = .ok (.iload_n 2, 1) := by decide +kernel
theorem dX4_find_61 : decode cX4_find 61 = .ok (.invokevirtual 141, 3) := by decide +kernel
theorem dX4_find_64 : decode cX4_find 64 = .ok (.iastore, 1) := by decide +kernel
theorem dX4_find_65 : decode cX4_find 65 = .ok (.aload_n 0, 1) := by decide +kernel
theorem dX4_find_66 : decode cX4_find 66 = .ok (.getfield 21, 3) := by decide +kernel
theorem dX4_find_69 : decode cX4_find 69 = .ok (.iload_n 1, 1) := by decide +kernel
theorem dX4_find_70 : decode cX4_find 70 = .ok (.aload_n 0, 1) := by decide +kernel
theorem dX4_find_71 : decode cX4_find 71 = .ok (.getfield 35, 3) := by decide +kernel
theorem dX4_find_74 : decode cX4_find 74 = .ok (.iastore, 1) := by decide +kernel
theorem dX4_find_75 : decode cX4_find 75 = .ok (.aload_n 0, 1) := by decide +kernel
theorem dX4_find_76 : decode cX4_find 76 = .ok (.getfield 17, 3) := by decide +kernel
theorem dX4_find_79 : decode cX4_find 79 = .ok (.iload_n 1, 1) := by decide +kernel
theorem dX4_find_80 : decode cX4_find 80 = .ok (.iconst 2, 1) := by decide +kernel
theorem dX4_find_81 : decode cX4_find 81 = .ok (.iastore, 1) := by decide +kernel
theorem dX4_find_82 : decode cX4_find 82 = .ok (.aload_n 0, 1) := by decide +kernel
theorem dX4_find_83 : decode cX4_find 83 = .ok (.getfield 24, 3) := by decide +kernel
theorem dX4_find_86 : decode cX4_find 86 = .ok (.iload_n 1, 1) := by decide +kernel
theorem dX4_find_87 : decode cX4_find 87 = .ok (.iaload, 1) := by decide +kernel
theorem dX4_find_88 : decode cX4_find 88 = .ok (.ireturn, 1) := by decide +kernel
theorem dX4_goThrough_0 : decode cX4_goThrough 0 = .ok (.iload_n 3, 1) := by decide +kernel
theorem dX4_goThrough_1 : decode cX4_goThrough 1 = .ok (.bipush 12, 2) := by decide +kernel
theorem dX4_goThrough_3 : decode cX4_goThrough 3 = .ok (.imul, 1) := by decide +kernel
theorem dX4_goThrough_4 : decode cX4_goThrough 4 = .ok (.istore 4, 2) := by decide +kernel
theorem dX4_goThrough_6 : decode cX4_goThrough 6 = .ok (.iconst 0, 1) := by decide +kernel
theorem dX4_goThrough_7 : decode cX4_goThrough 7 = .ok (.istore 5, 2) := by decide +kernel
theorem dX4_goThrough_9 : decode cX4_goThrough 9 = .ok (.iload 5, 2) := by decide +kernel
theorem dX4_goThrough_11 : decode cX4_goThrough 11 = .ok (.aload_n 1, 1) := by decide +kernel
theorem dX4_goThrough_12 : decode cX4_goThrough 12 = .ok (.getfield 114, 3) := by decide +kernel
theorem dX4_goThrough_15 : decode cX4_goThrough 15 = .ok (.if_icmp .ge 158, 3) := by decide +kernel
theorem dX4_goThrough_18 : decode cX4_goThrough 18 = .ok (.aload_n 1, 1) := by decide +kernel
theorem dX4_goThrough_19 : decode cX4_goThrough 19 = .ok (.getfield 145, 3) := by decide +kernel
theorem dX4_goThrough_22 : decode cX4_goThrough 22 = .ok (.iload 5, 2) := by decide +kernel
theorem dX4_goThrough_24 : decode cX4_goThrough 24 = .ok (.iaload, 1) := by decide +kernel
theorem dX4_goThrough_25 : decode cX4_goThrough 25 = .ok (.istore 6, 2) := by decide +kernel
theorem dX4_goThrough_27 : decode cX4_goThrough 27 = .ok (.iload 4, 2) := by decide +kernel
theorem dX4_goThrough_29 : decode cX4_goThrough 29 = .ok (.iload 6, 2) := by decide +kernel
theorem dX4_goThrough_31 : decode cX4_goThrough 31 = .ok (.invokestatic 148, 3) := by decide +kernel
theorem dX4_goThrough_34 : decode cX4_goThrough 34 = .ok (.isub, 1) := by decide +kernel
theorem dX4_goThrough_35 : decode cX4_goThrough 35 = .ok (.istore 4, 2) := by decide +kernel
theorem dX4_goThrough_37 : decode cX4_goThrough 37 = .ok (.iload 4, 2) := by decide +kernel
theorem dX4_goThrough_39 : decode cX4_goThrough 39 = .ok (.ifCond .lt 11, 3) := by decide +kernel
theorem dX4_goThrough_42 : decode cX4_goThrough 42 = .ok (.iload 4, 2) := by decide +kernel
theorem dX4_goThrough_44 : decode cX4_goThrough 44 = .ok (.sipush 288, 3) := by decide +kernel
theorem dX4_goThrough_47 : decode cX4_goThrough 47 = .ok (.if_icmp .lt 5, 3) := by decide +kernel
theorem dX4_goThrough_50 : decode cX4_goThrough 50 = .ok (.iconst 4, 1) := by decide +kernel
theorem dX4_goThrough_51 : decode cX4_goThrough 51 = .ok (.ireturn, 1) := by decide +kernel
theorem dX4_goThrough_52 : decode cX4_goThrough 52 = .ok (.iload 6, 2) := by decide +kernel
theorem dX4_goThrough_54 : decode cX4_goThrough 54 = .ok (.iconst 1, 1) := by decide +kernel
theorem dX4_goThrough_55 : decode cX4_goThrough 55 = .ok (.if_icmp .eq 23, 3) := by decide +kernel
theorem dX4_goThrough_58 : decode cX4_goThrough 58 = .ok (.aload_n 0, 1) := by decide +kernel
theorem dX4_goThrough_59 : decode cX4_goThrough 59 = .ok (.iload 6, 2) := by decide +kernel
theorem dX4_goThrough_61 : decode cX4_goThrough 61 = .ok (.aload_n 1, 1) := by decide +kernel
theorem dX4_goThrough_62 : decode cX4_goThrough 62 = .ok (.getfield 152, 3) := by decide +kernel
theorem dX4_goThrough_65 : decode cX4_goThrough 65 = .ok (.iload 5, 2) := by decide +kernel
theorem dX4_goThrough_67 : decode cX4_goThrough 67 = .ok (.iaload, 1) := by decide +kernel
theorem dX4_goThrough_68 : decode cX4_goThrough 68 = .ok (.iload 4, 2) := by decide +kernel
theorem dX4_goThrough_70 : decode cX4_goThrough 70 = .ok (.invokevirtual 155, 3) := by decide +kernel
theorem dX4_goThrough_73 : decode cX4_goThrough 73 = .ok (.istore 7, 2) := by decide +kernel
theorem dX4_goThrough_75 : decode cX4_goThrough 75 = .ok (.goto 70, 3) := by decide +kernel
theorem dX4_goThrough_78 : decode cX4_goThrough 78 = .ok (.aload_n 1, 1) := by decide +kernel
theorem dX4_goThrough_79 : decode cX4_goThrough 79 = .ok (.getfield 152, 3) := by decide +kernel
theorem dX4_goThrough_82 : decode cX4_goThrough 82 = .ok (.iload 5, 2) := by decide +kernel
theorem dX4_goThrough_84 : decode cX4_goThrough 84 = .ok (.iaload, 1) := by decide +kernel
theorem dX4_goThrough_85 : decode cX4_goThrough 85 = .ok (.bipush 6, 2) := by decide +kernel
theorem dX4_goThrough_87 : decode cX4_goThrough 87 = .ok (.imul, 1) := by decide +kernel
theorem dX4_goThrough_88 : decode cX4_goThrough 88 = .ok (.aload_n 1, 1) := by decide +kernel
theorem dX4_goThrough_89 : decode cX4_goThrough 89 = .ok (.getfield 159, 3) := by decide +kernel
theorem dX4_goThrough_92 : decode cX4_goThrough 92 = .ok (.iload 5, 2) := by decide +kernel
theorem dX4_goThrough_94 : decode cX4_goThrough 94 = .ok (.iaload, 1) := by decide +kernel
theorem dX4_goThrough_95 : decode cX4_goThrough 95 = .ok (.iadd, 1) := by decide +kernel
theorem dX4_goThrough_96 : decode cX4_goThrough 96 = .ok (.istore 8, 2) := by decide +kernel
theorem dX4_goThrough_98 : decode cX4_goThrough 98 = .ok (.aload_n 0, 1) := by decide +kernel
theorem dX4_goThrough_99 : decode cX4_goThrough 99 = .ok (.getfield 53, 3) := by decide +kernel
theorem dX4_goThrough_102 : decode cX4_goThrough 102 = .ok (.aload_n 0, 1) := by decide +kernel
theorem dX4_goThrough_103 : decode cX4_goThrough 103 = .ok (.getfield 53, 3) := by decide +kernel
theorem dX4_goThrough_106 : decode cX4_goThrough 106 = .ok (.getfield 162, 3) := by decide +kernel
theorem dX4_goThrough_109 : decode cX4_goThrough 109 = .ok (.iload_n 2, 1) := by decide +kernel
theorem dX4_goThrough_110 : decode cX4_goThrough 110 = .ok (.iaload, 1) := by decide +kernel
theorem dX4_goThrough_111 : decode cX4_goThrough 111 = .ok (.iload 8, 2) := by decide +kernel
theorem dX4_goThrough_113 : decode cX4_goThrough 113 = .ok (.invokevirtual 167, 3) := by decide +kernel
theorem dX4_goThrough_116 : decode cX4_goThrough 116 = .ok (.ifCond .eq 15, 3) := by decide +kernel
theorem dX4_goThrough_119 : decode cX4_goThrough 119 = .ok (.aload_n 0, 1) := by decide +kernel
theorem dX4_goThrough_120 : decode cX4_goThrough 120 = .ok (.iload 8, 2) := by decide +kernel
theorem dX4_goThrough_122 : decode cX4_goThrough 122 = .ok (.iload_n 3, 1) := by decide +kernel
theorem dX4_goThrough_123 : decode cX4_goThrough 123 = .ok (.iconst 1, 1) := by decide +kernel
theorem dX4_goThrough_124 : decode cX4_goThrough 124 = .ok (.iadd, 1) := by decide +kernel
theorem dX4_goThrough_125 : decode cX4_goThrough 125 = .ok (.invokevirtual 117, 3) := by decide +kernel
theorem dX4_goThrough_128 : decode cX4_goThrough 128 = .ok (.goto 4, 3) := by decide +kernel
theorem dX4_goThrough_131 : decode cX4_goThrough 131 = .ok (.iconst 1, 1) := by decide +kernel
theorem dX4_goThrough_132 : decode cX4_goThrough 132 = .ok (.istore 7, 2) := by decide +kernel
theorem dX4_goThrough_134 : decode cX4_goThrough 134 = .ok (.aload_n 0, 1) := by decide +kernel
theorem dX4_goThrough_135 : decode cX4_goThrough 135 = .ok (.aload_n 0, 1) := by decide +kernel
theorem dX4_goThrough_136 : decode cX4_goThrough 136 = .ok (.getfield 21, 3) := by decide +kernel
theorem dX4_goThrough_139 : decode cX4_goThrough 139 = .ok (.iload 8, 2) := by decide +kernel
theorem dX4_goThrough_141 : decode cX4_goThrough 141 = .ok (.iaload, 1) := by decide +kernel
theorem dX4_goThrough_142 : decode cX4_goThrough 142 = .ok (.putfield 35, 3) := by decide +kernel
theorem dX4_goThrough_145 : decode cX4_goThrough 145 = .ok (.iload 7, 2) := by decide +kernel
theorem dX4_goThrough_147 : decode cX4_goThrough 147 = .ok (.ifCond .eq 6, 3) := by decide +kernel
theorem dX4_goThrough_150 : decode cX4_goThrough 150 = .ok (.iload 7, 2) := by decide +kernel
theorem dX4_goThrough_152 : decode cX4_goThrough 152 = .ok (.ireturn, 1) := by decide +kernel
theorem dX4_goThrough_153 : decode cX4_goThrough 153 = .ok (.aload_n 0, 1) := by decide +kernel
theorem dX4_goThrough_154 : decode cX4_goThrough 154 = .ok (.getfield 32, 3) := by decide +kernel
theorem dX4_goThrough_157 : decode cX4_goThrough 157 = .ok (.iload 4, 2) := by decide +kernel
theorem dX4_goThrough_159 : decode cX4_goThrough 159 = .ok (.aload_n 0, 1) := by decide +kernel
theorem dX4_goThrough_160 : decode cX4_goThrough 160 = .ok (.getfield 35, 3) := by decide +kernel
theorem dX4_goThrough_163 : decode cX4_goThrough 163 = .ok (.iastore, 1) := by decide +kernel
theorem dX4_goThrough_164 : decode cX4_goThrough 164 = .ok (.iinc 4 1, 3) := by decide +kernel
theorem dX4_goThrough_167 : decode cX4_goThrough 167 = .ok (.iinc 5 1, 3) := by decide +kernel
theorem dX4_goThrough_170 : decode cX4_goThrough 170 = .ok (.goto (-161), 3) := by decide +kernel
theorem dX4_goThrough_173 : decode cX4_goThrough 173 = .ok (.iconst 0, 1) := by decide +kernel
theorem dX4_goThrough_174 : decode cX4_goThrough 174 = .ok (.ireturn, 1) := by decide +kernel
theorem dX4_reckonWord_0 : decode cX4_reckonWord 0 = .ok (.aload_n 0, 1) := by decide +kernel
theorem dX4_reckonWord_1 : decode cX4_reckonWord 1 = .ok (.getfield 32, 3) := by decide +kernel
theorem dX4_reckonWord_4 : decode cX4_reckonWord 4 = .ok (.iload_n 3, 1) := by decide +kernel
theorem dX4_reckonWord_5 : decode cX4_reckonWord 5 = .ok (.iaload, 1) := by decide +kernel
theorem dX4_reckonWord_6 : decode cX4_reckonWord 6 = .ok (.i2l, 1) := by decide +kernel
theorem dX4_reckonWord_7 : decode cX4_reckonWord 7 = .ok (.lstore 4, 2) := by decide +kernel
theorem dX4_reckonWord_9 : decode cX4_reckonWord 9 = .ok (.aload_n 0, 1) := by decide +kernel
theorem dX4_reckonWord_10 : decode cX4_reckonWord 10 = .ok (.getfield 32, 3) := by decide +kernel
theorem dX4_reckonWord_13 : decode cX4_reckonWord 13 = .ok (.iload_n 3, 1) := by decide +kernel
theorem dX4_reckonWord_14 : decode cX4_reckonWord 14 = .ok (.iconst 1, 1) := by decide +kernel
theorem dX4_reckonWord_15 : decode cX4_reckonWord 15 = .ok (.iadd, 1) := by decide +kernel
theorem dX4_reckonWord_16 : decode cX4_reckonWord 16 = .ok (.iaload, 1) := by decide +kernel
theorem dX4_reckonWord_17 : decode cX4_reckonWord 17 = .ok (.i2l, 1) := by decide +kernel
theorem dX4_reckonWord_18 : decode cX4_reckonWord 18 = .ok (.lstore 6, 2) := by decide +kernel
theorem dX4_reckonWord_20 : decode cX4_reckonWord 20 = .ok (.aload_n 0, 1) := by decide +kernel
theorem dX4_reckonWord_21 : decode cX4_reckonWord 21 = .ok (.getfield 32, 3) := by decide +kernel
theorem dX4_reckonWord_24 : decode cX4_reckonWord 24 = .ok (.iload_n 3, 1) := by decide +kernel
theorem dX4_reckonWord_25 : decode cX4_reckonWord 25 = .ok (.iconst 2, 1) := by decide +kernel
theorem dX4_reckonWord_26 : decode cX4_reckonWord 26 = .ok (.iadd, 1) := by decide +kernel
theorem dX4_reckonWord_27 : decode cX4_reckonWord 27 = .ok (.iaload, 1) := by decide +kernel
theorem dX4_reckonWord_28 : decode cX4_reckonWord 28 = .ok (.i2l, 1) := by decide +kernel
theorem dX4_reckonWord_29 : decode cX4_reckonWord 29 = .ok (.lstore 8, 2) := by decide +kernel
theorem dX4_reckonWord_31 : decode cX4_reckonWord 31 = .ok (.iload_n 1, 1) := by decide +kernel
theorem dX4_reckonWord_32 : decode cX4_reckonWord 32 = .ok (.tableswitch 191 0 14 #[76, 191, 191, 191, 191, 191, 191, 191, 83, 93, 103, 113, 132, 152, 172], 76) := by decide +kernel
theorem dX4_reckonWord_108 : decode cX4_reckonWord 108 = .ok (.iload_n 2, 1) := by decide +kernel
theorem dX4_reckonWord_109 : decode cX4_reckonWord 109 = .ok (.i2l, 1) := by decide +kernel
theorem dX4_reckonWord_110 : decode cX4_reckonWord 110 = .ok (.lstore 10, 2) := by decide +kernel
theorem dX4_reckonWord_112 : decode cX4_reckonWord 112 = .ok (.goto 122, 3) := by decide +kernel
theorem dX4_reckonWord_115 : decode cX4_reckonWord 115 = .ok (.lload 4, 2) := by decide +kernel
theorem dX4_reckonWord_117 : decode cX4_reckonWord 117 = .ok (.lload 6, 2) := by decide +kernel
theorem dX4_reckonWord_119 : decode cX4_reckonWord 119 = .ok (.ladd, 1) := by decide +kernel
theorem dX4_reckonWord_120 : decode cX4_reckonWord 120 = .ok (.lstore 10, 2) := by decide +kernel
theorem dX4_reckonWord_122 : decode cX4_reckonWord 122 = .ok (.goto 112, 3) := by decide +kernel
theorem dX4_reckonWord_125 : decode cX4_reckonWord 125 = .ok (.lload 4, 2) := by decide +kernel
theorem dX4_reckonWord_127 : decode cX4_reckonWord 127 = .ok (.lload 6, 2) := by decide +kernel
theorem dX4_reckonWord_129 : decode cX4_reckonWord 129 = .ok (.lsub, 1) := by decide +kernel
theorem dX4_reckonWord_130 : decode cX4_reckonWord 130 = .ok (.lstore 10, 2) := by decide +kernel
theorem dX4_reckonWord_132 : decode cX4_reckonWord 132 = .ok (.goto 102, 3) := by decide +kernel
theorem dX4_reckonWord_135 : decode cX4_reckonWord 135 = .ok (.lload 4, 2) := by decide +kernel
theorem dX4_reckonWord_137 : decode cX4_reckonWord 137 = .ok (.lload 6, 2) := by decide +kernel
theorem dX4_reckonWord_139 : decode cX4_reckonWord 139 = .ok (.lmul, 1) := by decide +kernel
theorem dX4_reckonWord_140 : decode cX4_reckonWord 140 = .ok (.lstore 10, 2) := by decide +kernel
theorem dX4_reckonWord_142 : decode cX4_reckonWord 142 = .ok (.goto 92, 3) := by decide +kernel
theorem dX4_reckonWord_145 : decode cX4_reckonWord 145 = .ok (.lload 6, 2) := by decide +kernel
theorem dX4_reckonWord_147 : decode cX4_reckonWord 147 = .ok (.lconst 0, 1) := by decide +kernel
theorem dX4_reckonWord_148 : decode cX4_reckonWord 148 = .ok (.lcmp, 1) := by decide +kernel
theorem dX4_reckonWord_149 : decode cX4_reckonWord 149 = .ok (.ifCond .ne 5, 3) := by decide +kernel
theorem dX4_reckonWord_152 : decode cX4_reckonWord 152 = .ok (.iconst 3, 1) := by decide +kernel
theorem dX4_reckonWord_153 : decode cX4_reckonWord 153 = .ok (.ireturn, 1) := by decide +kernel
theorem dX4_reckonWord_154 : decode cX4_reckonWord 154 = .ok (.lload 4, 2) := by decide +kernel
theorem dX4_reckonWord_156 : decode cX4_reckonWord 156 = .ok (.lload 6, 2) := by decide +kernel
theorem dX4_reckonWord_158 : decode cX4_reckonWord 158 = .ok (.ldiv, 1) := by decide +kernel
theorem dX4_reckonWord_159 : decode cX4_reckonWord 159 = .ok (.lstore 10, 2) := by decide +kernel
theorem dX4_reckonWord_161 : decode cX4_reckonWord 161 = .ok (.goto 73, 3) := by decide +kernel
theorem dX4_reckonWord_164 : decode cX4_reckonWord 164 = .ok (.lload 4, 2) := by decide +kernel
theorem dX4_reckonWord_166 : decode cX4_reckonWord 166 = .ok (.lload 6, 2) := by decide +kernel
theorem dX4_reckonWord_168 : decode cX4_reckonWord 168 = .ok (.lcmp, 1) := by decide +kernel
theorem dX4_reckonWord_169 : decode cX4_reckonWord 169 = .ok (.ifCond .ge 8, 3) := by decide +kernel
theorem dX4_reckonWord_172 : decode cX4_reckonWord 172 = .ok (.lload 4, 2) := by decide +kernel
theorem dX4_reckonWord_174 : decode cX4_reckonWord 174 = .ok (.goto 5, 3) := by decide +kernel
theorem dX4_reckonWord_177 : decode cX4_reckonWord 177 = .ok (.lload 6, 2) := by decide +kernel
theorem dX4_reckonWord_179 : decode cX4_reckonWord 179 = .ok (.lstore 10, 2) := by decide +kernel
theorem dX4_reckonWord_181 : decode cX4_reckonWord 181 = .ok (.goto 53, 3) := by decide +kernel
theorem dX4_reckonWord_184 : decode cX4_reckonWord 184 = .ok (.lload 4, 2) := by decide +kernel
theorem dX4_reckonWord_186 : decode cX4_reckonWord 186 = .ok (.lload 6, 2) := by decide +kernel
theorem dX4_reckonWord_188 : decode cX4_reckonWord 188 = .ok (.lcmp, 1) := by decide +kernel
theorem dX4_reckonWord_189 : decode cX4_reckonWord 189 = .ok (.ifCond .le 8, 3) := by decide +kernel
theorem dX4_reckonWord_192 : decode cX4_reckonWord 192 = .ok (.lload 4, 2) := by decide +kernel
theorem dX4_reckonWord_194 : decode cX4_reckonWord 194 = .ok (.goto 5, 3) := by decide +kernel
theorem dX4_reckonWord_197 : decode cX4_reckonWord 197 = .ok (.lload 6, 2) := by decide +kernel
theorem dX4_reckonWord_199 : decode cX4_reckonWord 199 = .ok (.lstore 10, 2) := by decide +kernel
theorem dX4_reckonWord_201 : decode cX4_reckonWord 201 = .ok (.goto 33, 3) := by decide +kernel
theorem dX4_reckonWord_204 : decode cX4_reckonWord 204 = .ok (.lload 4, 2) := by decide +kernel
theorem dX4_reckonWord_206 : decode cX4_reckonWord 206 = .ok (.lconst 0, 1) := by decide +kernel
theorem dX4_reckonWord_207 : decode cX4_reckonWord 207 = .ok (.lcmp, 1) := by decide +kernel
theorem dX4_reckonWord_208 : decode cX4_reckonWord 208 = .ok (.ifCond .le 8, 3) := by decide +kernel
theorem dX4_reckonWord_211 : decode cX4_reckonWord 211 = .ok (.lload 6, 2) := by decide +kernel
theorem dX4_reckonWord_213 : decode cX4_reckonWord 213 = .ok (.goto 5, 3) := by decide +kernel
theorem dX4_reckonWord_216 : decode cX4_reckonWord 216 = .ok (.lload 8, 2) := by decide +kernel
theorem dX4_reckonWord_218 : decode cX4_reckonWord 218 = .ok (.lstore 10, 2) := by decide +kernel
theorem dX4_reckonWord_220 : decode cX4_reckonWord 220 = .ok (.goto 14, 3) := by decide +kernel
theorem dX4_reckonWord_223 : decode cX4_reckonWord 223 = .ok (.aload_n 0, 1) := by decide +kernel
theorem dX4_reckonWord_224 : decode cX4_reckonWord 224 = .ok (.getfield 29, 3) := by decide +kernel
theorem dX4_reckonWord_227 : decode cX4_reckonWord 227 = .ok (.iload_n 1, 1) := by decide +kernel
theorem dX4_reckonWord_228 : decode cX4_reckonWord 228 = .ok (.aaload, 1) := by decide +kernel
theorem dX4_reckonWord_229 : decode cX4_reckonWord 229 = .ok (.iload_n 2, 1) := by decide +kernel
theorem dX4_reckonWord_230 : decode cX4_reckonWord 230 = .ok (.iaload, 1) := by decide +kernel
theorem dX4_reckonWord_231 : decode cX4_reckonWord 231 = .ok (.i2l, 1) := by decide +kernel
theorem dX4_reckonWord_232 : decode cX4_reckonWord 232 = .ok (.lstore 10, 2) := by decide +kernel
theorem dX4_reckonWord_234 : decode cX4_reckonWord 234 = .ok (.lload 10, 2) := by decide +kernel
theorem dX4_reckonWord_236 : decode cX4_reckonWord 236 = .ok (.ldc2_w 171, 3) := by decide +kernel
theorem dX4_reckonWord_239 : decode cX4_reckonWord 239 = .ok (.lcmp, 1) := by decide +kernel
theorem dX4_reckonWord_240 : decode cX4_reckonWord 240 = .ok (.ifCond .lt 12, 3) := by decide +kernel
theorem dX4_reckonWord_243 : decode cX4_reckonWord 243 = .ok (.lload 10, 2) := by decide +kernel
theorem dX4_reckonWord_245 : decode cX4_reckonWord 245 = .ok (.ldc2_w 173, 3) := by decide +kernel
theorem dX4_reckonWord_248 : decode cX4_reckonWord 248 = .ok (.lcmp, 1) := by decide +kernel
theorem dX4_reckonWord_249 : decode cX4_reckonWord 249 = .ok (.ifCond .le 5, 3) := by decide +kernel
theorem dX4_reckonWord_252 : decode cX4_reckonWord 252 = .ok (.iconst 4, 1) := by decide +kernel
theorem dX4_reckonWord_253 : decode cX4_reckonWord 253 = .ok (.ireturn, 1) := by decide +kernel
theorem dX4_reckonWord_254 : decode cX4_reckonWord 254 = .ok (.aload_n 0, 1) := by decide +kernel
theorem dX4_reckonWord_255 : decode cX4_reckonWord 255 = .ok (.lload 10, 2) := by decide +kernel
theorem dX4_reckonWord_257 : decode cX4_reckonWord 257 = .ok (.l2i, 1) := by decide +kernel
theorem dX4_reckonWord_258 : decode cX4_reckonWord 258 = .ok (.putfield 35, 3) := by decide +kernel
theorem dX4_reckonWord_261 : decode cX4_reckonWord 261 = .ok (.iconst 0, 1) := by decide +kernel
theorem dX4_reckonWord_262 : decode cX4_reckonWord 262 = .ok (.ireturn, 1) := by decide +kernel
theorem dX5_init_0 : decode cX5_init 0 = .ok (.aload_n 0, 1) := by decide +kernel
theorem dX5_init_1 : decode cX5_init 1 = .ok (.invokespecial 3, 3) := by decide +kernel
theorem dX5_init_4 : decode cX5_init 4 = .ok (.aload_n 0, 1) := by decide +kernel
theorem dX5_init_5 : decode cX5_init 5 = .ok (.bipush 12, 2) := by decide +kernel
theorem dX5_init_7 : decode cX5_init 7 = .ok (.newarray .int, 2) := by decide +kernel
theorem dX5_init_9 : decode cX5_init 9 = .ok (.putfield 9, 3) := by decide +kernel
theorem dX5_init_12 : decode cX5_init 12 = .ok (.aload_n 0, 1) := by decide +kernel
theorem dX5_init_13 : decode cX5_init 13 = .ok (.bipush 12, 2) := by decide +kernel
theorem dX5_init_15 : decode cX5_init 15 = .ok (.newarray .int, 2) := by decide +kernel
theorem dX5_init_17 : decode cX5_init 17 = .ok (.putfield 15, 3) := by decide +kernel
theorem dX5_init_20 : decode cX5_init 20 = .ok (.aload_n 0, 1) := by decide +kernel
theorem dX5_init_21 : decode cX5_init 21 = .ok (.bipush 12, 2) := by decide +kernel
theorem dX5_init_23 : decode cX5_init 23 = .ok (.newarray .int, 2) := by decide +kernel
theorem dX5_init_25 : decode cX5_init 25 = .ok (.putfield 18, 3) := by decide +kernel
theorem dX5_init_28 : decode cX5_init 28 = .ok (.aload_n 0, 1) := by decide +kernel
theorem dX5_init_29 : decode cX5_init 29 = .ok (.iconst 0, 1) := by decide +kernel
theorem dX5_init_30 : decode cX5_init 30 = .ok (.putfield 21, 3) := by decide +kernel
theorem dX5_init_33 : decode cX5_init 33 = .ok (.aload_n 0, 1) := by decide +kernel
theorem dX5_init_34 : decode cX5_init 34 = .ok (.iconst 0, 1) := by decide +kernel
theorem dX5_init_35 : decode cX5_init 35 = .ok (.putfield 25, 3) := by decide +kernel
theorem dX5_init_38 : decode cX5_init 38 = .ok (.return_, 1) := by decide +kernel
theorem dX5_append_0 : decode cX5_append 0 = .ok (.aload_n 0, 1) := by decide +kernel
theorem dX5_append_1 : decode cX5_append 1 = .ok (.getfield 21, 3) := by decide +kernel
theorem dX5_append_4 : decode cX5_append 4 = .ok (.bipush 12, 2) := by decide +kernel
theorem dX5_append_6 : decode cX5_append 6 = .ok (.if_icmp .lt 4, 3) := by decide +kernel
theorem dX5_append_9 : decode cX5_append 9 = .ok (.return_, 1) := by decide +kernel
theorem dX5_append_10 : decode cX5_append 10 = .ok (.aload_n 0, 1) := by decide +kernel
theorem dX5_append_11 : decode cX5_append 11 = .ok (.getfield 9, 3) := by decide +kernel
theorem dX5_append_14 : decode cX5_append 14 = .ok (.aload_n 0, 1) := by decide +kernel
theorem dX5_append_15 : decode cX5_append 15 = .ok (.getfield 21, 3) := by decide +kernel
theorem dX5_append_18 : decode cX5_append 18 = .ok (.iload_n 1, 1) := by decide +kernel
theorem dX5_append_19 : decode cX5_append 19 = .ok (.iastore, 1) := by decide +kernel
theorem dX5_append_20 : decode cX5_append 20 = .ok (.aload_n 0, 1) := by decide +kernel
theorem dX5_append_21 : decode cX5_append 21 = .ok (.getfield 15, 3) := by decide +kernel
theorem dX5_append_24 : decode cX5_append 24 = .ok (.aload_n 0, 1) := by decide +kernel
theorem dX5_append_25 : decode cX5_append 25 = .ok (.getfield 21, 3) := by decide +kernel
theorem dX5_append_28 : decode cX5_append 28 = .ok (.iload_n 2, 1) := by decide +kernel
theorem dX5_append_29 : decode cX5_append 29 = .ok (.iastore, 1) := by decide +kernel
theorem dX5_append_30 : decode cX5_append 30 = .ok (.aload_n 0, 1) := by decide +kernel
theorem dX5_append_31 : decode cX5_append 31 = .ok (.getfield 18, 3) := by decide +kernel
theorem dX5_append_34 : decode cX5_append 34 = .ok (.aload_n 0, 1) := by decide +kernel
theorem dX5_append_35 : decode cX5_append 35 = .ok (.getfield 21, 3) := by decide +kernel
theorem dX5_append_38 : decode cX5_append 38 = .ok (.iload_n 3, 1) := by decide +kernel
theorem dX5_append_39 : decode cX5_append 39 = .ok (.iastore, 1) := by decide +kernel
theorem dX5_append_40 : decode cX5_append 40 = .ok (.aload_n 0, 1) := by decide +kernel
theorem dX5_append_41 : decode cX5_append 41 = .ok (.dup, 1) := by decide +kernel
theorem dX5_append_42 : decode cX5_append 42 = .ok (.getfield 21, 3) := by decide +kernel
theorem dX5_append_45 : decode cX5_append 45 = .ok (.iconst 1, 1) := by decide +kernel
theorem dX5_append_46 : decode cX5_append 46 = .ok (.iadd, 1) := by decide +kernel
theorem dX5_append_47 : decode cX5_append 47 = .ok (.putfield 21, 3) := by decide +kernel
theorem dX5_append_50 : decode cX5_append 50 = .ok (.aload_n 0, 1) := by decide +kernel
theorem dX5_append_51 : decode cX5_append 51 = .ok (.dup, 1) := by decide +kernel
theorem dX5_append_52 : decode cX5_append 52 = .ok (.getfield 25, 3) := by decide +kernel
theorem dX5_append_55 : decode cX5_append 55 = .ok (.iconst 1, 1) := by decide +kernel
theorem dX5_append_56 : decode cX5_append 56 = .ok (.iload_n 1, 1) := by decide +kernel
theorem dX5_append_57 : decode cX5_append 57 = .ok (.invokestatic 28, 3) := by decide +kernel
theorem dX5_append_60 : decode cX5_append 60 = .ok (.isub, 1) := by decide +kernel
theorem dX5_append_61 : decode cX5_append 61 = .ok (.iadd, 1) := by decide +kernel
theorem dX5_append_62 : decode cX5_append 62 = .ok (.putfield 25, 3) := by decide +kernel
theorem dX5_append_65 : decode cX5_append 65 = .ok (.return_, 1) := by decide +kernel
theorem dX5_clear_0 : decode cX5_clear 0 = .ok (.aload_n 0, 1) := by decide +kernel
theorem dX5_clear_1 : decode cX5_clear 1 = .ok (.iconst 0, 1) := by decide +kernel
theorem dX5_clear_2 : decode cX5_clear 2 = .ok (.putfield 21, 3) := by decide +kernel
theorem dX5_clear_5 : decode cX5_clear 5 = .ok (.aload_n 0, 1) := by decide +kernel
theorem dX5_clear_6 : decode cX5_clear 6 = .ok (.iconst 0, 1) := by decide +kernel
theorem dX5_clear_7 : decode cX5_clear 7 = .ok (.putfield 25, 3) := by decide +kernel
theorem dX5_clear_10 : decode cX5_clear 10 = .ok (.return_, 1) := by decide +kernel
theorem dX6_init_0 : decode cX6_init 0 = .ok (.aload_n 0, 1) := by decide +kernel
theorem dX6_init_1 : decode cX6_init 1 = .ok (.invokespecial 3, 3) := by decide +kernel
theorem dX6_init_4 : decode cX6_init 4 = .ok (.aload_n 0, 1) := by decide +kernel
theorem dX6_init_5 : decode cX6_init 5 = .ok (.bipush 24, 2) := by decide +kernel
theorem dX6_init_7 : decode cX6_init 7 = .ok (.newarray .int, 2) := by decide +kernel
theorem dX6_init_9 : decode cX6_init 9 = .ok (.putfield 9, 3) := by decide +kernel
theorem dX6_init_12 : decode cX6_init 12 = .ok (.aload_n 0, 1) := by decide +kernel
theorem dX6_init_13 : decode cX6_init 13 = .ok (.bipush 6, 2) := by decide +kernel
theorem dX6_init_15 : decode cX6_init 15 = .ok (.newarray .int, 2) := by decide +kernel
theorem dX6_init_17 : decode cX6_init 17 = .ok (.putfield 15, 3) := by decide +kernel
theorem dX6_init_20 : decode cX6_init 20 = .ok (.aload_n 0, 1) := by decide +kernel
theorem dX6_init_21 : decode cX6_init 21 = .ok (.bipush 6, 2) := by decide +kernel
theorem dX6_init_23 : decode cX6_init 23 = .ok (.newarray .int, 2) := by decide +kernel
theorem dX6_init_25 : decode cX6_init 25 = .ok (.putfield 18, 3) := by decide +kernel
theorem dX6_init_28 : decode cX6_init 28 = .ok (.aload_n 0, 1) := by decide +kernel
theorem dX6_init_29 : decode cX6_init 29 = .ok (.bipush 6, 2) := by decide +kernel
theorem dX6_init_31 : decode cX6_init 31 = .ok (.newarray .int, 2) := by decide +kernel
theorem dX6_init_33 : decode cX6_init 33 = .ok (.putfield 21, 3) := by decide +kernel
theorem dX6_init_36 : decode cX6_init 36 = .ok (.aload_n 0, 1) := by decide +kernel
theorem dX6_init_37 : decode cX6_init 37 = .ok (.bipush 6, 2) := by decide +kernel
theorem dX6_init_39 : decode cX6_init 39 = .ok (.newarray .int, 2) := by decide +kernel
theorem dX6_init_41 : decode cX6_init 41 = .ok (.putfield 24, 3) := by decide +kernel
theorem dX6_init_44 : decode cX6_init 44 = .ok (.aload_n 0, 1) := by decide +kernel
theorem dX6_init_45 : decode cX6_init 45 = .ok (.aload_n 1, 1) := by decide +kernel
theorem dX6_init_46 : decode cX6_init 46 = .ok (.putfield 27, 3) := by decide +kernel
theorem dX6_init_49 : decode cX6_init 49 = .ok (.iconst 0, 1) := by decide +kernel
theorem dX6_init_50 : decode cX6_init 50 = .ok (.istore_n 2, 1) := by decide +kernel
theorem dX6_init_51 : decode cX6_init 51 = .ok (.iload_n 2, 1) := by decide +kernel
theorem dX6_init_52 : decode cX6_init 52 = .ok (.bipush 6, 2) := by decide +kernel
theorem dX6_init_54 : decode cX6_init 54 = .ok (.if_icmp .ge 17, 3) := by decide +kernel
theorem dX6_init_57 : decode cX6_init 57 = .ok (.aload_n 0, 1) := by decide +kernel
theorem dX6_init_58 : decode cX6_init 58 = .ok (.getfield 18, 3) := by decide +kernel
theorem dX6_init_61 : decode cX6_init 61 = .ok (.iload_n 2, 1) := by decide +kernel
theorem dX6_init_62 : decode cX6_init 62 = .ok (.ldc 31, 2) := by decide +kernel
theorem dX6_init_64 : decode cX6_init 64 = .ok (.iastore, 1) := by decide +kernel
theorem dX6_init_65 : decode cX6_init 65 = .ok (.iinc 2 1, 3) := by decide +kernel
theorem dX6_init_68 : decode cX6_init 68 = .ok (.goto (-17), 3) := by decide +kernel
theorem dX6_init_71 : decode cX6_init 71 = .ok (.return_, 1) := by decide +kernel
theorem dX6_dueOf_0 : decode cX6_dueOf 0 = .ok (.aload_n 0, 1) := by decide +kernel
theorem dX6_dueOf_1 : decode cX6_dueOf 1 = .ok (.getfield 27, 3) := by decide +kernel
theorem dX6_dueOf_4 : decode cX6_dueOf 4 = .ok (.iload_n 1, 1) := by decide +kernel
theorem dX6_dueOf_5 : decode cX6_dueOf 5 = .ok (.iload_n 2, 1) := by decide +kernel
theorem dX6_dueOf_6 : decode cX6_dueOf 6 = .ok (.invokevirtual 32, 3) := by decide +kernel
theorem dX6_dueOf_9 : decode cX6_dueOf 9 = .ok (.aload_n 0, 1) := by decide +kernel
theorem dX6_dueOf_10 : decode cX6_dueOf 10 = .ok (.getfield 9, 3) := by decide +kernel
theorem dX6_dueOf_13 : decode cX6_dueOf 13 = .ok (.iload_n 1, 1) := by decide +kernel
theorem dX6_dueOf_14 : decode cX6_dueOf 14 = .ok (.iconst 4, 1) := by decide +kernel
theorem dX6_dueOf_15 : decode cX6_dueOf 15 = .ok (.imul, 1) := by decide +kernel
theorem dX6_dueOf_16 : decode cX6_dueOf 16 = .ok (.iload_n 2, 1) := by decide +kernel
theorem dX6_dueOf_17 : decode cX6_dueOf 17 = .ok (.iadd, 1) := by decide +kernel
theorem dX6_dueOf_18 : decode cX6_dueOf 18 = .ok (.iaload, 1) := by decide +kernel
theorem dX6_dueOf_19 : decode cX6_dueOf 19 = .ok (.isub, 1) := by decide +kernel
theorem dX6_dueOf_20 : decode cX6_dueOf 20 = .ok (.ireturn, 1) := by decide +kernel
theorem dX6_exposureOf_0 : decode cX6_exposureOf 0 = .ok (.aload_n 0, 1) := by decide +kernel
theorem dX6_exposureOf_1 : decode cX6_exposureOf 1 = .ok (.getfield 27, 3) := by decide +kernel
theorem dX6_exposureOf_4 : decode cX6_exposureOf 4 = .ok (.iload_n 1, 1) := by decide +kernel
theorem dX6_exposureOf_5 : decode cX6_exposureOf 5 = .ok (.invokevirtual 38, 3) := by decide +kernel
theorem dX6_exposureOf_8 : decode cX6_exposureOf 8 = .ok (.istore_n 2, 1) := by decide +kernel
theorem dX6_exposureOf_9 : decode cX6_exposureOf 9 = .ok (.iconst 0, 1) := by decide +kernel
theorem dX6_exposureOf_10 : decode cX6_exposureOf 10 = .ok (.istore_n 3, 1) := by decide +kernel
theorem dX6_exposureOf_11 : decode cX6_exposureOf 11 = .ok (.iload_n 3, 1) := by decide +kernel
theorem dX6_exposureOf_12 : decode cX6_exposureOf 12 = .ok (.iconst 4, 1) := by decide +kernel
theorem dX6_exposureOf_13 : decode cX6_exposureOf 13 = .ok (.if_icmp .ge 22, 3) := by decide +kernel
theorem dX6_exposureOf_16 : decode cX6_exposureOf 16 = .ok (.iload_n 2, 1) := by decide +kernel
theorem dX6_exposureOf_17 : decode cX6_exposureOf 17 = .ok (.iconst 0, 1) := by decide +kernel
theorem dX6_exposureOf_18 : decode cX6_exposureOf 18 = .ok (.aload_n 0, 1) := by decide +kernel
theorem dX6_exposureOf_19 : decode cX6_exposureOf 19 = .ok (.iload_n 1, 1) := by decide +kernel
theorem dX6_exposureOf_20 : decode cX6_exposureOf 20 = .ok (.iload_n 3, 1) := by decide +kernel
theorem dX6_exposureOf_21 : decode cX6_exposureOf 21 = .ok (.invokevirtual 42, 3) := by decide +kernel
theorem dX6_exposureOf_24 : decode cX6_exposureOf 24 = .ok (.invokestatic 45, 3) := by decide +kernel
theorem dX6_exposureOf_27 : decode cX6_exposureOf 27 = .ok (.iadd, 1) := by decide +kernel
theorem dX6_exposureOf_28 : decode cX6_exposureOf 28 = .ok (.istore_n 2, 1) := by decide +kernel
theorem dX6_exposureOf_29 : decode cX6_exposureOf 29 = .ok (.iinc 3 1, 3) := by decide +kernel
theorem dX6_exposureOf_32 : decode cX6_exposureOf 32 = .ok (.goto (-21), 3) := by decide +kernel
theorem dX6_exposureOf_35 : decode cX6_exposureOf 35 = .ok (.iload_n 2, 1) := by decide +kernel
theorem dX6_exposureOf_36 : decode cX6_exposureOf 36 = .ok (.ireturn, 1) := by decide +kernel
theorem dX6_payDues_0 : decode cX6_payDues 0 = .ok (.iconst 0, 1) := by decide +kernel
theorem dX6_payDues_1 : decode cX6_payDues 1 = .ok (.istore_n 2, 1) := by decide +kernel
theorem dX6_payDues_2 : decode cX6_payDues 2 = .ok (.iconst 0, 1) := by decide +kernel
theorem dX6_payDues_3 : decode cX6_payDues 3 = .ok (.istore_n 3, 1) := by decide +kernel
theorem dX6_payDues_4 : decode cX6_payDues 4 = .ok (.iload_n 3, 1) := by decide +kernel
theorem dX6_payDues_5 : decode cX6_payDues 5 = .ok (.bipush 6, 2) := by decide +kernel
theorem dX6_payDues_7 : decode cX6_payDues 7 = .ok (.if_icmp .ge 67, 3) := by decide +kernel
theorem dX6_payDues_10 : decode cX6_payDues 10 = .ok (.aload_n 0, 1) := by decide +kernel
theorem dX6_payDues_11 : decode cX6_payDues 11 = .ok (.iload_n 3, 1) := by decide +kernel
theorem dX6_payDues_12 : decode cX6_payDues 12 = .ok (.iload_n 1, 1) := by decide +kernel
theorem dX6_payDues_13 : decode cX6_payDues 13 = .ok (.invokevirtual 42, 3) := by decide +kernel
theorem dX6_payDues_16 : decode cX6_payDues 16 = .ok (.istore 4, 2) := by decide +kernel
theorem dX6_payDues_18 : decode cX6_payDues 18 = .ok (.aload_n 0, 1) := by decide +kernel
theorem dX6_payDues_19 : decode cX6_payDues 19 = .ok (.getfield 21, 3) := by decide +kernel
theorem dX6_payDues_22 : decode cX6_payDues 22 = .ok (.iload_n 3, 1) := by decide +kernel
theorem dX6_payDues_23 : decode cX6_payDues 23 = .ok (.iload 4, 2) := by decide +kernel
theorem dX6_payDues_25 : decode cX6_payDues 25 = .ok (.bipush 10, 2) := by decide +kernel
theorem dX6_payDues_27 : decode cX6_payDues 27 = .ok (.invokestatic 50, 3) := by decide +kernel
theorem dX6_payDues_30 : decode cX6_payDues 30 = .ok (.iastore, 1) := by decide +kernel
theorem dX6_payDues_31 : decode cX6_payDues 31 = .ok (.aload_n 0, 1) := by decide +kernel
theorem dX6_payDues_32 : decode cX6_payDues 32 = .ok (.getfield 24, 3) := by decide +kernel
theorem dX6_payDues_35 : decode cX6_payDues 35 = .ok (.iload_n 3, 1) := by decide +kernel
theorem dX6_payDues_36 : decode cX6_payDues 36 = .ok (.iload 4, 2) := by decide +kernel
theorem dX6_payDues_38 : decode cX6_payDues 38 = .ok (.bipush 10, 2) := by decide +kernel
theorem dX6_payDues_40 : decode cX6_payDues 40 = .ok (.invokestatic 53, 3) := by decide +kernel
theorem dX6_payDues_43 : decode cX6_payDues 43 = .ok (.iastore, 1) := by decide +kernel
theorem dX6_payDues_44 : decode cX6_payDues 44 = .ok (.iload_n 2, 1) := by decide +kernel
theorem dX6_payDues_45 : decode cX6_payDues 45 = .ok (.aload_n 0, 1) := by decide +kernel
theorem dX6_payDues_46 : decode cX6_payDues 46 = .ok (.getfield 21, 3) := by decide +kernel
theorem dX6_payDues_49 : decode cX6_payDues 49 = .ok (.iload_n 3, 1) := by decide +kernel
theorem dX6_payDues_50 : decode cX6_payDues 50 = .ok (.iaload, 1) := by decide +kernel
theorem dX6_payDues_51 : decode cX6_payDues 51 = .ok (.isub, 1) := by decide +kernel
theorem dX6_payDues_52 : decode cX6_payDues 52 = .ok (.istore_n 2, 1) := by decide +kernel
theorem dX6_payDues_53 : decode cX6_payDues 53 = .ok (.aload_n 0, 1) := by decide +kernel
theorem dX6_payDues_54 : decode cX6_payDues 54 = .ok (.getfield 9, 3) := by decide +kernel
theorem dX6_payDues_57 : decode cX6_payDues 57 = .ok (.iload_n 3, 1) := by decide +kernel
theorem dX6_payDues_58 : decode cX6_payDues 58 = .ok (.iconst 4, 1) := by decide +kernel
theorem dX6_payDues_59 : decode cX6_payDues 59 = .ok (.imul, 1) := by decide +kernel
theorem dX6_payDues_60 : decode cX6_payDues 60 = .ok (.iload_n 1, 1) := by decide +kernel
theorem dX6_payDues_61 : decode cX6_payDues 61 = .ok (.iadd, 1) := by decide +kernel
theorem dX6_payDues_62 : decode cX6_payDues 62 = .ok (.dup2, 1) := by decide +kernel
theorem dX6_payDues_63 : decode cX6_payDues 63 = .ok (.iaload, 1) := by decide +kernel
theorem dX6_payDues_64 : decode cX6_payDues 64 = .ok (.iload 4, 2) := by decide +kernel
theorem dX6_payDues_66 : decode cX6_payDues 66 = .ok (.iadd, 1) := by decide +kernel
theorem dX6_payDues_67 : decode cX6_payDues 67 = .ok (.iastore, 1) := by decide +kernel
theorem dX6_payDues_68 : decode cX6_payDues 68 = .ok (.iinc 3 1, 3) := by decide +kernel
theorem dX6_payDues_71 : decode cX6_payDues 71 = .ok (.goto (-67), 3) := by decide +kernel
theorem dX6_payDues_74 : decode cX6_payDues 74 = .ok (.iconst 0, 1) := by decide +kernel
theorem dX6_payDues_75 : decode cX6_payDues 75 = .ok (.istore_n 3, 1) := by decide +kernel
theorem dX6_payDues_76 : decode cX6_payDues 76 = .ok (.iconst 0, 1) := by decide +kernel
theorem dX6_payDues_77 : decode cX6_payDues 77 = .ok (.istore 4, 2) := by decide +kernel
theorem dX6_payDues_79 : decode cX6_payDues 79 = .ok (.iload 4, 2) := by decide +kernel
theorem dX6_payDues_81 : decode cX6_payDues 81 = .ok (.bipush 6, 2) := by decide +kernel
theorem dX6_payDues_83 : decode cX6_payDues 83 = .ok (.if_icmp .ge 55, 3) := by decide +kernel
theorem dX6_payDues_86 : decode cX6_payDues 86 = .ok (.aload_n 0, 1) := by decide +kernel
theorem dX6_payDues_87 : decode cX6_payDues 87 = .ok (.getfield 21, 3) := by decide +kernel
theorem dX6_payDues_90 : decode cX6_payDues 90 = .ok (.iload 4, 2) := by decide +kernel
theorem dX6_payDues_92 : decode cX6_payDues 92 = .ok (.iaload, 1) := by decide +kernel
theorem dX6_payDues_93 : decode cX6_payDues 93 = .ok (.aload_n 0, 1) := by decide +kernel
theorem dX6_payDues_94 : decode cX6_payDues 94 = .ok (.iload 4, 2) := by decide +kernel
theorem dX6_payDues_96 : decode cX6_payDues 96 = .ok (.invokevirtual 56, 3) := by decide +kernel
theorem dX6_payDues_99 : decode cX6_payDues 99 = .ok (.iload_n 2, 1) := by decide +kernel
theorem dX6_payDues_100 : decode cX6_payDues 100 = .ok (.if_icmp .ge 7, 3) := by decide +kernel
theorem dX6_payDues_103 : decode cX6_payDues 103 = .ok (.iconst 1, 1) := by decide +kernel
theorem dX6_payDues_104 : decode cX6_payDues 104 = .ok (.goto 4, 3) := by decide +kernel
theorem dX6_payDues_107 : decode cX6_payDues 107 = .ok (.iconst 0, 1) := by decide +kernel
theorem dX6_payDues_108 : decode cX6_payDues 108 = .ok (.iadd, 1) := by decide +kernel
theorem dX6_payDues_109 : decode cX6_payDues 109 = .ok (.istore 5, 2) := by decide +kernel
theorem dX6_payDues_111 : decode cX6_payDues 111 = .ok (.aload_n 0, 1) := by decide +kernel
theorem dX6_payDues_112 : decode cX6_payDues 112 = .ok (.getfield 15, 3) := by decide +kernel
theorem dX6_payDues_115 : decode cX6_payDues 115 = .ok (.iload 4, 2) := by decide +kernel
theorem dX6_payDues_117 : decode cX6_payDues 117 = .ok (.dup2, 1) := by decide +kernel
theorem dX6_payDues_118 : decode cX6_payDues 118 = .ok (.iaload, 1) := by decide +kernel
theorem dX6_payDues_119 : decode cX6_payDues 119 = .ok (.iload 5, 2) := by decide +kernel
theorem dX6_payDues_121 : decode cX6_payDues 121 = .ok (.isub, 1) := by decide +kernel
theorem dX6_payDues_122 : decode cX6_payDues 122 = .ok (.iastore, 1) := by decide +kernel
theorem dX6_payDues_123 : decode cX6_payDues 123 = .ok (.iload_n 3, 1) := by decide +kernel
theorem dX6_payDues_124 : decode cX6_payDues 124 = .ok (.iconst 0, 1) := by decide +kernel
theorem dX6_payDues_125 : decode cX6_payDues 125 = .ok (.iload 5, 2) := by decide +kernel
theorem dX6_payDues_127 : decode cX6_payDues 127 = .ok (.invokestatic 45, 3) := by decide +kernel
theorem dX6_payDues_130 : decode cX6_payDues 130 = .ok (.iadd, 1) := by decide +kernel
theorem dX6_payDues_131 : decode cX6_payDues 131 = .ok (.istore_n 3, 1) := by decide +kernel
theorem dX6_payDues_132 : decode cX6_payDues 132 = .ok (.iinc 4 1, 3) := by decide +kernel
theorem dX6_payDues_135 : decode cX6_payDues 135 = .ok (.goto (-56), 3) := by decide +kernel
theorem dX6_payDues_138 : decode cX6_payDues 138 = .ok (.iload_n 3, 1) := by decide +kernel
theorem dX6_payDues_139 : decode cX6_payDues 139 = .ok (.ireturn, 1) := by decide +kernel
theorem dX6_cutAhead_0 : decode cX6_cutAhead 0 = .ok (.iconst 0, 1) := by decide +kernel
theorem dX6_cutAhead_1 : decode cX6_cutAhead 1 = .ok (.istore_n 2, 1) := by decide +kernel
theorem dX6_cutAhead_2 : decode cX6_cutAhead 2 = .ok (.iconst 0, 1) := by decide +kernel
theorem dX6_cutAhead_3 : decode cX6_cutAhead 3 = .ok (.istore_n 3, 1) := by decide +kernel
theorem dX6_cutAhead_4 : decode cX6_cutAhead 4 = .ok (.iload_n 3, 1) := by decide +kernel
theorem dX6_cutAhead_5 : decode cX6_cutAhead 5 = .ok (.bipush 6, 2) := by decide +kernel
theorem dX6_cutAhead_7 : decode cX6_cutAhead 7 = .ok (.if_icmp .ge 47, 3) := by decide +kernel
theorem dX6_cutAhead_10 : decode cX6_cutAhead 10 = .ok (.aload_n 0, 1) := by decide +kernel
theorem dX6_cutAhead_11 : decode cX6_cutAhead 11 = .ok (.getfield 24, 3) := by decide +kernel
theorem dX6_cutAhead_14 : decode cX6_cutAhead 14 = .ok (.iload_n 3, 1) := by decide +kernel
theorem dX6_cutAhead_15 : decode cX6_cutAhead 15 = .ok (.iaload, 1) := by decide +kernel
theorem dX6_cutAhead_16 : decode cX6_cutAhead 16 = .ok (.aload_n 0, 1) := by decide +kernel
theorem dX6_cutAhead_17 : decode cX6_cutAhead 17 = .ok (.getfield 24, 3) := by decide +kernel
theorem dX6_cutAhead_20 : decode cX6_cutAhead 20 = .ok (.iload_n 1, 1) := by decide +kernel
theorem dX6_cutAhead_21 : decode cX6_cutAhead 21 = .ok (.iaload, 1) := by decide +kernel
theorem dX6_cutAhead_22 : decode cX6_cutAhead 22 = .ok (.if_icmp .gt 23, 3) := by decide +kernel
theorem dX6_cutAhead_25 : decode cX6_cutAhead 25 = .ok (.aload_n 0, 1) := by decide +kernel
theorem dX6_cutAhead_26 : decode cX6_cutAhead 26 = .ok (.getfield 24, 3) := by decide +kernel
theorem dX6_cutAhead_29 : decode cX6_cutAhead 29 = .ok (.iload_n 3, 1) := by decide +kernel
theorem dX6_cutAhead_30 : decode cX6_cutAhead 30 = .ok (.iaload, 1) := by decide +kernel
theorem dX6_cutAhead_31 : decode cX6_cutAhead 31 = .ok (.aload_n 0, 1) := by decide +kernel
theorem dX6_cutAhead_32 : decode cX6_cutAhead 32 = .ok (.getfield 24, 3) := by decide +kernel
theorem dX6_cutAhead_35 : decode cX6_cutAhead 35 = .ok (.iload_n 1, 1) := by decide +kernel
theorem dX6_cutAhead_36 : decode cX6_cutAhead 36 = .ok (.iaload, 1) := by decide +kernel
theorem dX6_cutAhead_37 : decode cX6_cutAhead 37 = .ok (.if_icmp .ne 11, 3) := by decide +kernel
theorem dX6_cutAhead_40 : decode cX6_cutAhead 40 = .ok (.iload_n 3, 1) := by decide +kernel
theorem dX6_cutAhead_41 : decode cX6_cutAhead 41 = .ok (.iload_n 1, 1) := by decide +kernel
theorem dX6_cutAhead_42 : decode cX6_cutAhead 42 = .ok (.if_icmp .ge 6, 3) := by decide +kernel
theorem dX6_cutAhead_45 : decode cX6_cutAhead 45 = .ok (.iinc 2 1, 3) := by decide +kernel
theorem dX6_cutAhead_48 : decode cX6_cutAhead 48 = .ok (.iinc 3 1, 3) := by decide +kernel
theorem dX6_cutAhead_51 : decode cX6_cutAhead 51 = .ok (.goto (-47), 3) := by decide +kernel
theorem dX6_cutAhead_54 : decode cX6_cutAhead 54 = .ok (.iload_n 2, 1) := by decide +kernel
theorem dX6_cutAhead_55 : decode cX6_cutAhead 55 = .ok (.ireturn, 1) := by decide +kernel
theorem dX7_init_0 : decode cX7_init 0 = .ok (.aload_n 0, 1) := by decide +kernel
theorem dX7_init_1 : decode cX7_init 1 = .ok (.invokespecial 3, 3) := by decide +kernel
theorem dX7_init_4 : decode cX7_init 4 = .ok (.aload_n 0, 1) := by decide +kernel
theorem dX7_init_5 : decode cX7_init 5 = .ok (.bipush 24, 2) := by decide +kernel
theorem dX7_init_7 : decode cX7_init 7 = .ok (.newarray .int, 2) := by decide +kernel
theorem dX7_init_9 : decode cX7_init 9 = .ok (.putfield 9, 3) := by decide +kernel
theorem dX7_init_12 : decode cX7_init 12 = .ok (.aload_n 0, 1) := by decide +kernel
theorem dX7_init_13 : decode cX7_init 13 = .ok (.bipush 24, 2) := by decide +kernel
theorem dX7_init_15 : decode cX7_init 15 = .ok (.newarray .int, 2) := by decide +kernel
theorem dX7_init_17 : decode cX7_init 17 = .ok (.putfield 15, 3) := by decide +kernel
theorem dX7_init_20 : decode cX7_init 20 = .ok (.iconst 0, 1) := by decide +kernel
theorem dX7_init_21 : decode cX7_init 21 = .ok (.istore_n 1, 1) := by decide +kernel
theorem dX7_init_22 : decode cX7_init 22 = .ok (.iload_n 1, 1) := by decide +kernel
theorem dX7_init_23 : decode cX7_init 23 = .ok (.bipush 24, 2) := by decide +kernel
theorem dX7_init_25 : decode cX7_init 25 = .ok (.if_icmp .ge 19, 3) := by decide +kernel
theorem dX7_init_28 : decode cX7_init 28 = .ok (.aload_n 0, 1) := by decide +kernel
theorem dX7_init_29 : decode cX7_init 29 = .ok (.getfield 9, 3) := by decide +kernel
theorem dX7_init_32 : decode cX7_init 32 = .ok (.iload_n 1, 1) := by decide +kernel
theorem dX7_init_33 : decode cX7_init 33 = .ok (.iload_n 1, 1) := by decide +kernel
theorem dX7_init_34 : decode cX7_init 34 = .ok (.bipush 6, 2) := by decide +kernel
theorem dX7_init_36 : decode cX7_init 36 = .ok (.idiv, 1) := by decide +kernel
theorem dX7_init_37 : decode cX7_init 37 = .ok (.iastore, 1) := by decide +kernel
theorem dX7_init_38 : decode cX7_init 38 = .ok (.iinc 1 1, 3) := by decide +kernel
theorem dX7_init_41 : decode cX7_init 41 = .ok (.goto (-19), 3) := by decide +kernel
theorem dX7_init_44 : decode cX7_init 44 = .ok (.return_, 1) := by decide +kernel
theorem dX7_copy_0 : decode cX7_copy 0 = .ok (.aload_n 1, 1) := by decide +kernel
theorem dX7_copy_1 : decode cX7_copy 1 = .ok (.getfield 9, 3) := by decide +kernel
theorem dX7_copy_4 : decode cX7_copy 4 = .ok (.iconst 0, 1) := by decide +kernel
theorem dX7_copy_5 : decode cX7_copy 5 = .ok (.aload_n 0, 1) := by decide +kernel
theorem dX7_copy_6 : decode cX7_copy 6 = .ok (.getfield 9, 3) := by decide +kernel
theorem dX7_copy_9 : decode cX7_copy 9 = .ok (.iconst 0, 1) := by decide +kernel
theorem dX7_copy_10 : decode cX7_copy 10 = .ok (.bipush 24, 2) := by decide +kernel
theorem dX7_copy_12 : decode cX7_copy 12 = .ok (.invokestatic 18, 3) := by decide +kernel
theorem dX7_copy_15 : decode cX7_copy 15 = .ok (.aload_n 1, 1) := by decide +kernel
theorem dX7_copy_16 : decode cX7_copy 16 = .ok (.getfield 15, 3) := by decide +kernel
theorem dX7_copy_19 : decode cX7_copy 19 = .ok (.iconst 0, 1) := by decide +kernel
theorem dX7_copy_20 : decode cX7_copy 20 = .ok (.aload_n 0, 1) := by decide +kernel
theorem dX7_copy_21 : decode cX7_copy 21 = .ok (.getfield 15, 3) := by decide +kernel
theorem dX7_copy_24 : decode cX7_copy 24 = .ok (.iconst 0, 1) := by decide +kernel
theorem dX7_copy_25 : decode cX7_copy 25 = .ok (.bipush 24, 2) := by decide +kernel
theorem dX7_copy_27 : decode cX7_copy 27 = .ok (.invokestatic 18, 3) := by decide +kernel
theorem dX7_copy_30 : decode cX7_copy 30 = .ok (.return_, 1) := by decide +kernel
theorem dX7_canRead_0 : decode cX7_canRead 0 = .ok (.aload_n 0, 1) := by decide +kernel
theorem dX7_canRead_1 : decode cX7_canRead 1 = .ok (.getfield 9, 3) := by decide +kernel
theorem dX7_canRead_4 : decode cX7_canRead 4 = .ok (.iload_n 2, 1) := by decide +kernel
theorem dX7_canRead_5 : decode cX7_canRead 5 = .ok (.iaload, 1) := by decide +kernel
theorem dX7_canRead_6 : decode cX7_canRead 6 = .ok (.iload_n 1, 1) := by decide +kernel
theorem dX7_canRead_7 : decode cX7_canRead 7 = .ok (.if_icmp .eq 17, 3) := by decide +kernel
theorem dX7_canRead_10 : decode cX7_canRead 10 = .ok (.aload_n 0, 1) := by decide +kernel
theorem dX7_canRead_11 : decode cX7_canRead 11 = .ok (.getfield 15, 3) := by decide +kernel
theorem dX7_canRead_14 : decode cX7_canRead 14 = .ok (.iload_n 2, 1) := by decide +kernel
theorem dX7_canRead_15 : decode cX7_canRead 15 = .ok (.iaload, 1) := by decide +kernel
theorem dX7_canRead_16 : decode cX7_canRead 16 = .ok (.iload_n 1, 1) := by decide +kernel
theorem dX7_canRead_17 : decode cX7_canRead 17 = .ok (.ishr, 1) := by decide +kernel
theorem dX7_canRead_18 : decode cX7_canRead 18 = .ok (.iconst 1, 1) := by decide +kernel
theorem dX7_canRead_19 : decode cX7_canRead 19 = .ok (.iand, 1) := by decide +kernel
theorem dX7_canRead_20 : decode cX7_canRead 20 = .ok (.iconst 1, 1) := by decide +kernel
theorem dX7_canRead_21 : decode cX7_canRead 21 = .ok (.if_icmp .ne 7, 3) := by decide +kernel
theorem dX7_canRead_24 : decode cX7_canRead 24 = .ok (.iconst 1, 1) := by decide +kernel
theorem dX7_canRead_25 : decode cX7_canRead 25 = .ok (.goto 4, 3) := by decide +kernel
theorem dX7_canRead_28 : decode cX7_canRead 28 = .ok (.iconst 0, 1) := by decide +kernel
theorem dX7_canRead_29 : decode cX7_canRead 29 = .ok (.ireturn, 1) := by decide +kernel
theorem dX7_ownedBy_0 : decode cX7_ownedBy 0 = .ok (.iconst 0, 1) := by decide +kernel
theorem dX7_ownedBy_1 : decode cX7_ownedBy 1 = .ok (.istore_n 2, 1) := by decide +kernel
theorem dX7_ownedBy_2 : decode cX7_ownedBy 2 = .ok (.iconst 0, 1) := by decide +kernel
theorem dX7_ownedBy_3 : decode cX7_ownedBy 3 = .ok (.istore_n 3, 1) := by decide +kernel
theorem dX7_ownedBy_4 : decode cX7_ownedBy 4 = .ok (.iload_n 3, 1) := by decide +kernel
theorem dX7_ownedBy_5 : decode cX7_ownedBy 5 = .ok (.bipush 24, 2) := by decide +kernel
theorem dX7_ownedBy_7 : decode cX7_ownedBy 7 = .ok (.if_icmp .ge 22, 3) := by decide +kernel
theorem dX7_ownedBy_10 : decode cX7_ownedBy 10 = .ok (.aload_n 0, 1) := by decide +kernel
theorem dX7_ownedBy_11 : decode cX7_ownedBy 11 = .ok (.getfield 9, 3) := by decide +kernel
theorem dX7_ownedBy_14 : decode cX7_ownedBy 14 = .ok (.iload_n 3, 1) := by decide +kernel
theorem dX7_ownedBy_15 : decode cX7_ownedBy 15 = .ok (.iaload, 1) := by decide +kernel
theorem dX7_ownedBy_16 : decode cX7_ownedBy 16 = .ok (.iload_n 1, 1) := by decide +kernel
theorem dX7_ownedBy_17 : decode cX7_ownedBy 17 = .ok (.if_icmp .ne 6, 3) := by decide +kernel
theorem dX7_ownedBy_20 : decode cX7_ownedBy 20 = .ok (.iinc 2 1, 3) := by decide +kernel
theorem dX7_ownedBy_23 : decode cX7_ownedBy 23 = .ok (.iinc 3 1, 3) := by decide +kernel
theorem dX7_ownedBy_26 : decode cX7_ownedBy 26 = .ok (.goto (-22), 3) := by decide +kernel
theorem dX7_ownedBy_29 : decode cX7_ownedBy 29 = .ok (.iload_n 2, 1) := by decide +kernel
theorem dX7_ownedBy_30 : decode cX7_ownedBy 30 = .ok (.ireturn, 1) := by decide +kernel
theorem dX7_letRead_0 : decode cX7_letRead 0 = .ok (.iconst 0, 1) := by decide +kernel
theorem dX7_letRead_1 : decode cX7_letRead 1 = .ok (.istore 6, 2) := by decide +kernel
theorem dX7_letRead_3 : decode cX7_letRead 3 = .ok (.iload_n 3, 1) := by decide +kernel
theorem dX7_letRead_4 : decode cX7_letRead 4 = .ok (.istore 7, 2) := by decide +kernel
theorem dX7_letRead_6 : decode cX7_letRead 6 = .ok (.iload 7, 2) := by decide +kernel
theorem dX7_letRead_8 : decode cX7_letRead 8 = .ok (.iload 4, 2) := by decide +kernel
theorem dX7_letRead_10 : decode cX7_letRead 10 = .ok (.if_icmp .gt 69, 3) := by decide +kernel
theorem dX7_letRead_13 : decode cX7_letRead 13 = .ok (.iload 7, 2) := by decide +kernel
theorem dX7_letRead_15 : decode cX7_letRead 15 = .ok (.bipush 24, 2) := by decide +kernel
theorem dX7_letRead_17 : decode cX7_letRead 17 = .ok (.if_icmp .ge 62, 3) := by decide +kernel
theorem dX7_letRead_20 : decode cX7_letRead 20 = .ok (.aload_n 0, 1) := by decide +kernel
theorem dX7_letRead_21 : decode cX7_letRead 21 = .ok (.getfield 9, 3) := by decide +kernel
theorem dX7_letRead_24 : decode cX7_letRead 24 = .ok (.iload 7, 2) := by decide +kernel
theorem dX7_letRead_26 : decode cX7_letRead 26 = .ok (.iaload, 1) := by decide +kernel
theorem dX7_letRead_27 : decode cX7_letRead 27 = .ok (.iload_n 1, 1) := by decide +kernel
theorem dX7_letRead_28 : decode cX7_letRead 28 = .ok (.if_icmp .ne 45, 3) := by decide +kernel
theorem dX7_letRead_31 : decode cX7_letRead 31 = .ok (.aload_n 0, 1) := by decide +kernel
theorem dX7_letRead_32 : decode cX7_letRead 32 = .ok (.getfield 15, 3) := by decide +kernel
theorem dX7_letRead_35 : decode cX7_letRead 35 = .ok (.iload 7, 2) := by decide +kernel
theorem dX7_letRead_37 : decode cX7_letRead 37 = .ok (.iload 5, 2) := by decide +kernel
theorem dX7_letRead_39 : decode cX7_letRead 39 = .ok (.ifCond .eq 17, 3) := by decide +kernel
theorem dX7_letRead_42 : decode cX7_letRead 42 = .ok (.aload_n 0, 1) := by decide +kernel
theorem dX7_letRead_43 : decode cX7_letRead 43 = .ok (.getfield 15, 3) := by decide +kernel
theorem dX7_letRead_46 : decode cX7_letRead 46 = .ok (.iload 7, 2) := by decide +kernel
theorem dX7_letRead_48 : decode cX7_letRead 48 = .ok (.iaload, 1) := by decide +kernel
theorem dX7_letRead_49 : decode cX7_letRead 49 = .ok (.iconst 1, 1) := by decide +kernel
theorem dX7_letRead_50 : decode cX7_letRead 50 = .ok (.iload_n 2, 1) := by decide +kernel
theorem dX7_letRead_51 : decode cX7_letRead 51 = .ok (.ishl, 1) := by decide +kernel
theorem dX7_letRead_52 : decode cX7_letRead 52 = .ok (.ior, 1) := by decide +kernel
theorem dX7_letRead_53 : decode cX7_letRead 53 = .ok (.goto 16, 3) := by decide +kernel
theorem dX7_letRead_56 : decode cX7_letRead 56 = .ok (.aload_n 0, 1) := by decide +kernel
theorem dX7_letRead_57 : decode cX7_letRead 57 = .ok (.getfield 15, 3) := by decide +kernel
theorem dX7_letRead_60 : decode cX7_letRead 60 = .ok (.iload 7, 2) := by decide +kernel
theorem dX7_letRead_62 : decode cX7_letRead 62 = .ok (.iaload, 1) := by decide +kernel
theorem dX7_letRead_63 : decode cX7_letRead 63 = .ok (.iconst 1, 1) := by decide +kernel
theorem dX7_letRead_64 : decode cX7_letRead 64 = .ok (.iload_n 2, 1) := by decide +kernel
theorem dX7_letRead_65 : decode cX7_letRead 65 = .ok (.ishl, 1) := by decide +kernel
theorem dX7_letRead_66 : decode cX7_letRead 66 = .ok (.iconst (-1), 1) := by decide +kernel
theorem dX7_letRead_67 : decode cX7_letRead 67 = .ok (.ixor, 1) := by decide +kernel
theorem dX7_letRead_68 : decode cX7_letRead 68 = .ok (.iand, 1) := by decide +kernel
theorem dX7_letRead_69 : decode cX7_letRead 69 = .ok (.iastore, 1) := by decide +kernel
theorem dX7_letRead_70 : decode cX7_letRead 70 = .ok (.iinc 6 1, 3) := by decide +kernel
theorem dX7_letRead_73 : decode cX7_letRead 73 = .ok (.iinc 7 1, 3) := by decide +kernel
theorem dX7_letRead_76 : decode cX7_letRead 76 = .ok (.goto (-70), 3) := by decide +kernel
theorem dX7_letRead_79 : decode cX7_letRead 79 = .ok (.iload 6, 2) := by decide +kernel
theorem dX7_letRead_81 : decode cX7_letRead 81 = .ok (.ireturn, 1) := by decide +kernel
theorem dX8_init_0 : decode cX8_init 0 = .ok (.aload_n 0, 1) := by decide +kernel
theorem dX8_init_1 : decode cX8_init 1 = .ok (.invokespecial 3, 3) := by decide +kernel
theorem dX8_init_4 : decode cX8_init 4 = .ok (.aload_n 0, 1) := by decide +kernel
theorem dX8_init_5 : decode cX8_init 5 = .ok (.ldc 9, 2) := by decide +kernel
theorem dX8_init_7 : decode cX8_init 7 = .ok (.putfield 10, 3) := by decide +kernel
theorem dX8_init_10 : decode cX8_init 10 = .ok (.aload_n 0, 1) := by decide +kernel
theorem dX8_init_11 : decode cX8_init 11 = .ok (.ldc 9, 2) := by decide +kernel
theorem dX8_init_13 : decode cX8_init 13 = .ok (.putfield 16, 3) := by decide +kernel
theorem dX8_init_16 : decode cX8_init 16 = .ok (.aload_n 0, 1) := by decide +kernel
theorem dX8_init_17 : decode cX8_init 17 = .ok (.iconst 0, 1) := by decide +kernel
theorem dX8_init_18 : decode cX8_init 18 = .ok (.putfield 19, 3) := by decide +kernel
theorem dX8_init_21 : decode cX8_init 21 = .ok (.aload_n 0, 1) := by decide +kernel
theorem dX8_init_22 : decode cX8_init 22 = .ok (.new 23, 3) := by decide +kernel
theorem dX8_init_25 : decode cX8_init 25 = .ok (.dup, 1) := by decide +kernel
theorem dX8_init_26 : decode cX8_init 26 = .ok (.invokespecial 25, 3) := by decide +kernel
theorem dX8_init_29 : decode cX8_init 29 = .ok (.putfield 26, 3) := by decide +kernel
theorem dX8_init_32 : decode cX8_init 32 = .ok (.aload_n 0, 1) := by decide +kernel
theorem dX8_init_33 : decode cX8_init 33 = .ok (.iconst (-1), 1) := by decide +kernel
theorem dX8_init_34 : decode cX8_init 34 = .ok (.putfield 30, 3) := by decide +kernel
theorem dX8_init_37 : decode cX8_init 37 = .ok (.aload_n 0, 1) := by decide +kernel
theorem dX8_init_38 : decode cX8_init 38 = .ok (.iconst 0, 1) := by decide +kernel
theorem dX8_init_39 : decode cX8_init 39 = .ok (.putfield 33, 3) := by decide +kernel
theorem dX8_init_42 : decode cX8_init 42 = .ok (.aload_n 0, 1) := by decide +kernel
theorem dX8_init_43 : decode cX8_init 43 = .ok (.iconst 0, 1) := by decide +kernel
theorem dX8_init_44 : decode cX8_init 44 = .ok (.putfield 36, 3) := by decide +kernel
theorem dX8_init_47 : decode cX8_init 47 = .ok (.aload_n 0, 1) := by decide +kernel
theorem dX8_init_48 : decode cX8_init 48 = .ok (.iconst 0, 1) := by decide +kernel
theorem dX8_init_49 : decode cX8_init 49 = .ok (.putfield 39, 3) := by decide +kernel
theorem dX8_init_52 : decode cX8_init 52 = .ok (.aload_n 0, 1) := by decide +kernel
theorem dX8_init_53 : decode cX8_init 53 = .ok (.iload_n 1, 1) := by decide +kernel
theorem dX8_init_54 : decode cX8_init 54 = .ok (.putfield 42, 3) := by decide +kernel
theorem dX8_init_57 : decode cX8_init 57 = .ok (.return_, 1) := by decide +kernel
theorem dX8_wasFrozen_0 : decode cX8_wasFrozen 0 = .ok (.aload_n 0, 1) := by decide +kernel
theorem dX8_wasFrozen_1 : decode cX8_wasFrozen 1 = .ok (.getfield 10, 3) := by decide +kernel
theorem dX8_wasFrozen_4 : decode cX8_wasFrozen 4 = .ok (.ldc 9, 2) := by decide +kernel
theorem dX8_wasFrozen_6 : decode cX8_wasFrozen 6 = .ok (.if_icmp .eq 7, 3) := by decide +kernel
theorem dX8_wasFrozen_9 : decode cX8_wasFrozen 9 = .ok (.iconst 1, 1) := by decide +kernel
theorem dX8_wasFrozen_10 : decode cX8_wasFrozen 10 = .ok (.goto 4, 3) := by decide +kernel
theorem dX8_wasFrozen_13 : decode cX8_wasFrozen 13 = .ok (.iconst 0, 1) := by decide +kernel
theorem dX8_wasFrozen_14 : decode cX8_wasFrozen 14 = .ok (.ireturn, 1) := by decide +kernel
theorem dX8_isCleared_0 : decode cX8_isCleared 0 = .ok (.aload_n 0, 1) := by decide +kernel
theorem dX8_isCleared_1 : decode cX8_isCleared 1 = .ok (.getfield 16, 3) := by decide +kernel
theorem dX8_isCleared_4 : decode cX8_isCleared 4 = .ok (.ldc 9, 2) := by decide +kernel
theorem dX8_isCleared_6 : decode cX8_isCleared 6 = .ok (.if_icmp .eq 7, 3) := by decide +kernel
theorem dX8_isCleared_9 : decode cX8_isCleared 9 = .ok (.iconst 1, 1) := by decide +kernel
theorem dX8_isCleared_10 : decode cX8_isCleared 10 = .ok (.goto 4, 3) := by decide +kernel
theorem dX8_isCleared_13 : decode cX8_isCleared 13 = .ok (.iconst 0, 1) := by decide +kernel
theorem dX8_isCleared_14 : decode cX8_isCleared 14 = .ok (.ireturn, 1) := by decide +kernel
theorem dX8_feeOwner_0 : decode cX8_feeOwner 0 = .ok (.aload_n 0, 1) := by decide +kernel
theorem dX8_feeOwner_1 : decode cX8_feeOwner 1 = .ok (.getfield 26, 3) := by decide +kernel
theorem dX8_feeOwner_4 : decode cX8_feeOwner 4 = .ok (.getfield 45, 3) := by decide +kernel
theorem dX8_feeOwner_7 : decode cX8_feeOwner 7 = .ok (.aload_n 0, 1) := by decide +kernel
theorem dX8_feeOwner_8 : decode cX8_feeOwner 8 = .ok (.getfield 42, 3) := by decide +kernel
theorem dX8_feeOwner_11 : decode cX8_feeOwner 11 = .ok (.bipush 6, 2) := by decide +kernel
theorem dX8_feeOwner_13 : decode cX8_feeOwner 13 = .ok (.imul, 1) := by decide +kernel
theorem dX8_feeOwner_14 : decode cX8_feeOwner 14 = .ok (.iconst 1, 1) := by decide +kernel
theorem dX8_feeOwner_15 : decode cX8_feeOwner 15 = .ok (.iadd, 1) := by decide +kernel
theorem dX8_feeOwner_16 : decode cX8_feeOwner 16 = .ok (.iaload, 1) := by decide +kernel
theorem dX8_feeOwner_17 : decode cX8_feeOwner 17 = .ok (.ireturn, 1) := by decide +kernel
theorem dX8_freeze_0 : decode cX8_freeze 0 = .ok (.aload_n 0, 1) := by decide +kernel
theorem dX8_freeze_1 : decode cX8_freeze 1 = .ok (.iload_n 1, 1) := by decide +kernel
theorem dX8_freeze_2 : decode cX8_freeze 2 = .ok (.putfield 10, 3) := by decide +kernel
theorem dX8_freeze_5 : decode cX8_freeze 5 = .ok (.aload_n 0, 1) := by decide +kernel
theorem dX8_freeze_6 : decode cX8_freeze 6 = .ok (.iload_n 2, 1) := by decide +kernel
theorem dX8_freeze_7 : decode cX8_freeze 7 = .ok (.putfield 19, 3) := by decide +kernel
theorem dX8_freeze_10 : decode cX8_freeze 10 = .ok (.aload_n 0, 1) := by decide +kernel
theorem dX8_freeze_11 : decode cX8_freeze 11 = .ok (.getfield 26, 3) := by decide +kernel
theorem dX8_freeze_14 : decode cX8_freeze 14 = .ok (.aload_n 3, 1) := by decide +kernel
theorem dX8_freeze_15 : decode cX8_freeze 15 = .ok (.invokevirtual 49, 3) := by decide +kernel
theorem dX8_freeze_18 : decode cX8_freeze 18 = .ok (.return_, 1) := by decide +kernel
theorem dX9_init_0 : decode cX9_init 0 = .ok (.aload_n 0, 1) := by decide +kernel
theorem dX9_init_1 : decode cX9_init 1 = .ok (.invokespecial 3, 3) := by decide +kernel
theorem dX9_init_4 : decode cX9_init 4 = .ok (.aload_n 0, 1) := by decide +kernel
theorem dX9_init_5 : decode cX9_init 5 = .ok (.new 9, 3) := by decide +kernel
theorem dX9_init_8 : decode cX9_init 8 = .ok (.dup, 1) := by decide +kernel
theorem dX9_init_9 : decode cX9_init 9 = .ok (.invokespecial 11, 3) := by decide +kernel
theorem dX9_init_12 : decode cX9_init 12 = .ok (.putfield 12, 3) := by decide +kernel
theorem dX9_init_15 : decode cX9_init 15 = .ok (.aload_n 0, 1) := by decide +kernel
theorem dX9_init_16 : decode cX9_init 16 = .ok (.new 18, 3) := by decide +kernel
theorem dX9_init_19 : decode cX9_init 19 = .ok (.dup, 1) := by decide +kernel
