theorem dX0_init_0 : decode cX0_init 0 = .ok (.aload_n 0, 1) := by decide +kernel
theorem dX0_init_1 : decode cX0_init 1 = .ok (.invokespecial 1, 3) := by decide +kernel
theorem dX0_init_4 : decode cX0_init 4 = .ok (.aload_n 0, 1) := by decide +kernel
theorem dX0_init_5 : decode cX0_init 5 = .ok (.lload_n 1, 1) := by decide +kernel
theorem dX0_init_6 : decode cX0_init 6 = .ok (.putfield 7, 3) := by decide +kernel
theorem dX0_init_9 : decode cX0_init 9 = .ok (.aload_n 0, 1) := by decide +kernel
theorem dX0_init_10 : decode cX0_init 10 = .ok (.lload_n 3, 1) := by decide +kernel
theorem dX0_init_11 : decode cX0_init 11 = .ok (.putfield 13, 3) := by decide +kernel
theorem dX0_init_14 : decode cX0_init 14 = .ok (.aload_n 0, 1) := by decide +kernel
theorem dX0_init_15 : decode cX0_init 15 = .ok (.lload 5, 2) := by decide +kernel
theorem dX0_init_17 : decode cX0_init 17 = .ok (.putfield 16, 3) := by decide +kernel
theorem dX0_init_20 : decode cX0_init 20 = .ok (.aload_n 0, 1) := by decide +kernel
theorem dX0_init_21 : decode cX0_init 21 = .ok (.lload 7, 2) := by decide +kernel
theorem dX0_init_23 : decode cX0_init 23 = .ok (.putfield 19, 3) := by decide +kernel
theorem dX0_init_26 : decode cX0_init 26 = .ok (.aload_n 0, 1) := by decide +kernel
theorem dX0_init_27 : decode cX0_init 27 = .ok (.iload 9, 2) := by decide +kernel
theorem dX0_init_29 : decode cX0_init 29 = .ok (.putfield 22, 3) := by decide +kernel
theorem dX0_init_32 : decode cX0_init 32 = .ok (.return_, 1) := by decide +kernel
theorem dX0_compareWith_0 : decode cX0_compareWith 0 = .ok (.aload_n 0, 1) := by decide +kernel
theorem dX0_compareWith_1 : decode cX0_compareWith 1 = .ok (.getfield 7, 3) := by decide +kernel
theorem dX0_compareWith_4 : decode cX0_compareWith 4 = .ok (.aload_n 1, 1) := by decide +kernel
theorem dX0_compareWith_5 : decode cX0_compareWith 5 = .ok (.getfield 7, 3) := by decide +kernel
theorem dX0_compareWith_8 : decode cX0_compareWith 8 = .ok (.invokestatic 26, 3) := by decide +kernel
theorem dX0_compareWith_11 : decode cX0_compareWith 11 = .ok (.istore_n 2, 1) := by decide +kernel
theorem dX0_compareWith_12 : decode cX0_compareWith 12 = .ok (.iload_n 2, 1) := by decide +kernel
theorem dX0_compareWith_13 : decode cX0_compareWith 13 = .ok (.ifCond .ne 15, 3) := by decide +kernel
theorem dX0_compareWith_16 : decode cX0_compareWith 16 = .ok (.aload_n 0, 1) := by decide +kernel
theorem dX0_compareWith_17 : decode cX0_compareWith 17 = .ok (.getfield 13, 3) := by decide +kernel
theorem dX0_compareWith_20 : decode cX0_compareWith 20 = .ok (.aload_n 1, 1) := by decide +kernel
theorem dX0_compareWith_21 : decode cX0_compareWith 21 = .ok (.getfield 13, 3) := by decide +kernel
theorem dX0_compareWith_24 : decode cX0_compareWith 24 = .ok (.invokestatic 26, 3) := by decide +kernel
theorem dX0_compareWith_27 : decode cX0_compareWith 27 = .ok (.istore_n 2, 1) := by decide +kernel
theorem dX0_compareWith_28 : decode cX0_compareWith 28 = .ok (.iload_n 2, 1) := by decide +kernel
theorem dX0_compareWith_29 : decode cX0_compareWith 29 = .ok (.ifCond .ne 15, 3) := by decide +kernel
theorem dX0_compareWith_32 : decode cX0_compareWith 32 = .ok (.aload_n 0, 1) := by decide +kernel
theorem dX0_compareWith_33 : decode cX0_compareWith 33 = .ok (.getfield 16, 3) := by decide +kernel
theorem dX0_compareWith_36 : decode cX0_compareWith 36 = .ok (.aload_n 1, 1) := by decide +kernel
theorem dX0_compareWith_37 : decode cX0_compareWith 37 = .ok (.getfield 16, 3) := by decide +kernel
theorem dX0_compareWith_40 : decode cX0_compareWith 40 = .ok (.invokestatic 26, 3) := by decide +kernel
theorem dX0_compareWith_43 : decode cX0_compareWith 43 = .ok (.istore_n 2, 1) := by decide +kernel
theorem dX0_compareWith_44 : decode cX0_compareWith 44 = .ok (.iload_n 2, 1) := by decide +kernel
theorem dX0_compareWith_45 : decode cX0_compareWith 45 = .ok (.ifCond .ne 15, 3) := by decide +kernel
theorem dX0_compareWith_48 : decode cX0_compareWith 48 = .ok (.aload_n 0, 1) := by decide +kernel
theorem dX0_compareWith_49 : decode cX0_compareWith 49 = .ok (.getfield 19, 3) := by decide +kernel
theorem dX0_compareWith_52 : decode cX0_compareWith 52 = .ok (.aload_n 1, 1) := by decide +kernel
theorem dX0_compareWith_53 : decode cX0_compareWith 53 = .ok (.getfield 19, 3) := by decide +kernel
theorem dX0_compareWith_56 : decode cX0_compareWith 56 = .ok (.invokestatic 26, 3) := by decide +kernel
theorem dX0_compareWith_59 : decode cX0_compareWith 59 = .ok (.istore_n 2, 1) := by decide +kernel
theorem dX0_compareWith_60 : decode cX0_compareWith 60 = .ok (.iload_n 2, 1) := by decide +kernel
theorem dX0_compareWith_61 : decode cX0_compareWith 61 = .ok (.ifCond .eq 7, 3) := by decide +kernel
theorem dX0_compareWith_64 : decode cX0_compareWith 64 = .ok (.iload_n 2, 1) := by decide +kernel
theorem dX0_compareWith_65 : decode cX0_compareWith 65 = .ok (.goto 14, 3) := by decide +kernel
theorem dX0_compareWith_68 : decode cX0_compareWith 68 = .ok (.aload_n 0, 1) := by decide +kernel
theorem dX0_compareWith_69 : decode cX0_compareWith 69 = .ok (.getfield 22, 3) := by decide +kernel
theorem dX0_compareWith_72 : decode cX0_compareWith 72 = .ok (.aload_n 1, 1) := by decide +kernel
theorem dX0_compareWith_73 : decode cX0_compareWith 73 = .ok (.getfield 22, 3) := by decide +kernel
theorem dX0_compareWith_76 : decode cX0_compareWith 76 = .ok (.invokestatic 32, 3) := by decide +kernel
theorem dX0_compareWith_79 : decode cX0_compareWith 79 = .ok (.ireturn, 1) := by decide +kernel
theorem dX1_init_0 : decode cX1_init 0 = .ok (.aload_n 0, 1) := by decide +kernel
theorem dX1_init_1 : decode cX1_init 1 = .ok (.invokespecial 3, 3) := by decide +kernel
theorem dX1_init_4 : decode cX1_init 4 = .ok (.aload_n 0, 1) := by decide +kernel
theorem dX1_init_5 : decode cX1_init 5 = .ok (.bipush 10, 2) := by decide +kernel
theorem dX1_init_7 : decode cX1_init 7 = .ok (.anewarray 9, 3) := by decide +kernel
theorem dX1_init_10 : decode cX1_init 10 = .ok (.putfield 11, 3) := by decide +kernel
theorem dX1_init_13 : decode cX1_init 13 = .ok (.aload_n 0, 1) := by decide +kernel
theorem dX1_init_14 : decode cX1_init 14 = .ok (.bipush 10, 2) := by decide +kernel
theorem dX1_init_16 : decode cX1_init 16 = .ok (.anewarray 12, 3) := by decide +kernel
theorem dX1_init_19 : decode cX1_init 19 = .ok (.putfield 17, 3) := by decide +kernel
theorem dX1_init_22 : decode cX1_init 22 = .ok (.iconst 0, 1) := by decide +kernel
theorem dX1_init_23 : decode cX1_init 23 = .ok (.istore_n 2, 1) := by decide +kernel
theorem dX1_init_24 : decode cX1_init 24 = .ok (.iload_n 2, 1) := by decide +kernel
theorem dX1_init_25 : decode cX1_init 25 = .ok (.bipush 10, 2) := by decide +kernel
theorem dX1_init_27 : decode cX1_init 27 = .ok (.if_icmp .ge 16, 3) := by decide +kernel
theorem dX1_init_30 : decode cX1_init 30 = .ok (.aload_n 0, 1) := by decide +kernel
theorem dX1_init_31 : decode cX1_init 31 = .ok (.getfield 11, 3) := by decide +kernel
theorem dX1_init_34 : decode cX1_init 34 = .ok (.iload_n 2, 1) := by decide +kernel
theorem dX1_init_35 : decode cX1_init 35 = .ok (.aload_n 1, 1) := by decide +kernel
theorem dX1_init_36 : decode cX1_init 36 = .ok (.aastore, 1) := by decide +kernel
theorem dX1_init_37 : decode cX1_init 37 = .ok (.iinc 2 1, 3) := by decide +kernel
theorem dX1_init_40 : decode cX1_init 40 = .ok (.goto (-16), 3) := by decide +kernel
theorem dX1_init_43 : decode cX1_init 43 = .ok (.aload_n 0, 1) := by decide +kernel
theorem dX1_init_44 : decode cX1_init 44 = .ok (.aload_n 1, 1) := by decide +kernel
theorem dX1_init_45 : decode cX1_init 45 = .ok (.putfield 21, 3) := by decide +kernel
theorem dX1_init_48 : decode cX1_init 48 = .ok (.return_, 1) := by decide +kernel
theorem dX1_reset_0 : decode cX1_reset 0 = .ok (.aload_n 0, 1) := by decide +kernel
theorem dX1_reset_1 : decode cX1_reset 1 = .ok (.iconst 0, 1) := by decide +kernel
theorem dX1_reset_2 : decode cX1_reset 2 = .ok (.putfield 25, 3) := by decide +kernel
theorem dX1_reset_5 : decode cX1_reset 5 = .ok (.aload_n 0, 1) := by decide +kernel
theorem dX1_reset_6 : decode cX1_reset 6 = .ok (.iload_n 1, 1) := by decide +kernel
theorem dX1_reset_7 : decode cX1_reset 7 = .ok (.putfield 29, 3) := by decide +kernel
theorem dX1_reset_10 : decode cX1_reset 10 = .ok (.aload_n 0, 1) := by decide +kernel
theorem dX1_reset_11 : decode cX1_reset 11 = .ok (.aload_n 2, 1) := by decide +kernel
theorem dX1_reset_12 : decode cX1_reset 12 = .ok (.putfield 21, 3) := by decide +kernel
theorem dX1_reset_15 : decode cX1_reset 15 = .ok (.aload_n 0, 1) := by decide +kernel
theorem dX1_reset_16 : decode cX1_reset 16 = .ok (.aconst_null, 1) := by decide +kernel
theorem dX1_reset_17 : decode cX1_reset 17 = .ok (.putfield 32, 3) := by decide +kernel
theorem dX1_reset_20 : decode cX1_reset 20 = .ok (.aload_n 0, 1) := by decide +kernel
theorem dX1_reset_21 : decode cX1_reset 21 = .ok (.iconst 0, 1) := by decide +kernel
theorem dX1_reset_22 : decode cX1_reset 22 = .ok (.putfield 36, 3) := by decide +kernel
theorem dX1_reset_25 : decode cX1_reset 25 = .ok (.return_, 1) := by decide +kernel
theorem dX1_entryAt_0 : decode cX1_entryAt 0 = .ok (.iload_n 1, 1) := by decide +kernel
theorem dX1_entryAt_1 : decode cX1_entryAt 1 = .ok (.ifCond .lt 21, 3) := by decide +kernel
theorem dX1_entryAt_4 : decode cX1_entryAt 4 = .ok (.iload_n 1, 1) := by decide +kernel
theorem dX1_entryAt_5 : decode cX1_entryAt 5 = .ok (.aload_n 0, 1) := by decide +kernel
theorem dX1_entryAt_6 : decode cX1_entryAt 6 = .ok (.getfield 11, 3) := by decide +kernel
theorem dX1_entryAt_9 : decode cX1_entryAt 9 = .ok (.arraylength, 1) := by decide +kernel
theorem dX1_entryAt_10 : decode cX1_entryAt 10 = .ok (.if_icmp .ge 12, 3) := by decide +kernel
theorem dX1_entryAt_13 : decode cX1_entryAt 13 = .ok (.aload_n 0, 1) := by decide +kernel
theorem dX1_entryAt_14 : decode cX1_entryAt 14 = .ok (.getfield 11, 3) := by decide +kernel
theorem dX1_entryAt_17 : decode cX1_entryAt 17 = .ok (.iload_n 1, 1) := by decide +kernel
theorem dX1_entryAt_18 : decode cX1_entryAt 18 = .ok (.aaload, 1) := by decide +kernel
theorem dX1_entryAt_19 : decode cX1_entryAt 19 = .ok (.goto 7, 3) := by decide +kernel
theorem dX1_entryAt_22 : decode cX1_entryAt 22 = .ok (.aload_n 0, 1) := by decide +kernel
theorem dX1_entryAt_23 : decode cX1_entryAt 23 = .ok (.getfield 21, 3) := by decide +kernel
theorem dX1_entryAt_26 : decode cX1_entryAt 26 = .ok (.areturn, 1) := by decide +kernel
theorem dX1_countPassed_0 : decode cX1_countPassed 0 = .ok (.iconst 0, 1) := by decide +kernel
theorem dX1_countPassed_1 : decode cX1_countPassed 1 = .ok (.istore_n 3, 1) := by decide +kernel
theorem dX1_countPassed_2 : decode cX1_countPassed 2 = .ok (.iload_n 3, 1) := by decide +kernel
theorem dX1_countPassed_3 : decode cX1_countPassed 3 = .ok (.aload_n 0, 1) := by decide +kernel
theorem dX1_countPassed_4 : decode cX1_countPassed 4 = .ok (.getfield 25, 3) := by decide +kernel
theorem dX1_countPassed_7 : decode cX1_countPassed 7 = .ok (.if_icmp .ge 46, 3) := by decide +kernel
theorem dX1_countPassed_10 : decode cX1_countPassed 10 = .ok (.iload_n 3, 1) := by decide +kernel
theorem dX1_countPassed_11 : decode cX1_countPassed 11 = .ok (.aload_n 0, 1) := by decide +kernel
theorem dX1_countPassed_12 : decode cX1_countPassed 12 = .ok (.getfield 11, 3) := by decide +kernel
theorem dX1_countPassed_15 : decode cX1_countPassed 15 = .ok (.arraylength, 1) := by decide +kernel
theorem dX1_countPassed_16 : decode cX1_countPassed 16 = .ok (.if_icmp .ge 37, 3) := by decide +kernel
theorem dX1_countPassed_19 : decode cX1_countPassed 19 = .ok (.aload_n 0, 1) := by decide +kernel
theorem dX1_countPassed_20 : decode cX1_countPassed 20 = .ok (.getfield 11, 3) := by decide +kernel
theorem dX1_countPassed_23 : decode cX1_countPassed 23 = .ok (.iload_n 3, 1) := by decide +kernel
theorem dX1_countPassed_24 : decode cX1_countPassed 24 = .ok (.aaload, 1) := by decide +kernel
theorem dX1_countPassed_25 : decode cX1_countPassed 25 = .ok (.aload_n 1, 1) := by decide +kernel
theorem dX1_countPassed_26 : decode cX1_countPassed 26 = .ok (.invokevirtual 40, 3) := by decide +kernel
theorem dX1_countPassed_29 : decode cX1_countPassed 29 = .ok (.istore 4, 2) := by decide +kernel
theorem dX1_countPassed_31 : decode cX1_countPassed 31 = .ok (.iload 4, 2) := by decide +kernel
theorem dX1_countPassed_33 : decode cX1_countPassed 33 = .ok (.ifCond .gt 12, 3) := by decide +kernel
theorem dX1_countPassed_36 : decode cX1_countPassed 36 = .ok (.iload 4, 2) := by decide +kernel
theorem dX1_countPassed_38 : decode cX1_countPassed 38 = .ok (.ifCond .ne 9, 3) := by decide +kernel
theorem dX1_countPassed_41 : decode cX1_countPassed 41 = .ok (.iload_n 2, 1) := by decide +kernel
theorem dX1_countPassed_42 : decode cX1_countPassed 42 = .ok (.ifCond .ne 5, 3) := by decide +kernel
theorem dX1_countPassed_45 : decode cX1_countPassed 45 = .ok (.iload_n 3, 1) := by decide +kernel
theorem dX1_countPassed_46 : decode cX1_countPassed 46 = .ok (.ireturn, 1) := by decide +kernel
theorem dX1_countPassed_47 : decode cX1_countPassed 47 = .ok (.iinc 3 1, 3) := by decide +kernel
theorem dX1_countPassed_50 : decode cX1_countPassed 50 = .ok (.goto (-48), 3) := by decide +kernel
theorem dX1_countPassed_53 : decode cX1_countPassed 53 = .ok (.iload_n 3, 1) := by decide +kernel
theorem dX1_countPassed_54 : decode cX1_countPassed 54 = .ok (.ireturn, 1) := by decide +kernel
theorem dX1_holds_0 : decode cX1_holds 0 = .ok (.aload_n 0, 1) := by decide +kernel
theorem dX1_holds_1 : decode cX1_holds 1 = .ok (.aload_n 1, 1) := by decide +kernel
theorem dX1_holds_2 : decode cX1_holds 2 = .ok (.iconst 1, 1) := by decide +kernel
theorem dX1_holds_3 : decode cX1_holds 3 = .ok (.invokevirtual 44, 3) := by decide +kernel
theorem dX1_holds_6 : decode cX1_holds 6 = .ok (.aload_n 0, 1) := by decide +kernel
theorem dX1_holds_7 : decode cX1_holds 7 = .ok (.aload_n 1, 1) := by decide +kernel
theorem dX1_holds_8 : decode cX1_holds 8 = .ok (.iconst 0, 1) := by decide +kernel
theorem dX1_holds_9 : decode cX1_holds 9 = .ok (.invokevirtual 44, 3) := by decide +kernel
theorem dX1_holds_12 : decode cX1_holds 12 = .ok (.if_icmp .le 7, 3) := by decide +kernel
theorem dX1_holds_15 : decode cX1_holds 15 = .ok (.iconst 1, 1) := by decide +kernel
theorem dX1_holds_16 : decode cX1_holds 16 = .ok (.goto 4, 3) := by decide +kernel
theorem dX1_holds_19 : decode cX1_holds 19 = .ok (.iconst 0, 1) := by decide +kernel
theorem dX1_holds_20 : decode cX1_holds 20 = .ok (.ireturn, 1) := by decide +kernel
theorem dX1_pageBelow_0 : decode cX1_pageBelow 0 = .ok (.aload_n 0, 1) := by decide +kernel
theorem dX1_pageBelow_1 : decode cX1_pageBelow 1 = .ok (.aload_n 1, 1) := by decide +kernel
theorem dX1_pageBelow_2 : decode cX1_pageBelow 2 = .ok (.iconst 1, 1) := by decide +kernel
theorem dX1_pageBelow_3 : decode cX1_pageBelow 3 = .ok (.invokevirtual 44, 3) := by decide +kernel
theorem dX1_pageBelow_6 : decode cX1_pageBelow 6 = .ok (.iconst 1, 1) := by decide +kernel
theorem dX1_pageBelow_7 : decode cX1_pageBelow 7 = .ok (.isub, 1) := by decide +kernel
theorem dX1_pageBelow_8 : decode cX1_pageBelow 8 = .ok (.istore_n 2, 1) := by decide +kernel
theorem dX1_pageBelow_9 : decode cX1_pageBelow 9 = .ok (.iload_n 2, 1) := by decide +kernel
theorem dX1_pageBelow_10 : decode cX1_pageBelow 10 = .ok (.ifCond .lt 21, 3) := by decide +kernel
theorem dX1_pageBelow_13 : decode cX1_pageBelow 13 = .ok (.iload_n 2, 1) := by decide +kernel
theorem dX1_pageBelow_14 : decode cX1_pageBelow 14 = .ok (.aload_n 0, 1) := by decide +kernel
theorem dX1_pageBelow_15 : decode cX1_pageBelow 15 = .ok (.getfield 17, 3) := by decide +kernel
theorem dX1_pageBelow_18 : decode cX1_pageBelow 18 = .ok (.arraylength, 1) := by decide +kernel
theorem dX1_pageBelow_19 : decode cX1_pageBelow 19 = .ok (.if_icmp .ge 12, 3) := by decide +kernel
theorem dX1_pageBelow_22 : decode cX1_pageBelow 22 = .ok (.aload_n 0, 1) := by decide +kernel
theorem dX1_pageBelow_23 : decode cX1_pageBelow 23 = .ok (.getfield 17, 3) := by decide +kernel
theorem dX1_pageBelow_26 : decode cX1_pageBelow 26 = .ok (.iload_n 2, 1) := by decide +kernel
theorem dX1_pageBelow_27 : decode cX1_pageBelow 27 = .ok (.aaload, 1) := by decide +kernel
theorem dX1_pageBelow_28 : decode cX1_pageBelow 28 = .ok (.goto 4, 3) := by decide +kernel
theorem dX1_pageBelow_31 : decode cX1_pageBelow 31 = .ok (.aconst_null, 1) := by decide +kernel
theorem dX1_pageBelow_32 : decode cX1_pageBelow 32 = .ok (.areturn, 1) := by decide +kernel
theorem dX1_insert_0 : decode cX1_insert 0 = .ok (.aload_n 0, 1) := by decide +kernel
theorem dX1_insert_1 : decode cX1_insert 1 = .ok (.getfield 25, 3) := by decide +kernel
theorem dX1_insert_4 : decode cX1_insert 4 = .ok (.ifCond .lt 12, 3) := by decide +kernel
theorem dX1_insert_7 : decode cX1_insert 7 = .ok (.aload_n 0, 1) := by decide +kernel
theorem dX1_insert_8 : decode cX1_insert 8 = .ok (.getfield 25, 3) := by decide +kernel
theorem dX1_insert_11 : decode cX1_insert 11 = .ok (.bipush 10, 2) := by decide +kernel
theorem dX1_insert_13 : decode cX1_insert 13 = .ok (.if_icmp .lt 4, 3) := by decide +kernel
theorem dX1_insert_16 : decode cX1_insert 16 = .ok (.return_, 1) := by decide +kernel
theorem dX1_insert_17 : decode cX1_insert 17 = .ok (.aload_n 0, 1) := by decide +kernel
theorem dX1_insert_18 : decode cX1_insert 18 = .ok (.aload_n 1, 1) := by decide +kernel
theorem dX1_insert_19 : decode cX1_insert 19 = .ok (.iconst 0, 1) := by decide +kernel
theorem dX1_insert_20 : decode cX1_insert 20 = .ok (.invokevirtual 44, 3) := by decide +kernel
theorem dX1_insert_23 : decode cX1_insert 23 = .ok (.istore_n 3, 1) := by decide +kernel
theorem dX1_insert_24 : decode cX1_insert 24 = .ok (.aload_n 0, 1) := by decide +kernel
theorem dX1_insert_25 : decode cX1_insert 25 = .ok (.getfield 25, 3) := by decide +kernel
theorem dX1_insert_28 : decode cX1_insert 28 = .ok (.istore 4, 2) := by decide +kernel
theorem dX1_insert_30 : decode cX1_insert 30 = .ok (.iload 4, 2) := by decide +kernel
theorem dX1_insert_32 : decode cX1_insert 32 = .ok (.iload_n 3, 1) := by decide +kernel
theorem dX1_insert_33 : decode cX1_insert 33 = .ok (.if_icmp .le 41, 3) := by decide +kernel
theorem dX1_insert_36 : decode cX1_insert 36 = .ok (.aload_n 0, 1) := by decide +kernel
theorem dX1_insert_37 : decode cX1_insert 37 = .ok (.getfield 11, 3) := by decide +kernel
theorem dX1_insert_40 : decode cX1_insert 40 = .ok (.iload 4, 2) := by decide +kernel
theorem dX1_insert_42 : decode cX1_insert 42 = .ok (.aload_n 0, 1) := by decide +kernel
theorem dX1_insert_43 : decode cX1_insert 43 = .ok (.getfield 11, 3) := by decide +kernel
theorem dX1_insert_46 : decode cX1_insert 46 = .ok (.iload 4, 2) := by decide +kernel
theorem dX1_insert_48 : decode cX1_insert 48 = .ok (.iconst 1, 1) := by decide +kernel
theorem dX1_insert_49 : decode cX1_insert 49 = .ok (.isub, 1) := by decide +kernel
theorem dX1_insert_50 : decode cX1_insert 50 = .ok (.aaload, 1) := by decide +kernel
theorem dX1_insert_51 : decode cX1_insert 51 = .ok (.aastore, 1) := by decide +kernel
theorem dX1_insert_52 : decode cX1_insert 52 = .ok (.aload_n 0, 1) := by decide +kernel
theorem dX1_insert_53 : decode cX1_insert 53 = .ok (.getfield 17, 3) := by decide +kernel
theorem dX1_insert_56 : decode cX1_insert 56 = .ok (.iload 4, 2) := by decide +kernel
theorem dX1_insert_58 : decode cX1_insert 58 = .ok (.aload_n 0, 1) := by decide +kernel
theorem dX1_insert_59 : decode cX1_insert 59 = .ok (.getfield 17, 3) := by decide +kernel
theorem dX1_insert_62 : decode cX1_insert 62 = .ok (.iload 4, 2) := by decide +kernel
theorem dX1_insert_64 : decode cX1_insert 64 = .ok (.iconst 1, 1) := by decide +kernel
theorem dX1_insert_65 : decode cX1_insert 65 = .ok (.isub, 1) := by decide +kernel
theorem dX1_insert_66 : decode cX1_insert 66 = .ok (.aaload, 1) := by decide +kernel
theorem dX1_insert_67 : decode cX1_insert 67 = .ok (.aastore, 1) := by decide +kernel
theorem dX1_insert_68 : decode cX1_insert 68 = .ok (.iinc 4 (-1), 3) := by decide +kernel
theorem dX1_insert_71 : decode cX1_insert 71 = .ok (.goto (-41), 3) := by decide +kernel
theorem dX1_insert_74 : decode cX1_insert 74 = .ok (.aload_n 0, 1) := by decide +kernel
theorem dX1_insert_75 : decode cX1_insert 75 = .ok (.getfield 11, 3) := by decide +kernel
theorem dX1_insert_78 : decode cX1_insert 78 = .ok (.iload_n 3, 1) := by decide +kernel
theorem dX1_insert_79 : decode cX1_insert 79 = .ok (.aload_n 1, 1) := by decide +kernel
theorem dX1_insert_80 : decode cX1_insert 80 = .ok (.aastore, 1) := by decide +kernel
theorem dX1_insert_81 : decode cX1_insert 81 = .ok (.aload_n 0, 1) := by decide +kernel
theorem dX1_insert_82 : decode cX1_insert 82 = .ok (.getfield 17, 3) := by decide +kernel
theorem dX1_insert_85 : decode cX1_insert 85 = .ok (.iload_n 3, 1) := by decide +kernel
theorem dX1_insert_86 : decode cX1_insert 86 = .ok (.aload_n 2, 1) := by decide +kernel
theorem dX1_insert_87 : decode cX1_insert 87 = .ok (.aastore, 1) := by decide +kernel
theorem dX1_insert_88 : decode cX1_insert 88 = .ok (.aload_n 0, 1) := by decide +kernel
theorem dX1_insert_89 : decode cX1_insert 89 = .ok (.dup, 1) := by decide +kernel
theorem dX1_insert_90 : decode cX1_insert 90 = .ok (.getfield 25, 3) := by decide +kernel
theorem dX1_insert_93 : decode cX1_insert 93 = .ok (.iconst 1, 1) := by decide +kernel
theorem dX1_insert_94 : decode cX1_insert 94 = .ok (.iadd, 1) := by decide +kernel
theorem dX1_insert_95 : decode cX1_insert 95 = .ok (.putfield 25, 3) := by decide +kernel
theorem dX1_insert_98 : decode cX1_insert 98 = .ok (.return_, 1) := by decide +kernel
theorem dX1_drop_0 : decode cX1_drop 0 = .ok (.aload_n 0, 1) := by decide +kernel
theorem dX1_drop_1 : decode cX1_drop 1 = .ok (.aload_n 1, 1) := by decide +kernel
theorem dX1_drop_2 : decode cX1_drop 2 = .ok (.invokevirtual 48, 3) := by decide +kernel
theorem dX1_drop_5 : decode cX1_drop 5 = .ok (.ifCond .ne 4, 3) := by decide +kernel
theorem dX1_drop_8 : decode cX1_drop 8 = .ok (.return_, 1) := by decide +kernel
theorem dX1_drop_9 : decode cX1_drop 9 = .ok (.aload_n 0, 1) := by decide +kernel
theorem dX1_drop_10 : decode cX1_drop 10 = .ok (.aload_n 1, 1) := by decide +kernel
theorem dX1_drop_11 : decode cX1_drop 11 = .ok (.iconst 0, 1) := by decide +kernel
theorem dX1_drop_12 : decode cX1_drop 12 = .ok (.invokevirtual 44, 3) := by decide +kernel
theorem dX1_drop_15 : decode cX1_drop 15 = .ok (.istore_n 2, 1) := by decide +kernel
theorem dX1_drop_16 : decode cX1_drop 16 = .ok (.iload_n 2, 1) := by decide +kernel
theorem dX1_drop_17 : decode cX1_drop 17 = .ok (.aload_n 0, 1) := by decide +kernel
theorem dX1_drop_18 : decode cX1_drop 18 = .ok (.getfield 25, 3) := by decide +kernel
theorem dX1_drop_21 : decode cX1_drop 21 = .ok (.iconst 1, 1) := by decide +kernel
theorem dX1_drop_22 : decode cX1_drop 22 = .ok (.isub, 1) := by decide +kernel
theorem dX1_drop_23 : decode cX1_drop 23 = .ok (.if_icmp .ge 37, 3) := by decide +kernel
theorem dX1_drop_26 : decode cX1_drop 26 = .ok (.aload_n 0, 1) := by decide +kernel
theorem dX1_drop_27 : decode cX1_drop 27 = .ok (.getfield 11, 3) := by decide +kernel
theorem dX1_drop_30 : decode cX1_drop 30 = .ok (.iload_n 2, 1) := by decide +kernel
theorem dX1_drop_31 : decode cX1_drop 31 = .ok (.aload_n 0, 1) := by decide +kernel
theorem dX1_drop_32 : decode cX1_drop 32 = .ok (.getfield 11, 3) := by decide +kernel
theorem dX1_drop_35 : decode cX1_drop 35 = .ok (.iload_n 2, 1) := by decide +kernel
theorem dX1_drop_36 : decode cX1_drop 36 = .ok (.iconst 1, 1) := by decide +kernel
theorem dX1_drop_37 : decode cX1_drop 37 = .ok (.iadd, 1) := by decide +kernel
theorem dX1_drop_38 : decode cX1_drop 38 = .ok (.aaload, 1) := by decide +kernel
theorem dX1_drop_39 : decode cX1_drop 39 = .ok (.aastore, 1) := by decide +kernel
theorem dX1_drop_40 : decode cX1_drop 40 = .ok (.aload_n 0, 1) := by decide +kernel
theorem dX1_drop_41 : decode cX1_drop 41 = .ok (.getfield 17, 3) := by decide +kernel
theorem dX1_drop_44 : decode cX1_drop 44 = .ok (.iload_n 2, 1) := by decide +kernel
theorem dX1_drop_45 : decode cX1_drop 45 = .ok (.aload_n 0, 1) := by decide +kernel
theorem dX1_drop_46 : decode cX1_drop 46 = .ok (.getfield 17, 3) := by decide +kernel
theorem dX1_drop_49 : decode cX1_drop 49 = .ok (.iload_n 2, 1) := by decide +kernel
theorem dX1_drop_50 : decode cX1_drop 50 = .ok (.iconst 1, 1) := by decide +kernel
theorem dX1_drop_51 : decode cX1_drop 51 = .ok (.iadd, 1) := by decide +kernel
theorem dX1_drop_52 : decode cX1_drop 52 = .ok (.aaload, 1) := by decide +kernel
theorem dX1_drop_53 : decode cX1_drop 53 = .ok (.aastore, 1) := by decide +kernel
theorem dX1_drop_54 : decode cX1_drop 54 = .ok (.iinc 2 1, 3) := by decide +kernel
theorem dX1_drop_57 : decode cX1_drop 57 = .ok (.goto (-41), 3) := by decide +kernel
theorem dX1_drop_60 : decode cX1_drop 60 = .ok (.aload_n 0, 1) := by decide +kernel
theorem dX1_drop_61 : decode cX1_drop 61 = .ok (.dup, 1) := by decide +kernel
theorem dX1_drop_62 : decode cX1_drop 62 = .ok (.getfield 25, 3) := by decide +kernel
theorem dX1_drop_65 : decode cX1_drop 65 = .ok (.iconst 1, 1) := by decide +kernel
theorem dX1_drop_66 : decode cX1_drop 66 = .ok (.isub, 1) := by decide +kernel
theorem dX1_drop_67 : decode cX1_drop 67 = .ok (.putfield 25, 3) := by decide +kernel
theorem dX1_drop_70 : decode cX1_drop 70 = .ok (.return_, 1) := by decide +kernel
theorem dX1_append_0 : decode cX1_append 0 = .ok (.iload_n 2, 1) := by decide +kernel
theorem dX1_append_1 : decode cX1_append 1 = .ok (.istore 4, 2) := by decide +kernel
theorem dX1_append_3 : decode cX1_append 3 = .ok (.iload 4, 2) := by decide +kernel
theorem dX1_append_5 : decode cX1_append 5 = .ok (.iload_n 3, 1) := by decide +kernel
theorem dX1_append_6 : decode cX1_append 6 = .ok (.if_icmp .ge 69, 3) := by decide +kernel
theorem dX1_append_9 : decode cX1_append 9 = .ok (.iload 4, 2) := by decide +kernel
theorem dX1_append_11 : decode cX1_append 11 = .ok (.aload_n 1, 1) := by decide +kernel
theorem dX1_append_12 : decode cX1_append 12 = .ok (.getfield 25, 3) := by decide +kernel
theorem dX1_append_15 : decode cX1_append 15 = .ok (.if_icmp .ge 60, 3) := by decide +kernel
theorem dX1_append_18 : decode cX1_append 18 = .ok (.aload_n 0, 1) := by decide +kernel
theorem dX1_append_19 : decode cX1_append 19 = .ok (.getfield 25, 3) := by decide +kernel
theorem dX1_append_22 : decode cX1_append 22 = .ok (.bipush 10, 2) := by decide +kernel
theorem dX1_append_24 : decode cX1_append 24 = .ok (.if_icmp .ge 51, 3) := by decide +kernel
theorem dX1_append_27 : decode cX1_append 27 = .ok (.aload_n 0, 1) := by decide +kernel
theorem dX1_append_28 : decode cX1_append 28 = .ok (.getfield 11, 3) := by decide +kernel
theorem dX1_append_31 : decode cX1_append 31 = .ok (.aload_n 0, 1) := by decide +kernel
theorem dX1_append_32 : decode cX1_append 32 = .ok (.getfield 25, 3) := by decide +kernel
theorem dX1_append_35 : decode cX1_append 35 = .ok (.aload_n 1, 1) := by decide +kernel
theorem dX1_append_36 : decode cX1_append 36 = .ok (.getfield 11, 3) := by decide +kernel
theorem dX1_append_39 : decode cX1_append 39 = .ok (.iload 4, 2) := by decide +kernel
theorem dX1_append_41 : decode cX1_append 41 = .ok (.aaload, 1) := by decide +kernel
theorem dX1_append_42 : decode cX1_append 42 = .ok (.aastore, 1) := by decide +kernel
theorem dX1_append_43 : decode cX1_append 43 = .ok (.aload_n 0, 1) := by decide +kernel
theorem dX1_append_44 : decode cX1_append 44 = .ok (.getfield 17, 3) := by decide +kernel
theorem dX1_append_47 : decode cX1_append 47 = .ok (.aload_n 0, 1) := by decide +kernel
theorem dX1_append_48 : decode cX1_append 48 = .ok (.getfield 25, 3) := by decide +kernel
theorem dX1_append_51 : decode cX1_append 51 = .ok (.aload_n 1, 1) := by decide +kernel
theorem dX1_append_52 : decode cX1_append 52 = .ok (.getfield 17, 3) := by decide +kernel
theorem dX1_append_55 : decode cX1_append 55 = .ok (.iload 4, 2) := by decide +kernel
theorem dX1_append_57 : decode cX1_append 57 = .ok (.aaload, 1) := by decide +kernel
theorem dX1_append_58 : decode cX1_append 58 = .ok (.aastore, 1) := by decide +kernel
theorem dX1_append_59 : decode cX1_append 59 = .ok (.aload_n 0, 1) := by decide +kernel
theorem dX1_append_60 : decode cX1_append 60 = .ok (.dup, 1) := by decide +kernel
theorem dX1_append_61 : decode cX1_append 61 = .ok (.getfield 25, 3) := by decide +kernel
theorem dX1_append_64 : decode cX1_append 64 = .ok (.iconst 1, 1) := by decide +kernel
theorem dX1_append_65 : decode cX1_append 65 = .ok (.iadd, 1) := by decide +kernel
theorem dX1_append_66 : decode cX1_append 66 = .ok (.putfield 25, 3) := by decide +kernel
theorem dX1_append_69 : decode cX1_append 69 = .ok (.iinc 4 1, 3) := by decide +kernel
theorem dX1_append_72 : decode cX1_append 72 = .ok (.goto (-69), 3) := by decide +kernel
theorem dX1_append_75 : decode cX1_append 75 = .ok (.return_, 1) := by decide +kernel
theorem dX2_init_0 : decode cX2_init 0 = .ok (.aload_n 0, 1) := by decide +kernel
theorem dX2_init_1 : decode cX2_init 1 = .ok (.invokespecial 1, 3) := by decide +kernel
theorem dX2_init_4 : decode cX2_init 4 = .ok (.aload_n 0, 1) := by decide +kernel
theorem dX2_init_5 : decode cX2_init 5 = .ok (.new 7, 3) := by decide +kernel
theorem dX2_init_8 : decode cX2_init 8 = .ok (.dup, 1) := by decide +kernel
theorem dX2_init_9 : decode cX2_init 9 = .ok (.lconst 0, 1) := by decide +kernel
theorem dX2_init_10 : decode cX2_init 10 = .ok (.lconst 0, 1) := by decide +kernel
theorem dX2_init_11 : decode cX2_init 11 = .ok (.lconst 0, 1) := by decide +kernel
theorem dX2_init_12 : decode cX2_init 12 = .ok (.lconst 0, 1) := by decide +kernel
theorem dX2_init_13 : decode cX2_init 13 = .ok (.iconst (-1), 1) := by decide +kernel
theorem dX2_init_14 : decode cX2_init 14 = .ok (.invokespecial 11, 3) := by decide +kernel
theorem dX2_init_17 : decode cX2_init 17 = .ok (.putfield 14, 3) := by decide +kernel
theorem dX2_init_20 : decode cX2_init 20 = .ok (.aload_n 0, 1) := by decide +kernel
theorem dX2_init_21 : decode cX2_init 21 = .ok (.new 7, 3) := by decide +kernel
theorem dX2_init_24 : decode cX2_init 24 = .ok (.dup, 1) := by decide +kernel
theorem dX2_init_25 : decode cX2_init 25 = .ok (.ldc2_w 18, 3) := by decide +kernel
theorem dX2_init_28 : decode cX2_init 28 = .ok (.ldc2_w 18, 3) := by decide +kernel
theorem dX2_init_31 : decode cX2_init 31 = .ok (.ldc2_w 18, 3) := by decide +kernel
theorem dX2_init_34 : decode cX2_init 34 = .ok (.ldc2_w 18, 3) := by decide +kernel
theorem dX2_init_37 : decode cX2_init 37 = .ok (.ldc 20, 2) := by decide +kernel
theorem dX2_init_39 : decode cX2_init 39 = .ok (.invokespecial 11, 3) := by decide +kernel
theorem dX2_init_42 : decode cX2_init 42 = .ok (.putfield 21, 3) := by decide +kernel
theorem dX2_init_45 : decode cX2_init 45 = .ok (.aload_n 0, 1) := by decide +kernel
theorem dX2_init_46 : decode cX2_init 46 = .ok (.new 24, 3) := by decide +kernel
theorem dX2_init_49 : decode cX2_init 49 = .ok (.dup, 1) := by decide +kernel
theorem dX2_init_50 : decode cX2_init 50 = .ok (.aload_n 0, 1) := by decide +kernel
theorem dX2_init_51 : decode cX2_init 51 = .ok (.getfield 14, 3) := by decide +kernel
theorem dX2_init_54 : decode cX2_init 54 = .ok (.invokespecial 26, 3) := by decide +kernel
theorem dX2_init_57 : decode cX2_init 57 = .ok (.putfield 29, 3) := by decide +kernel
theorem dX2_init_60 : decode cX2_init 60 = .ok (.aload_n 0, 1) := by decide +kernel
theorem dX2_init_61 : decode cX2_init 61 = .ok (.bipush 60, 2) := by decide +kernel
theorem dX2_init_63 : decode cX2_init 63 = .ok (.anewarray 24, 3) := by decide +kernel
theorem dX2_init_66 : decode cX2_init 66 = .ok (.putfield 33, 3) := by decide +kernel
theorem dX2_init_69 : decode cX2_init 69 = .ok (.aload_n 0, 1) := by decide +kernel
theorem dX2_init_70 : decode cX2_init 70 = .ok (.getfield 33, 3) := by decide +kernel
theorem dX2_init_73 : decode cX2_init 73 = .ok (.iconst 0, 1) := by decide +kernel
theorem dX2_init_74 : decode cX2_init 74 = .ok (.aload_n 0, 1) := by decide +kernel
theorem dX2_init_75 : decode cX2_init 75 = .ok (.getfield 29, 3) := by decide +kernel
theorem dX2_init_78 : decode cX2_init 78 = .ok (.aastore, 1) := by decide +kernel
theorem dX2_init_79 : decode cX2_init 79 = .ok (.iconst 1, 1) := by decide +kernel
theorem dX2_init_80 : decode cX2_init 80 = .ok (.istore_n 1, 1) := by decide +kernel
theorem dX2_init_81 : decode cX2_init 81 = .ok (.iload_n 1, 1) := by decide +kernel
theorem dX2_init_82 : decode cX2_init 82 = .ok (.bipush 60, 2) := by decide +kernel
theorem dX2_init_84 : decode cX2_init 84 = .ok (.if_icmp .ge 26, 3) := by decide +kernel
theorem dX2_init_87 : decode cX2_init 87 = .ok (.aload_n 0, 1) := by decide +kernel
theorem dX2_init_88 : decode cX2_init 88 = .ok (.getfield 33, 3) := by decide +kernel
theorem dX2_init_91 : decode cX2_init 91 = .ok (.iload_n 1, 1) := by decide +kernel
theorem dX2_init_92 : decode cX2_init 92 = .ok (.new 24, 3) := by decide +kernel
theorem dX2_init_95 : decode cX2_init 95 = .ok (.dup, 1) := by decide +kernel
theorem dX2_init_96 : decode cX2_init 96 = .ok (.aload_n 0, 1) := by decide +kernel
theorem dX2_init_97 : decode cX2_init 97 = .ok (.getfield 14, 3) := by decide +kernel
theorem dX2_init_100 : decode cX2_init 100 = .ok (.invokespecial 26, 3) := by decide +kernel
theorem dX2_init_103 : decode cX2_init 103 = .ok (.aastore, 1) := by decide +kernel
theorem dX2_init_104 : decode cX2_init 104 = .ok (.iinc 1 1, 3) := by decide +kernel
theorem dX2_init_107 : decode cX2_init 107 = .ok (.goto (-26), 3) := by decide +kernel
theorem dX2_init_110 : decode cX2_init 110 = .ok (.aload_n 0, 1) := by decide +kernel
theorem dX2_init_111 : decode cX2_init 111 = .ok (.iconst 1, 1) := by decide +kernel
theorem dX2_init_112 : decode cX2_init 112 = .ok (.putfield 37, 3) := by decide +kernel
theorem dX2_init_115 : decode cX2_init 115 = .ok (.aload_n 0, 1) := by decide +kernel
theorem dX2_init_116 : decode cX2_init 116 = .ok (.iconst 1, 1) := by decide +kernel
theorem dX2_init_117 : decode cX2_init 117 = .ok (.putfield 41, 3) := by decide +kernel
theorem dX2_init_120 : decode cX2_init 120 = .ok (.aload_n 0, 1) := by decide +kernel
theorem dX2_init_121 : decode cX2_init 121 = .ok (.iconst 3, 1) := by decide +kernel
theorem dX2_init_122 : decode cX2_init 122 = .ok (.putfield 44, 3) := by decide +kernel
theorem dX2_init_125 : decode cX2_init 125 = .ok (.aload_n 0, 1) := by decide +kernel
theorem dX2_init_126 : decode cX2_init 126 = .ok (.iconst (-1), 1) := by decide +kernel
theorem dX2_init_127 : decode cX2_init 127 = .ok (.putfield 47, 3) := by decide +kernel
theorem dX2_init_130 : decode cX2_init 130 = .ok (.aload_n 0, 1) := by decide +kernel
theorem dX2_init_131 : decode cX2_init 131 = .ok (.aload_n 0, 1) := by decide +kernel
theorem dX2_init_132 : decode cX2_init 132 = .ok (.getfield 14, 3) := by decide +kernel
theorem dX2_init_135 : decode cX2_init 135 = .ok (.putfield 50, 3) := by decide +kernel
theorem dX2_init_138 : decode cX2_init 138 = .ok (.aload_n 0, 1) := by decide +kernel
theorem dX2_init_139 : decode cX2_init 139 = .ok (.iconst 0, 1) := by decide +kernel
theorem dX2_init_140 : decode cX2_init 140 = .ok (.putfield 53, 3) := by decide +kernel
theorem dX2_init_143 : decode cX2_init 143 = .ok (.aload_n 0, 1) := by decide +kernel
theorem dX2_init_144 : decode cX2_init 144 = .ok (.new 7, 3) := by decide +kernel
theorem dX2_init_147 : decode cX2_init 147 = .ok (.dup, 1) := by decide +kernel
theorem dX2_init_148 : decode cX2_init 148 = .ok (.lconst 0, 1) := by decide +kernel
theorem dX2_init_149 : decode cX2_init 149 = .ok (.lconst 0, 1) := by decide +kernel
theorem dX2_init_150 : decode cX2_init 150 = .ok (.lconst 0, 1) := by decide +kernel
theorem dX2_init_151 : decode cX2_init 151 = .ok (.lconst 0, 1) := by decide +kernel
theorem dX2_init_152 : decode cX2_init 152 = .ok (.iconst 0, 1) := by decide +kernel
theorem dX2_init_153 : decode cX2_init 153 = .ok (.invokespecial 11, 3) := by decide +kernel
theorem dX2_init_156 : decode cX2_init 156 = .ok (.putfield 57, 3) := by decide +kernel
theorem dX2_init_159 : decode cX2_init 159 = .ok (.return_, 1) := by decide +kernel
theorem dX2_add_0 : decode cX2_add 0 = .ok (.iload 9, 2) := by decide +kernel
theorem dX2_add_2 : decode cX2_add 2 = .ok (.ifCond .ge 5, 3) := by decide +kernel
theorem dX2_add_5 : decode cX2_add 5 = .ok (.iconst (-1), 1) := by decide +kernel
theorem dX2_add_6 : decode cX2_add 6 = .ok (.ireturn, 1) := by decide +kernel
theorem dX2_add_7 : decode cX2_add 7 = .ok (.new 7, 3) := by decide +kernel
theorem dX2_add_10 : decode cX2_add 10 = .ok (.dup, 1) := by decide +kernel
theorem dX2_add_11 : decode cX2_add 11 = .ok (.lload_n 1, 1) := by decide +kernel
theorem dX2_add_12 : decode cX2_add 12 = .ok (.lload_n 3, 1) := by decide +kernel
theorem dX2_add_13 : decode cX2_add 13 = .ok (.lload 5, 2) := by decide +kernel
theorem dX2_add_15 : decode cX2_add 15 = .ok (.lload 7, 2) := by decide +kernel
theorem dX2_add_17 : decode cX2_add 17 = .ok (.iload 9, 2) := by decide +kernel
theorem dX2_add_19 : decode cX2_add 19 = .ok (.invokespecial 11, 3) := by decide +kernel
theorem dX2_add_22 : decode cX2_add 22 = .ok (.astore 10, 2) := by decide +kernel
theorem dX2_add_24 : decode cX2_add 24 = .ok (.aload_n 0, 1) := by decide +kernel
theorem dX2_add_25 : decode cX2_add 25 = .ok (.iconst 0, 1) := by decide +kernel
theorem dX2_add_26 : decode cX2_add 26 = .ok (.aload 10, 2) := by decide +kernel
theorem dX2_add_28 : decode cX2_add 28 = .ok (.invokevirtual 60, 3) := by decide +kernel
theorem dX2_add_31 : decode cX2_add 31 = .ok (.aload 10, 2) := by decide +kernel
theorem dX2_add_33 : decode cX2_add 33 = .ok (.invokevirtual 64, 3) := by decide +kernel
theorem dX2_add_36 : decode cX2_add 36 = .ok (.ifCond .eq 5, 3) := by decide +kernel
theorem dX2_add_39 : decode cX2_add 39 = .ok (.iconst 0, 1) := by decide +kernel
theorem dX2_add_40 : decode cX2_add 40 = .ok (.ireturn, 1) := by decide +kernel
theorem dX2_add_41 : decode cX2_add 41 = .ok (.aload_n 0, 1) := by decide +kernel
theorem dX2_add_42 : decode cX2_add 42 = .ok (.aload_n 0, 1) := by decide +kernel
theorem dX2_add_43 : decode cX2_add 43 = .ok (.aload 10, 2) := by decide +kernel
theorem dX2_add_45 : decode cX2_add 45 = .ok (.invokevirtual 68, 3) := by decide +kernel
theorem dX2_add_48 : decode cX2_add 48 = .ok (.invokevirtual 72, 3) := by decide +kernel
theorem dX2_add_51 : decode cX2_add 51 = .ok (.ifCond .ne 5, 3) := by decide +kernel
theorem dX2_add_54 : decode cX2_add 54 = .ok (.iconst (-1), 1) := by decide +kernel
theorem dX2_add_55 : decode cX2_add 55 = .ok (.ireturn, 1) := by decide +kernel
theorem dX2_add_56 : decode cX2_add 56 = .ok (.aload_n 0, 1) := by decide +kernel
theorem dX2_add_57 : decode cX2_add 57 = .ok (.iconst 0, 1) := by decide +kernel
theorem dX2_add_58 : decode cX2_add 58 = .ok (.aload 10, 2) := by decide +kernel
theorem dX2_add_60 : decode cX2_add 60 = .ok (.aconst_null, 1) := by decide +kernel
theorem dX2_add_61 : decode cX2_add 61 = .ok (.invokevirtual 76, 3) := by decide +kernel
theorem dX2_add_64 : decode cX2_add 64 = .ok (.ifCond .eq 7, 3) := by decide +kernel
theorem dX2_add_67 : decode cX2_add 67 = .ok (.iconst 1, 1) := by decide +kernel
theorem dX2_add_68 : decode cX2_add 68 = .ok (.goto 5, 3) := by decide +kernel
theorem dX2_add_71 : decode cX2_add 71 = .ok (.bipush (-2), 2) := by decide +kernel
theorem dX2_add_73 : decode cX2_add 73 = .ok (.ireturn, 1) := by decide +kernel
theorem dX2_remove_0 : decode cX2_remove 0 = .ok (.iload 9, 2) := by decide +kernel
theorem dX2_remove_2 : decode cX2_remove 2 = .ok (.ifCond .ge 5, 3) := by decide +kernel
theorem dX2_remove_5 : decode cX2_remove 5 = .ok (.iconst 0, 1) := by decide +kernel
theorem dX2_remove_6 : decode cX2_remove 6 = .ok (.ireturn, 1) := by decide +kernel
theorem dX2_remove_7 : decode cX2_remove 7 = .ok (.new 7, 3) := by decide +kernel
theorem dX2_remove_10 : decode cX2_remove 10 = .ok (.dup, 1) := by decide +kernel
theorem dX2_remove_11 : decode cX2_remove 11 = .ok (.lload_n 1, 1) := by decide +kernel
theorem dX2_remove_12 : decode cX2_remove 12 = .ok (.lload_n 3, 1) := by decide +kernel
theorem dX2_remove_13 : decode cX2_remove 13 = .ok (.lload 5, 2) := by decide +kernel
theorem dX2_remove_15 : decode cX2_remove 15 = .ok (.lload 7, 2) := by decide +kernel
theorem dX2_remove_17 : decode cX2_remove 17 = .ok (.iload 9, 2) := by decide +kernel
theorem dX2_remove_19 : decode cX2_remove 19 = .ok (.invokespecial 11, 3) := by decide +kernel
theorem dX2_remove_22 : decode cX2_remove 22 = .ok (.astore 10, 2) := by decide +kernel
theorem dX2_remove_24 : decode cX2_remove 24 = .ok (.aload_n 0, 1) := by decide +kernel
theorem dX2_remove_25 : decode cX2_remove 25 = .ok (.iconst 0, 1) := by decide +kernel
theorem dX2_remove_26 : decode cX2_remove 26 = .ok (.aload 10, 2) := by decide +kernel
theorem dX2_remove_28 : decode cX2_remove 28 = .ok (.invokevirtual 60, 3) := by decide +kernel
theorem dX2_remove_31 : decode cX2_remove 31 = .ok (.astore 11, 2) := by decide +kernel
theorem dX2_remove_33 : decode cX2_remove 33 = .ok (.aload 11, 2) := by decide +kernel
theorem dX2_remove_35 : decode cX2_remove 35 = .ok (.aload 10, 2) := by decide +kernel
theorem dX2_remove_37 : decode cX2_remove 37 = .ok (.invokevirtual 64, 3) := by decide +kernel
theorem dX2_remove_40 : decode cX2_remove 40 = .ok (.ifCond .ne 5, 3) := by decide +kernel
theorem dX2_remove_43 : decode cX2_remove 43 = .ok (.iconst 0, 1) := by decide +kernel
theorem dX2_remove_44 : decode cX2_remove 44 = .ok (.ireturn, 1) := by decide +kernel
theorem dX2_remove_45 : decode cX2_remove 45 = .ok (.aload_n 0, 1) := by decide +kernel
theorem dX2_remove_46 : decode cX2_remove 46 = .ok (.iconst 1, 1) := by decide +kernel
theorem dX2_remove_47 : decode cX2_remove 47 = .ok (.invokevirtual 80, 3) := by decide +kernel
theorem dX2_remove_50 : decode cX2_remove 50 = .ok (.ifCond .ne 6, 3) := by decide +kernel
theorem dX2_remove_53 : decode cX2_remove 53 = .ok (.bipush (-2), 2) := by decide +kernel
theorem dX2_remove_55 : decode cX2_remove 55 = .ok (.ireturn, 1) := by decide +kernel
theorem dX2_remove_56 : decode cX2_remove 56 = .ok (.aload 11, 2) := by decide +kernel
theorem dX2_remove_58 : decode cX2_remove 58 = .ok (.aload 10, 2) := by decide +kernel
theorem dX2_remove_60 : decode cX2_remove 60 = .ok (.invokevirtual 83, 3) := by decide +kernel
theorem dX2_remove_63 : decode cX2_remove 63 = .ok (.aload 11, 2) := by decide +kernel
theorem dX2_remove_65 : decode cX2_remove 65 = .ok (.iconst 0, 1) := by decide +kernel
theorem dX2_remove_66 : decode cX2_remove 66 = .ok (.putfield 86, 3) := by decide +kernel
theorem dX2_remove_69 : decode cX2_remove 69 = .ok (.iconst 1, 1) := by decide +kernel
theorem dX2_remove_70 : decode cX2_remove 70 = .ok (.ireturn, 1) := by decide +kernel
theorem dX2_has_0 : decode cX2_has 0 = .ok (.iload 9, 2) := by decide +kernel
theorem dX2_has_2 : decode cX2_has 2 = .ok (.ifCond .ge 5, 3) := by decide +kernel
theorem dX2_has_5 : decode cX2_has 5 = .ok (.iconst 0, 1) := by decide +kernel
theorem dX2_has_6 : decode cX2_has 6 = .ok (.ireturn, 1) := by decide +kernel
theorem dX2_has_7 : decode cX2_has 7 = .ok (.new 7, 3) := by decide +kernel
theorem dX2_has_10 : decode cX2_has 10 = .ok (.dup, 1) := by decide +kernel
theorem dX2_has_11 : decode cX2_has 11 = .ok (.lload_n 1, 1) := by decide +kernel
theorem dX2_has_12 : decode cX2_has 12 = .ok (.lload_n 3, 1) := by decide +kernel
theorem dX2_has_13 : decode cX2_has 13 = .ok (.lload 5, 2) := by decide +kernel
theorem dX2_has_15 : decode cX2_has 15 = .ok (.lload 7, 2) := by decide +kernel
theorem dX2_has_17 : decode cX2_has 17 = .ok (.iload 9, 2) := by decide +kernel
theorem dX2_has_19 : decode cX2_has 19 = .ok (.invokespecial 11, 3) := by decide +kernel
theorem dX2_has_22 : decode cX2_has 22 = .ok (.astore 10, 2) := by decide +kernel
theorem dX2_has_24 : decode cX2_has 24 = .ok (.aload_n 0, 1) := by decide +kernel
theorem dX2_has_25 : decode cX2_has 25 = .ok (.iconst 0, 1) := by decide +kernel
theorem dX2_has_26 : decode cX2_has 26 = .ok (.aload 10, 2) := by decide +kernel
theorem dX2_has_28 : decode cX2_has 28 = .ok (.invokevirtual 60, 3) := by decide +kernel
theorem dX2_has_31 : decode cX2_has 31 = .ok (.aload 10, 2) := by decide +kernel
theorem dX2_has_33 : decode cX2_has 33 = .ok (.invokevirtual 64, 3) := by decide +kernel
theorem dX2_has_36 : decode cX2_has 36 = .ok (.ireturn, 1) := by decide +kernel
theorem dX2_seek_0 : decode cX2_seek 0 = .ok (.aload_n 0, 1) := by decide +kernel
theorem dX2_seek_1 : decode cX2_seek 1 = .ok (.new 7, 3) := by decide +kernel
theorem dX2_seek_4 : decode cX2_seek 4 = .ok (.dup, 1) := by decide +kernel
theorem dX2_seek_5 : decode cX2_seek 5 = .ok (.lload_n 1, 1) := by decide +kernel
theorem dX2_seek_6 : decode cX2_seek 6 = .ok (.lload_n 3, 1) := by decide +kernel
theorem dX2_seek_7 : decode cX2_seek 7 = .ok (.lload 5, 2) := by decide +kernel
theorem dX2_seek_9 : decode cX2_seek 9 = .ok (.lload 7, 2) := by decide +kernel
theorem dX2_seek_11 : decode cX2_seek 11 = .ok (.iconst (-1), 1) := by decide +kernel
theorem dX2_seek_12 : decode cX2_seek 12 = .ok (.invokespecial 11, 3) := by decide +kernel
theorem dX2_seek_15 : decode cX2_seek 15 = .ok (.iconst 0, 1) := by decide +kernel
theorem dX2_seek_16 : decode cX2_seek 16 = .ok (.invokevirtual 89, 3) := by decide +kernel
theorem dX2_seek_19 : decode cX2_seek 19 = .ok (.return_, 1) := by decide +kernel
theorem dX2_first_0 : decode cX2_first 0 = .ok (.aload_n 0, 1) := by decide +kernel
theorem dX2_first_1 : decode cX2_first 1 = .ok (.aload_n 0, 1) := by decide +kernel
theorem dX2_first_2 : decode cX2_first 2 = .ok (.getfield 14, 3) := by decide +kernel
theorem dX2_first_5 : decode cX2_first 5 = .ok (.iconst 0, 1) := by decide +kernel
theorem dX2_first_6 : decode cX2_first 6 = .ok (.invokevirtual 89, 3) := by decide +kernel
theorem dX2_first_9 : decode cX2_first 9 = .ok (.return_, 1) := by decide +kernel
theorem dX2_last_0 : decode cX2_last 0 = .ok (.aload_n 0, 1) := by decide +kernel
theorem dX2_last_1 : decode cX2_last 1 = .ok (.aload_n 0, 1) := by decide +kernel
theorem dX2_last_2 : decode cX2_last 2 = .ok (.getfield 21, 3) := by decide +kernel
theorem dX2_last_5 : decode cX2_last 5 = .ok (.iconst 1, 1) := by decide +kernel
theorem dX2_last_6 : decode cX2_last 6 = .ok (.invokevirtual 89, 3) := by decide +kernel
theorem dX2_last_9 : decode cX2_last 9 = .ok (.return_, 1) := by decide +kernel
theorem dX2_next_0 : decode cX2_next 0 = .ok (.aload_n 0, 1) := by decide +kernel
theorem dX2_next_1 : decode cX2_next 1 = .ok (.iconst 0, 1) := by decide +kernel
theorem dX2_next_2 : decode cX2_next 2 = .ok (.aload_n 0, 1) := by decide +kernel
theorem dX2_next_3 : decode cX2_next 3 = .ok (.getfield 50, 3) := by decide +kernel
theorem dX2_next_6 : decode cX2_next 6 = .ok (.invokevirtual 60, 3) := by decide +kernel
theorem dX2_next_9 : decode cX2_next 9 = .ok (.astore_n 1, 1) := by decide +kernel
theorem dX2_next_10 : decode cX2_next 10 = .ok (.aload_n 1, 1) := by decide +kernel
theorem dX2_next_11 : decode cX2_next 11 = .ok (.aload_n 0, 1) := by decide +kernel
theorem dX2_next_12 : decode cX2_next 12 = .ok (.getfield 50, 3) := by decide +kernel
theorem dX2_next_15 : decode cX2_next 15 = .ok (.aload_n 0, 1) := by decide +kernel
theorem dX2_next_16 : decode cX2_next 16 = .ok (.getfield 53, 3) := by decide +kernel
theorem dX2_next_19 : decode cX2_next 19 = .ok (.invokevirtual 93, 3) := by decide +kernel
theorem dX2_next_22 : decode cX2_next 22 = .ok (.istore_n 2, 1) := by decide +kernel
theorem dX2_next_23 : decode cX2_next 23 = .ok (.iconst 0, 1) := by decide +kernel
theorem dX2_next_24 : decode cX2_next 24 = .ok (.istore_n 3, 1) := by decide +kernel
theorem dX2_next_25 : decode cX2_next 25 = .ok (.iload_n 3, 1) := by decide +kernel
theorem dX2_next_26 : decode cX2_next 26 = .ok (.bipush 60, 2) := by decide +kernel
theorem dX2_next_28 : decode cX2_next 28 = .ok (.if_icmp .ge 31, 3) := by decide +kernel
theorem dX2_next_31 : decode cX2_next 31 = .ok (.iload_n 2, 1) := by decide +kernel
theorem dX2_next_32 : decode cX2_next 32 = .ok (.aload_n 1, 1) := by decide +kernel
theorem dX2_next_33 : decode cX2_next 33 = .ok (.getfield 97, 3) := by decide +kernel
theorem dX2_next_36 : decode cX2_next 36 = .ok (.if_icmp .lt 23, 3) := by decide +kernel
theorem dX2_next_39 : decode cX2_next 39 = .ok (.aload_n 1, 1) := by decide +kernel
theorem dX2_next_40 : decode cX2_next 40 = .ok (.getfield 100, 3) := by decide +kernel
theorem dX2_next_43 : decode cX2_next 43 = .ok (.ifnull 16, 3) := by decide +kernel
theorem dX2_next_46 : decode cX2_next 46 = .ok (.aload_n 1, 1) := by decide +kernel
theorem dX2_next_47 : decode cX2_next 47 = .ok (.getfield 100, 3) := by decide +kernel
theorem dX2_next_50 : decode cX2_next 50 = .ok (.astore_n 1, 1) := by decide +kernel
theorem dX2_next_51 : decode cX2_next 51 = .ok (.iconst 0, 1) := by decide +kernel
theorem dX2_next_52 : decode cX2_next 52 = .ok (.istore_n 2, 1) := by decide +kernel
theorem dX2_next_53 : decode cX2_next 53 = .ok (.iinc 3 1, 3) := by decide +kernel
theorem dX2_next_56 : decode cX2_next 56 = .ok (.goto (-31), 3) := by decide +kernel
theorem dX2_next_59 : decode cX2_next 59 = .ok (.iload_n 2, 1) := by decide +kernel
theorem dX2_next_60 : decode cX2_next 60 = .ok (.aload_n 1, 1) := by decide +kernel
theorem dX2_next_61 : decode cX2_next 61 = .ok (.getfield 97, 3) := by decide +kernel
theorem dX2_next_64 : decode cX2_next 64 = .ok (.if_icmp .lt 5, 3) := by decide +kernel
theorem dX2_next_67 : decode cX2_next 67 = .ok (.iconst 0, 1) := by decide +kernel
theorem dX2_next_68 : decode cX2_next 68 = .ok (.ireturn, 1) := by decide +kernel
theorem dX2_next_69 : decode cX2_next 69 = .ok (.aload_n 0, 1) := by decide +kernel
theorem dX2_next_70 : decode cX2_next 70 = .ok (.aload_n 1, 1) := by decide +kernel
theorem dX2_next_71 : decode cX2_next 71 = .ok (.iload_n 2, 1) := by decide +kernel
theorem dX2_next_72 : decode cX2_next 72 = .ok (.invokevirtual 103, 3) := by decide +kernel
theorem dX2_next_75 : decode cX2_next 75 = .ok (.putfield 57, 3) := by decide +kernel
theorem dX2_next_78 : decode cX2_next 78 = .ok (.aload_n 0, 1) := by decide +kernel
theorem dX2_next_79 : decode cX2_next 79 = .ok (.aload_n 0, 1) := by decide +kernel
theorem dX2_next_80 : decode cX2_next 80 = .ok (.getfield 57, 3) := by decide +kernel
theorem dX2_next_83 : decode cX2_next 83 = .ok (.iconst 1, 1) := by decide +kernel
theorem dX2_next_84 : decode cX2_next 84 = .ok (.invokevirtual 89, 3) := by decide +kernel
theorem dX2_next_87 : decode cX2_next 87 = .ok (.iconst 1, 1) := by decide +kernel
theorem dX2_next_88 : decode cX2_next 88 = .ok (.ireturn, 1) := by decide +kernel
theorem dX2_back_0 : decode cX2_back 0 = .ok (.aconst_null, 1) := by decide +kernel
theorem dX2_back_1 : decode cX2_back 1 = .ok (.astore_n 1, 1) := by decide +kernel
theorem dX2_back_2 : decode cX2_back 2 = .ok (.aload_n 0, 1) := by decide +kernel
theorem dX2_back_3 : decode cX2_back 3 = .ok (.iconst 0, 1) := by decide +kernel
theorem dX2_back_4 : decode cX2_back 4 = .ok (.invokevirtual 107, 3) := by decide +kernel
theorem dX2_back_7 : decode cX2_back 7 = .ok (.astore_n 2, 1) := by decide +kernel
theorem dX2_back_8 : decode cX2_back 8 = .ok (.iconst 0, 1) := by decide +kernel
theorem dX2_back_9 : decode cX2_back 9 = .ok (.istore_n 3, 1) := by decide +kernel
theorem dX2_back_10 : decode cX2_back 10 = .ok (.iload_n 3, 1) := by decide +kernel
theorem dX2_back_11 : decode cX2_back 11 = .ok (.bipush 60, 2) := by decide +kernel
theorem dX2_back_13 : decode cX2_back 13 = .ok (.if_icmp .ge 46, 3) := by decide +kernel
theorem dX2_back_16 : decode cX2_back 16 = .ok (.aload_n 2, 1) := by decide +kernel
theorem dX2_back_17 : decode cX2_back 17 = .ok (.ifnull 42, 3) := by decide +kernel
theorem dX2_back_20 : decode cX2_back 20 = .ok (.aload_n 2, 1) := by decide +kernel
theorem dX2_back_21 : decode cX2_back 21 = .ok (.aload_n 0, 1) := by decide +kernel
theorem dX2_back_22 : decode cX2_back 22 = .ok (.getfield 50, 3) := by decide +kernel
theorem dX2_back_25 : decode cX2_back 25 = .ok (.aload_n 0, 1) := by decide +kernel
theorem dX2_back_26 : decode cX2_back 26 = .ok (.getfield 53, 3) := by decide +kernel
theorem dX2_back_29 : decode cX2_back 29 = .ok (.invokevirtual 93, 3) := by decide +kernel
theorem dX2_back_32 : decode cX2_back 32 = .ok (.istore 4, 2) := by decide +kernel
theorem dX2_back_34 : decode cX2_back 34 = .ok (.iload 4, 2) := by decide +kernel
theorem dX2_back_36 : decode cX2_back 36 = .ok (.ifCond .le 12, 3) := by decide +kernel
theorem dX2_back_39 : decode cX2_back 39 = .ok (.aload_n 2, 1) := by decide +kernel
theorem dX2_back_40 : decode cX2_back 40 = .ok (.iload 4, 2) := by decide +kernel
theorem dX2_back_42 : decode cX2_back 42 = .ok (.iconst 1, 1) := by decide +kernel
theorem dX2_back_43 : decode cX2_back 43 = .ok (.isub, 1) := by decide +kernel
theorem dX2_back_44 : decode cX2_back 44 = .ok (.invokevirtual 103, 3) := by decide +kernel
theorem dX2_back_47 : decode cX2_back 47 = .ok (.astore_n 1, 1) := by decide +kernel
theorem dX2_back_48 : decode cX2_back 48 = .ok (.aload_n 2, 1) := by decide +kernel
theorem dX2_back_49 : decode cX2_back 49 = .ok (.getfield 100, 3) := by decide +kernel
theorem dX2_back_52 : decode cX2_back 52 = .ok (.astore_n 2, 1) := by decide +kernel
theorem dX2_back_53 : decode cX2_back 53 = .ok (.iinc 3 1, 3) := by decide +kernel
theorem dX2_back_56 : decode cX2_back 56 = .ok (.goto (-46), 3) := by decide +kernel
theorem dX2_back_59 : decode cX2_back 59 = .ok (.aload_n 1, 1) := by decide +kernel
theorem dX2_back_60 : decode cX2_back 60 = .ok (.ifnonnull 5, 3) := by decide +kernel
theorem dX2_back_63 : decode cX2_back 63 = .ok (.iconst 0, 1) := by decide +kernel
theorem dX2_back_64 : decode cX2_back 64 = .ok (.ireturn, 1) := by decide +kernel
theorem dX2_back_65 : decode cX2_back 65 = .ok (.aload_n 0, 1) := by decide +kernel
theorem dX2_back_66 : decode cX2_back 66 = .ok (.aload_n 1, 1) := by decide +kernel
theorem dX2_back_67 : decode cX2_back 67 = .ok (.putfield 57, 3) := by decide +kernel
theorem dX2_back_70 : decode cX2_back 70 = .ok (.aload_n 0, 1) := by decide +kernel
theorem dX2_back_71 : decode cX2_back 71 = .ok (.aload_n 1, 1) := by decide +kernel
theorem dX2_back_72 : decode cX2_back 72 = .ok (.iconst 0, 1) := by decide +kernel
theorem dX2_back_73 : decode cX2_back 73 = .ok (.invokevirtual 89, 3) := by decide +kernel
theorem dX2_back_76 : decode cX2_back 76 = .ok (.iconst 1, 1) := by decide +kernel
theorem dX2_back_77 : decode cX2_back 77 = .ok (.ireturn, 1) := by decide +kernel
theorem dX2_word_0 : decode cX2_word 0 = .ok (.iload_n 1, 1) := by decide +kernel
theorem dX2_word_1 : decode cX2_word 1 = .ok (.tableswitch 63 0 3 #[31, 39, 47, 55], 31) := by decide +kernel
theorem dX2_word_32 : decode cX2_word 32 = .ok (.aload_n 0, 1) := by decide +kernel
theorem dX2_word_33 : decode cX2_word 33 = .ok (.getfield 57, 3) := by decide +kernel
theorem dX2_word_36 : decode cX2_word 36 = .ok (.getfield 111, 3) := by decide +kernel
theorem dX2_word_39 : decode cX2_word 39 = .ok (.lreturn, 1) := by decide +kernel
theorem dX2_word_40 : decode cX2_word 40 = .ok (.aload_n 0, 1) := by decide +kernel
theorem dX2_word_41 : decode cX2_word 41 = .ok (.getfield 57, 3) := by decide +kernel
theorem dX2_word_44 : decode cX2_word 44 = .ok (.getfield 115, 3) := by decide +kernel
theorem dX2_word_47 : decode cX2_word 47 = .ok (.lreturn, 1) := by decide +kernel
theorem dX2_word_48 : decode cX2_word 48 = .ok (.aload_n 0, 1) := by decide +kernel
theorem dX2_word_49 : decode cX2_word 49 = .ok (.getfield 57, 3) := by decide +kernel
theorem dX2_word_52 : decode cX2_word 52 = .ok (.getfield 118, 3) := by decide +kernel
theorem dX2_word_55 : decode cX2_word 55 = .ok (.lreturn, 1) := by decide +kernel
theorem dX2_word_56 : decode cX2_word 56 = .ok (.aload_n 0, 1) := by decide +kernel
theorem dX2_word_57 : decode cX2_word 57 = .ok (.getfield 57, 3) := by decide +kernel
theorem dX2_word_60 : decode cX2_word 60 = .ok (.getfield 121, 3) := by decide +kernel
theorem dX2_word_63 : decode cX2_word 63 = .ok (.lreturn, 1) := by decide +kernel
theorem dX2_word_64 : decode cX2_word 64 = .ok (.lconst 0, 1) := by decide +kernel
theorem dX2_word_65 : decode cX2_word 65 = .ok (.lreturn, 1) := by decide +kernel
theorem dX2_place_0 : decode cX2_place 0 = .ok (.aload_n 0, 1) := by decide +kernel
theorem dX2_place_1 : decode cX2_place 1 = .ok (.getfield 57, 3) := by decide +kernel
theorem dX2_place_4 : decode cX2_place 4 = .ok (.getfield 124, 3) := by decide +kernel
theorem dX2_place_7 : decode cX2_place 7 = .ok (.ireturn, 1) := by decide +kernel
theorem dX2_clear_0 : decode cX2_clear 0 = .ok (.aload_n 0, 1) := by decide +kernel
theorem dX2_clear_1 : decode cX2_clear 1 = .ok (.getfield 29, 3) := by decide +kernel
theorem dX2_clear_4 : decode cX2_clear 4 = .ok (.iconst 0, 1) := by decide +kernel
theorem dX2_clear_5 : decode cX2_clear 5 = .ok (.aload_n 0, 1) := by decide +kernel
theorem dX2_clear_6 : decode cX2_clear 6 = .ok (.getfield 14, 3) := by decide +kernel
theorem dX2_clear_9 : decode cX2_clear 9 = .ok (.invokevirtual 127, 3) := by decide +kernel
theorem dX2_clear_12 : decode cX2_clear 12 = .ok (.aload_n 0, 1) := by decide +kernel
theorem dX2_clear_13 : decode cX2_clear 13 = .ok (.iconst 1, 1) := by decide +kernel
theorem dX2_clear_14 : decode cX2_clear 14 = .ok (.putfield 37, 3) := by decide +kernel
theorem dX2_clear_17 : decode cX2_clear 17 = .ok (.aload_n 0, 1) := by decide +kernel
theorem dX2_clear_18 : decode cX2_clear 18 = .ok (.iconst 1, 1) := by decide +kernel
theorem dX2_clear_19 : decode cX2_clear 19 = .ok (.putfield 41, 3) := by decide +kernel
theorem dX2_clear_22 : decode cX2_clear 22 = .ok (.aload_n 0, 1) := by decide +kernel
theorem dX2_clear_23 : decode cX2_clear 23 = .ok (.dup, 1) := by decide +kernel
theorem dX2_clear_24 : decode cX2_clear 24 = .ok (.getfield 44, 3) := by decide +kernel
theorem dX2_clear_27 : decode cX2_clear 27 = .ok (.iconst 3, 1) := by decide +kernel
theorem dX2_clear_28 : decode cX2_clear 28 = .ok (.iadd, 1) := by decide +kernel
theorem dX2_clear_29 : decode cX2_clear 29 = .ok (.putfield 44, 3) := by decide +kernel
theorem dX2_clear_32 : decode cX2_clear 32 = .ok (.aload_n 0, 1) := by decide +kernel
theorem dX2_clear_33 : decode cX2_clear 33 = .ok (.aload_n 0, 1) := by decide +kernel
theorem dX2_clear_34 : decode cX2_clear 34 = .ok (.getfield 14, 3) := by decide +kernel
theorem dX2_clear_37 : decode cX2_clear 37 = .ok (.iconst 0, 1) := by decide +kernel
theorem dX2_clear_38 : decode cX2_clear 38 = .ok (.invokevirtual 89, 3) := by decide +kernel
theorem dX2_clear_41 : decode cX2_clear 41 = .ok (.return_, 1) := by decide +kernel
theorem dX2_charge_0 : decode cX2_charge 0 = .ok (.iload_n 1, 1) := by decide +kernel
theorem dX2_charge_1 : decode cX2_charge 1 = .ok (.ifCond .lt 10, 3) := by decide +kernel
theorem dX2_charge_4 : decode cX2_charge 4 = .ok (.iload_n 1, 1) := by decide +kernel
theorem dX2_charge_5 : decode cX2_charge 5 = .ok (.sipush 999, 3) := by decide +kernel
theorem dX2_charge_8 : decode cX2_charge 8 = .ok (.if_icmp .le 5, 3) := by decide +kernel
theorem dX2_charge_11 : decode cX2_charge 11 = .ok (.iconst 0, 1) := by decide +kernel
theorem dX2_charge_12 : decode cX2_charge 12 = .ok (.ireturn, 1) := by decide +kernel
theorem dX2_charge_13 : decode cX2_charge 13 = .ok (.aload_n 0, 1) := by decide +kernel
theorem dX2_charge_14 : decode cX2_charge 14 = .ok (.iload_n 1, 1) := by decide +kernel
theorem dX2_charge_15 : decode cX2_charge 15 = .ok (.putfield 47, 3) := by decide +kernel
theorem dX2_charge_18 : decode cX2_charge 18 = .ok (.iconst 1, 1) := by decide +kernel
theorem dX2_charge_19 : decode cX2_charge 19 = .ok (.ireturn, 1) := by decide +kernel
theorem dX2_count_0 : decode cX2_count 0 = .ok (.iload_n 1, 1) := by decide +kernel
theorem dX2_count_1 : decode cX2_count 1 = .ok (.tableswitch 58 0 3 #[31, 41, 46, 51], 31) := by decide +kernel
theorem dX2_count_32 : decode cX2_count 32 = .ok (.aload_n 0, 1) := by decide +kernel
theorem dX2_count_33 : decode cX2_count 33 = .ok (.getfield 29, 3) := by decide +kernel
theorem dX2_count_36 : decode cX2_count 36 = .ok (.getfield 131, 3) := by decide +kernel
theorem dX2_count_39 : decode cX2_count 39 = .ok (.iconst 1, 1) := by decide +kernel
theorem dX2_count_40 : decode cX2_count 40 = .ok (.iadd, 1) := by decide +kernel
theorem dX2_count_41 : decode cX2_count 41 = .ok (.ireturn, 1) := by decide +kernel
theorem dX2_count_42 : decode cX2_count 42 = .ok (.aload_n 0, 1) := by decide +kernel
theorem dX2_count_43 : decode cX2_count 43 = .ok (.getfield 37, 3) := by decide +kernel
theorem dX2_count_46 : decode cX2_count 46 = .ok (.ireturn, 1) := by decide +kernel
theorem dX2_count_47 : decode cX2_count 47 = .ok (.aload_n 0, 1) := by decide +kernel
theorem dX2_count_48 : decode cX2_count 48 = .ok (.getfield 44, 3) := by decide +kernel
theorem dX2_count_51 : decode cX2_count 51 = .ok (.ireturn, 1) := by decide +kernel
theorem dX2_count_52 : decode cX2_count 52 = .ok (.aload_n 0, 1) := by decide +kernel
theorem dX2_count_53 : decode cX2_count 53 = .ok (.iconst 0, 1) := by decide +kernel
theorem dX2_count_54 : decode cX2_count 54 = .ok (.iconst 1, 1) := by decide +kernel
theorem dX2_count_55 : decode cX2_count 55 = .ok (.invokevirtual 134, 3) := by decide +kernel
theorem dX2_count_58 : decode cX2_count 58 = .ok (.ireturn, 1) := by decide +kernel
theorem dX2_count_59 : decode cX2_count 59 = .ok (.iconst (-1), 1) := by decide +kernel
theorem dX2_count_60 : decode cX2_count 60 = .ok (.ireturn, 1) := by decide +kernel
theorem dX2_level_0 : decode cX2_level 0 = .ok (.iload_n 1, 1) := by decide +kernel
theorem dX2_level_1 : decode cX2_level 1 = .ok (.ifCond .lt 18, 3) := by decide +kernel
theorem dX2_level_4 : decode cX2_level 4 = .ok (.iload_n 1, 1) := by decide +kernel
theorem dX2_level_5 : decode cX2_level 5 = .ok (.aload_n 0, 1) := by decide +kernel
theorem dX2_level_6 : decode cX2_level 6 = .ok (.getfield 29, 3) := by decide +kernel
theorem dX2_level_9 : decode cX2_level 9 = .ok (.getfield 131, 3) := by decide +kernel
theorem dX2_level_12 : decode cX2_level 12 = .ok (.if_icmp .gt 7, 3) := by decide +kernel
theorem dX2_level_15 : decode cX2_level 15 = .ok (.iload_n 2, 1) := by decide +kernel
theorem dX2_level_16 : decode cX2_level 16 = .ok (.ifCond .ge 5, 3) := by decide +kernel
theorem dX2_level_19 : decode cX2_level 19 = .ok (.iconst (-1), 1) := by decide +kernel
theorem dX2_level_20 : decode cX2_level 20 = .ok (.ireturn, 1) := by decide +kernel
theorem dX2_level_21 : decode cX2_level 21 = .ok (.iconst 0, 1) := by decide +kernel
theorem dX2_level_22 : decode cX2_level 22 = .ok (.istore_n 3, 1) := by decide +kernel
theorem dX2_level_23 : decode cX2_level 23 = .ok (.iconst 0, 1) := by decide +kernel
theorem dX2_level_24 : decode cX2_level 24 = .ok (.istore 4, 2) := by decide +kernel
theorem dX2_level_26 : decode cX2_level 26 = .ok (.aload_n 0, 1) := by decide +kernel
theorem dX2_level_27 : decode cX2_level 27 = .ok (.iload_n 1, 1) := by decide +kernel
theorem dX2_level_28 : decode cX2_level 28 = .ok (.invokevirtual 107, 3) := by decide +kernel
theorem dX2_level_31 : decode cX2_level 31 = .ok (.astore 5, 2) := by decide +kernel
theorem dX2_level_33 : decode cX2_level 33 = .ok (.iload_n 3, 1) := by decide +kernel
theorem dX2_level_34 : decode cX2_level 34 = .ok (.bipush 60, 2) := by decide +kernel
theorem dX2_level_36 : decode cX2_level 36 = .ok (.if_icmp .ge 44, 3) := by decide +kernel
theorem dX2_level_39 : decode cX2_level 39 = .ok (.aload 5, 2) := by decide +kernel
theorem dX2_level_41 : decode cX2_level 41 = .ok (.ifnull 39, 3) := by decide +kernel
theorem dX2_level_44 : decode cX2_level 44 = .ok (.iload_n 3, 1) := by decide +kernel
theorem dX2_level_45 : decode cX2_level 45 = .ok (.iload_n 2, 1) := by decide +kernel
theorem dX2_level_46 : decode cX2_level 46 = .ok (.iconst 2, 1) := by decide +kernel
theorem dX2_level_47 : decode cX2_level 47 = .ok (.isub, 1) := by decide +kernel
theorem dX2_level_48 : decode cX2_level 48 = .ok (.if_icmp .ne 9, 3) := by decide +kernel
theorem dX2_level_51 : decode cX2_level 51 = .ok (.aload 5, 2) := by decide +kernel
theorem dX2_level_53 : decode cX2_level 53 = .ok (.getfield 97, 3) := by decide +kernel
theorem dX2_level_56 : decode cX2_level 56 = .ok (.ireturn, 1) := by decide +kernel
theorem dX2_level_57 : decode cX2_level 57 = .ok (.iinc 3 1, 3) := by decide +kernel
theorem dX2_level_60 : decode cX2_level 60 = .ok (.iload 4, 2) := by decide +kernel
theorem dX2_level_62 : decode cX2_level 62 = .ok (.aload 5, 2) := by decide +kernel
theorem dX2_level_64 : decode cX2_level 64 = .ok (.getfield 97, 3) := by decide +kernel
theorem dX2_level_67 : decode cX2_level 67 = .ok (.iadd, 1) := by decide +kernel
theorem dX2_level_68 : decode cX2_level 68 = .ok (.istore 4, 2) := by decide +kernel
theorem dX2_level_70 : decode cX2_level 70 = .ok (.aload 5, 2) := by decide +kernel
theorem dX2_level_72 : decode cX2_level 72 = .ok (.getfield 100, 3) := by decide +kernel
theorem dX2_level_75 : decode cX2_level 75 = .ok (.astore 5, 2) := by decide +kernel
theorem dX2_level_77 : decode cX2_level 77 = .ok (.goto (-44), 3) := by decide +kernel
theorem dX2_level_80 : decode cX2_level 80 = .ok (.iload_n 2, 1) := by decide +kernel
theorem dX2_level_81 : decode cX2_level 81 = .ok (.ifCond .ne 5, 3) := by decide +kernel
theorem dX2_level_84 : decode cX2_level 84 = .ok (.iload_n 3, 1) := by decide +kernel
theorem dX2_level_85 : decode cX2_level 85 = .ok (.ireturn, 1) := by decide +kernel
theorem dX2_level_86 : decode cX2_level 86 = .ok (.iload_n 2, 1) := by decide +kernel
theorem dX2_level_87 : decode cX2_level 87 = .ok (.iconst 1, 1) := by decide +kernel
theorem dX2_level_88 : decode cX2_level 88 = .ok (.if_icmp .ne 8, 3) := by decide +kernel
theorem dX2_level_91 : decode cX2_level 91 = .ok (.iload 4, 2) := by decide +kernel
theorem dX2_level_93 : decode cX2_level 93 = .ok (.goto 4, 3) := by decide +kernel
theorem dX2_level_96 : decode cX2_level 96 = .ok (.iconst (-1), 1) := by decide +kernel
theorem dX2_level_97 : decode cX2_level 97 = .ok (.ireturn, 1) := by decide +kernel
theorem dX2_moveCursor_0 : decode cX2_moveCursor 0 = .ok (.aload_n 0, 1) := by decide +kernel
theorem dX2_moveCursor_1 : decode cX2_moveCursor 1 = .ok (.aload_n 1, 1) := by decide +kernel
theorem dX2_moveCursor_2 : decode cX2_moveCursor 2 = .ok (.putfield 50, 3) := by decide +kernel
theorem dX2_moveCursor_5 : decode cX2_moveCursor 5 = .ok (.aload_n 0, 1) := by decide +kernel
theorem dX2_moveCursor_6 : decode cX2_moveCursor 6 = .ok (.iload_n 2, 1) := by decide +kernel
theorem dX2_moveCursor_7 : decode cX2_moveCursor 7 = .ok (.putfield 53, 3) := by decide +kernel
theorem dX2_moveCursor_10 : decode cX2_moveCursor 10 = .ok (.return_, 1) := by decide +kernel
theorem dX2_setWords_0 : decode cX2_setWords 0 = .ok (.aload_n 0, 1) := by decide +kernel
theorem dX2_setWords_1 : decode cX2_setWords 1 = .ok (.getfield 47, 3) := by decide +kernel
theorem dX2_setWords_4 : decode cX2_setWords 4 = .ok (.iconst (-1), 1) := by decide +kernel
theorem dX2_setWords_5 : decode cX2_setWords 5 = .ok (.if_icmp .ne 15, 3) := by decide +kernel
theorem dX2_setWords_8 : decode cX2_setWords 8 = .ok (.aload_n 0, 1) := by decide +kernel
theorem dX2_setWords_9 : decode cX2_setWords 9 = .ok (.dup, 1) := by decide +kernel
theorem dX2_setWords_10 : decode cX2_setWords 10 = .ok (.getfield 44, 3) := by decide +kernel
theorem dX2_setWords_13 : decode cX2_setWords 13 = .ok (.iload_n 1, 1) := by decide +kernel
theorem dX2_setWords_14 : decode cX2_setWords 14 = .ok (.iadd, 1) := by decide +kernel
theorem dX2_setWords_15 : decode cX2_setWords 15 = .ok (.putfield 44, 3) := by decide +kernel
theorem dX2_setWords_18 : decode cX2_setWords 18 = .ok (.iconst 1, 1) := by decide +kernel
theorem dX2_setWords_19 : decode cX2_setWords 19 = .ok (.ireturn, 1) := by decide +kernel
theorem dX2_setWords_20 : decode cX2_setWords 20 = .ok (.aload_n 0, 1) := by decide +kernel
theorem dX2_setWords_21 : decode cX2_setWords 21 = .ok (.getfield 47, 3) := by decide +kernel
theorem dX2_setWords_24 : decode cX2_setWords 24 = .ok (.iload_n 1, 1) := by decide +kernel
theorem dX2_setWords_25 : decode cX2_setWords 25 = .ok (.if_icmp .ge 23, 3) := by decide +kernel
theorem dX2_setWords_28 : decode cX2_setWords 28 = .ok (.aload_n 0, 1) := by decide +kernel
theorem dX2_setWords_29 : decode cX2_setWords 29 = .ok (.dup, 1) := by decide +kernel
theorem dX2_setWords_30 : decode cX2_setWords 30 = .ok (.getfield 44, 3) := by decide +kernel
theorem dX2_setWords_33 : decode cX2_setWords 33 = .ok (.aload_n 0, 1) := by decide +kernel
theorem dX2_setWords_34 : decode cX2_setWords 34 = .ok (.getfield 47, 3) := by decide +kernel
theorem dX2_setWords_37 : decode cX2_setWords 37 = .ok (.iadd, 1) := by decide +kernel
theorem dX2_setWords_38 : decode cX2_setWords 38 = .ok (.putfield 44, 3) := by decide +kernel
theorem dX2_setWords_41 : decode cX2_setWords 41 = .ok (.aload_n 0, 1) := by decide +kernel
theorem dX2_setWords_42 : decode cX2_setWords 42 = .ok (.iconst (-1), 1) := by decide +kernel
theorem dX2_setWords_43 : decode cX2_setWords 43 = .ok (.putfield 47, 3) := by decide +kernel
theorem dX2_setWords_46 : decode cX2_setWords 46 = .ok (.iconst 0, 1) := by decide +kernel
theorem dX2_setWords_47 : decode cX2_setWords 47 = .ok (.ireturn, 1) := by decide +kernel
theorem dX2_setWords_48 : decode cX2_setWords 48 = .ok (.aload_n 0, 1) := by decide +kernel
theorem dX2_setWords_49 : decode cX2_setWords 49 = .ok (.dup, 1) := by decide +kernel
theorem dX2_setWords_50 : decode cX2_setWords 50 = .ok (.getfield 44, 3) := by decide +kernel
theorem dX2_setWords_53 : decode cX2_setWords 53 = .ok (.iload_n 1, 1) := by decide +kernel
theorem dX2_setWords_54 : decode cX2_setWords 54 = .ok (.iadd, 1) := by decide +kernel
theorem dX2_setWords_55 : decode cX2_setWords 55 = .ok (.putfield 44, 3) := by decide +kernel
theorem dX2_setWords_58 : decode cX2_setWords 58 = .ok (.aload_n 0, 1) := by decide +kernel
theorem dX2_setWords_59 : decode cX2_setWords 59 = .ok (.dup, 1) := by decide +kernel
theorem dX2_setWords_60 : decode cX2_setWords 60 = .ok (.getfield 47, 3) := by decide +kernel
theorem dX2_setWords_63 : decode cX2_setWords 63 = .ok (.iload_n 1, 1) := by decide +kernel
theorem dX2_setWords_64 : decode cX2_setWords 64 = .ok (.isub, 1) := by decide +kernel
theorem dX2_setWords_65 : decode cX2_setWords 65 = .ok (.putfield 47, 3) := by decide +kernel
theorem dX2_setWords_68 : decode cX2_setWords 68 = .ok (.iconst 1, 1) := by decide +kernel
theorem dX2_setWords_69 : decode cX2_setWords 69 = .ok (.ireturn, 1) := by decide +kernel
theorem dX2_leftmostPage_0 : decode cX2_leftmostPage 0 = .ok (.aload_n 0, 1) := by decide +kernel
theorem dX2_leftmostPage_1 : decode cX2_leftmostPage 1 = .ok (.iload_n 1, 1) := by decide +kernel
theorem dX2_leftmostPage_2 : decode cX2_leftmostPage 2 = .ok (.aload_n 0, 1) := by decide +kernel
theorem dX2_leftmostPage_3 : decode cX2_leftmostPage 3 = .ok (.getfield 14, 3) := by decide +kernel
theorem dX2_leftmostPage_6 : decode cX2_leftmostPage 6 = .ok (.invokevirtual 60, 3) := by decide +kernel
theorem dX2_leftmostPage_9 : decode cX2_leftmostPage 9 = .ok (.areturn, 1) := by decide +kernel
theorem dX2_pageInCharge_0 : decode cX2_pageInCharge 0 = .ok (.aload_n 0, 1) := by decide +kernel
theorem dX2_pageInCharge_1 : decode cX2_pageInCharge 1 = .ok (.getfield 29, 3) := by decide +kernel
theorem dX2_pageInCharge_4 : decode cX2_pageInCharge 4 = .ok (.astore_n 3, 1) := by decide +kernel
theorem dX2_pageInCharge_5 : decode cX2_pageInCharge 5 = .ok (.aload_n 0, 1) := by decide +kernel
theorem dX2_pageInCharge_6 : decode cX2_pageInCharge 6 = .ok (.getfield 29, 3) := by decide +kernel
theorem dX2_pageInCharge_9 : decode cX2_pageInCharge 9 = .ok (.getfield 131, 3) := by decide +kernel
theorem dX2_pageInCharge_12 : decode cX2_pageInCharge 12 = .ok (.istore 4, 2) := by decide +kernel
theorem dX2_pageInCharge_14 : decode cX2_pageInCharge 14 = .ok (.iload 4, 2) := by decide +kernel
theorem dX2_pageInCharge_16 : decode cX2_pageInCharge 16 = .ok (.iload_n 1, 1) := by decide +kernel
theorem dX2_pageInCharge_17 : decode cX2_pageInCharge 17 = .ok (.if_icmp .le 30, 3) := by decide +kernel
theorem dX2_pageInCharge_20 : decode cX2_pageInCharge 20 = .ok (.aload_n 3, 1) := by decide +kernel
theorem dX2_pageInCharge_21 : decode cX2_pageInCharge 21 = .ok (.aload_n 2, 1) := by decide +kernel
theorem dX2_pageInCharge_22 : decode cX2_pageInCharge 22 = .ok (.invokevirtual 137, 3) := by decide +kernel
theorem dX2_pageInCharge_25 : decode cX2_pageInCharge 25 = .ok (.astore 5, 2) := by decide +kernel
theorem dX2_pageInCharge_27 : decode cX2_pageInCharge 27 = .ok (.aload 5, 2) := by decide +kernel
theorem dX2_pageInCharge_29 : decode cX2_pageInCharge 29 = .ok (.ifnonnull 5, 3) := by decide +kernel
theorem dX2_pageInCharge_32 : decode cX2_pageInCharge 32 = .ok (.aload_n 3, 1) := by decide +kernel
theorem dX2_pageInCharge_33 : decode cX2_pageInCharge 33 = .ok (.areturn, 1) := by decide +kernel
theorem dX2_pageInCharge_34 : decode cX2_pageInCharge 34 = .ok (.aload 5, 2) := by decide +kernel
theorem dX2_pageInCharge_36 : decode cX2_pageInCharge 36 = .ok (.aload_n 2, 1) := by decide +kernel
theorem dX2_pageInCharge_37 : decode cX2_pageInCharge 37 = .ok (.invokestatic 141, 3) := by decide +kernel
theorem dX2_pageInCharge_40 : decode cX2_pageInCharge 40 = .ok (.astore_n 3, 1) := by decide +kernel
theorem dX2_pageInCharge_41 : decode cX2_pageInCharge 41 = .ok (.iinc 4 (-1), 3) := by decide +kernel
theorem dX2_pageInCharge_44 : decode cX2_pageInCharge 44 = .ok (.goto (-30), 3) := by decide +kernel
theorem dX2_pageInCharge_47 : decode cX2_pageInCharge 47 = .ok (.aload_n 3, 1) := by decide +kernel
theorem dX2_pageInCharge_48 : decode cX2_pageInCharge 48 = .ok (.areturn, 1) := by decide +kernel
theorem dX2_goRight_0 : decode cX2_goRight 0 = .ok (.aload_n 0, 1) := by decide +kernel
theorem dX2_goRight_1 : decode cX2_goRight 1 = .ok (.astore_n 2, 1) := by decide +kernel
theorem dX2_goRight_2 : decode cX2_goRight 2 = .ok (.iconst 0, 1) := by decide +kernel
theorem dX2_goRight_3 : decode cX2_goRight 3 = .ok (.istore_n 3, 1) := by decide +kernel
theorem dX2_goRight_4 : decode cX2_goRight 4 = .ok (.iload_n 3, 1) := by decide +kernel
theorem dX2_goRight_5 : decode cX2_goRight 5 = .ok (.bipush 60, 2) := by decide +kernel
theorem dX2_goRight_7 : decode cX2_goRight 7 = .ok (.if_icmp .ge 37, 3) := by decide +kernel
theorem dX2_goRight_10 : decode cX2_goRight 10 = .ok (.aload_n 2, 1) := by decide +kernel
theorem dX2_goRight_11 : decode cX2_goRight 11 = .ok (.getfield 100, 3) := by decide +kernel
theorem dX2_goRight_14 : decode cX2_goRight 14 = .ok (.ifnull 30, 3) := by decide +kernel
theorem dX2_goRight_17 : decode cX2_goRight 17 = .ok (.aload_n 1, 1) := by decide +kernel
theorem dX2_goRight_18 : decode cX2_goRight 18 = .ok (.aload_n 2, 1) := by decide +kernel
theorem dX2_goRight_19 : decode cX2_goRight 19 = .ok (.getfield 100, 3) := by decide +kernel
theorem dX2_goRight_22 : decode cX2_goRight 22 = .ok (.getfield 145, 3) := by decide +kernel
theorem dX2_goRight_25 : decode cX2_goRight 25 = .ok (.invokevirtual 148, 3) := by decide +kernel
theorem dX2_goRight_28 : decode cX2_goRight 28 = .ok (.ifCond .ge 5, 3) := by decide +kernel
theorem dX2_goRight_31 : decode cX2_goRight 31 = .ok (.aload_n 2, 1) := by decide +kernel
theorem dX2_goRight_32 : decode cX2_goRight 32 = .ok (.areturn, 1) := by decide +kernel
theorem dX2_goRight_33 : decode cX2_goRight 33 = .ok (.aload_n 2, 1) := by decide +kernel
theorem dX2_goRight_34 : decode cX2_goRight 34 = .ok (.getfield 100, 3) := by decide +kernel
theorem dX2_goRight_37 : decode cX2_goRight 37 = .ok (.astore_n 2, 1) := by decide +kernel
theorem dX2_goRight_38 : decode cX2_goRight 38 = .ok (.iinc 3 1, 3) := by decide +kernel
theorem dX2_goRight_41 : decode cX2_goRight 41 = .ok (.goto (-37), 3) := by decide +kernel
theorem dX2_goRight_44 : decode cX2_goRight 44 = .ok (.aload_n 2, 1) := by decide +kernel
theorem dX2_goRight_45 : decode cX2_goRight 45 = .ok (.areturn, 1) := by decide +kernel
theorem dX2_pagesNeeded_0 : decode cX2_pagesNeeded 0 = .ok (.iconst 0, 1) := by decide +kernel
theorem dX2_pagesNeeded_1 : decode cX2_pagesNeeded 1 = .ok (.istore_n 2, 1) := by decide +kernel
theorem dX2_pagesNeeded_2 : decode cX2_pagesNeeded 2 = .ok (.iconst 0, 1) := by decide +kernel
theorem dX2_pagesNeeded_3 : decode cX2_pagesNeeded 3 = .ok (.istore_n 3, 1) := by decide +kernel
theorem dX2_pagesNeeded_4 : decode cX2_pagesNeeded 4 = .ok (.iload_n 3, 1) := by decide +kernel
theorem dX2_pagesNeeded_5 : decode cX2_pagesNeeded 5 = .ok (.aload_n 0, 1) := by decide +kernel
theorem dX2_pagesNeeded_6 : decode cX2_pagesNeeded 6 = .ok (.getfield 29, 3) := by decide +kernel
theorem dX2_pagesNeeded_9 : decode cX2_pagesNeeded 9 = .ok (.getfield 131, 3) := by decide +kernel
theorem dX2_pagesNeeded_12 : decode cX2_pagesNeeded 12 = .ok (.if_icmp .gt 46, 3) := by decide +kernel
theorem dX2_pagesNeeded_15 : decode cX2_pagesNeeded 15 = .ok (.aload_n 0, 1) := by decide +kernel
theorem dX2_pagesNeeded_16 : decode cX2_pagesNeeded 16 = .ok (.iload_n 3, 1) := by decide +kernel
theorem dX2_pagesNeeded_17 : decode cX2_pagesNeeded 17 = .ok (.aload_n 1, 1) := by decide +kernel
theorem dX2_pagesNeeded_18 : decode cX2_pagesNeeded 18 = .ok (.invokevirtual 60, 3) := by decide +kernel
theorem dX2_pagesNeeded_21 : decode cX2_pagesNeeded 21 = .ok (.astore 4, 2) := by decide +kernel
theorem dX2_pagesNeeded_23 : decode cX2_pagesNeeded 23 = .ok (.aload 4, 2) := by decide +kernel
theorem dX2_pagesNeeded_25 : decode cX2_pagesNeeded 25 = .ok (.getfield 97, 3) := by decide +kernel
theorem dX2_pagesNeeded_28 : decode cX2_pagesNeeded 28 = .ok (.bipush 10, 2) := by decide +kernel
theorem dX2_pagesNeeded_30 : decode cX2_pagesNeeded 30 = .ok (.if_icmp .ge 5, 3) := by decide +kernel
theorem dX2_pagesNeeded_33 : decode cX2_pagesNeeded 33 = .ok (.iload_n 2, 1) := by decide +kernel
theorem dX2_pagesNeeded_34 : decode cX2_pagesNeeded 34 = .ok (.ireturn, 1) := by decide +kernel
theorem dX2_pagesNeeded_35 : decode cX2_pagesNeeded 35 = .ok (.iload_n 2, 1) := by decide +kernel
theorem dX2_pagesNeeded_36 : decode cX2_pagesNeeded 36 = .ok (.aload 4, 2) := by decide +kernel
theorem dX2_pagesNeeded_38 : decode cX2_pagesNeeded 38 = .ok (.aload_n 0, 1) := by decide +kernel
theorem dX2_pagesNeeded_39 : decode cX2_pagesNeeded 39 = .ok (.getfield 29, 3) := by decide +kernel
theorem dX2_pagesNeeded_42 : decode cX2_pagesNeeded 42 = .ok (.if_acmp .ne 7, 3) := by decide +kernel
theorem dX2_pagesNeeded_45 : decode cX2_pagesNeeded 45 = .ok (.iconst 2, 1) := by decide +kernel
theorem dX2_pagesNeeded_46 : decode cX2_pagesNeeded 46 = .ok (.goto 4, 3) := by decide +kernel
theorem dX2_pagesNeeded_49 : decode cX2_pagesNeeded 49 = .ok (.iconst 1, 1) := by decide +kernel
theorem dX2_pagesNeeded_50 : decode cX2_pagesNeeded 50 = .ok (.iadd, 1) := by decide +kernel
theorem dX2_pagesNeeded_51 : decode cX2_pagesNeeded 51 = .ok (.istore_n 2, 1) := by decide +kernel
theorem dX2_pagesNeeded_52 : decode cX2_pagesNeeded 52 = .ok (.iinc 3 1, 3) := by decide +kernel
theorem dX2_pagesNeeded_55 : decode cX2_pagesNeeded 55 = .ok (.goto (-51), 3) := by decide +kernel
theorem dX2_pagesNeeded_58 : decode cX2_pagesNeeded 58 = .ok (.iload_n 2, 1) := by decide +kernel
theorem dX2_pagesNeeded_59 : decode cX2_pagesNeeded 59 = .ok (.ireturn, 1) := by decide +kernel
theorem dX2_takePages_0 : decode cX2_takePages 0 = .ok (.iload_n 1, 1) := by decide +kernel
theorem dX2_takePages_1 : decode cX2_takePages 1 = .ok (.bipush 60, 2) := by decide +kernel
theorem dX2_takePages_3 : decode cX2_takePages 3 = .ok (.aload_n 0, 1) := by decide +kernel
theorem dX2_takePages_4 : decode cX2_takePages 4 = .ok (.getfield 37, 3) := by decide +kernel
theorem dX2_takePages_7 : decode cX2_takePages 7 = .ok (.isub, 1) := by decide +kernel
theorem dX2_takePages_8 : decode cX2_takePages 8 = .ok (.if_icmp .le 5, 3) := by decide +kernel
theorem dX2_takePages_11 : decode cX2_takePages 11 = .ok (.iconst 0, 1) := by decide +kernel
theorem dX2_takePages_12 : decode cX2_takePages 12 = .ok (.ireturn, 1) := by decide +kernel
theorem dX2_takePages_13 : decode cX2_takePages 13 = .ok (.aload_n 0, 1) := by decide +kernel
theorem dX2_takePages_14 : decode cX2_takePages 14 = .ok (.aload_n 0, 1) := by decide +kernel
theorem dX2_takePages_15 : decode cX2_takePages 15 = .ok (.getfield 37, 3) := by decide +kernel
theorem dX2_takePages_18 : decode cX2_takePages 18 = .ok (.putfield 41, 3) := by decide +kernel
theorem dX2_takePages_21 : decode cX2_takePages 21 = .ok (.aload_n 0, 1) := by decide +kernel
theorem dX2_takePages_22 : decode cX2_takePages 22 = .ok (.dup, 1) := by decide +kernel
theorem dX2_takePages_23 : decode cX2_takePages 23 = .ok (.getfield 37, 3) := by decide +kernel
theorem dX2_takePages_26 : decode cX2_takePages 26 = .ok (.iload_n 1, 1) := by decide +kernel
theorem dX2_takePages_27 : decode cX2_takePages 27 = .ok (.iadd, 1) := by decide +kernel
theorem dX2_takePages_28 : decode cX2_takePages 28 = .ok (.putfield 37, 3) := by decide +kernel
theorem dX2_takePages_31 : decode cX2_takePages 31 = .ok (.iconst 1, 1) := by decide +kernel
theorem dX2_takePages_32 : decode cX2_takePages 32 = .ok (.ireturn, 1) := by decide +kernel
theorem dX2_useTakenPage_0 : decode cX2_useTakenPage 0 = .ok (.aload_n 0, 1) := by decide +kernel
theorem dX2_useTakenPage_1 : decode cX2_useTakenPage 1 = .ok (.getfield 41, 3) := by decide +kernel
theorem dX2_useTakenPage_4 : decode cX2_useTakenPage 4 = .ok (.ifCond .lt 26, 3) := by decide +kernel
theorem dX2_useTakenPage_7 : decode cX2_useTakenPage 7 = .ok (.aload_n 0, 1) := by decide +kernel
theorem dX2_useTakenPage_8 : decode cX2_useTakenPage 8 = .ok (.getfield 41, 3) := by decide +kernel
theorem dX2_useTakenPage_11 : decode cX2_useTakenPage 11 = .ok (.aload_n 0, 1) := by decide +kernel
theorem dX2_useTakenPage_12 : decode cX2_useTakenPage 12 = .ok (.getfield 37, 3) := by decide +kernel
theorem dX2_useTakenPage_15 : decode cX2_useTakenPage 15 = .ok (.if_icmp .ge 15, 3) := by decide +kernel
theorem dX2_useTakenPage_18 : decode cX2_useTakenPage 18 = .ok (.aload_n 0, 1) := by decide +kernel
theorem dX2_useTakenPage_19 : decode cX2_useTakenPage 19 = .ok (.getfield 41, 3) := by decide +kernel
theorem dX2_useTakenPage_22 : decode cX2_useTakenPage 22 = .ok (.aload_n 0, 1) := by decide +kernel
theorem dX2_useTakenPage_23 : decode cX2_useTakenPage 23 = .ok (.getfield 33, 3) := by decide +kernel
theorem dX2_useTakenPage_26 : decode cX2_useTakenPage 26 = .ok (.arraylength, 1) := by decide +kernel
theorem dX2_useTakenPage_27 : decode cX2_useTakenPage 27 = .ok (.if_icmp .lt 5, 3) := by decide +kernel
theorem dX2_useTakenPage_30 : decode cX2_useTakenPage 30 = .ok (.aconst_null, 1) := by decide +kernel
theorem dX2_useTakenPage_31 : decode cX2_useTakenPage 31 = .ok (.areturn, 1) := by decide +kernel
theorem dX2_useTakenPage_32 : decode cX2_useTakenPage 32 = .ok (.aload_n 0, 1) := by decide +kernel
theorem dX2_useTakenPage_33 : decode cX2_useTakenPage 33 = .ok (.getfield 33, 3) := by decide +kernel
theorem dX2_useTakenPage_36 : decode cX2_useTakenPage 36 = .ok (.aload_n 0, 1) := by decide +kernel
theorem dX2_useTakenPage_37 : decode cX2_useTakenPage 37 = .ok (.getfield 41, 3) := by decide +kernel
theorem dX2_useTakenPage_40 : decode cX2_useTakenPage 40 = .ok (.aaload, 1) := by decide +kernel
theorem dX2_useTakenPage_41 : decode cX2_useTakenPage 41 = .ok (.astore_n 2, 1) := by decide +kernel
theorem dX2_useTakenPage_42 : decode cX2_useTakenPage 42 = .ok (.aload_n 0, 1) := by decide +kernel
theorem dX2_useTakenPage_43 : decode cX2_useTakenPage 43 = .ok (.dup, 1) := by decide +kernel
theorem dX2_useTakenPage_44 : decode cX2_useTakenPage 44 = .ok (.getfield 41, 3) := by decide +kernel
theorem dX2_useTakenPage_47 : decode cX2_useTakenPage 47 = .ok (.iconst 1, 1) := by decide +kernel
theorem dX2_useTakenPage_48 : decode cX2_useTakenPage 48 = .ok (.iadd, 1) := by decide +kernel
theorem dX2_useTakenPage_49 : decode cX2_useTakenPage 49 = .ok (.putfield 41, 3) := by decide +kernel
theorem dX2_useTakenPage_52 : decode cX2_useTakenPage 52 = .ok (.aload_n 2, 1) := by decide +kernel
theorem dX2_useTakenPage_53 : decode cX2_useTakenPage 53 = .ok (.iload_n 1, 1) := by decide +kernel
theorem dX2_useTakenPage_54 : decode cX2_useTakenPage 54 = .ok (.aload_n 0, 1) := by decide +kernel
theorem dX2_useTakenPage_55 : decode cX2_useTakenPage 55 = .ok (.getfield 14, 3) := by decide +kernel
theorem dX2_useTakenPage_58 : decode cX2_useTakenPage 58 = .ok (.invokevirtual 127, 3) := by decide +kernel
theorem dX2_useTakenPage_61 : decode cX2_useTakenPage 61 = .ok (.aload_n 2, 1) := by decide +kernel
theorem dX2_useTakenPage_62 : decode cX2_useTakenPage 62 = .ok (.areturn, 1) := by decide +kernel
theorem dX2_put_0 : decode cX2_put 0 = .ok (.iload_n 1, 1) := by decide +kernel
theorem dX2_put_1 : decode cX2_put 1 = .ok (.aload_n 0, 1) := by decide +kernel
theorem dX2_put_2 : decode cX2_put 2 = .ok (.getfield 29, 3) := by decide +kernel
theorem dX2_put_5 : decode cX2_put 5 = .ok (.getfield 131, 3) := by decide +kernel
theorem dX2_put_8 : decode cX2_put 8 = .ok (.if_icmp .le 5, 3) := by decide +kernel
theorem dX2_put_11 : decode cX2_put 11 = .ok (.iconst 0, 1) := by decide +kernel
theorem dX2_put_12 : decode cX2_put 12 = .ok (.ireturn, 1) := by decide +kernel
theorem dX2_put_13 : decode cX2_put 13 = .ok (.aload_n 0, 1) := by decide +kernel
theorem dX2_put_14 : decode cX2_put 14 = .ok (.iload_n 1, 1) := by decide +kernel
theorem dX2_put_15 : decode cX2_put 15 = .ok (.aload_n 2, 1) := by decide +kernel
theorem dX2_put_16 : decode cX2_put 16 = .ok (.invokevirtual 60, 3) := by decide +kernel
theorem dX2_put_19 : decode cX2_put 19 = .ok (.astore 4, 2) := by decide +kernel
theorem dX2_put_21 : decode cX2_put 21 = .ok (.aload 4, 2) := by decide +kernel
theorem dX2_put_23 : decode cX2_put 23 = .ok (.getfield 97, 3) := by decide +kernel
theorem dX2_put_26 : decode cX2_put 26 = .ok (.bipush 10, 2) := by decide +kernel
theorem dX2_put_28 : decode cX2_put 28 = .ok (.if_icmp .lt 34, 3) := by decide +kernel
theorem dX2_put_31 : decode cX2_put 31 = .ok (.aload 4, 2) := by decide +kernel
theorem dX2_put_33 : decode cX2_put 33 = .ok (.aload_n 0, 1) := by decide +kernel
theorem dX2_put_34 : decode cX2_put 34 = .ok (.getfield 29, 3) := by decide +kernel
theorem dX2_put_37 : decode cX2_put 37 = .ok (.if_acmp .ne 10, 3) := by decide +kernel
theorem dX2_put_40 : decode cX2_put 40 = .ok (.aload_n 0, 1) := by decide +kernel
theorem dX2_put_41 : decode cX2_put 41 = .ok (.invokevirtual 151, 3) := by decide +kernel
theorem dX2_put_44 : decode cX2_put 44 = .ok (.goto 9, 3) := by decide +kernel
theorem dX2_put_47 : decode cX2_put 47 = .ok (.aload_n 0, 1) := by decide +kernel
theorem dX2_put_48 : decode cX2_put 48 = .ok (.aload 4, 2) := by decide +kernel
theorem dX2_put_50 : decode cX2_put 50 = .ok (.invokevirtual 155, 3) := by decide +kernel
theorem dX2_put_53 : decode cX2_put 53 = .ok (.istore 5, 2) := by decide +kernel
theorem dX2_put_55 : decode cX2_put 55 = .ok (.iload 5, 2) := by decide +kernel
theorem dX2_put_57 : decode cX2_put 57 = .ok (.ifCond .ne 5, 3) := by decide +kernel
theorem dX2_put_60 : decode cX2_put 60 = .ok (.iconst 0, 1) := by decide +kernel
theorem dX2_put_61 : decode cX2_put 61 = .ok (.ireturn, 1) := by decide +kernel
theorem dX2_put_62 : decode cX2_put 62 = .ok (.aload_n 0, 1) := by decide +kernel
theorem dX2_put_63 : decode cX2_put 63 = .ok (.aload_n 0, 1) := by decide +kernel
theorem dX2_put_64 : decode cX2_put 64 = .ok (.iload_n 1, 1) := by decide +kernel
theorem dX2_put_65 : decode cX2_put 65 = .ok (.aload_n 2, 1) := by decide +kernel
theorem dX2_put_66 : decode cX2_put 66 = .ok (.invokevirtual 60, 3) := by decide +kernel
theorem dX2_put_69 : decode cX2_put 69 = .ok (.aload_n 2, 1) := by decide +kernel
theorem dX2_put_70 : decode cX2_put 70 = .ok (.aload_n 3, 1) := by decide +kernel
theorem dX2_put_71 : decode cX2_put 71 = .ok (.invokevirtual 159, 3) := by decide +kernel
theorem dX2_put_74 : decode cX2_put 74 = .ok (.ireturn, 1) := by decide +kernel
theorem dX2_bringInto_0 : decode cX2_bringInto 0 = .ok (.aload_n 1, 1) := by decide +kernel
theorem dX2_bringInto_1 : decode cX2_bringInto 1 = .ok (.getfield 86, 3) := by decide +kernel
theorem dX2_bringInto_4 : decode cX2_bringInto 4 = .ok (.ifCond .eq 18, 3) := by decide +kernel
theorem dX2_bringInto_7 : decode cX2_bringInto 7 = .ok (.aload_n 0, 1) := by decide +kernel
theorem dX2_bringInto_8 : decode cX2_bringInto 8 = .ok (.iconst 1, 1) := by decide +kernel
theorem dX2_bringInto_9 : decode cX2_bringInto 9 = .ok (.invokevirtual 80, 3) := by decide +kernel
theorem dX2_bringInto_12 : decode cX2_bringInto 12 = .ok (.ifCond .ne 5, 3) := by decide +kernel
theorem dX2_bringInto_15 : decode cX2_bringInto 15 = .ok (.iconst 0, 1) := by decide +kernel
theorem dX2_bringInto_16 : decode cX2_bringInto 16 = .ok (.ireturn, 1) := by decide +kernel
theorem dX2_bringInto_17 : decode cX2_bringInto 17 = .ok (.aload_n 1, 1) := by decide +kernel
theorem dX2_bringInto_18 : decode cX2_bringInto 18 = .ok (.iconst 0, 1) := by decide +kernel
theorem dX2_bringInto_19 : decode cX2_bringInto 19 = .ok (.putfield 86, 3) := by decide +kernel
theorem dX2_bringInto_22 : decode cX2_bringInto 22 = .ok (.aload_n 0, 1) := by decide +kernel
theorem dX2_bringInto_23 : decode cX2_bringInto 23 = .ok (.bipush 11, 2) := by decide +kernel
theorem dX2_bringInto_25 : decode cX2_bringInto 25 = .ok (.invokevirtual 80, 3) := by decide +kernel
theorem dX2_bringInto_28 : decode cX2_bringInto 28 = .ok (.ifCond .ne 5, 3) := by decide +kernel
theorem dX2_bringInto_31 : decode cX2_bringInto 31 = .ok (.iconst 0, 1) := by decide +kernel
theorem dX2_bringInto_32 : decode cX2_bringInto 32 = .ok (.ireturn, 1) := by decide +kernel
theorem dX2_bringInto_33 : decode cX2_bringInto 33 = .ok (.aload_n 1, 1) := by decide +kernel
theorem dX2_bringInto_34 : decode cX2_bringInto 34 = .ok (.aload_n 2, 1) := by decide +kernel
theorem dX2_bringInto_35 : decode cX2_bringInto 35 = .ok (.aload_n 3, 1) := by decide +kernel
theorem dX2_bringInto_36 : decode cX2_bringInto 36 = .ok (.invokevirtual 163, 3) := by decide +kernel
theorem dX2_bringInto_39 : decode cX2_bringInto 39 = .ok (.iconst 1, 1) := by decide +kernel
theorem dX2_bringInto_40 : decode cX2_bringInto 40 = .ok (.ireturn, 1) := by decide +kernel
theorem dX2_splitRoot_0 : decode cX2_splitRoot 0 = .ok (.aload_n 0, 1) := by decide +kernel
theorem dX2_splitRoot_1 : decode cX2_splitRoot 1 = .ok (.aload_n 0, 1) := by decide +kernel
theorem dX2_splitRoot_2 : decode cX2_splitRoot 2 = .ok (.getfield 29, 3) := by decide +kernel
theorem dX2_splitRoot_5 : decode cX2_splitRoot 5 = .ok (.getfield 131, 3) := by decide +kernel
theorem dX2_splitRoot_8 : decode cX2_splitRoot 8 = .ok (.invokevirtual 167, 3) := by decide +kernel
theorem dX2_splitRoot_11 : decode cX2_splitRoot 11 = .ok (.astore_n 1, 1) := by decide +kernel
theorem dX2_splitRoot_12 : decode cX2_splitRoot 12 = .ok (.aload_n 0, 1) := by decide +kernel
theorem dX2_splitRoot_13 : decode cX2_splitRoot 13 = .ok (.aload_n 0, 1) := by decide +kernel
theorem dX2_splitRoot_14 : decode cX2_splitRoot 14 = .ok (.getfield 29, 3) := by decide +kernel
theorem dX2_splitRoot_17 : decode cX2_splitRoot 17 = .ok (.getfield 131, 3) := by decide +kernel
theorem dX2_splitRoot_20 : decode cX2_splitRoot 20 = .ok (.invokevirtual 167, 3) := by decide +kernel
theorem dX2_splitRoot_23 : decode cX2_splitRoot 23 = .ok (.astore_n 2, 1) := by decide +kernel
theorem dX2_splitRoot_24 : decode cX2_splitRoot 24 = .ok (.aload_n 1, 1) := by decide +kernel
theorem dX2_splitRoot_25 : decode cX2_splitRoot 25 = .ok (.ifnull 7, 3) := by decide +kernel
theorem dX2_splitRoot_28 : decode cX2_splitRoot 28 = .ok (.aload_n 2, 1) := by decide +kernel
theorem dX2_splitRoot_29 : decode cX2_splitRoot 29 = .ok (.ifnonnull 5, 3) := by decide +kernel
theorem dX2_splitRoot_32 : decode cX2_splitRoot 32 = .ok (.iconst 0, 1) := by decide +kernel
theorem dX2_splitRoot_33 : decode cX2_splitRoot 33 = .ok (.ireturn, 1) := by decide +kernel
theorem dX2_splitRoot_34 : decode cX2_splitRoot 34 = .ok (.aload_n 0, 1) := by decide +kernel
theorem dX2_splitRoot_35 : decode cX2_splitRoot 35 = .ok (.sipush 145, 3) := by decide +kernel
theorem dX2_splitRoot_38 : decode cX2_splitRoot 38 = .ok (.invokevirtual 80, 3) := by decide +kernel
theorem dX2_splitRoot_41 : decode cX2_splitRoot 41 = .ok (.ifCond .ne 5, 3) := by decide +kernel
theorem dX2_splitRoot_44 : decode cX2_splitRoot 44 = .ok (.iconst 0, 1) := by decide +kernel
theorem dX2_splitRoot_45 : decode cX2_splitRoot 45 = .ok (.ireturn, 1) := by decide +kernel
theorem dX2_splitRoot_46 : decode cX2_splitRoot 46 = .ok (.aload_n 1, 1) := by decide +kernel
theorem dX2_splitRoot_47 : decode cX2_splitRoot 47 = .ok (.aload_n 0, 1) := by decide +kernel
theorem dX2_splitRoot_48 : decode cX2_splitRoot 48 = .ok (.getfield 29, 3) := by decide +kernel
theorem dX2_splitRoot_51 : decode cX2_splitRoot 51 = .ok (.iconst 0, 1) := by decide +kernel
theorem dX2_splitRoot_52 : decode cX2_splitRoot 52 = .ok (.iconst 5, 1) := by decide +kernel
theorem dX2_splitRoot_53 : decode cX2_splitRoot 53 = .ok (.invokevirtual 170, 3) := by decide +kernel
theorem dX2_splitRoot_56 : decode cX2_splitRoot 56 = .ok (.aload_n 2, 1) := by decide +kernel
theorem dX2_splitRoot_57 : decode cX2_splitRoot 57 = .ok (.aload_n 0, 1) := by decide +kernel
theorem dX2_splitRoot_58 : decode cX2_splitRoot 58 = .ok (.getfield 29, 3) := by decide +kernel
theorem dX2_splitRoot_61 : decode cX2_splitRoot 61 = .ok (.iconst 5, 1) := by decide +kernel
theorem dX2_splitRoot_62 : decode cX2_splitRoot 62 = .ok (.bipush 10, 2) := by decide +kernel
theorem dX2_splitRoot_64 : decode cX2_splitRoot 64 = .ok (.invokevirtual 170, 3) := by decide +kernel
theorem dX2_splitRoot_67 : decode cX2_splitRoot 67 = .ok (.aload_n 2, 1) := by decide +kernel
theorem dX2_splitRoot_68 : decode cX2_splitRoot 68 = .ok (.aload_n 2, 1) := by decide +kernel
theorem dX2_splitRoot_69 : decode cX2_splitRoot 69 = .ok (.iconst 0, 1) := by decide +kernel
theorem dX2_splitRoot_70 : decode cX2_splitRoot 70 = .ok (.invokevirtual 103, 3) := by decide +kernel
theorem dX2_splitRoot_73 : decode cX2_splitRoot 73 = .ok (.putfield 145, 3) := by decide +kernel
theorem dX2_splitRoot_76 : decode cX2_splitRoot 76 = .ok (.aload_n 1, 1) := by decide +kernel
theorem dX2_splitRoot_77 : decode cX2_splitRoot 77 = .ok (.aload_n 2, 1) := by decide +kernel
theorem dX2_splitRoot_78 : decode cX2_splitRoot 78 = .ok (.putfield 100, 3) := by decide +kernel
theorem dX2_splitRoot_81 : decode cX2_splitRoot 81 = .ok (.aload_n 0, 1) := by decide +kernel
theorem dX2_splitRoot_82 : decode cX2_splitRoot 82 = .ok (.getfield 29, 3) := by decide +kernel
theorem dX2_splitRoot_85 : decode cX2_splitRoot 85 = .ok (.aload_n 0, 1) := by decide +kernel
theorem dX2_splitRoot_86 : decode cX2_splitRoot 86 = .ok (.getfield 29, 3) := by decide +kernel
theorem dX2_splitRoot_89 : decode cX2_splitRoot 89 = .ok (.getfield 131, 3) := by decide +kernel
theorem dX2_splitRoot_92 : decode cX2_splitRoot 92 = .ok (.iconst 1, 1) := by decide +kernel
theorem dX2_splitRoot_93 : decode cX2_splitRoot 93 = .ok (.iadd, 1) := by decide +kernel
theorem dX2_splitRoot_94 : decode cX2_splitRoot 94 = .ok (.aload_n 0, 1) := by decide +kernel
theorem dX2_splitRoot_95 : decode cX2_splitRoot 95 = .ok (.getfield 14, 3) := by decide +kernel
theorem dX2_splitRoot_98 : decode cX2_splitRoot 98 = .ok (.invokevirtual 127, 3) := by decide +kernel
theorem dX2_splitRoot_101 : decode cX2_splitRoot 101 = .ok (.aload_n 0, 1) := by decide +kernel
theorem dX2_splitRoot_102 : decode cX2_splitRoot 102 = .ok (.getfield 29, 3) := by decide +kernel
theorem dX2_splitRoot_105 : decode cX2_splitRoot 105 = .ok (.aload_n 1, 1) := by decide +kernel
theorem dX2_splitRoot_106 : decode cX2_splitRoot 106 = .ok (.getfield 145, 3) := by decide +kernel
theorem dX2_splitRoot_109 : decode cX2_splitRoot 109 = .ok (.aload_n 1, 1) := by decide +kernel
theorem dX2_splitRoot_110 : decode cX2_splitRoot 110 = .ok (.invokevirtual 163, 3) := by decide +kernel
theorem dX2_splitRoot_113 : decode cX2_splitRoot 113 = .ok (.aload_n 0, 1) := by decide +kernel
theorem dX2_splitRoot_114 : decode cX2_splitRoot 114 = .ok (.getfield 29, 3) := by decide +kernel
theorem dX2_splitRoot_117 : decode cX2_splitRoot 117 = .ok (.aload_n 2, 1) := by decide +kernel
theorem dX2_splitRoot_118 : decode cX2_splitRoot 118 = .ok (.getfield 145, 3) := by decide +kernel
theorem dX2_splitRoot_121 : decode cX2_splitRoot 121 = .ok (.aload_n 2, 1) := by decide +kernel
theorem dX2_splitRoot_122 : decode cX2_splitRoot 122 = .ok (.invokevirtual 163, 3) := by decide +kernel
theorem dX2_splitRoot_125 : decode cX2_splitRoot 125 = .ok (.iconst 1, 1) := by decide +kernel
theorem dX2_splitRoot_126 : decode cX2_splitRoot 126 = .ok (.ireturn, 1) := by decide +kernel
theorem dX2_splitPage_0 : decode cX2_splitPage 0 = .ok (.aload_n 0, 1) := by decide +kernel
theorem dX2_splitPage_1 : decode cX2_splitPage 1 = .ok (.aload_n 1, 1) := by decide +kernel
theorem dX2_splitPage_2 : decode cX2_splitPage 2 = .ok (.getfield 131, 3) := by decide +kernel
theorem dX2_splitPage_5 : decode cX2_splitPage 5 = .ok (.invokevirtual 167, 3) := by decide +kernel
theorem dX2_splitPage_8 : decode cX2_splitPage 8 = .ok (.astore_n 2, 1) := by decide +kernel
theorem dX2_splitPage_9 : decode cX2_splitPage 9 = .ok (.aload_n 2, 1) := by decide +kernel
theorem dX2_splitPage_10 : decode cX2_splitPage 10 = .ok (.ifnull 12, 3) := by decide +kernel
theorem dX2_splitPage_13 : decode cX2_splitPage 13 = .ok (.aload_n 0, 1) := by decide +kernel
theorem dX2_splitPage_14 : decode cX2_splitPage 14 = .ok (.bipush 63, 2) := by decide +kernel
theorem dX2_splitPage_16 : decode cX2_splitPage 16 = .ok (.invokevirtual 80, 3) := by decide +kernel
theorem dX2_splitPage_19 : decode cX2_splitPage 19 = .ok (.ifCond .ne 5, 3) := by decide +kernel
theorem dX2_splitPage_22 : decode cX2_splitPage 22 = .ok (.iconst 0, 1) := by decide +kernel
theorem dX2_splitPage_23 : decode cX2_splitPage 23 = .ok (.ireturn, 1) := by decide +kernel
theorem dX2_splitPage_24 : decode cX2_splitPage 24 = .ok (.aload_n 2, 1) := by decide +kernel
theorem dX2_splitPage_25 : decode cX2_splitPage 25 = .ok (.aload_n 1, 1) := by decide +kernel
theorem dX2_splitPage_26 : decode cX2_splitPage 26 = .ok (.iconst 5, 1) := by decide +kernel
theorem dX2_splitPage_27 : decode cX2_splitPage 27 = .ok (.bipush 10, 2) := by decide +kernel
theorem dX2_splitPage_29 : decode cX2_splitPage 29 = .ok (.invokevirtual 170, 3) := by decide +kernel
theorem dX2_splitPage_32 : decode cX2_splitPage 32 = .ok (.aload_n 2, 1) := by decide +kernel
theorem dX2_splitPage_33 : decode cX2_splitPage 33 = .ok (.aload_n 2, 1) := by decide +kernel
theorem dX2_splitPage_34 : decode cX2_splitPage 34 = .ok (.iconst 0, 1) := by decide +kernel
theorem dX2_splitPage_35 : decode cX2_splitPage 35 = .ok (.invokevirtual 103, 3) := by decide +kernel
theorem dX2_splitPage_38 : decode cX2_splitPage 38 = .ok (.putfield 145, 3) := by decide +kernel
theorem dX2_splitPage_41 : decode cX2_splitPage 41 = .ok (.aload_n 2, 1) := by decide +kernel
theorem dX2_splitPage_42 : decode cX2_splitPage 42 = .ok (.aload_n 1, 1) := by decide +kernel
theorem dX2_splitPage_43 : decode cX2_splitPage 43 = .ok (.getfield 100, 3) := by decide +kernel
theorem dX2_splitPage_46 : decode cX2_splitPage 46 = .ok (.putfield 100, 3) := by decide +kernel
theorem dX2_splitPage_49 : decode cX2_splitPage 49 = .ok (.aload_n 1, 1) := by decide +kernel
theorem dX2_splitPage_50 : decode cX2_splitPage 50 = .ok (.aload_n 2, 1) := by decide +kernel
theorem dX2_splitPage_51 : decode cX2_splitPage 51 = .ok (.putfield 100, 3) := by decide +kernel
theorem dX2_splitPage_54 : decode cX2_splitPage 54 = .ok (.aload_n 1, 1) := by decide +kernel
theorem dX2_splitPage_55 : decode cX2_splitPage 55 = .ok (.iconst 5, 1) := by decide +kernel
theorem dX2_splitPage_56 : decode cX2_splitPage 56 = .ok (.putfield 97, 3) := by decide +kernel
theorem dX2_splitPage_59 : decode cX2_splitPage 59 = .ok (.aload_n 0, 1) := by decide +kernel
theorem dX2_splitPage_60 : decode cX2_splitPage 60 = .ok (.iconst 1, 1) := by decide +kernel
theorem dX2_splitPage_61 : decode cX2_splitPage 61 = .ok (.invokevirtual 80, 3) := by decide +kernel
theorem dX2_splitPage_64 : decode cX2_splitPage 64 = .ok (.ifCond .ne 10, 3) := by decide +kernel
theorem dX2_splitPage_67 : decode cX2_splitPage 67 = .ok (.aload_n 1, 1) := by decide +kernel
theorem dX2_splitPage_68 : decode cX2_splitPage 68 = .ok (.iconst 1, 1) := by decide +kernel
theorem dX2_splitPage_69 : decode cX2_splitPage 69 = .ok (.putfield 86, 3) := by decide +kernel
theorem dX2_splitPage_72 : decode cX2_splitPage 72 = .ok (.iconst 0, 1) := by decide +kernel
theorem dX2_splitPage_73 : decode cX2_splitPage 73 = .ok (.ireturn, 1) := by decide +kernel
theorem dX2_splitPage_74 : decode cX2_splitPage 74 = .ok (.aload_n 0, 1) := by decide +kernel
theorem dX2_splitPage_75 : decode cX2_splitPage 75 = .ok (.aload_n 1, 1) := by decide +kernel
theorem dX2_splitPage_76 : decode cX2_splitPage 76 = .ok (.getfield 131, 3) := by decide +kernel
theorem dX2_splitPage_79 : decode cX2_splitPage 79 = .ok (.iconst 1, 1) := by decide +kernel
theorem dX2_splitPage_80 : decode cX2_splitPage 80 = .ok (.iadd, 1) := by decide +kernel
theorem dX2_splitPage_81 : decode cX2_splitPage 81 = .ok (.aload_n 2, 1) := by decide +kernel
theorem dX2_splitPage_82 : decode cX2_splitPage 82 = .ok (.getfield 145, 3) := by decide +kernel
theorem dX2_splitPage_85 : decode cX2_splitPage 85 = .ok (.aload_n 2, 1) := by decide +kernel
theorem dX2_splitPage_86 : decode cX2_splitPage 86 = .ok (.invokevirtual 76, 3) := by decide +kernel
theorem dX2_splitPage_89 : decode cX2_splitPage 89 = .ok (.ireturn, 1) := by decide +kernel
theorem dJ6_compare_7cf53_0 : decode cJ6_compare_7cf53 0 = .ok (.iload_n 0, 1) := by decide +kernel
theorem dJ6_compare_7cf53_1 : decode cJ6_compare_7cf53 1 = .ok (.iload_n 1, 1) := by decide +kernel
theorem dJ6_compare_7cf53_2 : decode cJ6_compare_7cf53 2 = .ok (.if_icmp .ge 7, 3) := by decide +kernel
theorem dJ6_compare_7cf53_5 : decode cJ6_compare_7cf53 5 = .ok (.iconst (-1), 1) := by decide +kernel
theorem dJ6_compare_7cf53_6 : decode cJ6_compare_7cf53 6 = .ok (.goto 13, 3) := by decide +kernel
theorem dJ6_compare_7cf53_9 : decode cJ6_compare_7cf53 9 = .ok (.iload_n 0, 1) := by decide +kernel
theorem dJ6_compare_7cf53_10 : decode cJ6_compare_7cf53 10 = .ok (.iload_n 1, 1) := by decide +kernel
theorem dJ6_compare_7cf53_11 : decode cJ6_compare_7cf53 11 = .ok (.if_icmp .ne 7, 3) := by decide +kernel
theorem dJ6_compare_7cf53_14 : decode cJ6_compare_7cf53 14 = .ok (.iconst 0, 1) := by decide +kernel
theorem dJ6_compare_7cf53_15 : decode cJ6_compare_7cf53 15 = .ok (.goto 4, 3) := by decide +kernel
theorem dJ6_compare_7cf53_18 : decode cJ6_compare_7cf53 18 = .ok (.iconst 1, 1) := by decide +kernel
theorem dJ6_compare_7cf53_19 : decode cJ6_compare_7cf53 19 = .ok (.ireturn, 1) := by decide +kernel
theorem dJ13_compare_74951_0 : decode cJ13_compare_74951 0 = .ok (.lload_n 0, 1) := by decide +kernel
theorem dJ13_compare_74951_1 : decode cJ13_compare_74951 1 = .ok (.lload_n 2, 1) := by decide +kernel
theorem dJ13_compare_74951_2 : decode cJ13_compare_74951 2 = .ok (.lcmp, 1) := by decide +kernel
theorem dJ13_compare_74951_3 : decode cJ13_compare_74951 3 = .ok (.ifCond .ge 7, 3) := by decide +kernel
theorem dJ13_compare_74951_6 : decode cJ13_compare_74951 6 = .ok (.iconst (-1), 1) := by decide +kernel
theorem dJ13_compare_74951_7 : decode cJ13_compare_74951 7 = .ok (.goto 14, 3) := by decide +kernel
theorem dJ13_compare_74951_10 : decode cJ13_compare_74951 10 = .ok (.lload_n 0, 1) := by decide +kernel
theorem dJ13_compare_74951_11 : decode cJ13_compare_74951 11 = .ok (.lload_n 2, 1) := by decide +kernel
theorem dJ13_compare_74951_12 : decode cJ13_compare_74951 12 = .ok (.lcmp, 1) := by decide +kernel
theorem dJ13_compare_74951_13 : decode cJ13_compare_74951 13 = .ok (.ifCond .ne 7, 3) := by decide +kernel
theorem dJ13_compare_74951_16 : decode cJ13_compare_74951 16 = .ok (.iconst 0, 1) := by decide +kernel
theorem dJ13_compare_74951_17 : decode cJ13_compare_74951 17 = .ok (.goto 4, 3) := by decide +kernel
theorem dJ13_compare_74951_20 : decode cJ13_compare_74951 20 = .ok (.iconst 1, 1) := by decide +kernel
theorem dJ13_compare_74951_21 : decode cJ13_compare_74951 21 = .ok (.ireturn, 1) := by decide +kernel
theorem dJ13_compareUnsigned_74951_0 : decode cJ13_compareUnsigned_74951 0 = .ok (.lload_n 0, 1) := by decide +kernel
theorem dJ13_compareUnsigned_74951_1 : decode cJ13_compareUnsigned_74951 1 = .ok (.ldc2_w 168, 3) := by decide +kernel
theorem dJ13_compareUnsigned_74951_4 : decode cJ13_compareUnsigned_74951 4 = .ok (.ladd, 1) := by decide +kernel
theorem dJ13_compareUnsigned_74951_5 : decode cJ13_compareUnsigned_74951 5 = .ok (.lload_n 2, 1) := by decide +kernel
theorem dJ13_compareUnsigned_74951_6 : decode cJ13_compareUnsigned_74951 6 = .ok (.ldc2_w 168, 3) := by decide +kernel
theorem dJ13_compareUnsigned_74951_9 : decode cJ13_compareUnsigned_74951 9 = .ok (.ladd, 1) := by decide +kernel
theorem dJ13_compareUnsigned_74951_10 : decode cJ13_compareUnsigned_74951 10 = .ok (.invokestatic 302, 3) := by decide +kernel
theorem dJ13_compareUnsigned_74951_13 : decode cJ13_compareUnsigned_74951 13 = .ok (.ireturn, 1) := by decide +kernel
