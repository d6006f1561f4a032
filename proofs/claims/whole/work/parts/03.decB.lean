theorem dX3_init_0 : decode cX3_init 0 = .ok (.aload_n 0, 1) := by decide +kernel
theorem dX3_init_1 : decode cX3_init 1 = .ok (.invokespecial 1, 3) := by decide +kernel
theorem dX3_init_4 : decode cX3_init 4 = .ok (.aload_n 0, 1) := by decide +kernel
theorem dX3_init_5 : decode cX3_init 5 = .ok (.sipush 513, 3) := by decide +kernel
theorem dX3_init_8 : decode cX3_init 8 = .ok (.newarray .long, 2) := by decide +kernel
theorem dX3_init_10 : decode cX3_init 10 = .ok (.putfield 7, 3) := by decide +kernel
theorem dX3_init_13 : decode cX3_init 13 = .ok (.aload_n 0, 1) := by decide +kernel
theorem dX3_init_14 : decode cX3_init 14 = .ok (.sipush 513, 3) := by decide +kernel
theorem dX3_init_17 : decode cX3_init 17 = .ok (.newarray .long, 2) := by decide +kernel
theorem dX3_init_19 : decode cX3_init 19 = .ok (.putfield 13, 3) := by decide +kernel
theorem dX3_init_22 : decode cX3_init 22 = .ok (.aload_n 0, 1) := by decide +kernel
theorem dX3_init_23 : decode cX3_init 23 = .ok (.sipush 513, 3) := by decide +kernel
theorem dX3_init_26 : decode cX3_init 26 = .ok (.newarray .long, 2) := by decide +kernel
theorem dX3_init_28 : decode cX3_init 28 = .ok (.putfield 16, 3) := by decide +kernel
theorem dX3_init_31 : decode cX3_init 31 = .ok (.aload_n 0, 1) := by decide +kernel
theorem dX3_init_32 : decode cX3_init 32 = .ok (.sipush 513, 3) := by decide +kernel
theorem dX3_init_35 : decode cX3_init 35 = .ok (.newarray .long, 2) := by decide +kernel
theorem dX3_init_37 : decode cX3_init 37 = .ok (.putfield 19, 3) := by decide +kernel
theorem dX3_init_40 : decode cX3_init 40 = .ok (.aload_n 0, 1) := by decide +kernel
theorem dX3_init_41 : decode cX3_init 41 = .ok (.sipush 513, 3) := by decide +kernel
theorem dX3_init_44 : decode cX3_init 44 = .ok (.newarray .int, 2) := by decide +kernel
theorem dX3_init_46 : decode cX3_init 46 = .ok (.putfield 22, 3) := by decide +kernel
theorem dX3_init_49 : decode cX3_init 49 = .ok (.aload_n 0, 1) := by decide +kernel
theorem dX3_init_50 : decode cX3_init 50 = .ok (.iconst 1, 1) := by decide +kernel
theorem dX3_init_51 : decode cX3_init 51 = .ok (.putfield 26, 3) := by decide +kernel
theorem dX3_init_54 : decode cX3_init 54 = .ok (.aload_n 0, 1) := by decide +kernel
theorem dX3_init_55 : decode cX3_init 55 = .ok (.sipush 600, 3) := by decide +kernel
theorem dX3_init_58 : decode cX3_init 58 = .ok (.newarray .int, 2) := by decide +kernel
theorem dX3_init_60 : decode cX3_init 60 = .ok (.putfield 30, 3) := by decide +kernel
theorem dX3_init_63 : decode cX3_init 63 = .ok (.aload_n 0, 1) := by decide +kernel
theorem dX3_init_64 : decode cX3_init 64 = .ok (.sipush 600, 3) := by decide +kernel
theorem dX3_init_67 : decode cX3_init 67 = .ok (.newarray .int, 2) := by decide +kernel
theorem dX3_init_69 : decode cX3_init 69 = .ok (.putfield 33, 3) := by decide +kernel
theorem dX3_init_72 : decode cX3_init 72 = .ok (.aload_n 0, 1) := by decide +kernel
theorem dX3_init_73 : decode cX3_init 73 = .ok (.bipush 60, 2) := by decide +kernel
theorem dX3_init_75 : decode cX3_init 75 = .ok (.newarray .int, 2) := by decide +kernel
theorem dX3_init_77 : decode cX3_init 77 = .ok (.putfield 36, 3) := by decide +kernel
theorem dX3_init_80 : decode cX3_init 80 = .ok (.aload_n 0, 1) := by decide +kernel
theorem dX3_init_81 : decode cX3_init 81 = .ok (.bipush 60, 2) := by decide +kernel
theorem dX3_init_83 : decode cX3_init 83 = .ok (.newarray .int, 2) := by decide +kernel
theorem dX3_init_85 : decode cX3_init 85 = .ok (.putfield 39, 3) := by decide +kernel
theorem dX3_init_88 : decode cX3_init 88 = .ok (.aload_n 0, 1) := by decide +kernel
theorem dX3_init_89 : decode cX3_init 89 = .ok (.bipush 60, 2) := by decide +kernel
theorem dX3_init_91 : decode cX3_init 91 = .ok (.newarray .boolean, 2) := by decide +kernel
theorem dX3_init_93 : decode cX3_init 93 = .ok (.putfield 42, 3) := by decide +kernel
theorem dX3_init_96 : decode cX3_init 96 = .ok (.aload_n 0, 1) := by decide +kernel
theorem dX3_init_97 : decode cX3_init 97 = .ok (.bipush 32, 2) := by decide +kernel
theorem dX3_init_99 : decode cX3_init 99 = .ok (.newarray .int, 2) := by decide +kernel
theorem dX3_init_101 : decode cX3_init 101 = .ok (.putfield 46, 3) := by decide +kernel
theorem dX3_init_104 : decode cX3_init 104 = .ok (.aload_n 0, 1) := by decide +kernel
theorem dX3_init_105 : decode cX3_init 105 = .ok (.iconst 1, 1) := by decide +kernel
theorem dX3_init_106 : decode cX3_init 106 = .ok (.putfield 49, 3) := by decide +kernel
theorem dX3_init_109 : decode cX3_init 109 = .ok (.aload_n 0, 1) := by decide +kernel
theorem dX3_init_110 : decode cX3_init 110 = .ok (.iconst 0, 1) := by decide +kernel
theorem dX3_init_111 : decode cX3_init 111 = .ok (.putfield 53, 3) := by decide +kernel
theorem dX3_init_114 : decode cX3_init 114 = .ok (.aload_n 0, 1) := by decide +kernel
theorem dX3_init_115 : decode cX3_init 115 = .ok (.invokevirtual 56, 3) := by decide +kernel
theorem dX3_init_118 : decode cX3_init 118 = .ok (.return_, 1) := by decide +kernel
theorem dX3_unsigned_0 : decode cX3_unsigned 0 = .ok (.lload_n 0, 1) := by decide +kernel
theorem dX3_unsigned_1 : decode cX3_unsigned 1 = .ok (.lload_n 2, 1) := by decide +kernel
theorem dX3_unsigned_2 : decode cX3_unsigned 2 = .ok (.lcmp, 1) := by decide +kernel
theorem dX3_unsigned_3 : decode cX3_unsigned 3 = .ok (.ifCond .ne 7, 3) := by decide +kernel
theorem dX3_unsigned_6 : decode cX3_unsigned 6 = .ok (.iconst 0, 1) := by decide +kernel
theorem dX3_unsigned_7 : decode cX3_unsigned 7 = .ok (.goto 22, 3) := by decide +kernel
theorem dX3_unsigned_10 : decode cX3_unsigned 10 = .ok (.lload_n 0, 1) := by decide +kernel
theorem dX3_unsigned_11 : decode cX3_unsigned 11 = .ok (.ldc2_w 59, 3) := by decide +kernel
theorem dX3_unsigned_14 : decode cX3_unsigned 14 = .ok (.lxor, 1) := by decide +kernel
theorem dX3_unsigned_15 : decode cX3_unsigned 15 = .ok (.lload_n 2, 1) := by decide +kernel
theorem dX3_unsigned_16 : decode cX3_unsigned 16 = .ok (.ldc2_w 59, 3) := by decide +kernel
theorem dX3_unsigned_19 : decode cX3_unsigned 19 = .ok (.lxor, 1) := by decide +kernel
theorem dX3_unsigned_20 : decode cX3_unsigned 20 = .ok (.lcmp, 1) := by decide +kernel
theorem dX3_unsigned_21 : decode cX3_unsigned 21 = .ok (.ifCond .ge 7, 3) := by decide +kernel
theorem dX3_unsigned_24 : decode cX3_unsigned 24 = .ok (.iconst (-1), 1) := by decide +kernel
theorem dX3_unsigned_25 : decode cX3_unsigned 25 = .ok (.goto 4, 3) := by decide +kernel
theorem dX3_unsigned_28 : decode cX3_unsigned 28 = .ok (.iconst 1, 1) := by decide +kernel
theorem dX3_unsigned_29 : decode cX3_unsigned 29 = .ok (.ireturn, 1) := by decide +kernel
theorem dX3_order_0 : decode cX3_order 0 = .ok (.iload_n 1, 1) := by decide +kernel
theorem dX3_order_1 : decode cX3_order 1 = .ok (.ifCond .eq 7, 3) := by decide +kernel
theorem dX3_order_4 : decode cX3_order 4 = .ok (.iload_n 2, 1) := by decide +kernel
theorem dX3_order_5 : decode cX3_order 5 = .ok (.ifCond .ne 22, 3) := by decide +kernel
theorem dX3_order_8 : decode cX3_order 8 = .ok (.iload_n 1, 1) := by decide +kernel
theorem dX3_order_9 : decode cX3_order 9 = .ok (.iload_n 2, 1) := by decide +kernel
theorem dX3_order_10 : decode cX3_order 10 = .ok (.if_icmp .ne 7, 3) := by decide +kernel
theorem dX3_order_13 : decode cX3_order 13 = .ok (.iconst 0, 1) := by decide +kernel
theorem dX3_order_14 : decode cX3_order 14 = .ok (.goto 12, 3) := by decide +kernel
theorem dX3_order_17 : decode cX3_order 17 = .ok (.iload_n 1, 1) := by decide +kernel
theorem dX3_order_18 : decode cX3_order 18 = .ok (.ifCond .ne 7, 3) := by decide +kernel
theorem dX3_order_21 : decode cX3_order 21 = .ok (.iconst (-1), 1) := by decide +kernel
theorem dX3_order_22 : decode cX3_order 22 = .ok (.goto 4, 3) := by decide +kernel
theorem dX3_order_25 : decode cX3_order 25 = .ok (.iconst 1, 1) := by decide +kernel
theorem dX3_order_26 : decode cX3_order 26 = .ok (.ireturn, 1) := by decide +kernel
theorem dX3_order_27 : decode cX3_order 27 = .ok (.aload_n 0, 1) := by decide +kernel
theorem dX3_order_28 : decode cX3_order 28 = .ok (.getfield 7, 3) := by decide +kernel
theorem dX3_order_31 : decode cX3_order 31 = .ok (.iload_n 1, 1) := by decide +kernel
theorem dX3_order_32 : decode cX3_order 32 = .ok (.laload, 1) := by decide +kernel
theorem dX3_order_33 : decode cX3_order 33 = .ok (.aload_n 0, 1) := by decide +kernel
theorem dX3_order_34 : decode cX3_order 34 = .ok (.getfield 7, 3) := by decide +kernel
theorem dX3_order_37 : decode cX3_order 37 = .ok (.iload_n 2, 1) := by decide +kernel
theorem dX3_order_38 : decode cX3_order 38 = .ok (.laload, 1) := by decide +kernel
theorem dX3_order_39 : decode cX3_order 39 = .ok (.invokestatic 61, 3) := by decide +kernel
theorem dX3_order_42 : decode cX3_order 42 = .ok (.istore_n 3, 1) := by decide +kernel
theorem dX3_order_43 : decode cX3_order 43 = .ok (.iload_n 3, 1) := by decide +kernel
theorem dX3_order_44 : decode cX3_order 44 = .ok (.ifCond .ne 19, 3) := by decide +kernel
theorem dX3_order_47 : decode cX3_order 47 = .ok (.aload_n 0, 1) := by decide +kernel
theorem dX3_order_48 : decode cX3_order 48 = .ok (.getfield 13, 3) := by decide +kernel
theorem dX3_order_51 : decode cX3_order 51 = .ok (.iload_n 1, 1) := by decide +kernel
theorem dX3_order_52 : decode cX3_order 52 = .ok (.laload, 1) := by decide +kernel
theorem dX3_order_53 : decode cX3_order 53 = .ok (.aload_n 0, 1) := by decide +kernel
theorem dX3_order_54 : decode cX3_order 54 = .ok (.getfield 13, 3) := by decide +kernel
theorem dX3_order_57 : decode cX3_order 57 = .ok (.iload_n 2, 1) := by decide +kernel
theorem dX3_order_58 : decode cX3_order 58 = .ok (.laload, 1) := by decide +kernel
theorem dX3_order_59 : decode cX3_order 59 = .ok (.invokestatic 61, 3) := by decide +kernel
theorem dX3_order_62 : decode cX3_order 62 = .ok (.istore_n 3, 1) := by decide +kernel
theorem dX3_order_63 : decode cX3_order 63 = .ok (.iload_n 3, 1) := by decide +kernel
theorem dX3_order_64 : decode cX3_order 64 = .ok (.ifCond .ne 19, 3) := by decide +kernel
theorem dX3_order_67 : decode cX3_order 67 = .ok (.aload_n 0, 1) := by decide +kernel
theorem dX3_order_68 : decode cX3_order 68 = .ok (.getfield 16, 3) := by decide +kernel
theorem dX3_order_71 : decode cX3_order 71 = .ok (.iload_n 1, 1) := by decide +kernel
theorem dX3_order_72 : decode cX3_order 72 = .ok (.laload, 1) := by decide +kernel
theorem dX3_order_73 : decode cX3_order 73 = .ok (.aload_n 0, 1) := by decide +kernel
theorem dX3_order_74 : decode cX3_order 74 = .ok (.getfield 16, 3) := by decide +kernel
theorem dX3_order_77 : decode cX3_order 77 = .ok (.iload_n 2, 1) := by decide +kernel
theorem dX3_order_78 : decode cX3_order 78 = .ok (.laload, 1) := by decide +kernel
theorem dX3_order_79 : decode cX3_order 79 = .ok (.invokestatic 61, 3) := by decide +kernel
theorem dX3_order_82 : decode cX3_order 82 = .ok (.istore_n 3, 1) := by decide +kernel
theorem dX3_order_83 : decode cX3_order 83 = .ok (.iload_n 3, 1) := by decide +kernel
theorem dX3_order_84 : decode cX3_order 84 = .ok (.ifCond .ne 19, 3) := by decide +kernel
theorem dX3_order_87 : decode cX3_order 87 = .ok (.aload_n 0, 1) := by decide +kernel
theorem dX3_order_88 : decode cX3_order 88 = .ok (.getfield 19, 3) := by decide +kernel
theorem dX3_order_91 : decode cX3_order 91 = .ok (.iload_n 1, 1) := by decide +kernel
theorem dX3_order_92 : decode cX3_order 92 = .ok (.laload, 1) := by decide +kernel
theorem dX3_order_93 : decode cX3_order 93 = .ok (.aload_n 0, 1) := by decide +kernel
theorem dX3_order_94 : decode cX3_order 94 = .ok (.getfield 19, 3) := by decide +kernel
theorem dX3_order_97 : decode cX3_order 97 = .ok (.iload_n 2, 1) := by decide +kernel
theorem dX3_order_98 : decode cX3_order 98 = .ok (.laload, 1) := by decide +kernel
theorem dX3_order_99 : decode cX3_order 99 = .ok (.invokestatic 61, 3) := by decide +kernel
theorem dX3_order_102 : decode cX3_order 102 = .ok (.istore_n 3, 1) := by decide +kernel
theorem dX3_order_103 : decode cX3_order 103 = .ok (.iload_n 3, 1) := by decide +kernel
theorem dX3_order_104 : decode cX3_order 104 = .ok (.ifCond .ne 43, 3) := by decide +kernel
theorem dX3_order_107 : decode cX3_order 107 = .ok (.aload_n 0, 1) := by decide +kernel
theorem dX3_order_108 : decode cX3_order 108 = .ok (.getfield 22, 3) := by decide +kernel
theorem dX3_order_111 : decode cX3_order 111 = .ok (.iload_n 1, 1) := by decide +kernel
theorem dX3_order_112 : decode cX3_order 112 = .ok (.iaload, 1) := by decide +kernel
theorem dX3_order_113 : decode cX3_order 113 = .ok (.aload_n 0, 1) := by decide +kernel
theorem dX3_order_114 : decode cX3_order 114 = .ok (.getfield 22, 3) := by decide +kernel
theorem dX3_order_117 : decode cX3_order 117 = .ok (.iload_n 2, 1) := by decide +kernel
theorem dX3_order_118 : decode cX3_order 118 = .ok (.iaload, 1) := by decide +kernel
theorem dX3_order_119 : decode cX3_order 119 = .ok (.if_icmp .ne 7, 3) := by decide +kernel
theorem dX3_order_122 : decode cX3_order 122 = .ok (.iconst 0, 1) := by decide +kernel
theorem dX3_order_123 : decode cX3_order 123 = .ok (.goto 23, 3) := by decide +kernel
theorem dX3_order_126 : decode cX3_order 126 = .ok (.aload_n 0, 1) := by decide +kernel
theorem dX3_order_127 : decode cX3_order 127 = .ok (.getfield 22, 3) := by decide +kernel
theorem dX3_order_130 : decode cX3_order 130 = .ok (.iload_n 1, 1) := by decide +kernel
theorem dX3_order_131 : decode cX3_order 131 = .ok (.iaload, 1) := by decide +kernel
theorem dX3_order_132 : decode cX3_order 132 = .ok (.aload_n 0, 1) := by decide +kernel
theorem dX3_order_133 : decode cX3_order 133 = .ok (.getfield 22, 3) := by decide +kernel
theorem dX3_order_136 : decode cX3_order 136 = .ok (.iload_n 2, 1) := by decide +kernel
theorem dX3_order_137 : decode cX3_order 137 = .ok (.iaload, 1) := by decide +kernel
theorem dX3_order_138 : decode cX3_order 138 = .ok (.if_icmp .ge 7, 3) := by decide +kernel
theorem dX3_order_141 : decode cX3_order 141 = .ok (.iconst (-1), 1) := by decide +kernel
theorem dX3_order_142 : decode cX3_order 142 = .ok (.goto 4, 3) := by decide +kernel
theorem dX3_order_145 : decode cX3_order 145 = .ok (.iconst 1, 1) := by decide +kernel
theorem dX3_order_146 : decode cX3_order 146 = .ok (.istore_n 3, 1) := by decide +kernel
theorem dX3_order_147 : decode cX3_order 147 = .ok (.iload_n 3, 1) := by decide +kernel
theorem dX3_order_148 : decode cX3_order 148 = .ok (.ireturn, 1) := by decide +kernel
theorem dX3_numbered_0 : decode cX3_numbered 0 = .ok (.aload_n 0, 1) := by decide +kernel
theorem dX3_numbered_1 : decode cX3_numbered 1 = .ok (.getfield 7, 3) := by decide +kernel
theorem dX3_numbered_4 : decode cX3_numbered 4 = .ok (.aload_n 0, 1) := by decide +kernel
theorem dX3_numbered_5 : decode cX3_numbered 5 = .ok (.getfield 26, 3) := by decide +kernel
theorem dX3_numbered_8 : decode cX3_numbered 8 = .ok (.lload_n 1, 1) := by decide +kernel
theorem dX3_numbered_9 : decode cX3_numbered 9 = .ok (.lastore, 1) := by decide +kernel
theorem dX3_numbered_10 : decode cX3_numbered 10 = .ok (.aload_n 0, 1) := by decide +kernel
theorem dX3_numbered_11 : decode cX3_numbered 11 = .ok (.getfield 13, 3) := by decide +kernel
theorem dX3_numbered_14 : decode cX3_numbered 14 = .ok (.aload_n 0, 1) := by decide +kernel
theorem dX3_numbered_15 : decode cX3_numbered 15 = .ok (.getfield 26, 3) := by decide +kernel
theorem dX3_numbered_18 : decode cX3_numbered 18 = .ok (.lload_n 3, 1) := by decide +kernel
theorem dX3_numbered_19 : decode cX3_numbered 19 = .ok (.lastore, 1) := by decide +kernel
theorem dX3_numbered_20 : decode cX3_numbered 20 = .ok (.aload_n 0, 1) := by decide +kernel
theorem dX3_numbered_21 : decode cX3_numbered 21 = .ok (.getfield 16, 3) := by decide +kernel
theorem dX3_numbered_24 : decode cX3_numbered 24 = .ok (.aload_n 0, 1) := by decide +kernel
theorem dX3_numbered_25 : decode cX3_numbered 25 = .ok (.getfield 26, 3) := by decide +kernel
theorem dX3_numbered_28 : decode cX3_numbered 28 = .ok (.lload 5, 2) := by decide +kernel
theorem dX3_numbered_30 : decode cX3_numbered 30 = .ok (.lastore, 1) := by decide +kernel
theorem dX3_numbered_31 : decode cX3_numbered 31 = .ok (.aload_n 0, 1) := by decide +kernel
theorem dX3_numbered_32 : decode cX3_numbered 32 = .ok (.getfield 19, 3) := by decide +kernel
theorem dX3_numbered_35 : decode cX3_numbered 35 = .ok (.aload_n 0, 1) := by decide +kernel
theorem dX3_numbered_36 : decode cX3_numbered 36 = .ok (.getfield 26, 3) := by decide +kernel
theorem dX3_numbered_39 : decode cX3_numbered 39 = .ok (.lload 7, 2) := by decide +kernel
theorem dX3_numbered_41 : decode cX3_numbered 41 = .ok (.lastore, 1) := by decide +kernel
theorem dX3_numbered_42 : decode cX3_numbered 42 = .ok (.aload_n 0, 1) := by decide +kernel
theorem dX3_numbered_43 : decode cX3_numbered 43 = .ok (.getfield 22, 3) := by decide +kernel
theorem dX3_numbered_46 : decode cX3_numbered 46 = .ok (.aload_n 0, 1) := by decide +kernel
theorem dX3_numbered_47 : decode cX3_numbered 47 = .ok (.getfield 26, 3) := by decide +kernel
theorem dX3_numbered_50 : decode cX3_numbered 50 = .ok (.iload 9, 2) := by decide +kernel
theorem dX3_numbered_52 : decode cX3_numbered 52 = .ok (.iastore, 1) := by decide +kernel
theorem dX3_numbered_53 : decode cX3_numbered 53 = .ok (.aload_n 0, 1) := by decide +kernel
theorem dX3_numbered_54 : decode cX3_numbered 54 = .ok (.getfield 26, 3) := by decide +kernel
theorem dX3_numbered_57 : decode cX3_numbered 57 = .ok (.ireturn, 1) := by decide +kernel
theorem dX3_inCharge_0 : decode cX3_inCharge 0 = .ok (.iconst (-1), 1) := by decide +kernel
theorem dX3_inCharge_1 : decode cX3_inCharge 1 = .ok (.istore_n 3, 1) := by decide +kernel
theorem dX3_inCharge_2 : decode cX3_inCharge 2 = .ok (.iconst 0, 1) := by decide +kernel
theorem dX3_inCharge_3 : decode cX3_inCharge 3 = .ok (.istore 4, 2) := by decide +kernel
theorem dX3_inCharge_5 : decode cX3_inCharge 5 = .ok (.iload 4, 2) := by decide +kernel
theorem dX3_inCharge_7 : decode cX3_inCharge 7 = .ok (.aload_n 0, 1) := by decide +kernel
theorem dX3_inCharge_8 : decode cX3_inCharge 8 = .ok (.getfield 65, 3) := by decide +kernel
theorem dX3_inCharge_11 : decode cX3_inCharge 11 = .ok (.if_icmp .ge 62, 3) := by decide +kernel
theorem dX3_inCharge_14 : decode cX3_inCharge 14 = .ok (.aload_n 0, 1) := by decide +kernel
theorem dX3_inCharge_15 : decode cX3_inCharge 15 = .ok (.getfield 39, 3) := by decide +kernel
theorem dX3_inCharge_18 : decode cX3_inCharge 18 = .ok (.iload 4, 2) := by decide +kernel
theorem dX3_inCharge_20 : decode cX3_inCharge 20 = .ok (.iaload, 1) := by decide +kernel
theorem dX3_inCharge_21 : decode cX3_inCharge 21 = .ok (.iload_n 1, 1) := by decide +kernel
theorem dX3_inCharge_22 : decode cX3_inCharge 22 = .ok (.if_icmp .ne 45, 3) := by decide +kernel
theorem dX3_inCharge_25 : decode cX3_inCharge 25 = .ok (.aload_n 0, 1) := by decide +kernel
theorem dX3_inCharge_26 : decode cX3_inCharge 26 = .ok (.aload_n 0, 1) := by decide +kernel
theorem dX3_inCharge_27 : decode cX3_inCharge 27 = .ok (.getfield 36, 3) := by decide +kernel
theorem dX3_inCharge_30 : decode cX3_inCharge 30 = .ok (.iload 4, 2) := by decide +kernel
theorem dX3_inCharge_32 : decode cX3_inCharge 32 = .ok (.iaload, 1) := by decide +kernel
theorem dX3_inCharge_33 : decode cX3_inCharge 33 = .ok (.iload_n 2, 1) := by decide +kernel
theorem dX3_inCharge_34 : decode cX3_inCharge 34 = .ok (.invokevirtual 68, 3) := by decide +kernel
theorem dX3_inCharge_37 : decode cX3_inCharge 37 = .ok (.ifCond .gt 30, 3) := by decide +kernel
theorem dX3_inCharge_40 : decode cX3_inCharge 40 = .ok (.iload_n 3, 1) := by decide +kernel
theorem dX3_inCharge_41 : decode cX3_inCharge 41 = .ok (.ifCond .lt 23, 3) := by decide +kernel
theorem dX3_inCharge_44 : decode cX3_inCharge 44 = .ok (.aload_n 0, 1) := by decide +kernel
theorem dX3_inCharge_45 : decode cX3_inCharge 45 = .ok (.aload_n 0, 1) := by decide +kernel
theorem dX3_inCharge_46 : decode cX3_inCharge 46 = .ok (.getfield 36, 3) := by decide +kernel
theorem dX3_inCharge_49 : decode cX3_inCharge 49 = .ok (.iload 4, 2) := by decide +kernel
theorem dX3_inCharge_51 : decode cX3_inCharge 51 = .ok (.iaload, 1) := by decide +kernel
theorem dX3_inCharge_52 : decode cX3_inCharge 52 = .ok (.aload_n 0, 1) := by decide +kernel
theorem dX3_inCharge_53 : decode cX3_inCharge 53 = .ok (.getfield 36, 3) := by decide +kernel
theorem dX3_inCharge_56 : decode cX3_inCharge 56 = .ok (.iload_n 3, 1) := by decide +kernel
theorem dX3_inCharge_57 : decode cX3_inCharge 57 = .ok (.iaload, 1) := by decide +kernel
theorem dX3_inCharge_58 : decode cX3_inCharge 58 = .ok (.invokevirtual 68, 3) := by decide +kernel
theorem dX3_inCharge_61 : decode cX3_inCharge 61 = .ok (.ifCond .le 6, 3) := by decide +kernel
theorem dX3_inCharge_64 : decode cX3_inCharge 64 = .ok (.iload 4, 2) := by decide +kernel
theorem dX3_inCharge_66 : decode cX3_inCharge 66 = .ok (.istore_n 3, 1) := by decide +kernel
theorem dX3_inCharge_67 : decode cX3_inCharge 67 = .ok (.iinc 4 1, 3) := by decide +kernel
theorem dX3_inCharge_70 : decode cX3_inCharge 70 = .ok (.goto (-65), 3) := by decide +kernel
theorem dX3_inCharge_73 : decode cX3_inCharge 73 = .ok (.iload_n 3, 1) := by decide +kernel
theorem dX3_inCharge_74 : decode cX3_inCharge 74 = .ok (.ireturn, 1) := by decide +kernel
theorem dX3_filled_0 : decode cX3_filled 0 = .ok (.iconst 0, 1) := by decide +kernel
theorem dX3_filled_1 : decode cX3_filled 1 = .ok (.istore_n 2, 1) := by decide +kernel
theorem dX3_filled_2 : decode cX3_filled 2 = .ok (.iconst 0, 1) := by decide +kernel
theorem dX3_filled_3 : decode cX3_filled 3 = .ok (.istore_n 3, 1) := by decide +kernel
theorem dX3_filled_4 : decode cX3_filled 4 = .ok (.iload_n 3, 1) := by decide +kernel
theorem dX3_filled_5 : decode cX3_filled 5 = .ok (.aload_n 0, 1) := by decide +kernel
theorem dX3_filled_6 : decode cX3_filled 6 = .ok (.getfield 72, 3) := by decide +kernel
theorem dX3_filled_9 : decode cX3_filled 9 = .ok (.if_icmp .ge 47, 3) := by decide +kernel
theorem dX3_filled_12 : decode cX3_filled 12 = .ok (.aload_n 0, 1) := by decide +kernel
theorem dX3_filled_13 : decode cX3_filled 13 = .ok (.getfield 33, 3) := by decide +kernel
theorem dX3_filled_16 : decode cX3_filled 16 = .ok (.iload_n 3, 1) := by decide +kernel
theorem dX3_filled_17 : decode cX3_filled 17 = .ok (.iaload, 1) := by decide +kernel
theorem dX3_filled_18 : decode cX3_filled 18 = .ok (.aload_n 0, 1) := by decide +kernel
theorem dX3_filled_19 : decode cX3_filled 19 = .ok (.getfield 39, 3) := by decide +kernel
theorem dX3_filled_22 : decode cX3_filled 22 = .ok (.iload_n 1, 1) := by decide +kernel
theorem dX3_filled_23 : decode cX3_filled 23 = .ok (.iaload, 1) := by decide +kernel
theorem dX3_filled_24 : decode cX3_filled 24 = .ok (.if_icmp .ne 26, 3) := by decide +kernel
theorem dX3_filled_27 : decode cX3_filled 27 = .ok (.aload_n 0, 1) := by decide +kernel
theorem dX3_filled_28 : decode cX3_filled 28 = .ok (.aload_n 0, 1) := by decide +kernel
theorem dX3_filled_29 : decode cX3_filled 29 = .ok (.getfield 33, 3) := by decide +kernel
theorem dX3_filled_32 : decode cX3_filled 32 = .ok (.iload_n 3, 1) := by decide +kernel
theorem dX3_filled_33 : decode cX3_filled 33 = .ok (.iaload, 1) := by decide +kernel
theorem dX3_filled_34 : decode cX3_filled 34 = .ok (.aload_n 0, 1) := by decide +kernel
theorem dX3_filled_35 : decode cX3_filled 35 = .ok (.getfield 30, 3) := by decide +kernel
theorem dX3_filled_38 : decode cX3_filled 38 = .ok (.iload_n 3, 1) := by decide +kernel
theorem dX3_filled_39 : decode cX3_filled 39 = .ok (.iaload, 1) := by decide +kernel
theorem dX3_filled_40 : decode cX3_filled 40 = .ok (.invokevirtual 75, 3) := by decide +kernel
theorem dX3_filled_43 : decode cX3_filled 43 = .ok (.iload_n 1, 1) := by decide +kernel
theorem dX3_filled_44 : decode cX3_filled 44 = .ok (.if_icmp .ne 6, 3) := by decide +kernel
theorem dX3_filled_47 : decode cX3_filled 47 = .ok (.iinc 2 1, 3) := by decide +kernel
theorem dX3_filled_50 : decode cX3_filled 50 = .ok (.iinc 3 1, 3) := by decide +kernel
theorem dX3_filled_53 : decode cX3_filled 53 = .ok (.goto (-49), 3) := by decide +kernel
theorem dX3_filled_56 : decode cX3_filled 56 = .ok (.iload_n 2, 1) := by decide +kernel
theorem dX3_filled_57 : decode cX3_filled 57 = .ok (.ireturn, 1) := by decide +kernel
theorem dX3_sixth_0 : decode cX3_sixth 0 = .ok (.iconst 0, 1) := by decide +kernel
theorem dX3_sixth_1 : decode cX3_sixth 1 = .ok (.istore_n 2, 1) := by decide +kernel
theorem dX3_sixth_2 : decode cX3_sixth 2 = .ok (.iload_n 2, 1) := by decide +kernel
theorem dX3_sixth_3 : decode cX3_sixth 3 = .ok (.aload_n 0, 1) := by decide +kernel
theorem dX3_sixth_4 : decode cX3_sixth 4 = .ok (.getfield 72, 3) := by decide +kernel
theorem dX3_sixth_7 : decode cX3_sixth 7 = .ok (.if_icmp .ge 137, 3) := by decide +kernel
theorem dX3_sixth_10 : decode cX3_sixth 10 = .ok (.aload_n 0, 1) := by decide +kernel
theorem dX3_sixth_11 : decode cX3_sixth 11 = .ok (.getfield 33, 3) := by decide +kernel
theorem dX3_sixth_14 : decode cX3_sixth 14 = .ok (.iload_n 2, 1) := by decide +kernel
theorem dX3_sixth_15 : decode cX3_sixth 15 = .ok (.iaload, 1) := by decide +kernel
theorem dX3_sixth_16 : decode cX3_sixth 16 = .ok (.aload_n 0, 1) := by decide +kernel
theorem dX3_sixth_17 : decode cX3_sixth 17 = .ok (.getfield 39, 3) := by decide +kernel
theorem dX3_sixth_20 : decode cX3_sixth 20 = .ok (.iload_n 1, 1) := by decide +kernel
theorem dX3_sixth_21 : decode cX3_sixth 21 = .ok (.iaload, 1) := by decide +kernel
theorem dX3_sixth_22 : decode cX3_sixth 22 = .ok (.if_icmp .ne 116, 3) := by decide +kernel
theorem dX3_sixth_25 : decode cX3_sixth 25 = .ok (.aload_n 0, 1) := by decide +kernel
theorem dX3_sixth_26 : decode cX3_sixth 26 = .ok (.aload_n 0, 1) := by decide +kernel
theorem dX3_sixth_27 : decode cX3_sixth 27 = .ok (.getfield 33, 3) := by decide +kernel
theorem dX3_sixth_30 : decode cX3_sixth 30 = .ok (.iload_n 2, 1) := by decide +kernel
theorem dX3_sixth_31 : decode cX3_sixth 31 = .ok (.iaload, 1) := by decide +kernel
theorem dX3_sixth_32 : decode cX3_sixth 32 = .ok (.aload_n 0, 1) := by decide +kernel
theorem dX3_sixth_33 : decode cX3_sixth 33 = .ok (.getfield 30, 3) := by decide +kernel
theorem dX3_sixth_36 : decode cX3_sixth 36 = .ok (.iload_n 2, 1) := by decide +kernel
theorem dX3_sixth_37 : decode cX3_sixth 37 = .ok (.iaload, 1) := by decide +kernel
theorem dX3_sixth_38 : decode cX3_sixth 38 = .ok (.invokevirtual 75, 3) := by decide +kernel
theorem dX3_sixth_41 : decode cX3_sixth 41 = .ok (.iload_n 1, 1) := by decide +kernel
theorem dX3_sixth_42 : decode cX3_sixth 42 = .ok (.if_icmp .ne 96, 3) := by decide +kernel
theorem dX3_sixth_45 : decode cX3_sixth 45 = .ok (.iconst 0, 1) := by decide +kernel
theorem dX3_sixth_46 : decode cX3_sixth 46 = .ok (.istore_n 3, 1) := by decide +kernel
theorem dX3_sixth_47 : decode cX3_sixth 47 = .ok (.iconst 0, 1) := by decide +kernel
theorem dX3_sixth_48 : decode cX3_sixth 48 = .ok (.istore 4, 2) := by decide +kernel
theorem dX3_sixth_50 : decode cX3_sixth 50 = .ok (.iload 4, 2) := by decide +kernel
theorem dX3_sixth_52 : decode cX3_sixth 52 = .ok (.aload_n 0, 1) := by decide +kernel
theorem dX3_sixth_53 : decode cX3_sixth 53 = .ok (.getfield 72, 3) := by decide +kernel
theorem dX3_sixth_56 : decode cX3_sixth 56 = .ok (.if_icmp .ge 70, 3) := by decide +kernel
theorem dX3_sixth_59 : decode cX3_sixth 59 = .ok (.aload_n 0, 1) := by decide +kernel
theorem dX3_sixth_60 : decode cX3_sixth 60 = .ok (.getfield 33, 3) := by decide +kernel
theorem dX3_sixth_63 : decode cX3_sixth 63 = .ok (.iload 4, 2) := by decide +kernel
theorem dX3_sixth_65 : decode cX3_sixth 65 = .ok (.iaload, 1) := by decide +kernel
theorem dX3_sixth_66 : decode cX3_sixth 66 = .ok (.aload_n 0, 1) := by decide +kernel
theorem dX3_sixth_67 : decode cX3_sixth 67 = .ok (.getfield 33, 3) := by decide +kernel
theorem dX3_sixth_70 : decode cX3_sixth 70 = .ok (.iload_n 2, 1) := by decide +kernel
theorem dX3_sixth_71 : decode cX3_sixth 71 = .ok (.iaload, 1) := by decide +kernel
theorem dX3_sixth_72 : decode cX3_sixth 72 = .ok (.if_icmp .ne 48, 3) := by decide +kernel
theorem dX3_sixth_75 : decode cX3_sixth 75 = .ok (.aload_n 0, 1) := by decide +kernel
theorem dX3_sixth_76 : decode cX3_sixth 76 = .ok (.aload_n 0, 1) := by decide +kernel
theorem dX3_sixth_77 : decode cX3_sixth 77 = .ok (.getfield 33, 3) := by decide +kernel
theorem dX3_sixth_80 : decode cX3_sixth 80 = .ok (.iload 4, 2) := by decide +kernel
theorem dX3_sixth_82 : decode cX3_sixth 82 = .ok (.iaload, 1) := by decide +kernel
theorem dX3_sixth_83 : decode cX3_sixth 83 = .ok (.aload_n 0, 1) := by decide +kernel
theorem dX3_sixth_84 : decode cX3_sixth 84 = .ok (.getfield 30, 3) := by decide +kernel
theorem dX3_sixth_87 : decode cX3_sixth 87 = .ok (.iload 4, 2) := by decide +kernel
theorem dX3_sixth_89 : decode cX3_sixth 89 = .ok (.iaload, 1) := by decide +kernel
theorem dX3_sixth_90 : decode cX3_sixth 90 = .ok (.invokevirtual 75, 3) := by decide +kernel
theorem dX3_sixth_93 : decode cX3_sixth 93 = .ok (.iload_n 1, 1) := by decide +kernel
theorem dX3_sixth_94 : decode cX3_sixth 94 = .ok (.if_icmp .ne 26, 3) := by decide +kernel
theorem dX3_sixth_97 : decode cX3_sixth 97 = .ok (.aload_n 0, 1) := by decide +kernel
theorem dX3_sixth_98 : decode cX3_sixth 98 = .ok (.aload_n 0, 1) := by decide +kernel
theorem dX3_sixth_99 : decode cX3_sixth 99 = .ok (.getfield 30, 3) := by decide +kernel
theorem dX3_sixth_102 : decode cX3_sixth 102 = .ok (.iload 4, 2) := by decide +kernel
theorem dX3_sixth_104 : decode cX3_sixth 104 = .ok (.iaload, 1) := by decide +kernel
theorem dX3_sixth_105 : decode cX3_sixth 105 = .ok (.aload_n 0, 1) := by decide +kernel
theorem dX3_sixth_106 : decode cX3_sixth 106 = .ok (.getfield 30, 3) := by decide +kernel
theorem dX3_sixth_109 : decode cX3_sixth 109 = .ok (.iload_n 2, 1) := by decide +kernel
theorem dX3_sixth_110 : decode cX3_sixth 110 = .ok (.iaload, 1) := by decide +kernel
theorem dX3_sixth_111 : decode cX3_sixth 111 = .ok (.invokevirtual 68, 3) := by decide +kernel
theorem dX3_sixth_114 : decode cX3_sixth 114 = .ok (.ifCond .ge 6, 3) := by decide +kernel
theorem dX3_sixth_117 : decode cX3_sixth 117 = .ok (.iinc 3 1, 3) := by decide +kernel
theorem dX3_sixth_120 : decode cX3_sixth 120 = .ok (.iinc 4 1, 3) := by decide +kernel
theorem dX3_sixth_123 : decode cX3_sixth 123 = .ok (.goto (-73), 3) := by decide +kernel
theorem dX3_sixth_126 : decode cX3_sixth 126 = .ok (.iload_n 3, 1) := by decide +kernel
theorem dX3_sixth_127 : decode cX3_sixth 127 = .ok (.iconst 5, 1) := by decide +kernel
theorem dX3_sixth_128 : decode cX3_sixth 128 = .ok (.if_icmp .ne 10, 3) := by decide +kernel
theorem dX3_sixth_131 : decode cX3_sixth 131 = .ok (.aload_n 0, 1) := by decide +kernel
theorem dX3_sixth_132 : decode cX3_sixth 132 = .ok (.getfield 30, 3) := by decide +kernel
theorem dX3_sixth_135 : decode cX3_sixth 135 = .ok (.iload_n 2, 1) := by decide +kernel
theorem dX3_sixth_136 : decode cX3_sixth 136 = .ok (.iaload, 1) := by decide +kernel
theorem dX3_sixth_137 : decode cX3_sixth 137 = .ok (.ireturn, 1) := by decide +kernel
theorem dX3_sixth_138 : decode cX3_sixth 138 = .ok (.iinc 2 1, 3) := by decide +kernel
theorem dX3_sixth_141 : decode cX3_sixth 141 = .ok (.goto (-139), 3) := by decide +kernel
theorem dX3_sixth_144 : decode cX3_sixth 144 = .ok (.iconst 0, 1) := by decide +kernel
theorem dX3_sixth_145 : decode cX3_sixth 145 = .ok (.ireturn, 1) := by decide +kernel
theorem dX3_addPage_0 : decode cX3_addPage 0 = .ok (.aload_n 0, 1) := by decide +kernel
theorem dX3_addPage_1 : decode cX3_addPage 1 = .ok (.getfield 36, 3) := by decide +kernel
theorem dX3_addPage_4 : decode cX3_addPage 4 = .ok (.aload_n 0, 1) := by decide +kernel
theorem dX3_addPage_5 : decode cX3_addPage 5 = .ok (.getfield 65, 3) := by decide +kernel
theorem dX3_addPage_8 : decode cX3_addPage 8 = .ok (.iload_n 2, 1) := by decide +kernel
theorem dX3_addPage_9 : decode cX3_addPage 9 = .ok (.iastore, 1) := by decide +kernel
theorem dX3_addPage_10 : decode cX3_addPage 10 = .ok (.aload_n 0, 1) := by decide +kernel
theorem dX3_addPage_11 : decode cX3_addPage 11 = .ok (.getfield 39, 3) := by decide +kernel
theorem dX3_addPage_14 : decode cX3_addPage 14 = .ok (.aload_n 0, 1) := by decide +kernel
theorem dX3_addPage_15 : decode cX3_addPage 15 = .ok (.getfield 65, 3) := by decide +kernel
theorem dX3_addPage_18 : decode cX3_addPage 18 = .ok (.iload_n 1, 1) := by decide +kernel
theorem dX3_addPage_19 : decode cX3_addPage 19 = .ok (.iastore, 1) := by decide +kernel
theorem dX3_addPage_20 : decode cX3_addPage 20 = .ok (.aload_n 0, 1) := by decide +kernel
theorem dX3_addPage_21 : decode cX3_addPage 21 = .ok (.getfield 42, 3) := by decide +kernel
theorem dX3_addPage_24 : decode cX3_addPage 24 = .ok (.aload_n 0, 1) := by decide +kernel
theorem dX3_addPage_25 : decode cX3_addPage 25 = .ok (.getfield 65, 3) := by decide +kernel
theorem dX3_addPage_28 : decode cX3_addPage 28 = .ok (.iconst 0, 1) := by decide +kernel
theorem dX3_addPage_29 : decode cX3_addPage 29 = .ok (.bastore, 1) := by decide +kernel
theorem dX3_addPage_30 : decode cX3_addPage 30 = .ok (.aload_n 0, 1) := by decide +kernel
theorem dX3_addPage_31 : decode cX3_addPage 31 = .ok (.dup, 1) := by decide +kernel
theorem dX3_addPage_32 : decode cX3_addPage 32 = .ok (.getfield 65, 3) := by decide +kernel
theorem dX3_addPage_35 : decode cX3_addPage 35 = .ok (.iconst 1, 1) := by decide +kernel
theorem dX3_addPage_36 : decode cX3_addPage 36 = .ok (.iadd, 1) := by decide +kernel
theorem dX3_addPage_37 : decode cX3_addPage 37 = .ok (.putfield 65, 3) := by decide +kernel
theorem dX3_addPage_40 : decode cX3_addPage 40 = .ok (.return_, 1) := by decide +kernel
theorem dX3_addItem_0 : decode cX3_addItem 0 = .ok (.aload_n 0, 1) := by decide +kernel
theorem dX3_addItem_1 : decode cX3_addItem 1 = .ok (.getfield 30, 3) := by decide +kernel
theorem dX3_addItem_4 : decode cX3_addItem 4 = .ok (.aload_n 0, 1) := by decide +kernel
theorem dX3_addItem_5 : decode cX3_addItem 5 = .ok (.getfield 72, 3) := by decide +kernel
theorem dX3_addItem_8 : decode cX3_addItem 8 = .ok (.iload_n 2, 1) := by decide +kernel
theorem dX3_addItem_9 : decode cX3_addItem 9 = .ok (.iastore, 1) := by decide +kernel
theorem dX3_addItem_10 : decode cX3_addItem 10 = .ok (.aload_n 0, 1) := by decide +kernel
theorem dX3_addItem_11 : decode cX3_addItem 11 = .ok (.getfield 33, 3) := by decide +kernel
theorem dX3_addItem_14 : decode cX3_addItem 14 = .ok (.aload_n 0, 1) := by decide +kernel
theorem dX3_addItem_15 : decode cX3_addItem 15 = .ok (.getfield 72, 3) := by decide +kernel
theorem dX3_addItem_18 : decode cX3_addItem 18 = .ok (.iload_n 1, 1) := by decide +kernel
theorem dX3_addItem_19 : decode cX3_addItem 19 = .ok (.iastore, 1) := by decide +kernel
theorem dX3_addItem_20 : decode cX3_addItem 20 = .ok (.aload_n 0, 1) := by decide +kernel
theorem dX3_addItem_21 : decode cX3_addItem 21 = .ok (.dup, 1) := by decide +kernel
theorem dX3_addItem_22 : decode cX3_addItem 22 = .ok (.getfield 72, 3) := by decide +kernel
theorem dX3_addItem_25 : decode cX3_addItem 25 = .ok (.iconst 1, 1) := by decide +kernel
theorem dX3_addItem_26 : decode cX3_addItem 26 = .ok (.iadd, 1) := by decide +kernel
theorem dX3_addItem_27 : decode cX3_addItem 27 = .ok (.putfield 72, 3) := by decide +kernel
theorem dX3_addItem_30 : decode cX3_addItem 30 = .ok (.return_, 1) := by decide +kernel
theorem dX3_set_0 : decode cX3_set 0 = .ok (.aload_n 0, 1) := by decide +kernel
theorem dX3_set_1 : decode cX3_set 1 = .ok (.getfield 49, 3) := by decide +kernel
theorem dX3_set_4 : decode cX3_set 4 = .ok (.ifCond .eq 15, 3) := by decide +kernel
theorem dX3_set_7 : decode cX3_set 7 = .ok (.aload_n 0, 1) := by decide +kernel
theorem dX3_set_8 : decode cX3_set 8 = .ok (.dup, 1) := by decide +kernel
theorem dX3_set_9 : decode cX3_set 9 = .ok (.getfield 78, 3) := by decide +kernel
theorem dX3_set_12 : decode cX3_set 12 = .ok (.iload_n 1, 1) := by decide +kernel
theorem dX3_set_13 : decode cX3_set 13 = .ok (.iadd, 1) := by decide +kernel
theorem dX3_set_14 : decode cX3_set 14 = .ok (.putfield 78, 3) := by decide +kernel
theorem dX3_set_17 : decode cX3_set 17 = .ok (.iconst 1, 1) := by decide +kernel
theorem dX3_set_18 : decode cX3_set 18 = .ok (.ireturn, 1) := by decide +kernel
theorem dX3_set_19 : decode cX3_set 19 = .ok (.iload_n 1, 1) := by decide +kernel
theorem dX3_set_20 : decode cX3_set 20 = .ok (.aload_n 0, 1) := by decide +kernel
theorem dX3_set_21 : decode cX3_set 21 = .ok (.getfield 81, 3) := by decide +kernel
theorem dX3_set_24 : decode cX3_set 24 = .ok (.if_icmp .gt 25, 3) := by decide +kernel
theorem dX3_set_27 : decode cX3_set 27 = .ok (.aload_n 0, 1) := by decide +kernel
theorem dX3_set_28 : decode cX3_set 28 = .ok (.dup, 1) := by decide +kernel
theorem dX3_set_29 : decode cX3_set 29 = .ok (.getfield 78, 3) := by decide +kernel
theorem dX3_set_32 : decode cX3_set 32 = .ok (.iload_n 1, 1) := by decide +kernel
theorem dX3_set_33 : decode cX3_set 33 = .ok (.iadd, 1) := by decide +kernel
theorem dX3_set_34 : decode cX3_set 34 = .ok (.putfield 78, 3) := by decide +kernel
theorem dX3_set_37 : decode cX3_set 37 = .ok (.aload_n 0, 1) := by decide +kernel
theorem dX3_set_38 : decode cX3_set 38 = .ok (.dup, 1) := by decide +kernel
theorem dX3_set_39 : decode cX3_set 39 = .ok (.getfield 81, 3) := by decide +kernel
theorem dX3_set_42 : decode cX3_set 42 = .ok (.iload_n 1, 1) := by decide +kernel
theorem dX3_set_43 : decode cX3_set 43 = .ok (.isub, 1) := by decide +kernel
theorem dX3_set_44 : decode cX3_set 44 = .ok (.putfield 81, 3) := by decide +kernel
theorem dX3_set_47 : decode cX3_set 47 = .ok (.iconst 1, 1) := by decide +kernel
theorem dX3_set_48 : decode cX3_set 48 = .ok (.ireturn, 1) := by decide +kernel
theorem dX3_set_49 : decode cX3_set 49 = .ok (.aload_n 0, 1) := by decide +kernel
theorem dX3_set_50 : decode cX3_set 50 = .ok (.dup, 1) := by decide +kernel
theorem dX3_set_51 : decode cX3_set 51 = .ok (.getfield 78, 3) := by decide +kernel
theorem dX3_set_54 : decode cX3_set 54 = .ok (.aload_n 0, 1) := by decide +kernel
theorem dX3_set_55 : decode cX3_set 55 = .ok (.getfield 81, 3) := by decide +kernel
theorem dX3_set_58 : decode cX3_set 58 = .ok (.iadd, 1) := by decide +kernel
theorem dX3_set_59 : decode cX3_set 59 = .ok (.putfield 78, 3) := by decide +kernel
theorem dX3_set_62 : decode cX3_set 62 = .ok (.aload_n 0, 1) := by decide +kernel
theorem dX3_set_63 : decode cX3_set 63 = .ok (.iconst 1, 1) := by decide +kernel
theorem dX3_set_64 : decode cX3_set 64 = .ok (.putfield 49, 3) := by decide +kernel
theorem dX3_set_67 : decode cX3_set 67 = .ok (.iconst 0, 1) := by decide +kernel
theorem dX3_set_68 : decode cX3_set 68 = .ok (.ireturn, 1) := by decide +kernel
theorem dX3_charge_0 : decode cX3_charge 0 = .ok (.iload_n 1, 1) := by decide +kernel
theorem dX3_charge_1 : decode cX3_charge 1 = .ok (.ifCond .lt 10, 3) := by decide +kernel
theorem dX3_charge_4 : decode cX3_charge 4 = .ok (.iload_n 1, 1) := by decide +kernel
theorem dX3_charge_5 : decode cX3_charge 5 = .ok (.sipush 999, 3) := by decide +kernel
theorem dX3_charge_8 : decode cX3_charge 8 = .ok (.if_icmp .le 5, 3) := by decide +kernel
theorem dX3_charge_11 : decode cX3_charge 11 = .ok (.iconst 0, 1) := by decide +kernel
theorem dX3_charge_12 : decode cX3_charge 12 = .ok (.ireturn, 1) := by decide +kernel
theorem dX3_charge_13 : decode cX3_charge 13 = .ok (.aload_n 0, 1) := by decide +kernel
theorem dX3_charge_14 : decode cX3_charge 14 = .ok (.iload_n 1, 1) := by decide +kernel
theorem dX3_charge_15 : decode cX3_charge 15 = .ok (.putfield 81, 3) := by decide +kernel
theorem dX3_charge_18 : decode cX3_charge 18 = .ok (.aload_n 0, 1) := by decide +kernel
theorem dX3_charge_19 : decode cX3_charge 19 = .ok (.iconst 0, 1) := by decide +kernel
theorem dX3_charge_20 : decode cX3_charge 20 = .ok (.putfield 49, 3) := by decide +kernel
theorem dX3_charge_23 : decode cX3_charge 23 = .ok (.iconst 1, 1) := by decide +kernel
theorem dX3_charge_24 : decode cX3_charge 24 = .ok (.ireturn, 1) := by decide +kernel
theorem dX3_plan_0 : decode cX3_plan 0 = .ok (.aload_n 0, 1) := by decide +kernel
theorem dX3_plan_1 : decode cX3_plan 1 = .ok (.getfield 46, 3) := by decide +kernel
theorem dX3_plan_4 : decode cX3_plan 4 = .ok (.iconst 0, 1) := by decide +kernel
theorem dX3_plan_5 : decode cX3_plan 5 = .ok (.iload_n 1, 1) := by decide +kernel
theorem dX3_plan_6 : decode cX3_plan 6 = .ok (.iastore, 1) := by decide +kernel
theorem dX3_plan_7 : decode cX3_plan 7 = .ok (.iconst 0, 1) := by decide +kernel
theorem dX3_plan_8 : decode cX3_plan 8 = .ok (.istore_n 2, 1) := by decide +kernel
theorem dX3_plan_9 : decode cX3_plan 9 = .ok (.iconst 0, 1) := by decide +kernel
theorem dX3_plan_10 : decode cX3_plan 10 = .ok (.istore_n 3, 1) := by decide +kernel
theorem dX3_plan_11 : decode cX3_plan 11 = .ok (.iload_n 3, 1) := by decide +kernel
theorem dX3_plan_12 : decode cX3_plan 12 = .ok (.bipush 31, 2) := by decide +kernel
theorem dX3_plan_14 : decode cX3_plan 14 = .ok (.if_icmp .ge 62, 3) := by decide +kernel
theorem dX3_plan_17 : decode cX3_plan 17 = .ok (.aload_n 0, 1) := by decide +kernel
theorem dX3_plan_18 : decode cX3_plan 18 = .ok (.iload_n 2, 1) := by decide +kernel
theorem dX3_plan_19 : decode cX3_plan 19 = .ok (.aload_n 0, 1) := by decide +kernel
theorem dX3_plan_20 : decode cX3_plan 20 = .ok (.getfield 46, 3) := by decide +kernel
theorem dX3_plan_23 : decode cX3_plan 23 = .ok (.iload_n 2, 1) := by decide +kernel
theorem dX3_plan_24 : decode cX3_plan 24 = .ok (.iaload, 1) := by decide +kernel
theorem dX3_plan_25 : decode cX3_plan 25 = .ok (.invokevirtual 75, 3) := by decide +kernel
theorem dX3_plan_28 : decode cX3_plan 28 = .ok (.istore 4, 2) := by decide +kernel
theorem dX3_plan_30 : decode cX3_plan 30 = .ok (.aload_n 0, 1) := by decide +kernel
theorem dX3_plan_31 : decode cX3_plan 31 = .ok (.iload 4, 2) := by decide +kernel
theorem dX3_plan_33 : decode cX3_plan 33 = .ok (.invokevirtual 84, 3) := by decide +kernel
theorem dX3_plan_36 : decode cX3_plan 36 = .ok (.bipush 10, 2) := by decide +kernel
theorem dX3_plan_38 : decode cX3_plan 38 = .ok (.if_icmp .lt 13, 3) := by decide +kernel
theorem dX3_plan_41 : decode cX3_plan 41 = .ok (.iload_n 2, 1) := by decide +kernel
theorem dX3_plan_42 : decode cX3_plan 42 = .ok (.aload_n 0, 1) := by decide +kernel
theorem dX3_plan_43 : decode cX3_plan 43 = .ok (.getfield 88, 3) := by decide +kernel
theorem dX3_plan_46 : decode cX3_plan 46 = .ok (.iconst 1, 1) := by decide +kernel
theorem dX3_plan_47 : decode cX3_plan 47 = .ok (.isub, 1) := by decide +kernel
theorem dX3_plan_48 : decode cX3_plan 48 = .ok (.if_icmp .ne 5, 3) := by decide +kernel
theorem dX3_plan_51 : decode cX3_plan 51 = .ok (.iload_n 2, 1) := by decide +kernel
theorem dX3_plan_52 : decode cX3_plan 52 = .ok (.ireturn, 1) := by decide +kernel
theorem dX3_plan_53 : decode cX3_plan 53 = .ok (.aload_n 0, 1) := by decide +kernel
theorem dX3_plan_54 : decode cX3_plan 54 = .ok (.getfield 46, 3) := by decide +kernel
theorem dX3_plan_57 : decode cX3_plan 57 = .ok (.iload_n 2, 1) := by decide +kernel
theorem dX3_plan_58 : decode cX3_plan 58 = .ok (.iconst 1, 1) := by decide +kernel
theorem dX3_plan_59 : decode cX3_plan 59 = .ok (.iadd, 1) := by decide +kernel
theorem dX3_plan_60 : decode cX3_plan 60 = .ok (.aload_n 0, 1) := by decide +kernel
theorem dX3_plan_61 : decode cX3_plan 61 = .ok (.iload 4, 2) := by decide +kernel
theorem dX3_plan_63 : decode cX3_plan 63 = .ok (.invokevirtual 91, 3) := by decide +kernel
theorem dX3_plan_66 : decode cX3_plan 66 = .ok (.iastore, 1) := by decide +kernel
theorem dX3_plan_67 : decode cX3_plan 67 = .ok (.iinc 2 1, 3) := by decide +kernel
theorem dX3_plan_70 : decode cX3_plan 70 = .ok (.iinc 3 1, 3) := by decide +kernel
theorem dX3_plan_73 : decode cX3_plan 73 = .ok (.goto (-62), 3) := by decide +kernel
theorem dX3_plan_76 : decode cX3_plan 76 = .ok (.iload_n 2, 1) := by decide +kernel
theorem dX3_plan_77 : decode cX3_plan 77 = .ok (.ireturn, 1) := by decide +kernel
theorem dX3_split_0 : decode cX3_split 0 = .ok (.iload_n 1, 1) := by decide +kernel
theorem dX3_split_1 : decode cX3_split 1 = .ok (.aload_n 0, 1) := by decide +kernel
theorem dX3_split_2 : decode cX3_split 2 = .ok (.getfield 88, 3) := by decide +kernel
theorem dX3_split_5 : decode cX3_split 5 = .ok (.iconst 1, 1) := by decide +kernel
theorem dX3_split_6 : decode cX3_split 6 = .ok (.isub, 1) := by decide +kernel
theorem dX3_split_7 : decode cX3_split 7 = .ok (.if_icmp .ne 57, 3) := by decide +kernel
theorem dX3_split_10 : decode cX3_split 10 = .ok (.aload_n 0, 1) := by decide +kernel
theorem dX3_split_11 : decode cX3_split 11 = .ok (.sipush 145, 3) := by decide +kernel
theorem dX3_split_14 : decode cX3_split 14 = .ok (.invokevirtual 94, 3) := by decide +kernel
theorem dX3_split_17 : decode cX3_split 17 = .ok (.ifCond .ne 5, 3) := by decide +kernel
theorem dX3_split_20 : decode cX3_split 20 = .ok (.iconst 0, 1) := by decide +kernel
theorem dX3_split_21 : decode cX3_split 21 = .ok (.ireturn, 1) := by decide +kernel
theorem dX3_split_22 : decode cX3_split 22 = .ok (.aload_n 0, 1) := by decide +kernel
theorem dX3_split_23 : decode cX3_split 23 = .ok (.iload_n 1, 1) := by decide +kernel
theorem dX3_split_24 : decode cX3_split 24 = .ok (.iload_n 3, 1) := by decide +kernel
theorem dX3_split_25 : decode cX3_split 25 = .ok (.invokevirtual 98, 3) := by decide +kernel
theorem dX3_split_28 : decode cX3_split 28 = .ok (.aload_n 0, 1) := by decide +kernel
theorem dX3_split_29 : decode cX3_split 29 = .ok (.dup, 1) := by decide +kernel
theorem dX3_split_30 : decode cX3_split 30 = .ok (.getfield 88, 3) := by decide +kernel
theorem dX3_split_33 : decode cX3_split 33 = .ok (.iconst 1, 1) := by decide +kernel
theorem dX3_split_34 : decode cX3_split 34 = .ok (.iadd, 1) := by decide +kernel
theorem dX3_split_35 : decode cX3_split 35 = .ok (.putfield 88, 3) := by decide +kernel
theorem dX3_split_38 : decode cX3_split 38 = .ok (.aload_n 0, 1) := by decide +kernel
theorem dX3_split_39 : decode cX3_split 39 = .ok (.iload_n 1, 1) := by decide +kernel
theorem dX3_split_40 : decode cX3_split 40 = .ok (.iconst 1, 1) := by decide +kernel
theorem dX3_split_41 : decode cX3_split 41 = .ok (.iadd, 1) := by decide +kernel
theorem dX3_split_42 : decode cX3_split 42 = .ok (.iconst 0, 1) := by decide +kernel
theorem dX3_split_43 : decode cX3_split 43 = .ok (.invokevirtual 98, 3) := by decide +kernel
theorem dX3_split_46 : decode cX3_split 46 = .ok (.aload_n 0, 1) := by decide +kernel
theorem dX3_split_47 : decode cX3_split 47 = .ok (.iload_n 1, 1) := by decide +kernel
theorem dX3_split_48 : decode cX3_split 48 = .ok (.iconst 1, 1) := by decide +kernel
theorem dX3_split_49 : decode cX3_split 49 = .ok (.iadd, 1) := by decide +kernel
theorem dX3_split_50 : decode cX3_split 50 = .ok (.iconst 0, 1) := by decide +kernel
theorem dX3_split_51 : decode cX3_split 51 = .ok (.invokevirtual 102, 3) := by decide +kernel
theorem dX3_split_54 : decode cX3_split 54 = .ok (.aload_n 0, 1) := by decide +kernel
theorem dX3_split_55 : decode cX3_split 55 = .ok (.iload_n 1, 1) := by decide +kernel
theorem dX3_split_56 : decode cX3_split 56 = .ok (.iconst 1, 1) := by decide +kernel
theorem dX3_split_57 : decode cX3_split 57 = .ok (.iadd, 1) := by decide +kernel
theorem dX3_split_58 : decode cX3_split 58 = .ok (.iload_n 3, 1) := by decide +kernel
theorem dX3_split_59 : decode cX3_split 59 = .ok (.invokevirtual 102, 3) := by decide +kernel
theorem dX3_split_62 : decode cX3_split 62 = .ok (.iconst 1, 1) := by decide +kernel
theorem dX3_split_63 : decode cX3_split 63 = .ok (.ireturn, 1) := by decide +kernel
theorem dX3_split_64 : decode cX3_split 64 = .ok (.aload_n 0, 1) := by decide +kernel
theorem dX3_split_65 : decode cX3_split 65 = .ok (.bipush 63, 2) := by decide +kernel
theorem dX3_split_67 : decode cX3_split 67 = .ok (.invokevirtual 94, 3) := by decide +kernel
theorem dX3_split_70 : decode cX3_split 70 = .ok (.ifCond .ne 5, 3) := by decide +kernel
theorem dX3_split_73 : decode cX3_split 73 = .ok (.iconst 0, 1) := by decide +kernel
theorem dX3_split_74 : decode cX3_split 74 = .ok (.ireturn, 1) := by decide +kernel
theorem dX3_split_75 : decode cX3_split 75 = .ok (.aload_n 0, 1) := by decide +kernel
theorem dX3_split_76 : decode cX3_split 76 = .ok (.iload_n 1, 1) := by decide +kernel
theorem dX3_split_77 : decode cX3_split 77 = .ok (.iload_n 3, 1) := by decide +kernel
theorem dX3_split_78 : decode cX3_split 78 = .ok (.invokevirtual 98, 3) := by decide +kernel
theorem dX3_split_81 : decode cX3_split 81 = .ok (.aload_n 0, 1) := by decide +kernel
theorem dX3_split_82 : decode cX3_split 82 = .ok (.iconst 1, 1) := by decide +kernel
theorem dX3_split_83 : decode cX3_split 83 = .ok (.invokevirtual 94, 3) := by decide +kernel
theorem dX3_split_86 : decode cX3_split 86 = .ok (.ifCond .eq 5, 3) := by decide +kernel
theorem dX3_split_89 : decode cX3_split 89 = .ok (.iconst 1, 1) := by decide +kernel
theorem dX3_split_90 : decode cX3_split 90 = .ok (.ireturn, 1) := by decide +kernel
theorem dX3_split_91 : decode cX3_split 91 = .ok (.aload_n 0, 1) := by decide +kernel
theorem dX3_split_92 : decode cX3_split 92 = .ok (.getfield 42, 3) := by decide +kernel
theorem dX3_split_95 : decode cX3_split 95 = .ok (.iload_n 2, 1) := by decide +kernel
theorem dX3_split_96 : decode cX3_split 96 = .ok (.iconst 1, 1) := by decide +kernel
theorem dX3_split_97 : decode cX3_split 97 = .ok (.bastore, 1) := by decide +kernel
theorem dX3_split_98 : decode cX3_split 98 = .ok (.iconst 0, 1) := by decide +kernel
theorem dX3_split_99 : decode cX3_split 99 = .ok (.ireturn, 1) := by decide +kernel
theorem dX3_enter_0 : decode cX3_enter 0 = .ok (.aload_n 0, 1) := by decide +kernel
theorem dX3_enter_1 : decode cX3_enter 1 = .ok (.iload_n 1, 1) := by decide +kernel
theorem dX3_enter_2 : decode cX3_enter 2 = .ok (.iload_n 2, 1) := by decide +kernel
theorem dX3_enter_3 : decode cX3_enter 3 = .ok (.invokevirtual 75, 3) := by decide +kernel
theorem dX3_enter_6 : decode cX3_enter 6 = .ok (.istore_n 3, 1) := by decide +kernel
theorem dX3_enter_7 : decode cX3_enter 7 = .ok (.aload_n 0, 1) := by decide +kernel
theorem dX3_enter_8 : decode cX3_enter 8 = .ok (.getfield 42, 3) := by decide +kernel
theorem dX3_enter_11 : decode cX3_enter 11 = .ok (.iload_n 3, 1) := by decide +kernel
theorem dX3_enter_12 : decode cX3_enter 12 = .ok (.baload, 1) := by decide +kernel
theorem dX3_enter_13 : decode cX3_enter 13 = .ok (.ifCond .eq 20, 3) := by decide +kernel
theorem dX3_enter_16 : decode cX3_enter 16 = .ok (.aload_n 0, 1) := by decide +kernel
theorem dX3_enter_17 : decode cX3_enter 17 = .ok (.iconst 1, 1) := by decide +kernel
theorem dX3_enter_18 : decode cX3_enter 18 = .ok (.invokevirtual 94, 3) := by decide +kernel
theorem dX3_enter_21 : decode cX3_enter 21 = .ok (.ifCond .ne 5, 3) := by decide +kernel
theorem dX3_enter_24 : decode cX3_enter 24 = .ok (.iconst 0, 1) := by decide +kernel
theorem dX3_enter_25 : decode cX3_enter 25 = .ok (.ireturn, 1) := by decide +kernel
theorem dX3_enter_26 : decode cX3_enter 26 = .ok (.aload_n 0, 1) := by decide +kernel
theorem dX3_enter_27 : decode cX3_enter 27 = .ok (.getfield 42, 3) := by decide +kernel
theorem dX3_enter_30 : decode cX3_enter 30 = .ok (.iload_n 3, 1) := by decide +kernel
theorem dX3_enter_31 : decode cX3_enter 31 = .ok (.iconst 0, 1) := by decide +kernel
theorem dX3_enter_32 : decode cX3_enter 32 = .ok (.bastore, 1) := by decide +kernel
theorem dX3_enter_33 : decode cX3_enter 33 = .ok (.aload_n 0, 1) := by decide +kernel
theorem dX3_enter_34 : decode cX3_enter 34 = .ok (.bipush 11, 2) := by decide +kernel
theorem dX3_enter_36 : decode cX3_enter 36 = .ok (.invokevirtual 94, 3) := by decide +kernel
theorem dX3_enter_39 : decode cX3_enter 39 = .ok (.ifCond .ne 5, 3) := by decide +kernel
theorem dX3_enter_42 : decode cX3_enter 42 = .ok (.iconst 0, 1) := by decide +kernel
theorem dX3_enter_43 : decode cX3_enter 43 = .ok (.ireturn, 1) := by decide +kernel
theorem dX3_enter_44 : decode cX3_enter 44 = .ok (.aload_n 0, 1) := by decide +kernel
theorem dX3_enter_45 : decode cX3_enter 45 = .ok (.iload_n 1, 1) := by decide +kernel
theorem dX3_enter_46 : decode cX3_enter 46 = .ok (.iload_n 2, 1) := by decide +kernel
theorem dX3_enter_47 : decode cX3_enter 47 = .ok (.invokevirtual 102, 3) := by decide +kernel
theorem dX3_enter_50 : decode cX3_enter 50 = .ok (.iconst 1, 1) := by decide +kernel
theorem dX3_enter_51 : decode cX3_enter 51 = .ok (.ireturn, 1) := by decide +kernel
theorem dX3_perform_0 : decode cX3_perform 0 = .ok (.iload_n 2, 1) := by decide +kernel
theorem dX3_perform_1 : decode cX3_perform 1 = .ok (.ifCond .eq 9, 3) := by decide +kernel
theorem dX3_perform_4 : decode cX3_perform 4 = .ok (.iload_n 1, 1) := by decide +kernel
theorem dX3_perform_5 : decode cX3_perform 5 = .ok (.iconst 1, 1) := by decide +kernel
theorem dX3_perform_6 : decode cX3_perform 6 = .ok (.iadd, 1) := by decide +kernel
theorem dX3_perform_7 : decode cX3_perform 7 = .ok (.goto 4, 3) := by decide +kernel
theorem dX3_perform_10 : decode cX3_perform 10 = .ok (.iload_n 1, 1) := by decide +kernel
theorem dX3_perform_11 : decode cX3_perform 11 = .ok (.istore_n 3, 1) := by decide +kernel
theorem dX3_perform_12 : decode cX3_perform 12 = .ok (.iconst 0, 1) := by decide +kernel
theorem dX3_perform_13 : decode cX3_perform 13 = .ok (.istore 4, 2) := by decide +kernel
theorem dX3_perform_15 : decode cX3_perform 15 = .ok (.iload 4, 2) := by decide +kernel
theorem dX3_perform_17 : decode cX3_perform 17 = .ok (.iload_n 3, 1) := by decide +kernel
theorem dX3_perform_18 : decode cX3_perform 18 = .ok (.if_icmp .ge 43, 3) := by decide +kernel
theorem dX3_perform_21 : decode cX3_perform 21 = .ok (.aload_n 0, 1) := by decide +kernel
theorem dX3_perform_22 : decode cX3_perform 22 = .ok (.iload 4, 2) := by decide +kernel
theorem dX3_perform_24 : decode cX3_perform 24 = .ok (.aload_n 0, 1) := by decide +kernel
theorem dX3_perform_25 : decode cX3_perform 25 = .ok (.getfield 46, 3) := by decide +kernel
theorem dX3_perform_28 : decode cX3_perform 28 = .ok (.iload 4, 2) := by decide +kernel
theorem dX3_perform_30 : decode cX3_perform 30 = .ok (.iaload, 1) := by decide +kernel
theorem dX3_perform_31 : decode cX3_perform 31 = .ok (.invokevirtual 75, 3) := by decide +kernel
theorem dX3_perform_34 : decode cX3_perform 34 = .ok (.istore 5, 2) := by decide +kernel
theorem dX3_perform_36 : decode cX3_perform 36 = .ok (.aload_n 0, 1) := by decide +kernel
theorem dX3_perform_37 : decode cX3_perform 37 = .ok (.iload 4, 2) := by decide +kernel
theorem dX3_perform_39 : decode cX3_perform 39 = .ok (.iload 5, 2) := by decide +kernel
theorem dX3_perform_41 : decode cX3_perform 41 = .ok (.aload_n 0, 1) := by decide +kernel
theorem dX3_perform_42 : decode cX3_perform 42 = .ok (.iload 5, 2) := by decide +kernel
theorem dX3_perform_44 : decode cX3_perform 44 = .ok (.invokevirtual 91, 3) := by decide +kernel
theorem dX3_perform_47 : decode cX3_perform 47 = .ok (.invokevirtual 105, 3) := by decide +kernel
theorem dX3_perform_50 : decode cX3_perform 50 = .ok (.ifCond .ne 5, 3) := by decide +kernel
theorem dX3_perform_53 : decode cX3_perform 53 = .ok (.iconst 0, 1) := by decide +kernel
theorem dX3_perform_54 : decode cX3_perform 54 = .ok (.ireturn, 1) := by decide +kernel
theorem dX3_perform_55 : decode cX3_perform 55 = .ok (.iinc 4 1, 3) := by decide +kernel
theorem dX3_perform_58 : decode cX3_perform 58 = .ok (.goto (-43), 3) := by decide +kernel
theorem dX3_perform_61 : decode cX3_perform 61 = .ok (.iload_n 1, 1) := by decide +kernel
theorem dX3_perform_62 : decode cX3_perform 62 = .ok (.istore 4, 2) := by decide +kernel
theorem dX3_perform_64 : decode cX3_perform 64 = .ok (.iload 4, 2) := by decide +kernel
theorem dX3_perform_66 : decode cX3_perform 66 = .ok (.ifCond .lt 27, 3) := by decide +kernel
theorem dX3_perform_69 : decode cX3_perform 69 = .ok (.aload_n 0, 1) := by decide +kernel
theorem dX3_perform_70 : decode cX3_perform 70 = .ok (.iload 4, 2) := by decide +kernel
theorem dX3_perform_72 : decode cX3_perform 72 = .ok (.aload_n 0, 1) := by decide +kernel
theorem dX3_perform_73 : decode cX3_perform 73 = .ok (.getfield 46, 3) := by decide +kernel
theorem dX3_perform_76 : decode cX3_perform 76 = .ok (.iload 4, 2) := by decide +kernel
theorem dX3_perform_78 : decode cX3_perform 78 = .ok (.iaload, 1) := by decide +kernel
theorem dX3_perform_79 : decode cX3_perform 79 = .ok (.invokevirtual 109, 3) := by decide +kernel
theorem dX3_perform_82 : decode cX3_perform 82 = .ok (.ifCond .ne 5, 3) := by decide +kernel
theorem dX3_perform_85 : decode cX3_perform 85 = .ok (.iconst 0, 1) := by decide +kernel
theorem dX3_perform_86 : decode cX3_perform 86 = .ok (.ireturn, 1) := by decide +kernel
theorem dX3_perform_87 : decode cX3_perform 87 = .ok (.iinc 4 (-1), 3) := by decide +kernel
theorem dX3_perform_90 : decode cX3_perform 90 = .ok (.goto (-26), 3) := by decide +kernel
theorem dX3_perform_93 : decode cX3_perform 93 = .ok (.iconst 1, 1) := by decide +kernel
theorem dX3_perform_94 : decode cX3_perform 94 = .ok (.ireturn, 1) := by decide +kernel
theorem dX3_add_0 : decode cX3_add 0 = .ok (.iload 9, 2) := by decide +kernel
theorem dX3_add_2 : decode cX3_add 2 = .ok (.ifCond .ge 5, 3) := by decide +kernel
theorem dX3_add_5 : decode cX3_add 5 = .ok (.iconst (-1), 1) := by decide +kernel
theorem dX3_add_6 : decode cX3_add 6 = .ok (.ireturn, 1) := by decide +kernel
theorem dX3_add_7 : decode cX3_add 7 = .ok (.aload_n 0, 1) := by decide +kernel
theorem dX3_add_8 : decode cX3_add 8 = .ok (.lload_n 1, 1) := by decide +kernel
theorem dX3_add_9 : decode cX3_add 9 = .ok (.lload_n 3, 1) := by decide +kernel
theorem dX3_add_10 : decode cX3_add 10 = .ok (.lload 5, 2) := by decide +kernel
theorem dX3_add_12 : decode cX3_add 12 = .ok (.lload 7, 2) := by decide +kernel
theorem dX3_add_14 : decode cX3_add 14 = .ok (.iload 9, 2) := by decide +kernel
theorem dX3_add_16 : decode cX3_add 16 = .ok (.invokevirtual 113, 3) := by decide +kernel
theorem dX3_add_19 : decode cX3_add 19 = .ok (.istore 10, 2) := by decide +kernel
theorem dX3_add_21 : decode cX3_add 21 = .ok (.aload_n 0, 1) := by decide +kernel
theorem dX3_add_22 : decode cX3_add 22 = .ok (.iload 10, 2) := by decide +kernel
theorem dX3_add_24 : decode cX3_add 24 = .ok (.invokevirtual 117, 3) := by decide +kernel
theorem dX3_add_27 : decode cX3_add 27 = .ok (.ifCond .lt 5, 3) := by decide +kernel
theorem dX3_add_30 : decode cX3_add 30 = .ok (.iconst 0, 1) := by decide +kernel
theorem dX3_add_31 : decode cX3_add 31 = .ok (.ireturn, 1) := by decide +kernel
theorem dX3_add_32 : decode cX3_add 32 = .ok (.aload_n 0, 1) := by decide +kernel
theorem dX3_add_33 : decode cX3_add 33 = .ok (.iload 10, 2) := by decide +kernel
theorem dX3_add_35 : decode cX3_add 35 = .ok (.invokevirtual 120, 3) := by decide +kernel
theorem dX3_add_38 : decode cX3_add 38 = .ok (.istore 11, 2) := by decide +kernel
theorem dX3_add_40 : decode cX3_add 40 = .ok (.aload_n 0, 1) := by decide +kernel
theorem dX3_add_41 : decode cX3_add 41 = .ok (.aload_n 0, 1) := by decide +kernel
theorem dX3_add_42 : decode cX3_add 42 = .ok (.iload 11, 2) := by decide +kernel
theorem dX3_add_44 : decode cX3_add 44 = .ok (.aload_n 0, 1) := by decide +kernel
theorem dX3_add_45 : decode cX3_add 45 = .ok (.getfield 46, 3) := by decide +kernel
theorem dX3_add_48 : decode cX3_add 48 = .ok (.iload 11, 2) := by decide +kernel
theorem dX3_add_50 : decode cX3_add 50 = .ok (.iaload, 1) := by decide +kernel
theorem dX3_add_51 : decode cX3_add 51 = .ok (.invokevirtual 75, 3) := by decide +kernel
theorem dX3_add_54 : decode cX3_add 54 = .ok (.invokevirtual 84, 3) := by decide +kernel
theorem dX3_add_57 : decode cX3_add 57 = .ok (.bipush 10, 2) := by decide +kernel
theorem dX3_add_59 : decode cX3_add 59 = .ok (.if_icmp .ne 7, 3) := by decide +kernel
theorem dX3_add_62 : decode cX3_add 62 = .ok (.iconst 1, 1) := by decide +kernel
theorem dX3_add_63 : decode cX3_add 63 = .ok (.goto 4, 3) := by decide +kernel
theorem dX3_add_66 : decode cX3_add 66 = .ok (.iconst 0, 1) := by decide +kernel
theorem dX3_add_67 : decode cX3_add 67 = .ok (.istore 12, 2) := by decide +kernel
theorem dX3_add_69 : decode cX3_add 69 = .ok (.iload 12, 2) := by decide +kernel
theorem dX3_add_71 : decode cX3_add 71 = .ok (.ifCond .eq 10, 3) := by decide +kernel
theorem dX3_add_74 : decode cX3_add 74 = .ok (.iload 11, 2) := by decide +kernel
theorem dX3_add_76 : decode cX3_add 76 = .ok (.iconst 2, 1) := by decide +kernel
theorem dX3_add_77 : decode cX3_add 77 = .ok (.iadd, 1) := by decide +kernel
theorem dX3_add_78 : decode cX3_add 78 = .ok (.goto 5, 3) := by decide +kernel
theorem dX3_add_81 : decode cX3_add 81 = .ok (.iload 11, 2) := by decide +kernel
theorem dX3_add_83 : decode cX3_add 83 = .ok (.istore 13, 2) := by decide +kernel
theorem dX3_add_85 : decode cX3_add 85 = .ok (.aload_n 0, 1) := by decide +kernel
theorem dX3_add_86 : decode cX3_add 86 = .ok (.getfield 123, 3) := by decide +kernel
theorem dX3_add_89 : decode cX3_add 89 = .ok (.iload 13, 2) := by decide +kernel
theorem dX3_add_91 : decode cX3_add 91 = .ok (.iadd, 1) := by decide +kernel
theorem dX3_add_92 : decode cX3_add 92 = .ok (.bipush 60, 2) := by decide +kernel
theorem dX3_add_94 : decode cX3_add 94 = .ok (.if_icmp .le 5, 3) := by decide +kernel
theorem dX3_add_97 : decode cX3_add 97 = .ok (.iconst (-1), 1) := by decide +kernel
theorem dX3_add_98 : decode cX3_add 98 = .ok (.ireturn, 1) := by decide +kernel
theorem dX3_add_99 : decode cX3_add 99 = .ok (.aload_n 0, 1) := by decide +kernel
theorem dX3_add_100 : decode cX3_add 100 = .ok (.dup, 1) := by decide +kernel
theorem dX3_add_101 : decode cX3_add 101 = .ok (.getfield 26, 3) := by decide +kernel
theorem dX3_add_104 : decode cX3_add 104 = .ok (.iconst 1, 1) := by decide +kernel
theorem dX3_add_105 : decode cX3_add 105 = .ok (.iadd, 1) := by decide +kernel
theorem dX3_add_106 : decode cX3_add 106 = .ok (.putfield 26, 3) := by decide +kernel
theorem dX3_add_109 : decode cX3_add 109 = .ok (.aload_n 0, 1) := by decide +kernel
theorem dX3_add_110 : decode cX3_add 110 = .ok (.dup, 1) := by decide +kernel
theorem dX3_add_111 : decode cX3_add 111 = .ok (.getfield 123, 3) := by decide +kernel
theorem dX3_add_114 : decode cX3_add 114 = .ok (.iload 13, 2) := by decide +kernel
theorem dX3_add_116 : decode cX3_add 116 = .ok (.iadd, 1) := by decide +kernel
theorem dX3_add_117 : decode cX3_add 117 = .ok (.putfield 123, 3) := by decide +kernel
theorem dX3_add_120 : decode cX3_add 120 = .ok (.aload_n 0, 1) := by decide +kernel
theorem dX3_add_121 : decode cX3_add 121 = .ok (.iload 11, 2) := by decide +kernel
theorem dX3_add_123 : decode cX3_add 123 = .ok (.iload 12, 2) := by decide +kernel
theorem dX3_add_125 : decode cX3_add 125 = .ok (.invokevirtual 126, 3) := by decide +kernel
theorem dX3_add_128 : decode cX3_add 128 = .ok (.ifCond .eq 7, 3) := by decide +kernel
theorem dX3_add_131 : decode cX3_add 131 = .ok (.iconst 1, 1) := by decide +kernel
theorem dX3_add_132 : decode cX3_add 132 = .ok (.goto 5, 3) := by decide +kernel
theorem dX3_add_135 : decode cX3_add 135 = .ok (.bipush (-2), 2) := by decide +kernel
theorem dX3_add_137 : decode cX3_add 137 = .ok (.ireturn, 1) := by decide +kernel
theorem dX3_itemOf_0 : decode cX3_itemOf 0 = .ok (.iconst 0, 1) := by decide +kernel
theorem dX3_itemOf_1 : decode cX3_itemOf 1 = .ok (.istore_n 2, 1) := by decide +kernel
theorem dX3_itemOf_2 : decode cX3_itemOf 2 = .ok (.iload_n 2, 1) := by decide +kernel
theorem dX3_itemOf_3 : decode cX3_itemOf 3 = .ok (.aload_n 0, 1) := by decide +kernel
theorem dX3_itemOf_4 : decode cX3_itemOf 4 = .ok (.getfield 72, 3) := by decide +kernel
theorem dX3_itemOf_7 : decode cX3_itemOf 7 = .ok (.if_icmp .ge 34, 3) := by decide +kernel
theorem dX3_itemOf_10 : decode cX3_itemOf 10 = .ok (.aload_n 0, 1) := by decide +kernel
theorem dX3_itemOf_11 : decode cX3_itemOf 11 = .ok (.getfield 33, 3) := by decide +kernel
theorem dX3_itemOf_14 : decode cX3_itemOf 14 = .ok (.iload_n 2, 1) := by decide +kernel
theorem dX3_itemOf_15 : decode cX3_itemOf 15 = .ok (.iaload, 1) := by decide +kernel
theorem dX3_itemOf_16 : decode cX3_itemOf 16 = .ok (.ifCond .ne 19, 3) := by decide +kernel
theorem dX3_itemOf_19 : decode cX3_itemOf 19 = .ok (.aload_n 0, 1) := by decide +kernel
theorem dX3_itemOf_20 : decode cX3_itemOf 20 = .ok (.aload_n 0, 1) := by decide +kernel
theorem dX3_itemOf_21 : decode cX3_itemOf 21 = .ok (.getfield 30, 3) := by decide +kernel
theorem dX3_itemOf_24 : decode cX3_itemOf 24 = .ok (.iload_n 2, 1) := by decide +kernel
theorem dX3_itemOf_25 : decode cX3_itemOf 25 = .ok (.iaload, 1) := by decide +kernel
theorem dX3_itemOf_26 : decode cX3_itemOf 26 = .ok (.iload_n 1, 1) := by decide +kernel
theorem dX3_itemOf_27 : decode cX3_itemOf 27 = .ok (.invokevirtual 68, 3) := by decide +kernel
theorem dX3_itemOf_30 : decode cX3_itemOf 30 = .ok (.ifCond .ne 5, 3) := by decide +kernel
theorem dX3_itemOf_33 : decode cX3_itemOf 33 = .ok (.iload_n 2, 1) := by decide +kernel
theorem dX3_itemOf_34 : decode cX3_itemOf 34 = .ok (.ireturn, 1) := by decide +kernel
theorem dX3_itemOf_35 : decode cX3_itemOf 35 = .ok (.iinc 2 1, 3) := by decide +kernel
theorem dX3_itemOf_38 : decode cX3_itemOf 38 = .ok (.goto (-36), 3) := by decide +kernel
theorem dX3_itemOf_41 : decode cX3_itemOf 41 = .ok (.iconst (-1), 1) := by decide +kernel
theorem dX3_itemOf_42 : decode cX3_itemOf 42 = .ok (.ireturn, 1) := by decide +kernel
theorem dX3_remove_0 : decode cX3_remove 0 = .ok (.aload_n 0, 1) := by decide +kernel
theorem dX3_remove_1 : decode cX3_remove 1 = .ok (.lload_n 1, 1) := by decide +kernel
theorem dX3_remove_2 : decode cX3_remove 2 = .ok (.lload_n 3, 1) := by decide +kernel
theorem dX3_remove_3 : decode cX3_remove 3 = .ok (.lload 5, 2) := by decide +kernel
theorem dX3_remove_5 : decode cX3_remove 5 = .ok (.lload 7, 2) := by decide +kernel
theorem dX3_remove_7 : decode cX3_remove 7 = .ok (.iload 9, 2) := by decide +kernel
theorem dX3_remove_9 : decode cX3_remove 9 = .ok (.invokevirtual 113, 3) := by decide +kernel
theorem dX3_remove_12 : decode cX3_remove 12 = .ok (.istore 10, 2) := by decide +kernel
theorem dX3_remove_14 : decode cX3_remove 14 = .ok (.aload_n 0, 1) := by decide +kernel
theorem dX3_remove_15 : decode cX3_remove 15 = .ok (.iload 10, 2) := by decide +kernel
theorem dX3_remove_17 : decode cX3_remove 17 = .ok (.invokevirtual 117, 3) := by decide +kernel
theorem dX3_remove_20 : decode cX3_remove 20 = .ok (.istore 11, 2) := by decide +kernel
theorem dX3_remove_22 : decode cX3_remove 22 = .ok (.iload 11, 2) := by decide +kernel
theorem dX3_remove_24 : decode cX3_remove 24 = .ok (.ifCond .ge 5, 3) := by decide +kernel
theorem dX3_remove_27 : decode cX3_remove 27 = .ok (.iconst 0, 1) := by decide +kernel
theorem dX3_remove_28 : decode cX3_remove 28 = .ok (.ireturn, 1) := by decide +kernel
theorem dX3_remove_29 : decode cX3_remove 29 = .ok (.aload_n 0, 1) := by decide +kernel
theorem dX3_remove_30 : decode cX3_remove 30 = .ok (.iconst 1, 1) := by decide +kernel
theorem dX3_remove_31 : decode cX3_remove 31 = .ok (.invokevirtual 94, 3) := by decide +kernel
theorem dX3_remove_34 : decode cX3_remove 34 = .ok (.ifCond .ne 6, 3) := by decide +kernel
theorem dX3_remove_37 : decode cX3_remove 37 = .ok (.bipush (-2), 2) := by decide +kernel
theorem dX3_remove_39 : decode cX3_remove 39 = .ok (.ireturn, 1) := by decide +kernel
theorem dX3_remove_40 : decode cX3_remove 40 = .ok (.aload_n 0, 1) := by decide +kernel
theorem dX3_remove_41 : decode cX3_remove 41 = .ok (.getfield 42, 3) := by decide +kernel
theorem dX3_remove_44 : decode cX3_remove 44 = .ok (.aload_n 0, 1) := by decide +kernel
theorem dX3_remove_45 : decode cX3_remove 45 = .ok (.iconst 0, 1) := by decide +kernel
theorem dX3_remove_46 : decode cX3_remove 46 = .ok (.iload 10, 2) := by decide +kernel
theorem dX3_remove_48 : decode cX3_remove 48 = .ok (.invokevirtual 75, 3) := by decide +kernel
theorem dX3_remove_51 : decode cX3_remove 51 = .ok (.iconst 0, 1) := by decide +kernel
theorem dX3_remove_52 : decode cX3_remove 52 = .ok (.bastore, 1) := by decide +kernel
theorem dX3_remove_53 : decode cX3_remove 53 = .ok (.aload_n 0, 1) := by decide +kernel
theorem dX3_remove_54 : decode cX3_remove 54 = .ok (.dup, 1) := by decide +kernel
theorem dX3_remove_55 : decode cX3_remove 55 = .ok (.getfield 72, 3) := by decide +kernel
theorem dX3_remove_58 : decode cX3_remove 58 = .ok (.iconst 1, 1) := by decide +kernel
theorem dX3_remove_59 : decode cX3_remove 59 = .ok (.isub, 1) := by decide +kernel
theorem dX3_remove_60 : decode cX3_remove 60 = .ok (.putfield 72, 3) := by decide +kernel
theorem dX3_remove_63 : decode cX3_remove 63 = .ok (.aload_n 0, 1) := by decide +kernel
theorem dX3_remove_64 : decode cX3_remove 64 = .ok (.getfield 30, 3) := by decide +kernel
theorem dX3_remove_67 : decode cX3_remove 67 = .ok (.iload 11, 2) := by decide +kernel
theorem dX3_remove_69 : decode cX3_remove 69 = .ok (.aload_n 0, 1) := by decide +kernel
theorem dX3_remove_70 : decode cX3_remove 70 = .ok (.getfield 30, 3) := by decide +kernel
theorem dX3_remove_73 : decode cX3_remove 73 = .ok (.aload_n 0, 1) := by decide +kernel
theorem dX3_remove_74 : decode cX3_remove 74 = .ok (.getfield 72, 3) := by decide +kernel
theorem dX3_remove_77 : decode cX3_remove 77 = .ok (.iaload, 1) := by decide +kernel
theorem dX3_remove_78 : decode cX3_remove 78 = .ok (.iastore, 1) := by decide +kernel
theorem dX3_remove_79 : decode cX3_remove 79 = .ok (.aload_n 0, 1) := by decide +kernel
theorem dX3_remove_80 : decode cX3_remove 80 = .ok (.getfield 33, 3) := by decide +kernel
theorem dX3_remove_83 : decode cX3_remove 83 = .ok (.iload 11, 2) := by decide +kernel
theorem dX3_remove_85 : decode cX3_remove 85 = .ok (.aload_n 0, 1) := by decide +kernel
theorem dX3_remove_86 : decode cX3_remove 86 = .ok (.getfield 33, 3) := by decide +kernel
theorem dX3_remove_89 : decode cX3_remove 89 = .ok (.aload_n 0, 1) := by decide +kernel
theorem dX3_remove_90 : decode cX3_remove 90 = .ok (.getfield 72, 3) := by decide +kernel
theorem dX3_remove_93 : decode cX3_remove 93 = .ok (.iaload, 1) := by decide +kernel
theorem dX3_remove_94 : decode cX3_remove 94 = .ok (.iastore, 1) := by decide +kernel
theorem dX3_remove_95 : decode cX3_remove 95 = .ok (.iconst 1, 1) := by decide +kernel
theorem dX3_remove_96 : decode cX3_remove 96 = .ok (.ireturn, 1) := by decide +kernel
theorem dX3_has_0 : decode cX3_has 0 = .ok (.aload_n 0, 1) := by decide +kernel
theorem dX3_has_1 : decode cX3_has 1 = .ok (.aload_n 0, 1) := by decide +kernel
theorem dX3_has_2 : decode cX3_has 2 = .ok (.lload_n 1, 1) := by decide +kernel
theorem dX3_has_3 : decode cX3_has 3 = .ok (.lload_n 3, 1) := by decide +kernel
theorem dX3_has_4 : decode cX3_has 4 = .ok (.lload 5, 2) := by decide +kernel
theorem dX3_has_6 : decode cX3_has 6 = .ok (.lload 7, 2) := by decide +kernel
theorem dX3_has_8 : decode cX3_has 8 = .ok (.iload 9, 2) := by decide +kernel
theorem dX3_has_10 : decode cX3_has 10 = .ok (.invokevirtual 113, 3) := by decide +kernel
theorem dX3_has_13 : decode cX3_has 13 = .ok (.invokevirtual 117, 3) := by decide +kernel
theorem dX3_has_16 : decode cX3_has 16 = .ok (.ifCond .lt 7, 3) := by decide +kernel
theorem dX3_has_19 : decode cX3_has 19 = .ok (.iconst 1, 1) := by decide +kernel
theorem dX3_has_20 : decode cX3_has 20 = .ok (.goto 4, 3) := by decide +kernel
theorem dX3_has_23 : decode cX3_has 23 = .ok (.iconst 0, 1) := by decide +kernel
theorem dX3_has_24 : decode cX3_has 24 = .ok (.ireturn, 1) := by decide +kernel
theorem dX3_clear_0 : decode cX3_clear 0 = .ok (.aload_n 0, 1) := by decide +kernel
theorem dX3_clear_1 : decode cX3_clear 1 = .ok (.iconst 0, 1) := by decide +kernel
theorem dX3_clear_2 : decode cX3_clear 2 = .ok (.putfield 72, 3) := by decide +kernel
theorem dX3_clear_5 : decode cX3_clear 5 = .ok (.aload_n 0, 1) := by decide +kernel
theorem dX3_clear_6 : decode cX3_clear 6 = .ok (.iconst 0, 1) := by decide +kernel
theorem dX3_clear_7 : decode cX3_clear 7 = .ok (.putfield 65, 3) := by decide +kernel
theorem dX3_clear_10 : decode cX3_clear 10 = .ok (.aload_n 0, 1) := by decide +kernel
theorem dX3_clear_11 : decode cX3_clear 11 = .ok (.iconst 0, 1) := by decide +kernel
theorem dX3_clear_12 : decode cX3_clear 12 = .ok (.iconst 0, 1) := by decide +kernel
theorem dX3_clear_13 : decode cX3_clear 13 = .ok (.invokevirtual 98, 3) := by decide +kernel
theorem dX3_clear_16 : decode cX3_clear 16 = .ok (.aload_n 0, 1) := by decide +kernel
theorem dX3_clear_17 : decode cX3_clear 17 = .ok (.iconst 1, 1) := by decide +kernel
theorem dX3_clear_18 : decode cX3_clear 18 = .ok (.putfield 88, 3) := by decide +kernel
theorem dX3_clear_21 : decode cX3_clear 21 = .ok (.aload_n 0, 1) := by decide +kernel
theorem dX3_clear_22 : decode cX3_clear 22 = .ok (.iconst 1, 1) := by decide +kernel
theorem dX3_clear_23 : decode cX3_clear 23 = .ok (.putfield 123, 3) := by decide +kernel
theorem dX3_clear_26 : decode cX3_clear 26 = .ok (.aload_n 0, 1) := by decide +kernel
theorem dX3_clear_27 : decode cX3_clear 27 = .ok (.dup, 1) := by decide +kernel
theorem dX3_clear_28 : decode cX3_clear 28 = .ok (.getfield 78, 3) := by decide +kernel
theorem dX3_clear_31 : decode cX3_clear 31 = .ok (.iconst 3, 1) := by decide +kernel
theorem dX3_clear_32 : decode cX3_clear 32 = .ok (.iadd, 1) := by decide +kernel
theorem dX3_clear_33 : decode cX3_clear 33 = .ok (.putfield 78, 3) := by decide +kernel
theorem dX3_clear_36 : decode cX3_clear 36 = .ok (.aload_n 0, 1) := by decide +kernel
theorem dX3_clear_37 : decode cX3_clear 37 = .ok (.invokevirtual 130, 3) := by decide +kernel
theorem dX3_clear_40 : decode cX3_clear 40 = .ok (.return_, 1) := by decide +kernel
theorem dX3_seek_0 : decode cX3_seek 0 = .ok (.aload_n 0, 1) := by decide +kernel
theorem dX3_seek_1 : decode cX3_seek 1 = .ok (.aload_n 0, 1) := by decide +kernel
theorem dX3_seek_2 : decode cX3_seek 2 = .ok (.lload_n 1, 1) := by decide +kernel
theorem dX3_seek_3 : decode cX3_seek 3 = .ok (.lload_n 3, 1) := by decide +kernel
theorem dX3_seek_4 : decode cX3_seek 4 = .ok (.lload 5, 2) := by decide +kernel
theorem dX3_seek_6 : decode cX3_seek 6 = .ok (.lload 7, 2) := by decide +kernel
theorem dX3_seek_8 : decode cX3_seek 8 = .ok (.iconst 0, 1) := by decide +kernel
theorem dX3_seek_9 : decode cX3_seek 9 = .ok (.invokevirtual 113, 3) := by decide +kernel
theorem dX3_seek_12 : decode cX3_seek 12 = .ok (.iconst 0, 1) := by decide +kernel
theorem dX3_seek_13 : decode cX3_seek 13 = .ok (.invokevirtual 133, 3) := by decide +kernel
theorem dX3_seek_16 : decode cX3_seek 16 = .ok (.aload_n 0, 1) := by decide +kernel
theorem dX3_seek_17 : decode cX3_seek 17 = .ok (.dup, 1) := by decide +kernel
theorem dX3_seek_18 : decode cX3_seek 18 = .ok (.getfield 26, 3) := by decide +kernel
theorem dX3_seek_21 : decode cX3_seek 21 = .ok (.iconst 1, 1) := by decide +kernel
theorem dX3_seek_22 : decode cX3_seek 22 = .ok (.iadd, 1) := by decide +kernel
theorem dX3_seek_23 : decode cX3_seek 23 = .ok (.putfield 26, 3) := by decide +kernel
theorem dX3_seek_26 : decode cX3_seek 26 = .ok (.return_, 1) := by decide +kernel
theorem dX3_stand_0 : decode cX3_stand 0 = .ok (.aload_n 0, 1) := by decide +kernel
theorem dX3_stand_1 : decode cX3_stand 1 = .ok (.iconst 0, 1) := by decide +kernel
theorem dX3_stand_2 : decode cX3_stand 2 = .ok (.putfield 137, 3) := by decide +kernel
theorem dX3_stand_5 : decode cX3_stand 5 = .ok (.aload_n 0, 1) := by decide +kernel
theorem dX3_stand_6 : decode cX3_stand 6 = .ok (.iload_n 1, 1) := by decide +kernel
theorem dX3_stand_7 : decode cX3_stand 7 = .ok (.putfield 140, 3) := by decide +kernel
theorem dX3_stand_10 : decode cX3_stand 10 = .ok (.aload_n 0, 1) := by decide +kernel
theorem dX3_stand_11 : decode cX3_stand 11 = .ok (.iload_n 2, 1) := by decide +kernel
theorem dX3_stand_12 : decode cX3_stand 12 = .ok (.putfield 143, 3) := by decide +kernel
theorem dX3_stand_15 : decode cX3_stand 15 = .ok (.return_, 1) := by decide +kernel
theorem dX3_first_0 : decode cX3_first 0 = .ok (.aload_n 0, 1) := by decide +kernel
theorem dX3_first_1 : decode cX3_first 1 = .ok (.iconst (-1), 1) := by decide +kernel
theorem dX3_first_2 : decode cX3_first 2 = .ok (.putfield 137, 3) := by decide +kernel
theorem dX3_first_5 : decode cX3_first 5 = .ok (.return_, 1) := by decide +kernel
theorem dX3_last_0 : decode cX3_last 0 = .ok (.aload_n 0, 1) := by decide +kernel
theorem dX3_last_1 : decode cX3_last 1 = .ok (.iconst 1, 1) := by decide +kernel
theorem dX3_last_2 : decode cX3_last 2 = .ok (.putfield 137, 3) := by decide +kernel
theorem dX3_last_5 : decode cX3_last 5 = .ok (.return_, 1) := by decide +kernel
theorem dX3_behind_0 : decode cX3_behind 0 = .ok (.aload_n 0, 1) := by decide +kernel
theorem dX3_behind_1 : decode cX3_behind 1 = .ok (.getfield 137, 3) := by decide +kernel
theorem dX3_behind_4 : decode cX3_behind 4 = .ok (.ifCond .eq 16, 3) := by decide +kernel
theorem dX3_behind_7 : decode cX3_behind 7 = .ok (.aload_n 0, 1) := by decide +kernel
theorem dX3_behind_8 : decode cX3_behind 8 = .ok (.getfield 137, 3) := by decide +kernel
theorem dX3_behind_11 : decode cX3_behind 11 = .ok (.ifCond .ge 7, 3) := by decide +kernel
theorem dX3_behind_14 : decode cX3_behind 14 = .ok (.iconst 1, 1) := by decide +kernel
theorem dX3_behind_15 : decode cX3_behind 15 = .ok (.goto 4, 3) := by decide +kernel
theorem dX3_behind_18 : decode cX3_behind 18 = .ok (.iconst 0, 1) := by decide +kernel
theorem dX3_behind_19 : decode cX3_behind 19 = .ok (.ireturn, 1) := by decide +kernel
theorem dX3_behind_20 : decode cX3_behind 20 = .ok (.aload_n 0, 1) := by decide +kernel
theorem dX3_behind_21 : decode cX3_behind 21 = .ok (.iload_n 1, 1) := by decide +kernel
theorem dX3_behind_22 : decode cX3_behind 22 = .ok (.aload_n 0, 1) := by decide +kernel
theorem dX3_behind_23 : decode cX3_behind 23 = .ok (.getfield 140, 3) := by decide +kernel
theorem dX3_behind_26 : decode cX3_behind 26 = .ok (.invokevirtual 68, 3) := by decide +kernel
theorem dX3_behind_29 : decode cX3_behind 29 = .ok (.istore_n 2, 1) := by decide +kernel
theorem dX3_behind_30 : decode cX3_behind 30 = .ok (.iload_n 2, 1) := by decide +kernel
theorem dX3_behind_31 : decode cX3_behind 31 = .ok (.ifCond .gt 14, 3) := by decide +kernel
theorem dX3_behind_34 : decode cX3_behind 34 = .ok (.iload_n 2, 1) := by decide +kernel
theorem dX3_behind_35 : decode cX3_behind 35 = .ok (.ifCond .ne 14, 3) := by decide +kernel
theorem dX3_behind_38 : decode cX3_behind 38 = .ok (.aload_n 0, 1) := by decide +kernel
theorem dX3_behind_39 : decode cX3_behind 39 = .ok (.getfield 143, 3) := by decide +kernel
theorem dX3_behind_42 : decode cX3_behind 42 = .ok (.ifCond .ne 7, 3) := by decide +kernel
theorem dX3_behind_45 : decode cX3_behind 45 = .ok (.iconst 1, 1) := by decide +kernel
theorem dX3_behind_46 : decode cX3_behind 46 = .ok (.goto 4, 3) := by decide +kernel
theorem dX3_behind_49 : decode cX3_behind 49 = .ok (.iconst 0, 1) := by decide +kernel
theorem dX3_behind_50 : decode cX3_behind 50 = .ok (.ireturn, 1) := by decide +kernel
theorem dX3_next_0 : decode cX3_next 0 = .ok (.iconst (-1), 1) := by decide +kernel
theorem dX3_next_1 : decode cX3_next 1 = .ok (.istore_n 1, 1) := by decide +kernel
theorem dX3_next_2 : decode cX3_next 2 = .ok (.iconst 0, 1) := by decide +kernel
theorem dX3_next_3 : decode cX3_next 3 = .ok (.istore_n 2, 1) := by decide +kernel
theorem dX3_next_4 : decode cX3_next 4 = .ok (.iload_n 2, 1) := by decide +kernel
theorem dX3_next_5 : decode cX3_next 5 = .ok (.aload_n 0, 1) := by decide +kernel
theorem dX3_next_6 : decode cX3_next 6 = .ok (.getfield 72, 3) := by decide +kernel
theorem dX3_next_9 : decode cX3_next 9 = .ok (.if_icmp .ge 56, 3) := by decide +kernel
theorem dX3_next_12 : decode cX3_next 12 = .ok (.aload_n 0, 1) := by decide +kernel
theorem dX3_next_13 : decode cX3_next 13 = .ok (.getfield 33, 3) := by decide +kernel
theorem dX3_next_16 : decode cX3_next 16 = .ok (.iload_n 2, 1) := by decide +kernel
theorem dX3_next_17 : decode cX3_next 17 = .ok (.iaload, 1) := by decide +kernel
theorem dX3_next_18 : decode cX3_next 18 = .ok (.ifCond .ne 41, 3) := by decide +kernel
theorem dX3_next_21 : decode cX3_next 21 = .ok (.aload_n 0, 1) := by decide +kernel
theorem dX3_next_22 : decode cX3_next 22 = .ok (.aload_n 0, 1) := by decide +kernel
theorem dX3_next_23 : decode cX3_next 23 = .ok (.getfield 30, 3) := by decide +kernel
theorem dX3_next_26 : decode cX3_next 26 = .ok (.iload_n 2, 1) := by decide +kernel
theorem dX3_next_27 : decode cX3_next 27 = .ok (.iaload, 1) := by decide +kernel
theorem dX3_next_28 : decode cX3_next 28 = .ok (.invokevirtual 146, 3) := by decide +kernel
theorem dX3_next_31 : decode cX3_next 31 = .ok (.ifCond .eq 28, 3) := by decide +kernel
theorem dX3_next_34 : decode cX3_next 34 = .ok (.iload_n 1, 1) := by decide +kernel
theorem dX3_next_35 : decode cX3_next 35 = .ok (.ifCond .lt 17, 3) := by decide +kernel
theorem dX3_next_38 : decode cX3_next 38 = .ok (.aload_n 0, 1) := by decide +kernel
theorem dX3_next_39 : decode cX3_next 39 = .ok (.aload_n 0, 1) := by decide +kernel
theorem dX3_next_40 : decode cX3_next 40 = .ok (.getfield 30, 3) := by decide +kernel
theorem dX3_next_43 : decode cX3_next 43 = .ok (.iload_n 2, 1) := by decide +kernel
theorem dX3_next_44 : decode cX3_next 44 = .ok (.iaload, 1) := by decide +kernel
theorem dX3_next_45 : decode cX3_next 45 = .ok (.iload_n 1, 1) := by decide +kernel
theorem dX3_next_46 : decode cX3_next 46 = .ok (.invokevirtual 68, 3) := by decide +kernel
theorem dX3_next_49 : decode cX3_next 49 = .ok (.ifCond .ge 10, 3) := by decide +kernel
theorem dX3_next_52 : decode cX3_next 52 = .ok (.aload_n 0, 1) := by decide +kernel
theorem dX3_next_53 : decode cX3_next 53 = .ok (.getfield 30, 3) := by decide +kernel
theorem dX3_next_56 : decode cX3_next 56 = .ok (.iload_n 2, 1) := by decide +kernel
theorem dX3_next_57 : decode cX3_next 57 = .ok (.iaload, 1) := by decide +kernel
theorem dX3_next_58 : decode cX3_next 58 = .ok (.istore_n 1, 1) := by decide +kernel
theorem dX3_next_59 : decode cX3_next 59 = .ok (.iinc 2 1, 3) := by decide +kernel
theorem dX3_next_62 : decode cX3_next 62 = .ok (.goto (-58), 3) := by decide +kernel
theorem dX3_next_65 : decode cX3_next 65 = .ok (.iload_n 1, 1) := by decide +kernel
theorem dX3_next_66 : decode cX3_next 66 = .ok (.ifCond .ge 5, 3) := by decide +kernel
theorem dX3_next_69 : decode cX3_next 69 = .ok (.iconst 0, 1) := by decide +kernel
theorem dX3_next_70 : decode cX3_next 70 = .ok (.ireturn, 1) := by decide +kernel
theorem dX3_next_71 : decode cX3_next 71 = .ok (.aload_n 0, 1) := by decide +kernel
theorem dX3_next_72 : decode cX3_next 72 = .ok (.iload_n 1, 1) := by decide +kernel
theorem dX3_next_73 : decode cX3_next 73 = .ok (.putfield 53, 3) := by decide +kernel
theorem dX3_next_76 : decode cX3_next 76 = .ok (.aload_n 0, 1) := by decide +kernel
theorem dX3_next_77 : decode cX3_next 77 = .ok (.iload_n 1, 1) := by decide +kernel
theorem dX3_next_78 : decode cX3_next 78 = .ok (.iconst 1, 1) := by decide +kernel
theorem dX3_next_79 : decode cX3_next 79 = .ok (.invokevirtual 133, 3) := by decide +kernel
theorem dX3_next_82 : decode cX3_next 82 = .ok (.iconst 1, 1) := by decide +kernel
theorem dX3_next_83 : decode cX3_next 83 = .ok (.ireturn, 1) := by decide +kernel
theorem dX3_back_0 : decode cX3_back 0 = .ok (.iconst (-1), 1) := by decide +kernel
theorem dX3_back_1 : decode cX3_back 1 = .ok (.istore_n 1, 1) := by decide +kernel
theorem dX3_back_2 : decode cX3_back 2 = .ok (.iconst 0, 1) := by decide +kernel
theorem dX3_back_3 : decode cX3_back 3 = .ok (.istore_n 2, 1) := by decide +kernel
theorem dX3_back_4 : decode cX3_back 4 = .ok (.iload_n 2, 1) := by decide +kernel
theorem dX3_back_5 : decode cX3_back 5 = .ok (.aload_n 0, 1) := by decide +kernel
theorem dX3_back_6 : decode cX3_back 6 = .ok (.getfield 72, 3) := by decide +kernel
theorem dX3_back_9 : decode cX3_back 9 = .ok (.if_icmp .ge 56, 3) := by decide +kernel
theorem dX3_back_12 : decode cX3_back 12 = .ok (.aload_n 0, 1) := by decide +kernel
theorem dX3_back_13 : decode cX3_back 13 = .ok (.getfield 33, 3) := by decide +kernel
theorem dX3_back_16 : decode cX3_back 16 = .ok (.iload_n 2, 1) := by decide +kernel
theorem dX3_back_17 : decode cX3_back 17 = .ok (.iaload, 1) := by decide +kernel
theorem dX3_back_18 : decode cX3_back 18 = .ok (.ifCond .ne 41, 3) := by decide +kernel
theorem dX3_back_21 : decode cX3_back 21 = .ok (.aload_n 0, 1) := by decide +kernel
theorem dX3_back_22 : decode cX3_back 22 = .ok (.aload_n 0, 1) := by decide +kernel
theorem dX3_back_23 : decode cX3_back 23 = .ok (.getfield 30, 3) := by decide +kernel
theorem dX3_back_26 : decode cX3_back 26 = .ok (.iload_n 2, 1) := by decide +kernel
theorem dX3_back_27 : decode cX3_back 27 = .ok (.iaload, 1) := by decide +kernel
theorem dX3_back_28 : decode cX3_back 28 = .ok (.invokevirtual 146, 3) := by decide +kernel
theorem dX3_back_31 : decode cX3_back 31 = .ok (.ifCond .ne 28, 3) := by decide +kernel
theorem dX3_back_34 : decode cX3_back 34 = .ok (.iload_n 1, 1) := by decide +kernel
theorem dX3_back_35 : decode cX3_back 35 = .ok (.ifCond .lt 17, 3) := by decide +kernel
theorem dX3_back_38 : decode cX3_back 38 = .ok (.aload_n 0, 1) := by decide +kernel
theorem dX3_back_39 : decode cX3_back 39 = .ok (.aload_n 0, 1) := by decide +kernel
theorem dX3_back_40 : decode cX3_back 40 = .ok (.getfield 30, 3) := by decide +kernel
theorem dX3_back_43 : decode cX3_back 43 = .ok (.iload_n 2, 1) := by decide +kernel
theorem dX3_back_44 : decode cX3_back 44 = .ok (.iaload, 1) := by decide +kernel
theorem dX3_back_45 : decode cX3_back 45 = .ok (.iload_n 1, 1) := by decide +kernel
theorem dX3_back_46 : decode cX3_back 46 = .ok (.invokevirtual 68, 3) := by decide +kernel
theorem dX3_back_49 : decode cX3_back 49 = .ok (.ifCond .le 10, 3) := by decide +kernel
theorem dX3_back_52 : decode cX3_back 52 = .ok (.aload_n 0, 1) := by decide +kernel
theorem dX3_back_53 : decode cX3_back 53 = .ok (.getfield 30, 3) := by decide +kernel
theorem dX3_back_56 : decode cX3_back 56 = .ok (.iload_n 2, 1) := by decide +kernel
theorem dX3_back_57 : decode cX3_back 57 = .ok (.iaload, 1) := by decide +kernel
theorem dX3_back_58 : decode cX3_back 58 = .ok (.istore_n 1, 1) := by decide +kernel
theorem dX3_back_59 : decode cX3_back 59 = .ok (.iinc 2 1, 3) := by decide +kernel
theorem dX3_back_62 : decode cX3_back 62 = .ok (.goto (-58), 3) := by decide +kernel
theorem dX3_back_65 : decode cX3_back 65 = .ok (.iload_n 1, 1) := by decide +kernel
theorem dX3_back_66 : decode cX3_back 66 = .ok (.ifCond .ge 5, 3) := by decide +kernel
theorem dX3_back_69 : decode cX3_back 69 = .ok (.iconst 0, 1) := by decide +kernel
theorem dX3_back_70 : decode cX3_back 70 = .ok (.ireturn, 1) := by decide +kernel
theorem dX3_back_71 : decode cX3_back 71 = .ok (.aload_n 0, 1) := by decide +kernel
theorem dX3_back_72 : decode cX3_back 72 = .ok (.iload_n 1, 1) := by decide +kernel
theorem dX3_back_73 : decode cX3_back 73 = .ok (.putfield 53, 3) := by decide +kernel
theorem dX3_back_76 : decode cX3_back 76 = .ok (.aload_n 0, 1) := by decide +kernel
theorem dX3_back_77 : decode cX3_back 77 = .ok (.iload_n 1, 1) := by decide +kernel
theorem dX3_back_78 : decode cX3_back 78 = .ok (.iconst 0, 1) := by decide +kernel
theorem dX3_back_79 : decode cX3_back 79 = .ok (.invokevirtual 133, 3) := by decide +kernel
theorem dX3_back_82 : decode cX3_back 82 = .ok (.iconst 1, 1) := by decide +kernel
theorem dX3_back_83 : decode cX3_back 83 = .ok (.ireturn, 1) := by decide +kernel
theorem dX3_word_0 : decode cX3_word 0 = .ok (.iload_n 1, 1) := by decide +kernel
theorem dX3_word_1 : decode cX3_word 1 = .ok (.tableswitch 71 0 3 #[31, 41, 51, 61], 31) := by decide +kernel
theorem dX3_word_32 : decode cX3_word 32 = .ok (.aload_n 0, 1) := by decide +kernel
theorem dX3_word_33 : decode cX3_word 33 = .ok (.getfield 7, 3) := by decide +kernel
theorem dX3_word_36 : decode cX3_word 36 = .ok (.aload_n 0, 1) := by decide +kernel
theorem dX3_word_37 : decode cX3_word 37 = .ok (.getfield 53, 3) := by decide +kernel
theorem dX3_word_40 : decode cX3_word 40 = .ok (.laload, 1) := by decide +kernel
theorem dX3_word_41 : decode cX3_word 41 = .ok (.lreturn, 1) := by decide +kernel
theorem dX3_word_42 : decode cX3_word 42 = .ok (.aload_n 0, 1) := by decide +kernel
theorem dX3_word_43 : decode cX3_word 43 = .ok (.getfield 13, 3) := by decide +kernel
theorem dX3_word_46 : decode cX3_word 46 = .ok (.aload_n 0, 1) := by decide +kernel
theorem dX3_word_47 : decode cX3_word 47 = .ok (.getfield 53, 3) := by decide +kernel
theorem dX3_word_50 : decode cX3_word 50 = .ok (.laload, 1) := by decide +kernel
theorem dX3_word_51 : decode cX3_word 51 = .ok (.lreturn, 1) := by decide +kernel
theorem dX3_word_52 : decode cX3_word 52 = .ok (.aload_n 0, 1) := by decide +kernel
theorem dX3_word_53 : decode cX3_word 53 = .ok (.getfield 16, 3) := by decide +kernel
theorem dX3_word_56 : decode cX3_word 56 = .ok (.aload_n 0, 1) := by decide +kernel
theorem dX3_word_57 : decode cX3_word 57 = .ok (.getfield 53, 3) := by decide +kernel
theorem dX3_word_60 : decode cX3_word 60 = .ok (.laload, 1) := by decide +kernel
theorem dX3_word_61 : decode cX3_word 61 = .ok (.lreturn, 1) := by decide +kernel
theorem dX3_word_62 : decode cX3_word 62 = .ok (.aload_n 0, 1) := by decide +kernel
theorem dX3_word_63 : decode cX3_word 63 = .ok (.getfield 19, 3) := by decide +kernel
theorem dX3_word_66 : decode cX3_word 66 = .ok (.aload_n 0, 1) := by decide +kernel
theorem dX3_word_67 : decode cX3_word 67 = .ok (.getfield 53, 3) := by decide +kernel
theorem dX3_word_70 : decode cX3_word 70 = .ok (.laload, 1) := by decide +kernel
theorem dX3_word_71 : decode cX3_word 71 = .ok (.lreturn, 1) := by decide +kernel
theorem dX3_word_72 : decode cX3_word 72 = .ok (.lconst 0, 1) := by decide +kernel
theorem dX3_word_73 : decode cX3_word 73 = .ok (.lreturn, 1) := by decide +kernel
theorem dX3_place_0 : decode cX3_place 0 = .ok (.aload_n 0, 1) := by decide +kernel
theorem dX3_place_1 : decode cX3_place 1 = .ok (.getfield 22, 3) := by decide +kernel
theorem dX3_place_4 : decode cX3_place 4 = .ok (.aload_n 0, 1) := by decide +kernel
theorem dX3_place_5 : decode cX3_place 5 = .ok (.getfield 53, 3) := by decide +kernel
theorem dX3_place_8 : decode cX3_place 8 = .ok (.iaload, 1) := by decide +kernel
theorem dX3_place_9 : decode cX3_place 9 = .ok (.ireturn, 1) := by decide +kernel
theorem dX3_entriesOf_0 : decode cX3_entriesOf 0 = .ok (.iconst 0, 1) := by decide +kernel
theorem dX3_entriesOf_1 : decode cX3_entriesOf 1 = .ok (.istore_n 2, 1) := by decide +kernel
theorem dX3_entriesOf_2 : decode cX3_entriesOf 2 = .ok (.iconst 0, 1) := by decide +kernel
theorem dX3_entriesOf_3 : decode cX3_entriesOf 3 = .ok (.istore_n 3, 1) := by decide +kernel
theorem dX3_entriesOf_4 : decode cX3_entriesOf 4 = .ok (.iload_n 3, 1) := by decide +kernel
theorem dX3_entriesOf_5 : decode cX3_entriesOf 5 = .ok (.aload_n 0, 1) := by decide +kernel
theorem dX3_entriesOf_6 : decode cX3_entriesOf 6 = .ok (.getfield 72, 3) := by decide +kernel
theorem dX3_entriesOf_9 : decode cX3_entriesOf 9 = .ok (.if_icmp .ge 22, 3) := by decide +kernel
theorem dX3_entriesOf_12 : decode cX3_entriesOf 12 = .ok (.aload_n 0, 1) := by decide +kernel
theorem dX3_entriesOf_13 : decode cX3_entriesOf 13 = .ok (.getfield 33, 3) := by decide +kernel
theorem dX3_entriesOf_16 : decode cX3_entriesOf 16 = .ok (.iload_n 3, 1) := by decide +kernel
theorem dX3_entriesOf_17 : decode cX3_entriesOf 17 = .ok (.iaload, 1) := by decide +kernel
theorem dX3_entriesOf_18 : decode cX3_entriesOf 18 = .ok (.iload_n 1, 1) := by decide +kernel
theorem dX3_entriesOf_19 : decode cX3_entriesOf 19 = .ok (.if_icmp .ne 6, 3) := by decide +kernel
theorem dX3_entriesOf_22 : decode cX3_entriesOf 22 = .ok (.iinc 2 1, 3) := by decide +kernel
theorem dX3_entriesOf_25 : decode cX3_entriesOf 25 = .ok (.iinc 3 1, 3) := by decide +kernel
theorem dX3_entriesOf_28 : decode cX3_entriesOf 28 = .ok (.goto (-24), 3) := by decide +kernel
theorem dX3_entriesOf_31 : decode cX3_entriesOf 31 = .ok (.iload_n 2, 1) := by decide +kernel
theorem dX3_entriesOf_32 : decode cX3_entriesOf 32 = .ok (.ireturn, 1) := by decide +kernel
theorem dX3_count_0 : decode cX3_count 0 = .ok (.iload_n 1, 1) := by decide +kernel
theorem dX3_count_1 : decode cX3_count 1 = .ok (.tableswitch 52 0 3 #[31, 36, 41, 46], 31) := by decide +kernel
theorem dX3_count_32 : decode cX3_count 32 = .ok (.aload_n 0, 1) := by decide +kernel
theorem dX3_count_33 : decode cX3_count 33 = .ok (.getfield 88, 3) := by decide +kernel
theorem dX3_count_36 : decode cX3_count 36 = .ok (.ireturn, 1) := by decide +kernel
theorem dX3_count_37 : decode cX3_count 37 = .ok (.aload_n 0, 1) := by decide +kernel
theorem dX3_count_38 : decode cX3_count 38 = .ok (.getfield 123, 3) := by decide +kernel
theorem dX3_count_41 : decode cX3_count 41 = .ok (.ireturn, 1) := by decide +kernel
theorem dX3_count_42 : decode cX3_count 42 = .ok (.aload_n 0, 1) := by decide +kernel
theorem dX3_count_43 : decode cX3_count 43 = .ok (.getfield 78, 3) := by decide +kernel
theorem dX3_count_46 : decode cX3_count 46 = .ok (.ireturn, 1) := by decide +kernel
theorem dX3_count_47 : decode cX3_count 47 = .ok (.aload_n 0, 1) := by decide +kernel
theorem dX3_count_48 : decode cX3_count 48 = .ok (.iconst 0, 1) := by decide +kernel
theorem dX3_count_49 : decode cX3_count 49 = .ok (.invokevirtual 149, 3) := by decide +kernel
theorem dX3_count_52 : decode cX3_count 52 = .ok (.ireturn, 1) := by decide +kernel
theorem dX3_count_53 : decode cX3_count 53 = .ok (.iconst (-1), 1) := by decide +kernel
theorem dX3_count_54 : decode cX3_count 54 = .ok (.ireturn, 1) := by decide +kernel
theorem dX3_leftOf_0 : decode cX3_leftOf 0 = .ok (.iconst 0, 1) := by decide +kernel
theorem dX3_leftOf_1 : decode cX3_leftOf 1 = .ok (.istore_n 2, 1) := by decide +kernel
theorem dX3_leftOf_2 : decode cX3_leftOf 2 = .ok (.iconst 0, 1) := by decide +kernel
theorem dX3_leftOf_3 : decode cX3_leftOf 3 = .ok (.istore_n 3, 1) := by decide +kernel
theorem dX3_leftOf_4 : decode cX3_leftOf 4 = .ok (.iload_n 3, 1) := by decide +kernel
theorem dX3_leftOf_5 : decode cX3_leftOf 5 = .ok (.aload_n 0, 1) := by decide +kernel
theorem dX3_leftOf_6 : decode cX3_leftOf 6 = .ok (.getfield 65, 3) := by decide +kernel
theorem dX3_leftOf_9 : decode cX3_leftOf 9 = .ok (.if_icmp .ge 46, 3) := by decide +kernel
theorem dX3_leftOf_12 : decode cX3_leftOf 12 = .ok (.aload_n 0, 1) := by decide +kernel
theorem dX3_leftOf_13 : decode cX3_leftOf 13 = .ok (.getfield 39, 3) := by decide +kernel
theorem dX3_leftOf_16 : decode cX3_leftOf 16 = .ok (.iload_n 3, 1) := by decide +kernel
theorem dX3_leftOf_17 : decode cX3_leftOf 17 = .ok (.iaload, 1) := by decide +kernel
theorem dX3_leftOf_18 : decode cX3_leftOf 18 = .ok (.aload_n 0, 1) := by decide +kernel
theorem dX3_leftOf_19 : decode cX3_leftOf 19 = .ok (.getfield 39, 3) := by decide +kernel
theorem dX3_leftOf_22 : decode cX3_leftOf 22 = .ok (.iload_n 1, 1) := by decide +kernel
theorem dX3_leftOf_23 : decode cX3_leftOf 23 = .ok (.iaload, 1) := by decide +kernel
theorem dX3_leftOf_24 : decode cX3_leftOf 24 = .ok (.if_icmp .ne 25, 3) := by decide +kernel
theorem dX3_leftOf_27 : decode cX3_leftOf 27 = .ok (.aload_n 0, 1) := by decide +kernel
theorem dX3_leftOf_28 : decode cX3_leftOf 28 = .ok (.aload_n 0, 1) := by decide +kernel
theorem dX3_leftOf_29 : decode cX3_leftOf 29 = .ok (.getfield 36, 3) := by decide +kernel
theorem dX3_leftOf_32 : decode cX3_leftOf 32 = .ok (.iload_n 3, 1) := by decide +kernel
theorem dX3_leftOf_33 : decode cX3_leftOf 33 = .ok (.iaload, 1) := by decide +kernel
theorem dX3_leftOf_34 : decode cX3_leftOf 34 = .ok (.aload_n 0, 1) := by decide +kernel
theorem dX3_leftOf_35 : decode cX3_leftOf 35 = .ok (.getfield 36, 3) := by decide +kernel
theorem dX3_leftOf_38 : decode cX3_leftOf 38 = .ok (.iload_n 1, 1) := by decide +kernel
theorem dX3_leftOf_39 : decode cX3_leftOf 39 = .ok (.iaload, 1) := by decide +kernel
theorem dX3_leftOf_40 : decode cX3_leftOf 40 = .ok (.invokevirtual 68, 3) := by decide +kernel
theorem dX3_leftOf_43 : decode cX3_leftOf 43 = .ok (.ifCond .ge 6, 3) := by decide +kernel
theorem dX3_leftOf_46 : decode cX3_leftOf 46 = .ok (.iinc 2 1, 3) := by decide +kernel
theorem dX3_leftOf_49 : decode cX3_leftOf 49 = .ok (.iinc 3 1, 3) := by decide +kernel
theorem dX3_leftOf_52 : decode cX3_leftOf 52 = .ok (.goto (-48), 3) := by decide +kernel
theorem dX3_leftOf_55 : decode cX3_leftOf 55 = .ok (.iload_n 2, 1) := by decide +kernel
theorem dX3_leftOf_56 : decode cX3_leftOf 56 = .ok (.ireturn, 1) := by decide +kernel
theorem dX3_level_0 : decode cX3_level 0 = .ok (.iload_n 1, 1) := by decide +kernel
theorem dX3_level_1 : decode cX3_level 1 = .ok (.ifCond .lt 15, 3) := by decide +kernel
theorem dX3_level_4 : decode cX3_level 4 = .ok (.iload_n 1, 1) := by decide +kernel
theorem dX3_level_5 : decode cX3_level 5 = .ok (.aload_n 0, 1) := by decide +kernel
theorem dX3_level_6 : decode cX3_level 6 = .ok (.getfield 88, 3) := by decide +kernel
theorem dX3_level_9 : decode cX3_level 9 = .ok (.if_icmp .ge 7, 3) := by decide +kernel
theorem dX3_level_12 : decode cX3_level 12 = .ok (.iload_n 2, 1) := by decide +kernel
theorem dX3_level_13 : decode cX3_level 13 = .ok (.ifCond .ge 5, 3) := by decide +kernel
theorem dX3_level_16 : decode cX3_level 16 = .ok (.iconst (-1), 1) := by decide +kernel
theorem dX3_level_17 : decode cX3_level 17 = .ok (.ireturn, 1) := by decide +kernel
theorem dX3_level_18 : decode cX3_level 18 = .ok (.iload_n 2, 1) := by decide +kernel
theorem dX3_level_19 : decode cX3_level 19 = .ok (.iconst 1, 1) := by decide +kernel
theorem dX3_level_20 : decode cX3_level 20 = .ok (.if_icmp .ne 9, 3) := by decide +kernel
theorem dX3_level_23 : decode cX3_level 23 = .ok (.aload_n 0, 1) := by decide +kernel
theorem dX3_level_24 : decode cX3_level 24 = .ok (.iload_n 1, 1) := by decide +kernel
theorem dX3_level_25 : decode cX3_level 25 = .ok (.invokevirtual 149, 3) := by decide +kernel
theorem dX3_level_28 : decode cX3_level 28 = .ok (.ireturn, 1) := by decide +kernel
theorem dX3_level_29 : decode cX3_level 29 = .ok (.iconst 0, 1) := by decide +kernel
theorem dX3_level_30 : decode cX3_level 30 = .ok (.istore_n 3, 1) := by decide +kernel
theorem dX3_level_31 : decode cX3_level 31 = .ok (.iconst (-1), 1) := by decide +kernel
theorem dX3_level_32 : decode cX3_level 32 = .ok (.istore 4, 2) := by decide +kernel
theorem dX3_level_34 : decode cX3_level 34 = .ok (.iconst 0, 1) := by decide +kernel
theorem dX3_level_35 : decode cX3_level 35 = .ok (.istore 5, 2) := by decide +kernel
theorem dX3_level_37 : decode cX3_level 37 = .ok (.iload 5, 2) := by decide +kernel
theorem dX3_level_39 : decode cX3_level 39 = .ok (.aload_n 0, 1) := by decide +kernel
theorem dX3_level_40 : decode cX3_level 40 = .ok (.getfield 65, 3) := by decide +kernel
theorem dX3_level_43 : decode cX3_level 43 = .ok (.if_icmp .ge 39, 3) := by decide +kernel
theorem dX3_level_46 : decode cX3_level 46 = .ok (.aload_n 0, 1) := by decide +kernel
theorem dX3_level_47 : decode cX3_level 47 = .ok (.getfield 39, 3) := by decide +kernel
theorem dX3_level_50 : decode cX3_level 50 = .ok (.iload 5, 2) := by decide +kernel
theorem dX3_level_52 : decode cX3_level 52 = .ok (.iaload, 1) := by decide +kernel
theorem dX3_level_53 : decode cX3_level 53 = .ok (.iload_n 1, 1) := by decide +kernel
theorem dX3_level_54 : decode cX3_level 54 = .ok (.if_icmp .ne 22, 3) := by decide +kernel
theorem dX3_level_57 : decode cX3_level 57 = .ok (.iinc 3 1, 3) := by decide +kernel
theorem dX3_level_60 : decode cX3_level 60 = .ok (.aload_n 0, 1) := by decide +kernel
theorem dX3_level_61 : decode cX3_level 61 = .ok (.iload 5, 2) := by decide +kernel
theorem dX3_level_63 : decode cX3_level 63 = .ok (.invokevirtual 152, 3) := by decide +kernel
theorem dX3_level_66 : decode cX3_level 66 = .ok (.iload_n 2, 1) := by decide +kernel
theorem dX3_level_67 : decode cX3_level 67 = .ok (.iconst 2, 1) := by decide +kernel
theorem dX3_level_68 : decode cX3_level 68 = .ok (.isub, 1) := by decide +kernel
theorem dX3_level_69 : decode cX3_level 69 = .ok (.if_icmp .ne 7, 3) := by decide +kernel
theorem dX3_level_72 : decode cX3_level 72 = .ok (.iload 5, 2) := by decide +kernel
theorem dX3_level_74 : decode cX3_level 74 = .ok (.istore 4, 2) := by decide +kernel
theorem dX3_level_76 : decode cX3_level 76 = .ok (.iinc 5 1, 3) := by decide +kernel
theorem dX3_level_79 : decode cX3_level 79 = .ok (.goto (-42), 3) := by decide +kernel
theorem dX3_level_82 : decode cX3_level 82 = .ok (.iload_n 2, 1) := by decide +kernel
theorem dX3_level_83 : decode cX3_level 83 = .ok (.ifCond .ne 5, 3) := by decide +kernel
theorem dX3_level_86 : decode cX3_level 86 = .ok (.iload_n 3, 1) := by decide +kernel
theorem dX3_level_87 : decode cX3_level 87 = .ok (.ireturn, 1) := by decide +kernel
theorem dX3_level_88 : decode cX3_level 88 = .ok (.iload 4, 2) := by decide +kernel
theorem dX3_level_90 : decode cX3_level 90 = .ok (.ifCond .ge 7, 3) := by decide +kernel
theorem dX3_level_93 : decode cX3_level 93 = .ok (.iconst (-1), 1) := by decide +kernel
theorem dX3_level_94 : decode cX3_level 94 = .ok (.goto 9, 3) := by decide +kernel
theorem dX3_level_97 : decode cX3_level 97 = .ok (.aload_n 0, 1) := by decide +kernel
theorem dX3_level_98 : decode cX3_level 98 = .ok (.iload 4, 2) := by decide +kernel
theorem dX3_level_100 : decode cX3_level 100 = .ok (.invokevirtual 84, 3) := by decide +kernel
theorem dX3_level_103 : decode cX3_level 103 = .ok (.ireturn, 1) := by decide +kernel
