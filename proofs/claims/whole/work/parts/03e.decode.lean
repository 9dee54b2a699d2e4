theorem dX10_ordersNow_99 : decode cX10_ordersNow 99 = .ok (.iinc 2 1, 3) := by decide +kernel
theorem dX10_ordersNow_102 : decode cX10_ordersNow 102 = .ok (.goto (-89), 3) := by decide +kernel
theorem dX10_ordersNow_105 : decode cX10_ordersNow 105 = .ok (.aload_n 0, 1) := by decide +kernel
theorem dX10_ordersNow_106 : decode cX10_ordersNow 106 = .ok (.getfield 42, 3) := by decide +kernel
theorem dX10_ordersNow_109 : decode cX10_ordersNow 109 = .ok (.iload_n 1, 1) := by decide +kernel
theorem dX10_ordersNow_110 : decode cX10_ordersNow 110 = .ok (.laload, 1) := by decide +kernel
theorem dX10_ordersNow_111 : decode cX10_ordersNow 111 = .ok (.lreturn, 1) := by decide +kernel
theorem dX10_orders_0 : decode cX10_orders 0 = .ok (.aload_n 0, 1) := by decide +kernel
theorem dX10_orders_1 : decode cX10_orders 1 = .ok (.iconst 0, 1) := by decide +kernel
theorem dX10_orders_2 : decode cX10_orders 2 = .ok (.putfield 1, 3) := by decide +kernel
theorem dX10_orders_5 : decode cX10_orders 5 = .ok (.aload_n 0, 1) := by decide +kernel
theorem dX10_orders_6 : decode cX10_orders 6 = .ok (.invokevirtual 169, 3) := by decide +kernel
theorem dX10_orders_9 : decode cX10_orders 9 = .ok (.aload_n 0, 1) := by decide +kernel
theorem dX10_orders_10 : decode cX10_orders 10 = .ok (.invokevirtual 259, 3) := by decide +kernel
theorem dX10_orders_13 : decode cX10_orders 13 = .ok (.lreturn, 1) := by decide +kernel
theorem dX10_ordersWith_0 : decode cX10_ordersWith 0 = .ok (.aload_n 0, 1) := by decide +kernel
theorem dX10_ordersWith_1 : decode cX10_ordersWith 1 = .ok (.invokevirtual 169, 3) := by decide +kernel
theorem dX10_ordersWith_4 : decode cX10_ordersWith 4 = .ok (.aload_n 0, 1) := by decide +kernel
theorem dX10_ordersWith_5 : decode cX10_ordersWith 5 = .ok (.getfield 30, 3) := by decide +kernel
theorem dX10_ordersWith_8 : decode cX10_ordersWith 8 = .ok (.iload_n 2, 1) := by decide +kernel
theorem dX10_ordersWith_9 : decode cX10_ordersWith 9 = .ok (.iaload, 1) := by decide +kernel
theorem dX10_ordersWith_10 : decode cX10_ordersWith 10 = .ok (.iload_n 1, 1) := by decide +kernel
theorem dX10_ordersWith_11 : decode cX10_ordersWith 11 = .ok (.invokestatic 178, 3) := by decide +kernel
theorem dX10_ordersWith_14 : decode cX10_ordersWith 14 = .ok (.ifCond .eq 5, 3) := by decide +kernel
theorem dX10_ordersWith_17 : decode cX10_ordersWith 17 = .ok (.lconst 0, 1) := by decide +kernel
theorem dX10_ordersWith_18 : decode cX10_ordersWith 18 = .ok (.lreturn, 1) := by decide +kernel
theorem dX10_ordersWith_19 : decode cX10_ordersWith 19 = .ok (.aload_n 0, 1) := by decide +kernel
theorem dX10_ordersWith_20 : decode cX10_ordersWith 20 = .ok (.getfield 30, 3) := by decide +kernel
theorem dX10_ordersWith_23 : decode cX10_ordersWith 23 = .ok (.iload_n 1, 1) := by decide +kernel
theorem dX10_ordersWith_24 : decode cX10_ordersWith 24 = .ok (.dup2, 1) := by decide +kernel
theorem dX10_ordersWith_25 : decode cX10_ordersWith 25 = .ok (.iaload, 1) := by decide +kernel
theorem dX10_ordersWith_26 : decode cX10_ordersWith 26 = .ok (.iconst 1, 1) := by decide +kernel
theorem dX10_ordersWith_27 : decode cX10_ordersWith 27 = .ok (.iload_n 2, 1) := by decide +kernel
theorem dX10_ordersWith_28 : decode cX10_ordersWith 28 = .ok (.ishl, 1) := by decide +kernel
theorem dX10_ordersWith_29 : decode cX10_ordersWith 29 = .ok (.ior, 1) := by decide +kernel
theorem dX10_ordersWith_30 : decode cX10_ordersWith 30 = .ok (.iastore, 1) := by decide +kernel
theorem dX10_ordersWith_31 : decode cX10_ordersWith 31 = .ok (.aload_n 0, 1) := by decide +kernel
theorem dX10_ordersWith_32 : decode cX10_ordersWith 32 = .ok (.invokevirtual 259, 3) := by decide +kernel
theorem dX10_ordersWith_35 : decode cX10_ordersWith 35 = .ok (.lreturn, 1) := by decide +kernel
theorem dX10_ahead_0 : decode cX10_ahead 0 = .ok (.aload_n 0, 1) := by decide +kernel
theorem dX10_ahead_1 : decode cX10_ahead 1 = .ok (.iconst 0, 1) := by decide +kernel
theorem dX10_ahead_2 : decode cX10_ahead 2 = .ok (.putfield 1, 3) := by decide +kernel
theorem dX10_ahead_5 : decode cX10_ahead 5 = .ok (.aload_n 0, 1) := by decide +kernel
theorem dX10_ahead_6 : decode cX10_ahead 6 = .ok (.iload_n 1, 1) := by decide +kernel
theorem dX10_ahead_7 : decode cX10_ahead 7 = .ok (.invokevirtual 229, 3) := by decide +kernel
theorem dX10_ahead_10 : decode cX10_ahead 10 = .ok (.ifCond .eq 25, 3) := by decide +kernel
theorem dX10_ahead_13 : decode cX10_ahead 13 = .ok (.aload_n 0, 1) := by decide +kernel
theorem dX10_ahead_14 : decode cX10_ahead 14 = .ok (.iload_n 2, 1) := by decide +kernel
theorem dX10_ahead_15 : decode cX10_ahead 15 = .ok (.invokevirtual 229, 3) := by decide +kernel
theorem dX10_ahead_18 : decode cX10_ahead 18 = .ok (.ifCond .eq 17, 3) := by decide +kernel
theorem dX10_ahead_21 : decode cX10_ahead 21 = .ok (.iload_n 1, 1) := by decide +kernel
theorem dX10_ahead_22 : decode cX10_ahead 22 = .ok (.iload_n 2, 1) := by decide +kernel
theorem dX10_ahead_23 : decode cX10_ahead 23 = .ok (.if_icmp .eq 12, 3) := by decide +kernel
theorem dX10_ahead_26 : decode cX10_ahead 26 = .ok (.aload_n 0, 1) := by decide +kernel
theorem dX10_ahead_27 : decode cX10_ahead 27 = .ok (.iload_n 2, 1) := by decide +kernel
theorem dX10_ahead_28 : decode cX10_ahead 28 = .ok (.iload_n 1, 1) := by decide +kernel
theorem dX10_ahead_29 : decode cX10_ahead 29 = .ok (.invokevirtual 263, 3) := by decide +kernel
theorem dX10_ahead_32 : decode cX10_ahead 32 = .ok (.goto 6, 3) := by decide +kernel
theorem dX10_ahead_35 : decode cX10_ahead 35 = .ok (.ldc2_w 267, 3) := by decide +kernel
theorem dX10_ahead_38 : decode cX10_ahead 38 = .ok (.lreturn, 1) := by decide +kernel
theorem dX10_ways_0 : decode cX10_ways 0 = .ok (.aload_n 0, 1) := by decide +kernel
theorem dX10_ways_1 : decode cX10_ways 1 = .ok (.iconst 0, 1) := by decide +kernel
theorem dX10_ways_2 : decode cX10_ways 2 = .ok (.putfield 1, 3) := by decide +kernel
theorem dX10_ways_5 : decode cX10_ways 5 = .ok (.aload_n 0, 1) := by decide +kernel
theorem dX10_ways_6 : decode cX10_ways 6 = .ok (.invokevirtual 221, 3) := by decide +kernel
theorem dX10_ways_9 : decode cX10_ways 9 = .ok (.aload_n 0, 1) := by decide +kernel
theorem dX10_ways_10 : decode cX10_ways 10 = .ok (.getfield 212, 3) := by decide +kernel
theorem dX10_ways_13 : decode cX10_ways 13 = .ok (.ireturn, 1) := by decide +kernel
theorem dX10_layers_0 : decode cX10_layers 0 = .ok (.aload_n 0, 1) := by decide +kernel
theorem dX10_layers_1 : decode cX10_layers 1 = .ok (.iconst 0, 1) := by decide +kernel
theorem dX10_layers_2 : decode cX10_layers 2 = .ok (.putfield 1, 3) := by decide +kernel
theorem dX10_layers_5 : decode cX10_layers 5 = .ok (.iconst (-1), 1) := by decide +kernel
theorem dX10_layers_6 : decode cX10_layers 6 = .ok (.istore_n 1, 1) := by decide +kernel
theorem dX10_layers_7 : decode cX10_layers 7 = .ok (.iconst 0, 1) := by decide +kernel
theorem dX10_layers_8 : decode cX10_layers 8 = .ok (.istore_n 2, 1) := by decide +kernel
theorem dX10_layers_9 : decode cX10_layers 9 = .ok (.iload_n 2, 1) := by decide +kernel
theorem dX10_layers_10 : decode cX10_layers 10 = .ok (.aload_n 0, 1) := by decide +kernel
theorem dX10_layers_11 : decode cX10_layers 11 = .ok (.getfield 13, 3) := by decide +kernel
theorem dX10_layers_14 : decode cX10_layers 14 = .ok (.iconst 2, 1) := by decide +kernel
theorem dX10_layers_15 : decode cX10_layers 15 = .ok (.iaload, 1) := by decide +kernel
theorem dX10_layers_16 : decode cX10_layers 16 = .ok (.if_icmp .ge 28, 3) := by decide +kernel
theorem dX10_layers_19 : decode cX10_layers 19 = .ok (.aload_n 0, 1) := by decide +kernel
theorem dX10_layers_20 : decode cX10_layers 20 = .ok (.iload_n 2, 1) := by decide +kernel
theorem dX10_layers_21 : decode cX10_layers 21 = .ok (.invokevirtual 245, 3) := by decide +kernel
theorem dX10_layers_24 : decode cX10_layers 24 = .ok (.iload_n 1, 1) := by decide +kernel
theorem dX10_layers_25 : decode cX10_layers 25 = .ok (.if_icmp .le 11, 3) := by decide +kernel
theorem dX10_layers_28 : decode cX10_layers 28 = .ok (.aload_n 0, 1) := by decide +kernel
theorem dX10_layers_29 : decode cX10_layers 29 = .ok (.iload_n 2, 1) := by decide +kernel
theorem dX10_layers_30 : decode cX10_layers 30 = .ok (.invokevirtual 245, 3) := by decide +kernel
theorem dX10_layers_33 : decode cX10_layers 33 = .ok (.goto 4, 3) := by decide +kernel
theorem dX10_layers_36 : decode cX10_layers 36 = .ok (.iload_n 1, 1) := by decide +kernel
theorem dX10_layers_37 : decode cX10_layers 37 = .ok (.istore_n 1, 1) := by decide +kernel
theorem dX10_layers_38 : decode cX10_layers 38 = .ok (.iinc 2 1, 3) := by decide +kernel
theorem dX10_layers_41 : decode cX10_layers 41 = .ok (.goto (-32), 3) := by decide +kernel
theorem dX10_layers_44 : decode cX10_layers 44 = .ok (.iload_n 1, 1) := by decide +kernel
theorem dX10_layers_45 : decode cX10_layers 45 = .ok (.iconst 1, 1) := by decide +kernel
theorem dX10_layers_46 : decode cX10_layers 46 = .ok (.iadd, 1) := by decide +kernel
theorem dX10_layers_47 : decode cX10_layers 47 = .ok (.ireturn, 1) := by decide +kernel
theorem dX10_span_0 : decode cX10_span 0 = .ok (.aload_n 0, 1) := by decide +kernel
theorem dX10_span_1 : decode cX10_span 1 = .ok (.iconst 0, 1) := by decide +kernel
theorem dX10_span_2 : decode cX10_span 2 = .ok (.putfield 1, 3) := by decide +kernel
theorem dX10_span_5 : decode cX10_span 5 = .ok (.aload_n 0, 1) := by decide +kernel
theorem dX10_span_6 : decode cX10_span 6 = .ok (.iload_n 1, 1) := by decide +kernel
theorem dX10_span_7 : decode cX10_span 7 = .ok (.invokevirtual 229, 3) := by decide +kernel
theorem dX10_span_10 : decode cX10_span 10 = .ok (.ifCond .eq 15, 3) := by decide +kernel
theorem dX10_span_13 : decode cX10_span 13 = .ok (.iload_n 2, 1) := by decide +kernel
theorem dX10_span_14 : decode cX10_span 14 = .ok (.i2l, 1) := by decide +kernel
theorem dX10_span_15 : decode cX10_span 15 = .ok (.lconst 0, 1) := by decide +kernel
theorem dX10_span_16 : decode cX10_span 16 = .ok (.ldc2_w 269, 3) := by decide +kernel
theorem dX10_span_19 : decode cX10_span 19 = .ok (.invokestatic 83, 3) := by decide +kernel
theorem dX10_span_22 : decode cX10_span 22 = .ok (.ifCond .ne 7, 3) := by decide +kernel
theorem dX10_span_25 : decode cX10_span 25 = .ok (.ldc2_w 267, 3) := by decide +kernel
theorem dX10_span_28 : decode cX10_span 28 = .ok (.lreturn, 1) := by decide +kernel
theorem dX10_span_29 : decode cX10_span 29 = .ok (.aload_n 0, 1) := by decide +kernel
theorem dX10_span_30 : decode cX10_span 30 = .ok (.invokevirtual 169, 3) := by decide +kernel
theorem dX10_span_33 : decode cX10_span 33 = .ok (.iload_n 2, 1) := by decide +kernel
theorem dX10_span_34 : decode cX10_span 34 = .ok (.ifCond .ne 14, 3) := by decide +kernel
theorem dX10_span_37 : decode cX10_span 37 = .ok (.aload_n 0, 1) := by decide +kernel
theorem dX10_span_38 : decode cX10_span 38 = .ok (.getfield 30, 3) := by decide +kernel
theorem dX10_span_41 : decode cX10_span 41 = .ok (.iload_n 1, 1) := by decide +kernel
theorem dX10_span_42 : decode cX10_span 42 = .ok (.iaload, 1) := by decide +kernel
theorem dX10_span_43 : decode cX10_span 43 = .ok (.invokestatic 224, 3) := by decide +kernel
theorem dX10_span_46 : decode cX10_span 46 = .ok (.i2l, 1) := by decide +kernel
theorem dX10_span_47 : decode cX10_span 47 = .ok (.lreturn, 1) := by decide +kernel
theorem dX10_span_48 : decode cX10_span 48 = .ok (.iload_n 2, 1) := by decide +kernel
theorem dX10_span_49 : decode cX10_span 49 = .ok (.iconst 1, 1) := by decide +kernel
theorem dX10_span_50 : decode cX10_span 50 = .ok (.if_icmp .ne 22, 3) := by decide +kernel
theorem dX10_span_53 : decode cX10_span 53 = .ok (.aload_n 0, 1) := by decide +kernel
theorem dX10_span_54 : decode cX10_span 54 = .ok (.getfield 13, 3) := by decide +kernel
theorem dX10_span_57 : decode cX10_span 57 = .ok (.iconst 2, 1) := by decide +kernel
theorem dX10_span_58 : decode cX10_span 58 = .ok (.iaload, 1) := by decide +kernel
theorem dX10_span_59 : decode cX10_span 59 = .ok (.iconst 1, 1) := by decide +kernel
theorem dX10_span_60 : decode cX10_span 60 = .ok (.isub, 1) := by decide +kernel
theorem dX10_span_61 : decode cX10_span 61 = .ok (.aload_n 0, 1) := by decide +kernel
theorem dX10_span_62 : decode cX10_span 62 = .ok (.iload_n 1, 1) := by decide +kernel
theorem dX10_span_63 : decode cX10_span 63 = .ok (.invokevirtual 256, 3) := by decide +kernel
theorem dX10_span_66 : decode cX10_span 66 = .ok (.invokestatic 224, 3) := by decide +kernel
theorem dX10_span_69 : decode cX10_span 69 = .ok (.isub, 1) := by decide +kernel
theorem dX10_span_70 : decode cX10_span 70 = .ok (.i2l, 1) := by decide +kernel
theorem dX10_span_71 : decode cX10_span 71 = .ok (.lreturn, 1) := by decide +kernel
theorem dX10_span_72 : decode cX10_span 72 = .ok (.aload_n 0, 1) := by decide +kernel
theorem dX10_span_73 : decode cX10_span 73 = .ok (.invokevirtual 259, 3) := by decide +kernel
theorem dX10_span_76 : decode cX10_span 76 = .ok (.lstore_n 3, 1) := by decide +kernel
theorem dX10_span_77 : decode cX10_span 77 = .ok (.lconst 0, 1) := by decide +kernel
theorem dX10_span_78 : decode cX10_span 78 = .ok (.lstore 5, 2) := by decide +kernel
theorem dX10_span_80 : decode cX10_span 80 = .ok (.iconst 0, 1) := by decide +kernel
theorem dX10_span_81 : decode cX10_span 81 = .ok (.istore 7, 2) := by decide +kernel
theorem dX10_span_83 : decode cX10_span 83 = .ok (.iload 7, 2) := by decide +kernel
theorem dX10_span_85 : decode cX10_span 85 = .ok (.aload_n 0, 1) := by decide +kernel
theorem dX10_span_86 : decode cX10_span 86 = .ok (.getfield 13, 3) := by decide +kernel
theorem dX10_span_89 : decode cX10_span 89 = .ok (.iconst 2, 1) := by decide +kernel
theorem dX10_span_90 : decode cX10_span 90 = .ok (.iaload, 1) := by decide +kernel
theorem dX10_span_91 : decode cX10_span 91 = .ok (.if_icmp .ge 31, 3) := by decide +kernel
theorem dX10_span_94 : decode cX10_span 94 = .ok (.lload 5, 2) := by decide +kernel
theorem dX10_span_96 : decode cX10_span 96 = .ok (.iload 7, 2) := by decide +kernel
theorem dX10_span_98 : decode cX10_span 98 = .ok (.iload_n 1, 1) := by decide +kernel
theorem dX10_span_99 : decode cX10_span 99 = .ok (.if_icmp .ne 7, 3) := by decide +kernel
theorem dX10_span_102 : decode cX10_span 102 = .ok (.lconst 0, 1) := by decide +kernel
theorem dX10_span_103 : decode cX10_span 103 = .ok (.goto 10, 3) := by decide +kernel
theorem dX10_span_106 : decode cX10_span 106 = .ok (.aload_n 0, 1) := by decide +kernel
theorem dX10_span_107 : decode cX10_span 107 = .ok (.iload_n 1, 1) := by decide +kernel
theorem dX10_span_108 : decode cX10_span 108 = .ok (.iload 7, 2) := by decide +kernel
theorem dX10_span_110 : decode cX10_span 110 = .ok (.invokevirtual 263, 3) := by decide +kernel
theorem dX10_span_113 : decode cX10_span 113 = .ok (.ladd, 1) := by decide +kernel
theorem dX10_span_114 : decode cX10_span 114 = .ok (.lstore 5, 2) := by decide +kernel
theorem dX10_span_116 : decode cX10_span 116 = .ok (.iinc 7 1, 3) := by decide +kernel
theorem dX10_span_119 : decode cX10_span 119 = .ok (.goto (-36), 3) := by decide +kernel
theorem dX10_span_122 : decode cX10_span 122 = .ok (.ldc2_w 271, 3) := by decide +kernel
theorem dX10_span_125 : decode cX10_span 125 = .ok (.lload 5, 2) := by decide +kernel
theorem dX10_span_127 : decode cX10_span 127 = .ok (.lmul, 1) := by decide +kernel
theorem dX10_span_128 : decode cX10_span 128 = .ok (.lload_n 3, 1) := by decide +kernel
theorem dX10_span_129 : decode cX10_span 129 = .ok (.ldiv, 1) := by decide +kernel
theorem dX10_span_130 : decode cX10_span 130 = .ok (.lreturn, 1) := by decide +kernel
theorem dX10_paired_0 : decode cX10_paired 0 = .ok (.aload_n 0, 1) := by decide +kernel
theorem dX10_paired_1 : decode cX10_paired 1 = .ok (.iconst 0, 1) := by decide +kernel
theorem dX10_paired_2 : decode cX10_paired 2 = .ok (.putfield 1, 3) := by decide +kernel
theorem dX10_paired_5 : decode cX10_paired 5 = .ok (.aload_n 0, 1) := by decide +kernel
theorem dX10_paired_6 : decode cX10_paired 6 = .ok (.iload_n 1, 1) := by decide +kernel
theorem dX10_paired_7 : decode cX10_paired 7 = .ok (.invokevirtual 229, 3) := by decide +kernel
theorem dX10_paired_10 : decode cX10_paired 10 = .ok (.ifCond .eq 16, 3) := by decide +kernel
theorem dX10_paired_13 : decode cX10_paired 13 = .ok (.aload_n 0, 1) := by decide +kernel
theorem dX10_paired_14 : decode cX10_paired 14 = .ok (.iload_n 2, 1) := by decide +kernel
theorem dX10_paired_15 : decode cX10_paired 15 = .ok (.invokevirtual 229, 3) := by decide +kernel
theorem dX10_paired_18 : decode cX10_paired 18 = .ok (.ifCond .eq 8, 3) := by decide +kernel
theorem dX10_paired_21 : decode cX10_paired 21 = .ok (.iload_n 1, 1) := by decide +kernel
theorem dX10_paired_22 : decode cX10_paired 22 = .ok (.iload_n 2, 1) := by decide +kernel
theorem dX10_paired_23 : decode cX10_paired 23 = .ok (.if_icmp .ne 6, 3) := by decide +kernel
theorem dX10_paired_26 : decode cX10_paired 26 = .ok (.bipush (-2), 2) := by decide +kernel
theorem dX10_paired_28 : decode cX10_paired 28 = .ok (.ireturn, 1) := by decide +kernel
theorem dX10_paired_29 : decode cX10_paired 29 = .ok (.aload_n 0, 1) := by decide +kernel
theorem dX10_paired_30 : decode cX10_paired 30 = .ok (.invokevirtual 169, 3) := by decide +kernel
theorem dX10_paired_33 : decode cX10_paired 33 = .ok (.aload_n 0, 1) := by decide +kernel
theorem dX10_paired_34 : decode cX10_paired 34 = .ok (.getfield 30, 3) := by decide +kernel
theorem dX10_paired_37 : decode cX10_paired 37 = .ok (.iload_n 1, 1) := by decide +kernel
theorem dX10_paired_38 : decode cX10_paired 38 = .ok (.iaload, 1) := by decide +kernel
theorem dX10_paired_39 : decode cX10_paired 39 = .ok (.iload_n 2, 1) := by decide +kernel
theorem dX10_paired_40 : decode cX10_paired 40 = .ok (.invokestatic 178, 3) := by decide +kernel
theorem dX10_paired_43 : decode cX10_paired 43 = .ok (.ifCond .eq 18, 3) := by decide +kernel
theorem dX10_paired_46 : decode cX10_paired 46 = .ok (.aload_n 0, 1) := by decide +kernel
theorem dX10_paired_47 : decode cX10_paired 47 = .ok (.getfield 30, 3) := by decide +kernel
theorem dX10_paired_50 : decode cX10_paired 50 = .ok (.iload_n 1, 1) := by decide +kernel
theorem dX10_paired_51 : decode cX10_paired 51 = .ok (.iaload, 1) := by decide +kernel
theorem dX10_paired_52 : decode cX10_paired 52 = .ok (.aload_n 0, 1) := by decide +kernel
theorem dX10_paired_53 : decode cX10_paired 53 = .ok (.iload_n 2, 1) := by decide +kernel
theorem dX10_paired_54 : decode cX10_paired 54 = .ok (.invokevirtual 256, 3) := by decide +kernel
theorem dX10_paired_57 : decode cX10_paired 57 = .ok (.iand, 1) := by decide +kernel
theorem dX10_paired_58 : decode cX10_paired 58 = .ok (.goto 32, 3) := by decide +kernel
theorem dX10_paired_61 : decode cX10_paired 61 = .ok (.aload_n 0, 1) := by decide +kernel
theorem dX10_paired_62 : decode cX10_paired 62 = .ok (.getfield 30, 3) := by decide +kernel
theorem dX10_paired_65 : decode cX10_paired 65 = .ok (.iload_n 2, 1) := by decide +kernel
theorem dX10_paired_66 : decode cX10_paired 66 = .ok (.iaload, 1) := by decide +kernel
theorem dX10_paired_67 : decode cX10_paired 67 = .ok (.iload_n 1, 1) := by decide +kernel
theorem dX10_paired_68 : decode cX10_paired 68 = .ok (.invokestatic 178, 3) := by decide +kernel
theorem dX10_paired_71 : decode cX10_paired 71 = .ok (.ifCond .eq 18, 3) := by decide +kernel
theorem dX10_paired_74 : decode cX10_paired 74 = .ok (.aload_n 0, 1) := by decide +kernel
theorem dX10_paired_75 : decode cX10_paired 75 = .ok (.getfield 30, 3) := by decide +kernel
theorem dX10_paired_78 : decode cX10_paired 78 = .ok (.iload_n 2, 1) := by decide +kernel
theorem dX10_paired_79 : decode cX10_paired 79 = .ok (.iaload, 1) := by decide +kernel
theorem dX10_paired_80 : decode cX10_paired 80 = .ok (.aload_n 0, 1) := by decide +kernel
theorem dX10_paired_81 : decode cX10_paired 81 = .ok (.iload_n 1, 1) := by decide +kernel
theorem dX10_paired_82 : decode cX10_paired 82 = .ok (.invokevirtual 256, 3) := by decide +kernel
theorem dX10_paired_85 : decode cX10_paired 85 = .ok (.iand, 1) := by decide +kernel
theorem dX10_paired_86 : decode cX10_paired 86 = .ok (.goto 4, 3) := by decide +kernel
theorem dX10_paired_89 : decode cX10_paired 89 = .ok (.iconst 0, 1) := by decide +kernel
theorem dX10_paired_90 : decode cX10_paired 90 = .ok (.istore_n 3, 1) := by decide +kernel
theorem dX10_paired_91 : decode cX10_paired 91 = .ok (.iload_n 3, 1) := by decide +kernel
theorem dX10_paired_92 : decode cX10_paired 92 = .ok (.ifCond .ne 7, 3) := by decide +kernel
theorem dX10_paired_95 : decode cX10_paired 95 = .ok (.iconst 1, 1) := by decide +kernel
theorem dX10_paired_96 : decode cX10_paired 96 = .ok (.goto 4, 3) := by decide +kernel
theorem dX10_paired_99 : decode cX10_paired 99 = .ok (.iconst 0, 1) := by decide +kernel
theorem dX10_paired_100 : decode cX10_paired 100 = .ok (.ireturn, 1) := by decide +kernel
theorem dX10_topOf_0 : decode cX10_topOf 0 = .ok (.iconst 0, 1) := by decide +kernel
theorem dX10_topOf_1 : decode cX10_topOf 1 = .ok (.istore 4, 2) := by decide +kernel
theorem dX10_topOf_3 : decode cX10_topOf 3 = .ok (.iconst 0, 1) := by decide +kernel
theorem dX10_topOf_4 : decode cX10_topOf 4 = .ok (.istore 5, 2) := by decide +kernel
theorem dX10_topOf_6 : decode cX10_topOf 6 = .ok (.iload 5, 2) := by decide +kernel
theorem dX10_topOf_8 : decode cX10_topOf 8 = .ok (.aload_n 0, 1) := by decide +kernel
theorem dX10_topOf_9 : decode cX10_topOf 9 = .ok (.getfield 13, 3) := by decide +kernel
theorem dX10_topOf_12 : decode cX10_topOf 12 = .ok (.iconst 2, 1) := by decide +kernel
theorem dX10_topOf_13 : decode cX10_topOf 13 = .ok (.iaload, 1) := by decide +kernel
theorem dX10_topOf_14 : decode cX10_topOf 14 = .ok (.if_icmp .ge 39, 3) := by decide +kernel
theorem dX10_topOf_17 : decode cX10_topOf 17 = .ok (.iload 4, 2) := by decide +kernel
theorem dX10_topOf_19 : decode cX10_topOf 19 = .ok (.iload 5, 2) := by decide +kernel
theorem dX10_topOf_21 : decode cX10_topOf 21 = .ok (.iload_n 3, 1) := by decide +kernel
theorem dX10_topOf_22 : decode cX10_topOf 22 = .ok (.if_icmp .eq 21, 3) := by decide +kernel
theorem dX10_topOf_25 : decode cX10_topOf 25 = .ok (.aload_n 0, 1) := by decide +kernel
theorem dX10_topOf_26 : decode cX10_topOf 26 = .ok (.iload 5, 2) := by decide +kernel
theorem dX10_topOf_28 : decode cX10_topOf 28 = .ok (.iload_n 1, 1) := by decide +kernel
theorem dX10_topOf_29 : decode cX10_topOf 29 = .ok (.iload_n 2, 1) := by decide +kernel
theorem dX10_topOf_30 : decode cX10_topOf 30 = .ok (.invokevirtual 205, 3) := by decide +kernel
theorem dX10_topOf_33 : decode cX10_topOf 33 = .ok (.ifCond .eq 10, 3) := by decide +kernel
theorem dX10_topOf_36 : decode cX10_topOf 36 = .ok (.iconst 1, 1) := by decide +kernel
theorem dX10_topOf_37 : decode cX10_topOf 37 = .ok (.iload 5, 2) := by decide +kernel
theorem dX10_topOf_39 : decode cX10_topOf 39 = .ok (.ishl, 1) := by decide +kernel
theorem dX10_topOf_40 : decode cX10_topOf 40 = .ok (.goto 4, 3) := by decide +kernel
theorem dX10_topOf_43 : decode cX10_topOf 43 = .ok (.iconst 0, 1) := by decide +kernel
theorem dX10_topOf_44 : decode cX10_topOf 44 = .ok (.ior, 1) := by decide +kernel
theorem dX10_topOf_45 : decode cX10_topOf 45 = .ok (.istore 4, 2) := by decide +kernel
theorem dX10_topOf_47 : decode cX10_topOf 47 = .ok (.iinc 5 1, 3) := by decide +kernel
theorem dX10_topOf_50 : decode cX10_topOf 50 = .ok (.goto (-44), 3) := by decide +kernel
theorem dX10_topOf_53 : decode cX10_topOf 53 = .ok (.aload_n 0, 1) := by decide +kernel
theorem dX10_topOf_54 : decode cX10_topOf 54 = .ok (.iload 4, 2) := by decide +kernel
theorem dX10_topOf_56 : decode cX10_topOf 56 = .ok (.putfield 273, 3) := by decide +kernel
theorem dX10_topOf_59 : decode cX10_topOf 59 = .ok (.iconst 0, 1) := by decide +kernel
theorem dX10_topOf_60 : decode cX10_topOf 60 = .ok (.istore 5, 2) := by decide +kernel
theorem dX10_topOf_62 : decode cX10_topOf 62 = .ok (.iload 5, 2) := by decide +kernel
theorem dX10_topOf_64 : decode cX10_topOf 64 = .ok (.aload_n 0, 1) := by decide +kernel
theorem dX10_topOf_65 : decode cX10_topOf 65 = .ok (.getfield 13, 3) := by decide +kernel
theorem dX10_topOf_68 : decode cX10_topOf 68 = .ok (.iconst 2, 1) := by decide +kernel
theorem dX10_topOf_69 : decode cX10_topOf 69 = .ok (.iaload, 1) := by decide +kernel
theorem dX10_topOf_70 : decode cX10_topOf 70 = .ok (.if_icmp .ge 41, 3) := by decide +kernel
theorem dX10_topOf_73 : decode cX10_topOf 73 = .ok (.iload 4, 2) := by decide +kernel
theorem dX10_topOf_75 : decode cX10_topOf 75 = .ok (.iload 5, 2) := by decide +kernel
theorem dX10_topOf_77 : decode cX10_topOf 77 = .ok (.invokestatic 178, 3) := by decide +kernel
theorem dX10_topOf_80 : decode cX10_topOf 80 = .ok (.ifCond .eq 25, 3) := by decide +kernel
theorem dX10_topOf_83 : decode cX10_topOf 83 = .ok (.iload 4, 2) := by decide +kernel
theorem dX10_topOf_85 : decode cX10_topOf 85 = .ok (.aload_n 0, 1) := by decide +kernel
theorem dX10_topOf_86 : decode cX10_topOf 86 = .ok (.getfield 30, 3) := by decide +kernel
theorem dX10_topOf_89 : decode cX10_topOf 89 = .ok (.iload 5, 2) := by decide +kernel
theorem dX10_topOf_91 : decode cX10_topOf 91 = .ok (.iaload, 1) := by decide +kernel
theorem dX10_topOf_92 : decode cX10_topOf 92 = .ok (.iconst (-1), 1) := by decide +kernel
theorem dX10_topOf_93 : decode cX10_topOf 93 = .ok (.ixor, 1) := by decide +kernel
theorem dX10_topOf_94 : decode cX10_topOf 94 = .ok (.iand, 1) := by decide +kernel
theorem dX10_topOf_95 : decode cX10_topOf 95 = .ok (.iconst 1, 1) := by decide +kernel
theorem dX10_topOf_96 : decode cX10_topOf 96 = .ok (.iload 5, 2) := by decide +kernel
theorem dX10_topOf_98 : decode cX10_topOf 98 = .ok (.ishl, 1) := by decide +kernel
theorem dX10_topOf_99 : decode cX10_topOf 99 = .ok (.if_icmp .ne 6, 3) := by decide +kernel
theorem dX10_topOf_102 : decode cX10_topOf 102 = .ok (.iload 5, 2) := by decide +kernel
theorem dX10_topOf_104 : decode cX10_topOf 104 = .ok (.ireturn, 1) := by decide +kernel
theorem dX10_topOf_105 : decode cX10_topOf 105 = .ok (.iinc 5 1, 3) := by decide +kernel
theorem dX10_topOf_108 : decode cX10_topOf 108 = .ok (.goto (-46), 3) := by decide +kernel
theorem dX10_topOf_111 : decode cX10_topOf 111 = .ok (.iconst (-1), 1) := by decide +kernel
theorem dX10_topOf_112 : decode cX10_topOf 112 = .ok (.ireturn, 1) := by decide +kernel
theorem dX10_seenOf_0 : decode cX10_seenOf 0 = .ok (.aload_n 0, 1) := by decide +kernel
theorem dX10_seenOf_1 : decode cX10_seenOf 1 = .ok (.iload_n 1, 1) := by decide +kernel
theorem dX10_seenOf_2 : decode cX10_seenOf 2 = .ok (.iload_n 2, 1) := by decide +kernel
theorem dX10_seenOf_3 : decode cX10_seenOf 3 = .ok (.iload_n 3, 1) := by decide +kernel
theorem dX10_seenOf_4 : decode cX10_seenOf 4 = .ok (.invokevirtual 276, 3) := by decide +kernel
theorem dX10_seenOf_7 : decode cX10_seenOf 7 = .ok (.istore 4, 2) := by decide +kernel
theorem dX10_seenOf_9 : decode cX10_seenOf 9 = .ok (.aload_n 0, 1) := by decide +kernel
theorem dX10_seenOf_10 : decode cX10_seenOf 10 = .ok (.getfield 273, 3) := by decide +kernel
theorem dX10_seenOf_13 : decode cX10_seenOf 13 = .ok (.ifCond .ne 7, 3) := by decide +kernel
theorem dX10_seenOf_16 : decode cX10_seenOf 16 = .ok (.iconst 0, 1) := by decide +kernel
theorem dX10_seenOf_17 : decode cX10_seenOf 17 = .ok (.goto 23, 3) := by decide +kernel
theorem dX10_seenOf_20 : decode cX10_seenOf 20 = .ok (.iload 4, 2) := by decide +kernel
theorem dX10_seenOf_22 : decode cX10_seenOf 22 = .ok (.iconst (-1), 1) := by decide +kernel
theorem dX10_seenOf_23 : decode cX10_seenOf 23 = .ok (.if_icmp .eq 16, 3) := by decide +kernel
theorem dX10_seenOf_26 : decode cX10_seenOf 26 = .ok (.aload_n 0, 1) := by decide +kernel
theorem dX10_seenOf_27 : decode cX10_seenOf 27 = .ok (.iload 4, 2) := by decide +kernel
theorem dX10_seenOf_29 : decode cX10_seenOf 29 = .ok (.invokevirtual 250, 3) := by decide +kernel
theorem dX10_seenOf_32 : decode cX10_seenOf 32 = .ok (.ifCond .ne 7, 3) := by decide +kernel
theorem dX10_seenOf_35 : decode cX10_seenOf 35 = .ok (.iconst 1, 1) := by decide +kernel
theorem dX10_seenOf_36 : decode cX10_seenOf 36 = .ok (.goto 4, 3) := by decide +kernel
theorem dX10_seenOf_39 : decode cX10_seenOf 39 = .ok (.iconst 2, 1) := by decide +kernel
theorem dX10_seenOf_40 : decode cX10_seenOf 40 = .ok (.ireturn, 1) := by decide +kernel
theorem dX10_top_0 : decode cX10_top 0 = .ok (.aload_n 0, 1) := by decide +kernel
theorem dX10_top_1 : decode cX10_top 1 = .ok (.iconst 0, 1) := by decide +kernel
theorem dX10_top_2 : decode cX10_top 2 = .ok (.putfield 1, 3) := by decide +kernel
theorem dX10_top_5 : decode cX10_top 5 = .ok (.aload_n 0, 1) := by decide +kernel
theorem dX10_top_6 : decode cX10_top 6 = .ok (.iload_n 1, 1) := by decide +kernel
theorem dX10_top_7 : decode cX10_top 7 = .ok (.iload_n 2, 1) := by decide +kernel
theorem dX10_top_8 : decode cX10_top 8 = .ok (.invokevirtual 165, 3) := by decide +kernel
theorem dX10_top_11 : decode cX10_top 11 = .ok (.ifCond .ne 6, 3) := by decide +kernel
theorem dX10_top_14 : decode cX10_top 14 = .ok (.bipush (-2), 2) := by decide +kernel
theorem dX10_top_16 : decode cX10_top 16 = .ok (.ireturn, 1) := by decide +kernel
theorem dX10_top_17 : decode cX10_top 17 = .ok (.aload_n 0, 1) := by decide +kernel
theorem dX10_top_18 : decode cX10_top 18 = .ok (.invokevirtual 221, 3) := by decide +kernel
theorem dX10_top_21 : decode cX10_top 21 = .ok (.aload_n 0, 1) := by decide +kernel
theorem dX10_top_22 : decode cX10_top 22 = .ok (.iload_n 1, 1) := by decide +kernel
theorem dX10_top_23 : decode cX10_top 23 = .ok (.iload_n 2, 1) := by decide +kernel
theorem dX10_top_24 : decode cX10_top 24 = .ok (.iconst (-1), 1) := by decide +kernel
theorem dX10_top_25 : decode cX10_top 25 = .ok (.invokevirtual 276, 3) := by decide +kernel
theorem dX10_top_28 : decode cX10_top 28 = .ok (.ireturn, 1) := by decide +kernel
theorem dX10_seen_0 : decode cX10_seen 0 = .ok (.aload_n 0, 1) := by decide +kernel
theorem dX10_seen_1 : decode cX10_seen 1 = .ok (.iconst 0, 1) := by decide +kernel
theorem dX10_seen_2 : decode cX10_seen 2 = .ok (.putfield 1, 3) := by decide +kernel
theorem dX10_seen_5 : decode cX10_seen 5 = .ok (.aload_n 0, 1) := by decide +kernel
theorem dX10_seen_6 : decode cX10_seen 6 = .ok (.iload_n 1, 1) := by decide +kernel
theorem dX10_seen_7 : decode cX10_seen 7 = .ok (.iload_n 2, 1) := by decide +kernel
theorem dX10_seen_8 : decode cX10_seen 8 = .ok (.invokevirtual 165, 3) := by decide +kernel
theorem dX10_seen_11 : decode cX10_seen 11 = .ok (.ifCond .ne 6, 3) := by decide +kernel
theorem dX10_seen_14 : decode cX10_seen 14 = .ok (.bipush (-2), 2) := by decide +kernel
theorem dX10_seen_16 : decode cX10_seen 16 = .ok (.ireturn, 1) := by decide +kernel
theorem dX10_seen_17 : decode cX10_seen 17 = .ok (.aload_n 0, 1) := by decide +kernel
theorem dX10_seen_18 : decode cX10_seen 18 = .ok (.invokevirtual 221, 3) := by decide +kernel
theorem dX10_seen_21 : decode cX10_seen 21 = .ok (.aload_n 0, 1) := by decide +kernel
theorem dX10_seen_22 : decode cX10_seen 22 = .ok (.iload_n 1, 1) := by decide +kernel
theorem dX10_seen_23 : decode cX10_seen 23 = .ok (.iload_n 2, 1) := by decide +kernel
theorem dX10_seen_24 : decode cX10_seen 24 = .ok (.iconst (-1), 1) := by decide +kernel
theorem dX10_seen_25 : decode cX10_seen 25 = .ok (.invokevirtual 280, 3) := by decide +kernel
theorem dX10_seen_28 : decode cX10_seen 28 = .ok (.ireturn, 1) := by decide +kernel
theorem dX10_isPlace_0 : decode cX10_isPlace 0 = .ok (.iload_n 1, 1) := by decide +kernel
theorem dX10_isPlace_1 : decode cX10_isPlace 1 = .ok (.i2l, 1) := by decide +kernel
theorem dX10_isPlace_2 : decode cX10_isPlace 2 = .ok (.lconst 0, 1) := by decide +kernel
theorem dX10_isPlace_3 : decode cX10_isPlace 3 = .ok (.aload_n 0, 1) := by decide +kernel
theorem dX10_isPlace_4 : decode cX10_isPlace 4 = .ok (.getfield 13, 3) := by decide +kernel
theorem dX10_isPlace_7 : decode cX10_isPlace 7 = .ok (.iconst 4, 1) := by decide +kernel
theorem dX10_isPlace_8 : decode cX10_isPlace 8 = .ok (.iaload, 1) := by decide +kernel
theorem dX10_isPlace_9 : decode cX10_isPlace 9 = .ok (.iconst 1, 1) := by decide +kernel
theorem dX10_isPlace_10 : decode cX10_isPlace 10 = .ok (.isub, 1) := by decide +kernel
theorem dX10_isPlace_11 : decode cX10_isPlace 11 = .ok (.i2l, 1) := by decide +kernel
theorem dX10_isPlace_12 : decode cX10_isPlace 12 = .ok (.invokestatic 83, 3) := by decide +kernel
theorem dX10_isPlace_15 : decode cX10_isPlace 15 = .ok (.ireturn, 1) := by decide +kernel
theorem dX10_showsOf_0 : decode cX10_showsOf 0 = .ok (.iconst 0, 1) := by decide +kernel
theorem dX10_showsOf_1 : decode cX10_showsOf 1 = .ok (.istore 4, 2) := by decide +kernel
theorem dX10_showsOf_3 : decode cX10_showsOf 3 = .ok (.iconst 0, 1) := by decide +kernel
theorem dX10_showsOf_4 : decode cX10_showsOf 4 = .ok (.istore 5, 2) := by decide +kernel
theorem dX10_showsOf_6 : decode cX10_showsOf 6 = .ok (.iload 5, 2) := by decide +kernel
theorem dX10_showsOf_8 : decode cX10_showsOf 8 = .ok (.bipush 9, 2) := by decide +kernel
theorem dX10_showsOf_10 : decode cX10_showsOf 10 = .ok (.if_icmp .ge 65, 3) := by decide +kernel
theorem dX10_showsOf_13 : decode cX10_showsOf 13 = .ok (.iload 4, 2) := by decide +kernel
theorem dX10_showsOf_15 : decode cX10_showsOf 15 = .ok (.aload_n 0, 1) := by decide +kernel
theorem dX10_showsOf_16 : decode cX10_showsOf 16 = .ok (.aload_n 0, 1) := by decide +kernel
theorem dX10_showsOf_17 : decode cX10_showsOf 17 = .ok (.getfield 13, 3) := by decide +kernel
theorem dX10_showsOf_20 : decode cX10_showsOf 20 = .ok (.bipush 75, 2) := by decide +kernel
theorem dX10_showsOf_22 : decode cX10_showsOf 22 = .ok (.iconst 2, 1) := by decide +kernel
theorem dX10_showsOf_23 : decode cX10_showsOf 23 = .ok (.iload_n 1, 1) := by decide +kernel
theorem dX10_showsOf_24 : decode cX10_showsOf 24 = .ok (.imul, 1) := by decide +kernel
theorem dX10_showsOf_25 : decode cX10_showsOf 25 = .ok (.iadd, 1) := by decide +kernel
theorem dX10_showsOf_26 : decode cX10_showsOf 26 = .ok (.iaload, 1) := by decide +kernel
theorem dX10_showsOf_27 : decode cX10_showsOf 27 = .ok (.iload 5, 2) := by decide +kernel
theorem dX10_showsOf_29 : decode cX10_showsOf 29 = .ok (.iconst 3, 1) := by decide +kernel
theorem dX10_showsOf_30 : decode cX10_showsOf 30 = .ok (.irem, 1) := by decide +kernel
theorem dX10_showsOf_31 : decode cX10_showsOf 31 = .ok (.iadd, 1) := by decide +kernel
theorem dX10_showsOf_32 : decode cX10_showsOf 32 = .ok (.aload_n 0, 1) := by decide +kernel
theorem dX10_showsOf_33 : decode cX10_showsOf 33 = .ok (.getfield 13, 3) := by decide +kernel
theorem dX10_showsOf_36 : decode cX10_showsOf 36 = .ok (.bipush 75, 2) := by decide +kernel
theorem dX10_showsOf_38 : decode cX10_showsOf 38 = .ok (.iconst 2, 1) := by decide +kernel
theorem dX10_showsOf_39 : decode cX10_showsOf 39 = .ok (.iload_n 1, 1) := by decide +kernel
theorem dX10_showsOf_40 : decode cX10_showsOf 40 = .ok (.imul, 1) := by decide +kernel
theorem dX10_showsOf_41 : decode cX10_showsOf 41 = .ok (.iadd, 1) := by decide +kernel
theorem dX10_showsOf_42 : decode cX10_showsOf 42 = .ok (.iconst 1, 1) := by decide +kernel
theorem dX10_showsOf_43 : decode cX10_showsOf 43 = .ok (.iadd, 1) := by decide +kernel
theorem dX10_showsOf_44 : decode cX10_showsOf 44 = .ok (.iaload, 1) := by decide +kernel
theorem dX10_showsOf_45 : decode cX10_showsOf 45 = .ok (.iload 5, 2) := by decide +kernel
theorem dX10_showsOf_47 : decode cX10_showsOf 47 = .ok (.iconst 3, 1) := by decide +kernel
theorem dX10_showsOf_48 : decode cX10_showsOf 48 = .ok (.idiv, 1) := by decide +kernel
theorem dX10_showsOf_49 : decode cX10_showsOf 49 = .ok (.iadd, 1) := by decide +kernel
theorem dX10_showsOf_50 : decode cX10_showsOf 50 = .ok (.iload_n 3, 1) := by decide +kernel
theorem dX10_showsOf_51 : decode cX10_showsOf 51 = .ok (.invokevirtual 280, 3) := by decide +kernel
theorem dX10_showsOf_54 : decode cX10_showsOf 54 = .ok (.iload_n 2, 1) := by decide +kernel
theorem dX10_showsOf_55 : decode cX10_showsOf 55 = .ok (.if_icmp .ne 10, 3) := by decide +kernel
theorem dX10_showsOf_58 : decode cX10_showsOf 58 = .ok (.iconst 1, 1) := by decide +kernel
theorem dX10_showsOf_59 : decode cX10_showsOf 59 = .ok (.iload 5, 2) := by decide +kernel
theorem dX10_showsOf_61 : decode cX10_showsOf 61 = .ok (.ishl, 1) := by decide +kernel
theorem dX10_showsOf_62 : decode cX10_showsOf 62 = .ok (.goto 4, 3) := by decide +kernel
theorem dX10_showsOf_65 : decode cX10_showsOf 65 = .ok (.iconst 0, 1) := by decide +kernel
theorem dX10_showsOf_66 : decode cX10_showsOf 66 = .ok (.ior, 1) := by decide +kernel
theorem dX10_showsOf_67 : decode cX10_showsOf 67 = .ok (.istore 4, 2) := by decide +kernel
theorem dX10_showsOf_69 : decode cX10_showsOf 69 = .ok (.iinc 5 1, 3) := by decide +kernel
theorem dX10_showsOf_72 : decode cX10_showsOf 72 = .ok (.goto (-66), 3) := by decide +kernel
theorem dX10_showsOf_75 : decode cX10_showsOf 75 = .ok (.iload 4, 2) := by decide +kernel
theorem dX10_showsOf_77 : decode cX10_showsOf 77 = .ok (.ireturn, 1) := by decide +kernel
theorem dX10_shows_0 : decode cX10_shows 0 = .ok (.aload_n 0, 1) := by decide +kernel
theorem dX10_shows_1 : decode cX10_shows 1 = .ok (.iconst 0, 1) := by decide +kernel
theorem dX10_shows_2 : decode cX10_shows 2 = .ok (.putfield 1, 3) := by decide +kernel
theorem dX10_shows_5 : decode cX10_shows 5 = .ok (.aload_n 0, 1) := by decide +kernel
theorem dX10_shows_6 : decode cX10_shows 6 = .ok (.iload_n 1, 1) := by decide +kernel
theorem dX10_shows_7 : decode cX10_shows 7 = .ok (.invokevirtual 283, 3) := by decide +kernel
theorem dX10_shows_10 : decode cX10_shows 10 = .ok (.ifCond .eq 15, 3) := by decide +kernel
theorem dX10_shows_13 : decode cX10_shows 13 = .ok (.iload_n 2, 1) := by decide +kernel
theorem dX10_shows_14 : decode cX10_shows 14 = .ok (.i2l, 1) := by decide +kernel
theorem dX10_shows_15 : decode cX10_shows 15 = .ok (.lconst 0, 1) := by decide +kernel
theorem dX10_shows_16 : decode cX10_shows 16 = .ok (.ldc2_w 269, 3) := by decide +kernel
theorem dX10_shows_19 : decode cX10_shows 19 = .ok (.invokestatic 83, 3) := by decide +kernel
theorem dX10_shows_22 : decode cX10_shows 22 = .ok (.ifCond .ne 6, 3) := by decide +kernel
theorem dX10_shows_25 : decode cX10_shows 25 = .ok (.bipush (-2), 2) := by decide +kernel
theorem dX10_shows_27 : decode cX10_shows 27 = .ok (.ireturn, 1) := by decide +kernel
theorem dX10_shows_28 : decode cX10_shows 28 = .ok (.aload_n 0, 1) := by decide +kernel
theorem dX10_shows_29 : decode cX10_shows 29 = .ok (.invokevirtual 221, 3) := by decide +kernel
theorem dX10_shows_32 : decode cX10_shows 32 = .ok (.aload_n 0, 1) := by decide +kernel
theorem dX10_shows_33 : decode cX10_shows 33 = .ok (.iload_n 1, 1) := by decide +kernel
theorem dX10_shows_34 : decode cX10_shows 34 = .ok (.iload_n 2, 1) := by decide +kernel
theorem dX10_shows_35 : decode cX10_shows 35 = .ok (.iconst (-1), 1) := by decide +kernel
theorem dX10_shows_36 : decode cX10_shows 36 = .ok (.invokevirtual 286, 3) := by decide +kernel
theorem dX10_shows_39 : decode cX10_shows 39 = .ok (.ireturn, 1) := by decide +kernel
theorem dX10_fitsOf_0 : decode cX10_fitsOf 0 = .ok (.aload_n 0, 1) := by decide +kernel
theorem dX10_fitsOf_1 : decode cX10_fitsOf 1 = .ok (.iload_n 1, 1) := by decide +kernel
theorem dX10_fitsOf_2 : decode cX10_fitsOf 2 = .ok (.iconst 1, 1) := by decide +kernel
theorem dX10_fitsOf_3 : decode cX10_fitsOf 3 = .ok (.iload_n 2, 1) := by decide +kernel
theorem dX10_fitsOf_4 : decode cX10_fitsOf 4 = .ok (.invokevirtual 286, 3) := by decide +kernel
theorem dX10_fitsOf_7 : decode cX10_fitsOf 7 = .ok (.istore_n 3, 1) := by decide +kernel
theorem dX10_fitsOf_8 : decode cX10_fitsOf 8 = .ok (.aload_n 0, 1) := by decide +kernel
theorem dX10_fitsOf_9 : decode cX10_fitsOf 9 = .ok (.iload_n 1, 1) := by decide +kernel
theorem dX10_fitsOf_10 : decode cX10_fitsOf 10 = .ok (.iconst 0, 1) := by decide +kernel
theorem dX10_fitsOf_11 : decode cX10_fitsOf 11 = .ok (.iload_n 2, 1) := by decide +kernel
theorem dX10_fitsOf_12 : decode cX10_fitsOf 12 = .ok (.invokevirtual 286, 3) := by decide +kernel
theorem dX10_fitsOf_15 : decode cX10_fitsOf 15 = .ok (.istore 4, 2) := by decide +kernel
theorem dX10_fitsOf_17 : decode cX10_fitsOf 17 = .ok (.iconst 0, 1) := by decide +kernel
theorem dX10_fitsOf_18 : decode cX10_fitsOf 18 = .ok (.istore 5, 2) := by decide +kernel
theorem dX10_fitsOf_20 : decode cX10_fitsOf 20 = .ok (.iconst 0, 1) := by decide +kernel
theorem dX10_fitsOf_21 : decode cX10_fitsOf 21 = .ok (.istore 6, 2) := by decide +kernel
theorem dX10_fitsOf_23 : decode cX10_fitsOf 23 = .ok (.iload 6, 2) := by decide +kernel
theorem dX10_fitsOf_25 : decode cX10_fitsOf 25 = .ok (.aload_n 0, 1) := by decide +kernel
theorem dX10_fitsOf_26 : decode cX10_fitsOf 26 = .ok (.getfield 13, 3) := by decide +kernel
theorem dX10_fitsOf_29 : decode cX10_fitsOf 29 = .ok (.iconst 3, 1) := by decide +kernel
theorem dX10_fitsOf_30 : decode cX10_fitsOf 30 = .ok (.iaload, 1) := by decide +kernel
theorem dX10_fitsOf_31 : decode cX10_fitsOf 31 = .ok (.if_icmp .ge 55, 3) := by decide +kernel
theorem dX10_fitsOf_34 : decode cX10_fitsOf 34 = .ok (.aload_n 0, 1) := by decide +kernel
theorem dX10_fitsOf_35 : decode cX10_fitsOf 35 = .ok (.getfield 13, 3) := by decide +kernel
theorem dX10_fitsOf_38 : decode cX10_fitsOf 38 = .ok (.bipush 55, 2) := by decide +kernel
theorem dX10_fitsOf_40 : decode cX10_fitsOf 40 = .ok (.iconst 2, 1) := by decide +kernel
theorem dX10_fitsOf_41 : decode cX10_fitsOf 41 = .ok (.iload 6, 2) := by decide +kernel
theorem dX10_fitsOf_43 : decode cX10_fitsOf 43 = .ok (.imul, 1) := by decide +kernel
theorem dX10_fitsOf_44 : decode cX10_fitsOf 44 = .ok (.iadd, 1) := by decide +kernel
theorem dX10_fitsOf_45 : decode cX10_fitsOf 45 = .ok (.iconst 1, 1) := by decide +kernel
theorem dX10_fitsOf_46 : decode cX10_fitsOf 46 = .ok (.iadd, 1) := by decide +kernel
theorem dX10_fitsOf_47 : decode cX10_fitsOf 47 = .ok (.iaload, 1) := by decide +kernel
theorem dX10_fitsOf_48 : decode cX10_fitsOf 48 = .ok (.istore 7, 2) := by decide +kernel
theorem dX10_fitsOf_50 : decode cX10_fitsOf 50 = .ok (.iload 5, 2) := by decide +kernel
theorem dX10_fitsOf_52 : decode cX10_fitsOf 52 = .ok (.iload_n 3, 1) := by decide +kernel
theorem dX10_fitsOf_53 : decode cX10_fitsOf 53 = .ok (.iload 7, 2) := by decide +kernel
theorem dX10_fitsOf_55 : decode cX10_fitsOf 55 = .ok (.iconst (-1), 1) := by decide +kernel
theorem dX10_fitsOf_56 : decode cX10_fitsOf 56 = .ok (.ixor, 1) := by decide +kernel
theorem dX10_fitsOf_57 : decode cX10_fitsOf 57 = .ok (.iand, 1) := by decide +kernel
theorem dX10_fitsOf_58 : decode cX10_fitsOf 58 = .ok (.ifCond .ne 18, 3) := by decide +kernel
theorem dX10_fitsOf_61 : decode cX10_fitsOf 61 = .ok (.iload 4, 2) := by decide +kernel
theorem dX10_fitsOf_63 : decode cX10_fitsOf 63 = .ok (.iload 7, 2) := by decide +kernel
theorem dX10_fitsOf_65 : decode cX10_fitsOf 65 = .ok (.iand, 1) := by decide +kernel
theorem dX10_fitsOf_66 : decode cX10_fitsOf 66 = .ok (.ifCond .ne 10, 3) := by decide +kernel
theorem dX10_fitsOf_69 : decode cX10_fitsOf 69 = .ok (.iconst 1, 1) := by decide +kernel
theorem dX10_fitsOf_70 : decode cX10_fitsOf 70 = .ok (.iload 6, 2) := by decide +kernel
theorem dX10_fitsOf_72 : decode cX10_fitsOf 72 = .ok (.ishl, 1) := by decide +kernel
theorem dX10_fitsOf_73 : decode cX10_fitsOf 73 = .ok (.goto 4, 3) := by decide +kernel
theorem dX10_fitsOf_76 : decode cX10_fitsOf 76 = .ok (.iconst 0, 1) := by decide +kernel
theorem dX10_fitsOf_77 : decode cX10_fitsOf 77 = .ok (.ior, 1) := by decide +kernel
theorem dX10_fitsOf_78 : decode cX10_fitsOf 78 = .ok (.istore 5, 2) := by decide +kernel
theorem dX10_fitsOf_80 : decode cX10_fitsOf 80 = .ok (.iinc 6 1, 3) := by decide +kernel
theorem dX10_fitsOf_83 : decode cX10_fitsOf 83 = .ok (.goto (-60), 3) := by decide +kernel
theorem dX10_fitsOf_86 : decode cX10_fitsOf 86 = .ok (.iload 5, 2) := by decide +kernel
theorem dX10_fitsOf_88 : decode cX10_fitsOf 88 = .ok (.ireturn, 1) := by decide +kernel
theorem dX10_fits_0 : decode cX10_fits 0 = .ok (.aload_n 0, 1) := by decide +kernel
theorem dX10_fits_1 : decode cX10_fits 1 = .ok (.iconst 0, 1) := by decide +kernel
theorem dX10_fits_2 : decode cX10_fits 2 = .ok (.putfield 1, 3) := by decide +kernel
theorem dX10_fits_5 : decode cX10_fits 5 = .ok (.aload_n 0, 1) := by decide +kernel
theorem dX10_fits_6 : decode cX10_fits 6 = .ok (.iload_n 1, 1) := by decide +kernel
theorem dX10_fits_7 : decode cX10_fits 7 = .ok (.invokevirtual 283, 3) := by decide +kernel
theorem dX10_fits_10 : decode cX10_fits 10 = .ok (.ifCond .ne 6, 3) := by decide +kernel
theorem dX10_fits_13 : decode cX10_fits 13 = .ok (.bipush (-2), 2) := by decide +kernel
theorem dX10_fits_15 : decode cX10_fits 15 = .ok (.ireturn, 1) := by decide +kernel
theorem dX10_fits_16 : decode cX10_fits 16 = .ok (.aload_n 0, 1) := by decide +kernel
theorem dX10_fits_17 : decode cX10_fits 17 = .ok (.invokevirtual 221, 3) := by decide +kernel
theorem dX10_fits_20 : decode cX10_fits 20 = .ok (.aload_n 0, 1) := by decide +kernel
theorem dX10_fits_21 : decode cX10_fits 21 = .ok (.iload_n 1, 1) := by decide +kernel
theorem dX10_fits_22 : decode cX10_fits 22 = .ok (.iconst (-1), 1) := by decide +kernel
theorem dX10_fits_23 : decode cX10_fits 23 = .ok (.invokevirtual 289, 3) := by decide +kernel
theorem dX10_fits_26 : decode cX10_fits 26 = .ok (.ireturn, 1) := by decide +kernel
theorem dX10_runOf_0 : decode cX10_runOf 0 = .ok (.iconst 0, 1) := by decide +kernel
theorem dX10_runOf_1 : decode cX10_runOf 1 = .ok (.istore_n 2, 1) := by decide +kernel
theorem dX10_runOf_2 : decode cX10_runOf 2 = .ok (.iload_n 2, 1) := by decide +kernel
theorem dX10_runOf_3 : decode cX10_runOf 3 = .ok (.aload_n 0, 1) := by decide +kernel
theorem dX10_runOf_4 : decode cX10_runOf 4 = .ok (.getfield 13, 3) := by decide +kernel
theorem dX10_runOf_7 : decode cX10_runOf 7 = .ok (.bipush 6, 2) := by decide +kernel
theorem dX10_runOf_9 : decode cX10_runOf 9 = .ok (.iaload, 1) := by decide +kernel
theorem dX10_runOf_10 : decode cX10_runOf 10 = .ok (.if_icmp .ge 62, 3) := by decide +kernel
theorem dX10_runOf_13 : decode cX10_runOf 13 = .ok (.iload_n 1, 1) := by decide +kernel
theorem dX10_runOf_14 : decode cX10_runOf 14 = .ok (.i2l, 1) := by decide +kernel
theorem dX10_runOf_15 : decode cX10_runOf 15 = .ok (.aload_n 0, 1) := by decide +kernel
theorem dX10_runOf_16 : decode cX10_runOf 16 = .ok (.getfield 13, 3) := by decide +kernel
theorem dX10_runOf_19 : decode cX10_runOf 19 = .ok (.sipush 175, 3) := by decide +kernel
theorem dX10_runOf_22 : decode cX10_runOf 22 = .ok (.iconst 2, 1) := by decide +kernel
theorem dX10_runOf_23 : decode cX10_runOf 23 = .ok (.iload_n 2, 1) := by decide +kernel
theorem dX10_runOf_24 : decode cX10_runOf 24 = .ok (.imul, 1) := by decide +kernel
theorem dX10_runOf_25 : decode cX10_runOf 25 = .ok (.iadd, 1) := by decide +kernel
theorem dX10_runOf_26 : decode cX10_runOf 26 = .ok (.iaload, 1) := by decide +kernel
theorem dX10_runOf_27 : decode cX10_runOf 27 = .ok (.i2l, 1) := by decide +kernel
theorem dX10_runOf_28 : decode cX10_runOf 28 = .ok (.aload_n 0, 1) := by decide +kernel
theorem dX10_runOf_29 : decode cX10_runOf 29 = .ok (.getfield 13, 3) := by decide +kernel
theorem dX10_runOf_32 : decode cX10_runOf 32 = .ok (.sipush 175, 3) := by decide +kernel
theorem dX10_runOf_35 : decode cX10_runOf 35 = .ok (.iconst 2, 1) := by decide +kernel
theorem dX10_runOf_36 : decode cX10_runOf 36 = .ok (.iload_n 2, 1) := by decide +kernel
theorem dX10_runOf_37 : decode cX10_runOf 37 = .ok (.imul, 1) := by decide +kernel
theorem dX10_runOf_38 : decode cX10_runOf 38 = .ok (.iadd, 1) := by decide +kernel
theorem dX10_runOf_39 : decode cX10_runOf 39 = .ok (.iaload, 1) := by decide +kernel
theorem dX10_runOf_40 : decode cX10_runOf 40 = .ok (.aload_n 0, 1) := by decide +kernel
theorem dX10_runOf_41 : decode cX10_runOf 41 = .ok (.getfield 13, 3) := by decide +kernel
theorem dX10_runOf_44 : decode cX10_runOf 44 = .ok (.sipush 175, 3) := by decide +kernel
theorem dX10_runOf_47 : decode cX10_runOf 47 = .ok (.iconst 2, 1) := by decide +kernel
theorem dX10_runOf_48 : decode cX10_runOf 48 = .ok (.iload_n 2, 1) := by decide +kernel
theorem dX10_runOf_49 : decode cX10_runOf 49 = .ok (.imul, 1) := by decide +kernel
theorem dX10_runOf_50 : decode cX10_runOf 50 = .ok (.iadd, 1) := by decide +kernel
theorem dX10_runOf_51 : decode cX10_runOf 51 = .ok (.iconst 1, 1) := by decide +kernel
theorem dX10_runOf_52 : decode cX10_runOf 52 = .ok (.iadd, 1) := by decide +kernel
theorem dX10_runOf_53 : decode cX10_runOf 53 = .ok (.iaload, 1) := by decide +kernel
theorem dX10_runOf_54 : decode cX10_runOf 54 = .ok (.iadd, 1) := by decide +kernel
theorem dX10_runOf_55 : decode cX10_runOf 55 = .ok (.iconst 1, 1) := by decide +kernel
theorem dX10_runOf_56 : decode cX10_runOf 56 = .ok (.isub, 1) := by decide +kernel
theorem dX10_runOf_57 : decode cX10_runOf 57 = .ok (.i2l, 1) := by decide +kernel
theorem dX10_runOf_58 : decode cX10_runOf 58 = .ok (.invokestatic 83, 3) := by decide +kernel
theorem dX10_runOf_61 : decode cX10_runOf 61 = .ok (.ifCond .eq 5, 3) := by decide +kernel
theorem dX10_runOf_64 : decode cX10_runOf 64 = .ok (.iload_n 2, 1) := by decide +kernel
theorem dX10_runOf_65 : decode cX10_runOf 65 = .ok (.ireturn, 1) := by decide +kernel
theorem dX10_runOf_66 : decode cX10_runOf 66 = .ok (.iinc 2 1, 3) := by decide +kernel
theorem dX10_runOf_69 : decode cX10_runOf 69 = .ok (.goto (-67), 3) := by decide +kernel
theorem dX10_runOf_72 : decode cX10_runOf 72 = .ok (.iconst (-1), 1) := by decide +kernel
theorem dX10_runOf_73 : decode cX10_runOf 73 = .ok (.ireturn, 1) := by decide +kernel
theorem dX10_laysFits_0 : decode cX10_laysFits 0 = .ok (.aload_n 0, 1) := by decide +kernel
theorem dX10_laysFits_1 : decode cX10_laysFits 1 = .ok (.invokevirtual 221, 3) := by decide +kernel
theorem dX10_laysFits_4 : decode cX10_laysFits 4 = .ok (.iconst 0, 1) := by decide +kernel
theorem dX10_laysFits_5 : decode cX10_laysFits 5 = .ok (.istore_n 1, 1) := by decide +kernel
theorem dX10_laysFits_6 : decode cX10_laysFits 6 = .ok (.iload_n 1, 1) := by decide +kernel
theorem dX10_laysFits_7 : decode cX10_laysFits 7 = .ok (.aload_n 0, 1) := by decide +kernel
theorem dX10_laysFits_8 : decode cX10_laysFits 8 = .ok (.getfield 13, 3) := by decide +kernel
theorem dX10_laysFits_11 : decode cX10_laysFits 11 = .ok (.iconst 4, 1) := by decide +kernel
theorem dX10_laysFits_12 : decode cX10_laysFits 12 = .ok (.iaload, 1) := by decide +kernel
theorem dX10_laysFits_13 : decode cX10_laysFits 13 = .ok (.if_icmp .ge 21, 3) := by decide +kernel
theorem dX10_laysFits_16 : decode cX10_laysFits 16 = .ok (.aload_n 0, 1) := by decide +kernel
theorem dX10_laysFits_17 : decode cX10_laysFits 17 = .ok (.getfield 46, 3) := by decide +kernel
theorem dX10_laysFits_20 : decode cX10_laysFits 20 = .ok (.iload_n 1, 1) := by decide +kernel
theorem dX10_laysFits_21 : decode cX10_laysFits 21 = .ok (.aload_n 0, 1) := by decide +kernel
theorem dX10_laysFits_22 : decode cX10_laysFits 22 = .ok (.iload_n 1, 1) := by decide +kernel
theorem dX10_laysFits_23 : decode cX10_laysFits 23 = .ok (.iconst (-1), 1) := by decide +kernel
theorem dX10_laysFits_24 : decode cX10_laysFits 24 = .ok (.invokevirtual 289, 3) := by decide +kernel
theorem dX10_laysFits_27 : decode cX10_laysFits 27 = .ok (.iastore, 1) := by decide +kernel
theorem dX10_laysFits_28 : decode cX10_laysFits 28 = .ok (.iinc 1 1, 3) := by decide +kernel
theorem dX10_laysFits_31 : decode cX10_laysFits 31 = .ok (.goto (-25), 3) := by decide +kernel
theorem dX10_laysFits_34 : decode cX10_laysFits 34 = .ok (.return_, 1) := by decide +kernel
theorem dX10_fitsRun_0 : decode cX10_fitsRun 0 = .ok (.aload_n 0, 1) := by decide +kernel
theorem dX10_fitsRun_1 : decode cX10_fitsRun 1 = .ok (.getfield 13, 3) := by decide +kernel
theorem dX10_fitsRun_4 : decode cX10_fitsRun 4 = .ok (.bipush 91, 2) := by decide +kernel
theorem dX10_fitsRun_6 : decode cX10_fitsRun 6 = .ok (.bipush 7, 2) := by decide +kernel
theorem dX10_fitsRun_8 : decode cX10_fitsRun 8 = .ok (.iload_n 1, 1) := by decide +kernel
theorem dX10_fitsRun_9 : decode cX10_fitsRun 9 = .ok (.imul, 1) := by decide +kernel
theorem dX10_fitsRun_10 : decode cX10_fitsRun 10 = .ok (.iadd, 1) := by decide +kernel
theorem dX10_fitsRun_11 : decode cX10_fitsRun 11 = .ok (.iaload, 1) := by decide +kernel
theorem dX10_fitsRun_12 : decode cX10_fitsRun 12 = .ok (.istore_n 3, 1) := by decide +kernel
theorem dX10_fitsRun_13 : decode cX10_fitsRun 13 = .ok (.iload_n 3, 1) := by decide +kernel
theorem dX10_fitsRun_14 : decode cX10_fitsRun 14 = .ok (.aload_n 0, 1) := by decide +kernel
theorem dX10_fitsRun_15 : decode cX10_fitsRun 15 = .ok (.getfield 13, 3) := by decide +kernel
theorem dX10_fitsRun_18 : decode cX10_fitsRun 18 = .ok (.sipush 175, 3) := by decide +kernel
theorem dX10_fitsRun_21 : decode cX10_fitsRun 21 = .ok (.iconst 2, 1) := by decide +kernel
theorem dX10_fitsRun_22 : decode cX10_fitsRun 22 = .ok (.iload_n 2, 1) := by decide +kernel
theorem dX10_fitsRun_23 : decode cX10_fitsRun 23 = .ok (.imul, 1) := by decide +kernel
theorem dX10_fitsRun_24 : decode cX10_fitsRun 24 = .ok (.iadd, 1) := by decide +kernel
theorem dX10_fitsRun_25 : decode cX10_fitsRun 25 = .ok (.iconst 1, 1) := by decide +kernel
theorem dX10_fitsRun_26 : decode cX10_fitsRun 26 = .ok (.iadd, 1) := by decide +kernel
theorem dX10_fitsRun_27 : decode cX10_fitsRun 27 = .ok (.iaload, 1) := by decide +kernel
theorem dX10_fitsRun_28 : decode cX10_fitsRun 28 = .ok (.if_icmp .eq 5, 3) := by decide +kernel
theorem dX10_fitsRun_31 : decode cX10_fitsRun 31 = .ok (.iconst 0, 1) := by decide +kernel
theorem dX10_fitsRun_32 : decode cX10_fitsRun 32 = .ok (.ireturn, 1) := by decide +kernel
theorem dX10_fitsRun_33 : decode cX10_fitsRun 33 = .ok (.iconst 0, 1) := by decide +kernel
theorem dX10_fitsRun_34 : decode cX10_fitsRun 34 = .ok (.istore 4, 2) := by decide +kernel
theorem dX10_fitsRun_36 : decode cX10_fitsRun 36 = .ok (.iload 4, 2) := by decide +kernel
theorem dX10_fitsRun_38 : decode cX10_fitsRun 38 = .ok (.iload_n 3, 1) := by decide +kernel
theorem dX10_fitsRun_39 : decode cX10_fitsRun 39 = .ok (.if_icmp .ge 54, 3) := by decide +kernel
theorem dX10_fitsRun_42 : decode cX10_fitsRun 42 = .ok (.aload_n 0, 1) := by decide +kernel
theorem dX10_fitsRun_43 : decode cX10_fitsRun 43 = .ok (.getfield 46, 3) := by decide +kernel
theorem dX10_fitsRun_46 : decode cX10_fitsRun 46 = .ok (.aload_n 0, 1) := by decide +kernel
theorem dX10_fitsRun_47 : decode cX10_fitsRun 47 = .ok (.getfield 13, 3) := by decide +kernel
theorem dX10_fitsRun_50 : decode cX10_fitsRun 50 = .ok (.sipush 175, 3) := by decide +kernel
theorem dX10_fitsRun_53 : decode cX10_fitsRun 53 = .ok (.iconst 2, 1) := by decide +kernel
theorem dX10_fitsRun_54 : decode cX10_fitsRun 54 = .ok (.iload_n 2, 1) := by decide +kernel
theorem dX10_fitsRun_55 : decode cX10_fitsRun 55 = .ok (.imul, 1) := by decide +kernel
theorem dX10_fitsRun_56 : decode cX10_fitsRun 56 = .ok (.iadd, 1) := by decide +kernel
theorem dX10_fitsRun_57 : decode cX10_fitsRun 57 = .ok (.iaload, 1) := by decide +kernel
theorem dX10_fitsRun_58 : decode cX10_fitsRun 58 = .ok (.iload 4, 2) := by decide +kernel
theorem dX10_fitsRun_60 : decode cX10_fitsRun 60 = .ok (.iadd, 1) := by decide +kernel
theorem dX10_fitsRun_61 : decode cX10_fitsRun 61 = .ok (.iaload, 1) := by decide +kernel
theorem dX10_fitsRun_62 : decode cX10_fitsRun 62 = .ok (.aload_n 0, 1) := by decide +kernel
theorem dX10_fitsRun_63 : decode cX10_fitsRun 63 = .ok (.getfield 13, 3) := by decide +kernel
theorem dX10_fitsRun_66 : decode cX10_fitsRun 66 = .ok (.bipush 91, 2) := by decide +kernel
theorem dX10_fitsRun_68 : decode cX10_fitsRun 68 = .ok (.bipush 7, 2) := by decide +kernel
theorem dX10_fitsRun_70 : decode cX10_fitsRun 70 = .ok (.iload_n 1, 1) := by decide +kernel
theorem dX10_fitsRun_71 : decode cX10_fitsRun 71 = .ok (.imul, 1) := by decide +kernel
theorem dX10_fitsRun_72 : decode cX10_fitsRun 72 = .ok (.iadd, 1) := by decide +kernel
theorem dX10_fitsRun_73 : decode cX10_fitsRun 73 = .ok (.iconst 1, 1) := by decide +kernel
theorem dX10_fitsRun_74 : decode cX10_fitsRun 74 = .ok (.iadd, 1) := by decide +kernel
theorem dX10_fitsRun_75 : decode cX10_fitsRun 75 = .ok (.iload 4, 2) := by decide +kernel
theorem dX10_fitsRun_77 : decode cX10_fitsRun 77 = .ok (.iadd, 1) := by decide +kernel
theorem dX10_fitsRun_78 : decode cX10_fitsRun 78 = .ok (.iaload, 1) := by decide +kernel
theorem dX10_fitsRun_79 : decode cX10_fitsRun 79 = .ok (.invokestatic 178, 3) := by decide +kernel
theorem dX10_fitsRun_82 : decode cX10_fitsRun 82 = .ok (.ifCond .ne 5, 3) := by decide +kernel
theorem dX10_fitsRun_85 : decode cX10_fitsRun 85 = .ok (.iconst 0, 1) := by decide +kernel
theorem dX10_fitsRun_86 : decode cX10_fitsRun 86 = .ok (.ireturn, 1) := by decide +kernel
theorem dX10_fitsRun_87 : decode cX10_fitsRun 87 = .ok (.iinc 4 1, 3) := by decide +kernel
theorem dX10_fitsRun_90 : decode cX10_fitsRun 90 = .ok (.goto (-54), 3) := by decide +kernel
theorem dX10_fitsRun_93 : decode cX10_fitsRun 93 = .ok (.iconst 1, 1) := by decide +kernel
theorem dX10_fitsRun_94 : decode cX10_fitsRun 94 = .ok (.ireturn, 1) := by decide +kernel
theorem dX10_sureOf_0 : decode cX10_sureOf 0 = .ok (.aload_n 0, 1) := by decide +kernel
theorem dX10_sureOf_1 : decode cX10_sureOf 1 = .ok (.iload_n 1, 1) := by decide +kernel
theorem dX10_sureOf_2 : decode cX10_sureOf 2 = .ok (.invokevirtual 187, 3) := by decide +kernel
theorem dX10_sureOf_5 : decode cX10_sureOf 5 = .ok (.istore_n 2, 1) := by decide +kernel
theorem dX10_sureOf_6 : decode cX10_sureOf 6 = .ok (.iload_n 2, 1) := by decide +kernel
theorem dX10_sureOf_7 : decode cX10_sureOf 7 = .ok (.iconst (-1), 1) := by decide +kernel
theorem dX10_sureOf_8 : decode cX10_sureOf 8 = .ok (.if_icmp .ne 10, 3) := by decide +kernel
theorem dX10_sureOf_11 : decode cX10_sureOf 11 = .ok (.aload_n 0, 1) := by decide +kernel
theorem dX10_sureOf_12 : decode cX10_sureOf 12 = .ok (.getfield 46, 3) := by decide +kernel
theorem dX10_sureOf_15 : decode cX10_sureOf 15 = .ok (.iload_n 1, 1) := by decide +kernel
theorem dX10_sureOf_16 : decode cX10_sureOf 16 = .ok (.iaload, 1) := by decide +kernel
theorem dX10_sureOf_17 : decode cX10_sureOf 17 = .ok (.ireturn, 1) := by decide +kernel
theorem dX10_sureOf_18 : decode cX10_sureOf 18 = .ok (.iconst 0, 1) := by decide +kernel
theorem dX10_sureOf_19 : decode cX10_sureOf 19 = .ok (.istore_n 3, 1) := by decide +kernel
theorem dX10_sureOf_20 : decode cX10_sureOf 20 = .ok (.iconst 0, 1) := by decide +kernel
theorem dX10_sureOf_21 : decode cX10_sureOf 21 = .ok (.istore 4, 2) := by decide +kernel
theorem dX10_sureOf_23 : decode cX10_sureOf 23 = .ok (.iload 4, 2) := by decide +kernel
theorem dX10_sureOf_25 : decode cX10_sureOf 25 = .ok (.aload_n 0, 1) := by decide +kernel
theorem dX10_sureOf_26 : decode cX10_sureOf 26 = .ok (.getfield 13, 3) := by decide +kernel
theorem dX10_sureOf_29 : decode cX10_sureOf 29 = .ok (.iconst 5, 1) := by decide +kernel
theorem dX10_sureOf_30 : decode cX10_sureOf 30 = .ok (.iaload, 1) := by decide +kernel
theorem dX10_sureOf_31 : decode cX10_sureOf 31 = .ok (.if_icmp .ge 54, 3) := by decide +kernel
theorem dX10_sureOf_34 : decode cX10_sureOf 34 = .ok (.aload_n 0, 1) := by decide +kernel
theorem dX10_sureOf_35 : decode cX10_sureOf 35 = .ok (.iload 4, 2) := by decide +kernel
theorem dX10_sureOf_37 : decode cX10_sureOf 37 = .ok (.iload_n 2, 1) := by decide +kernel
theorem dX10_sureOf_38 : decode cX10_sureOf 38 = .ok (.invokevirtual 292, 3) := by decide +kernel
theorem dX10_sureOf_41 : decode cX10_sureOf 41 = .ok (.ifCond .eq 38, 3) := by decide +kernel
theorem dX10_sureOf_44 : decode cX10_sureOf 44 = .ok (.iload_n 3, 1) := by decide +kernel
theorem dX10_sureOf_45 : decode cX10_sureOf 45 = .ok (.iconst 1, 1) := by decide +kernel
theorem dX10_sureOf_46 : decode cX10_sureOf 46 = .ok (.aload_n 0, 1) := by decide +kernel
theorem dX10_sureOf_47 : decode cX10_sureOf 47 = .ok (.getfield 13, 3) := by decide +kernel
theorem dX10_sureOf_50 : decode cX10_sureOf 50 = .ok (.bipush 91, 2) := by decide +kernel
theorem dX10_sureOf_52 : decode cX10_sureOf 52 = .ok (.bipush 7, 2) := by decide +kernel
theorem dX10_sureOf_54 : decode cX10_sureOf 54 = .ok (.iload 4, 2) := by decide +kernel
theorem dX10_sureOf_56 : decode cX10_sureOf 56 = .ok (.imul, 1) := by decide +kernel
theorem dX10_sureOf_57 : decode cX10_sureOf 57 = .ok (.iadd, 1) := by decide +kernel
theorem dX10_sureOf_58 : decode cX10_sureOf 58 = .ok (.iconst 1, 1) := by decide +kernel
theorem dX10_sureOf_59 : decode cX10_sureOf 59 = .ok (.iadd, 1) := by decide +kernel
theorem dX10_sureOf_60 : decode cX10_sureOf 60 = .ok (.iload_n 1, 1) := by decide +kernel
theorem dX10_sureOf_61 : decode cX10_sureOf 61 = .ok (.iadd, 1) := by decide +kernel
theorem dX10_sureOf_62 : decode cX10_sureOf 62 = .ok (.aload_n 0, 1) := by decide +kernel
theorem dX10_sureOf_63 : decode cX10_sureOf 63 = .ok (.getfield 13, 3) := by decide +kernel
theorem dX10_sureOf_66 : decode cX10_sureOf 66 = .ok (.sipush 175, 3) := by decide +kernel
theorem dX10_sureOf_69 : decode cX10_sureOf 69 = .ok (.iconst 2, 1) := by decide +kernel
theorem dX10_sureOf_70 : decode cX10_sureOf 70 = .ok (.iload_n 2, 1) := by decide +kernel
theorem dX10_sureOf_71 : decode cX10_sureOf 71 = .ok (.imul, 1) := by decide +kernel
theorem dX10_sureOf_72 : decode cX10_sureOf 72 = .ok (.iadd, 1) := by decide +kernel
theorem dX10_sureOf_73 : decode cX10_sureOf 73 = .ok (.iaload, 1) := by decide +kernel
theorem dX10_sureOf_74 : decode cX10_sureOf 74 = .ok (.isub, 1) := by decide +kernel
theorem dX10_sureOf_75 : decode cX10_sureOf 75 = .ok (.iaload, 1) := by decide +kernel
theorem dX10_sureOf_76 : decode cX10_sureOf 76 = .ok (.ishl, 1) := by decide +kernel
theorem dX10_sureOf_77 : decode cX10_sureOf 77 = .ok (.ior, 1) := by decide +kernel
theorem dX10_sureOf_78 : decode cX10_sureOf 78 = .ok (.istore_n 3, 1) := by decide +kernel
theorem dX10_sureOf_79 : decode cX10_sureOf 79 = .ok (.iinc 4 1, 3) := by decide +kernel
theorem dX10_sureOf_82 : decode cX10_sureOf 82 = .ok (.goto (-59), 3) := by decide +kernel
theorem dX10_sureOf_85 : decode cX10_sureOf 85 = .ok (.iload_n 3, 1) := by decide +kernel
theorem dX10_sureOf_86 : decode cX10_sureOf 86 = .ok (.ireturn, 1) := by decide +kernel
theorem dX10_sure_0 : decode cX10_sure 0 = .ok (.aload_n 0, 1) := by decide +kernel
theorem dX10_sure_1 : decode cX10_sure 1 = .ok (.iconst 0, 1) := by decide +kernel
theorem dX10_sure_2 : decode cX10_sure 2 = .ok (.putfield 1, 3) := by decide +kernel
theorem dX10_sure_5 : decode cX10_sure 5 = .ok (.aload_n 0, 1) := by decide +kernel
theorem dX10_sure_6 : decode cX10_sure 6 = .ok (.iload_n 1, 1) := by decide +kernel
theorem dX10_sure_7 : decode cX10_sure 7 = .ok (.invokevirtual 283, 3) := by decide +kernel
theorem dX10_sure_10 : decode cX10_sure 10 = .ok (.ifCond .ne 6, 3) := by decide +kernel
theorem dX10_sure_13 : decode cX10_sure 13 = .ok (.bipush (-2), 2) := by decide +kernel
theorem dX10_sure_15 : decode cX10_sure 15 = .ok (.ireturn, 1) := by decide +kernel
theorem dX10_sure_16 : decode cX10_sure 16 = .ok (.aload_n 0, 1) := by decide +kernel
theorem dX10_sure_17 : decode cX10_sure 17 = .ok (.invokevirtual 295, 3) := by decide +kernel
theorem dX10_sure_20 : decode cX10_sure 20 = .ok (.aload_n 0, 1) := by decide +kernel
theorem dX10_sure_21 : decode cX10_sure 21 = .ok (.iload_n 1, 1) := by decide +kernel
theorem dX10_sure_22 : decode cX10_sure 22 = .ok (.invokevirtual 298, 3) := by decide +kernel
theorem dX10_sure_25 : decode cX10_sure 25 = .ok (.ireturn, 1) := by decide +kernel
theorem dX10_isLetterAt_0 : decode cX10_isLetterAt 0 = .ok (.iload_n 1, 1) := by decide +kernel
theorem dX10_isLetterAt_1 : decode cX10_isLetterAt 1 = .ok (.i2l, 1) := by decide +kernel
theorem dX10_isLetterAt_2 : decode cX10_isLetterAt 2 = .ok (.lconst 0, 1) := by decide +kernel
theorem dX10_isLetterAt_3 : decode cX10_isLetterAt 3 = .ok (.aload_n 0, 1) := by decide +kernel
theorem dX10_isLetterAt_4 : decode cX10_isLetterAt 4 = .ok (.getfield 13, 3) := by decide +kernel
theorem dX10_isLetterAt_7 : decode cX10_isLetterAt 7 = .ok (.iconst 3, 1) := by decide +kernel
theorem dX10_isLetterAt_8 : decode cX10_isLetterAt 8 = .ok (.iaload, 1) := by decide +kernel
theorem dX10_isLetterAt_9 : decode cX10_isLetterAt 9 = .ok (.iconst 1, 1) := by decide +kernel
theorem dX10_isLetterAt_10 : decode cX10_isLetterAt 10 = .ok (.isub, 1) := by decide +kernel
theorem dX10_isLetterAt_11 : decode cX10_isLetterAt 11 = .ok (.i2l, 1) := by decide +kernel
theorem dX10_isLetterAt_12 : decode cX10_isLetterAt 12 = .ok (.invokestatic 83, 3) := by decide +kernel
theorem dX10_isLetterAt_15 : decode cX10_isLetterAt 15 = .ok (.ireturn, 1) := by decide +kernel
theorem dX10_nearest_0 : decode cX10_nearest 0 = .ok (.iconst 0, 1) := by decide +kernel
theorem dX10_nearest_1 : decode cX10_nearest 1 = .ok (.istore_n 2, 1) := by decide +kernel
theorem dX10_nearest_2 : decode cX10_nearest 2 = .ok (.iload_n 0, 1) := by decide +kernel
theorem dX10_nearest_3 : decode cX10_nearest 3 = .ok (.i2l, 1) := by decide +kernel
theorem dX10_nearest_4 : decode cX10_nearest 4 = .ok (.lstore_n 3, 1) := by decide +kernel
theorem dX10_nearest_5 : decode cX10_nearest 5 = .ok (.lload_n 3, 1) := by decide +kernel
theorem dX10_nearest_6 : decode cX10_nearest 6 = .ok (.iload_n 1, 1) := by decide +kernel
theorem dX10_nearest_7 : decode cX10_nearest 7 = .ok (.i2l, 1) := by decide +kernel
theorem dX10_nearest_8 : decode cX10_nearest 8 = .ok (.lcmp, 1) := by decide +kernel
theorem dX10_nearest_9 : decode cX10_nearest 9 = .ok (.ifCond .ge 15, 3) := by decide +kernel
theorem dX10_nearest_12 : decode cX10_nearest 12 = .ok (.lload_n 3, 1) := by decide +kernel
theorem dX10_nearest_13 : decode cX10_nearest 13 = .ok (.ldc2_w 269, 3) := by decide +kernel
theorem dX10_nearest_16 : decode cX10_nearest 16 = .ok (.lmul, 1) := by decide +kernel
theorem dX10_nearest_17 : decode cX10_nearest 17 = .ok (.lstore_n 3, 1) := by decide +kernel
theorem dX10_nearest_18 : decode cX10_nearest 18 = .ok (.iinc 2 (-1), 3) := by decide +kernel
theorem dX10_nearest_21 : decode cX10_nearest 21 = .ok (.goto (-16), 3) := by decide +kernel
theorem dX10_nearest_24 : decode cX10_nearest 24 = .ok (.lload_n 3, 1) := by decide +kernel
theorem dX10_nearest_25 : decode cX10_nearest 25 = .ok (.bipush 23, 2) := by decide +kernel
theorem dX10_nearest_27 : decode cX10_nearest 27 = .ok (.lshl, 1) := by decide +kernel
theorem dX10_nearest_28 : decode cX10_nearest 28 = .ok (.iload_n 1, 1) := by decide +kernel
theorem dX10_nearest_29 : decode cX10_nearest 29 = .ok (.i2l, 1) := by decide +kernel
theorem dX10_nearest_30 : decode cX10_nearest 30 = .ok (.ldiv, 1) := by decide +kernel
theorem dX10_nearest_31 : decode cX10_nearest 31 = .ok (.lstore 5, 2) := by decide +kernel
theorem dX10_nearest_33 : decode cX10_nearest 33 = .ok (.lload_n 3, 1) := by decide +kernel
theorem dX10_nearest_34 : decode cX10_nearest 34 = .ok (.bipush 23, 2) := by decide +kernel
theorem dX10_nearest_36 : decode cX10_nearest 36 = .ok (.lshl, 1) := by decide +kernel
theorem dX10_nearest_37 : decode cX10_nearest 37 = .ok (.iload_n 1, 1) := by decide +kernel
theorem dX10_nearest_38 : decode cX10_nearest 38 = .ok (.i2l, 1) := by decide +kernel
theorem dX10_nearest_39 : decode cX10_nearest 39 = .ok (.lrem, 1) := by decide +kernel
theorem dX10_nearest_40 : decode cX10_nearest 40 = .ok (.lstore 7, 2) := by decide +kernel
theorem dX10_nearest_42 : decode cX10_nearest 42 = .ok (.ldc2_w 269, 3) := by decide +kernel
theorem dX10_nearest_45 : decode cX10_nearest 45 = .ok (.lload 7, 2) := by decide +kernel
theorem dX10_nearest_47 : decode cX10_nearest 47 = .ok (.lmul, 1) := by decide +kernel
theorem dX10_nearest_48 : decode cX10_nearest 48 = .ok (.iload_n 1, 1) := by decide +kernel
theorem dX10_nearest_49 : decode cX10_nearest 49 = .ok (.i2l, 1) := by decide +kernel
theorem dX10_nearest_50 : decode cX10_nearest 50 = .ok (.lcmp, 1) := by decide +kernel
theorem dX10_nearest_51 : decode cX10_nearest 51 = .ok (.ifCond .gt 26, 3) := by decide +kernel
theorem dX10_nearest_54 : decode cX10_nearest 54 = .ok (.ldc2_w 269, 3) := by decide +kernel
theorem dX10_nearest_57 : decode cX10_nearest 57 = .ok (.lload 7, 2) := by decide +kernel
theorem dX10_nearest_59 : decode cX10_nearest 59 = .ok (.lmul, 1) := by decide +kernel
theorem dX10_nearest_60 : decode cX10_nearest 60 = .ok (.iload_n 1, 1) := by decide +kernel
theorem dX10_nearest_61 : decode cX10_nearest 61 = .ok (.i2l, 1) := by decide +kernel
theorem dX10_nearest_62 : decode cX10_nearest 62 = .ok (.lcmp, 1) := by decide +kernel
theorem dX10_nearest_63 : decode cX10_nearest 63 = .ok (.ifCond .ne 20, 3) := by decide +kernel
theorem dX10_nearest_66 : decode cX10_nearest 66 = .ok (.lload 5, 2) := by decide +kernel
theorem dX10_nearest_68 : decode cX10_nearest 68 = .ok (.ldc2_w 269, 3) := by decide +kernel
theorem dX10_nearest_71 : decode cX10_nearest 71 = .ok (.lrem, 1) := by decide +kernel
theorem dX10_nearest_72 : decode cX10_nearest 72 = .ok (.lconst 1, 1) := by decide +kernel
theorem dX10_nearest_73 : decode cX10_nearest 73 = .ok (.lcmp, 1) := by decide +kernel
theorem dX10_nearest_74 : decode cX10_nearest 74 = .ok (.ifCond .ne 9, 3) := by decide +kernel
theorem dX10_nearest_77 : decode cX10_nearest 77 = .ok (.lload 5, 2) := by decide +kernel
theorem dX10_nearest_79 : decode cX10_nearest 79 = .ok (.lconst 1, 1) := by decide +kernel
theorem dX10_nearest_80 : decode cX10_nearest 80 = .ok (.ladd, 1) := by decide +kernel
theorem dX10_nearest_81 : decode cX10_nearest 81 = .ok (.lstore 5, 2) := by decide +kernel
theorem dX10_nearest_83 : decode cX10_nearest 83 = .ok (.iload_n 2, 1) := by decide +kernel
theorem dX10_nearest_84 : decode cX10_nearest 84 = .ok (.bipush 126, 2) := by decide +kernel
theorem dX10_nearest_86 : decode cX10_nearest 86 = .ok (.iadd, 1) := by decide +kernel
theorem dX10_nearest_87 : decode cX10_nearest 87 = .ok (.bipush 23, 2) := by decide +kernel
theorem dX10_nearest_89 : decode cX10_nearest 89 = .ok (.ishl, 1) := by decide +kernel
theorem dX10_nearest_90 : decode cX10_nearest 90 = .ok (.lload 5, 2) := by decide +kernel
theorem dX10_nearest_92 : decode cX10_nearest 92 = .ok (.l2i, 1) := by decide +kernel
theorem dX10_nearest_93 : decode cX10_nearest 93 = .ok (.iadd, 1) := by decide +kernel
theorem dX10_nearest_94 : decode cX10_nearest 94 = .ok (.ireturn, 1) := by decide +kernel
theorem dX10_odds_0 : decode cX10_odds 0 = .ok (.aload_n 0, 1) := by decide +kernel
theorem dX10_odds_1 : decode cX10_odds 1 = .ok (.iconst 0, 1) := by decide +kernel
theorem dX10_odds_2 : decode cX10_odds 2 = .ok (.putfield 1, 3) := by decide +kernel
theorem dX10_odds_5 : decode cX10_odds 5 = .ok (.aload_n 0, 1) := by decide +kernel
theorem dX10_odds_6 : decode cX10_odds 6 = .ok (.iload_n 1, 1) := by decide +kernel
theorem dX10_odds_7 : decode cX10_odds 7 = .ok (.invokevirtual 283, 3) := by decide +kernel
theorem dX10_odds_10 : decode cX10_odds 10 = .ok (.ifCond .eq 11, 3) := by decide +kernel
theorem dX10_odds_13 : decode cX10_odds 13 = .ok (.aload_n 0, 1) := by decide +kernel
theorem dX10_odds_14 : decode cX10_odds 14 = .ok (.iload_n 2, 1) := by decide +kernel
theorem dX10_odds_15 : decode cX10_odds 15 = .ok (.invokevirtual 240, 3) := by decide +kernel
theorem dX10_odds_18 : decode cX10_odds 18 = .ok (.ifCond .ne 6, 3) := by decide +kernel
theorem dX10_odds_21 : decode cX10_odds 21 = .ok (.bipush (-2), 2) := by decide +kernel
theorem dX10_odds_23 : decode cX10_odds 23 = .ok (.ireturn, 1) := by decide +kernel
theorem dX10_odds_24 : decode cX10_odds 24 = .ok (.aload_n 0, 1) := by decide +kernel
theorem dX10_odds_25 : decode cX10_odds 25 = .ok (.invokevirtual 295, 3) := by decide +kernel
theorem dX10_odds_28 : decode cX10_odds 28 = .ok (.aload_n 0, 1) := by decide +kernel
theorem dX10_odds_29 : decode cX10_odds 29 = .ok (.iload_n 1, 1) := by decide +kernel
theorem dX10_odds_30 : decode cX10_odds 30 = .ok (.iload_n 2, 1) := by decide +kernel
theorem dX10_odds_31 : decode cX10_odds 31 = .ok (.invokevirtual 301, 3) := by decide +kernel
theorem dX10_odds_34 : decode cX10_odds 34 = .ok (.ireturn, 1) := by decide +kernel
theorem dX10_guess_0 : decode cX10_guess 0 = .ok (.aload_n 0, 1) := by decide +kernel
theorem dX10_guess_1 : decode cX10_guess 1 = .ok (.iconst 0, 1) := by decide +kernel
theorem dX10_guess_2 : decode cX10_guess 2 = .ok (.putfield 1, 3) := by decide +kernel
theorem dX10_guess_5 : decode cX10_guess 5 = .ok (.aload_n 0, 1) := by decide +kernel
theorem dX10_guess_6 : decode cX10_guess 6 = .ok (.iload_n 1, 1) := by decide +kernel
theorem dX10_guess_7 : decode cX10_guess 7 = .ok (.invokevirtual 283, 3) := by decide +kernel
theorem dX10_guess_10 : decode cX10_guess 10 = .ok (.ifCond .ne 6, 3) := by decide +kernel
theorem dX10_guess_13 : decode cX10_guess 13 = .ok (.bipush (-2), 2) := by decide +kernel
theorem dX10_guess_15 : decode cX10_guess 15 = .ok (.ireturn, 1) := by decide +kernel
theorem dX10_guess_16 : decode cX10_guess 16 = .ok (.aload_n 0, 1) := by decide +kernel
theorem dX10_guess_17 : decode cX10_guess 17 = .ok (.invokevirtual 295, 3) := by decide +kernel
theorem dX10_guess_20 : decode cX10_guess 20 = .ok (.aload_n 0, 1) := by decide +kernel
theorem dX10_guess_21 : decode cX10_guess 21 = .ok (.iload_n 1, 1) := by decide +kernel
theorem dX10_guess_22 : decode cX10_guess 22 = .ok (.invokevirtual 298, 3) := by decide +kernel
theorem dX10_guess_25 : decode cX10_guess 25 = .ok (.istore_n 2, 1) := by decide +kernel
theorem dX10_guess_26 : decode cX10_guess 26 = .ok (.iconst (-1), 1) := by decide +kernel
theorem dX10_guess_27 : decode cX10_guess 27 = .ok (.istore_n 3, 1) := by decide +kernel
theorem dX10_guess_28 : decode cX10_guess 28 = .ok (.iconst 0, 1) := by decide +kernel
theorem dX10_guess_29 : decode cX10_guess 29 = .ok (.istore 4, 2) := by decide +kernel
theorem dX10_guess_31 : decode cX10_guess 31 = .ok (.iload 4, 2) := by decide +kernel
theorem dX10_guess_33 : decode cX10_guess 33 = .ok (.aload_n 0, 1) := by decide +kernel
theorem dX10_guess_34 : decode cX10_guess 34 = .ok (.getfield 13, 3) := by decide +kernel
theorem dX10_guess_37 : decode cX10_guess 37 = .ok (.iconst 3, 1) := by decide +kernel
theorem dX10_guess_38 : decode cX10_guess 38 = .ok (.iaload, 1) := by decide +kernel
theorem dX10_guess_39 : decode cX10_guess 39 = .ok (.if_icmp .ge 50, 3) := by decide +kernel
theorem dX10_guess_42 : decode cX10_guess 42 = .ok (.iload_n 2, 1) := by decide +kernel
theorem dX10_guess_43 : decode cX10_guess 43 = .ok (.iload 4, 2) := by decide +kernel
theorem dX10_guess_45 : decode cX10_guess 45 = .ok (.invokestatic 178, 3) := by decide +kernel
theorem dX10_guess_48 : decode cX10_guess 48 = .ok (.ifCond .eq 35, 3) := by decide +kernel
theorem dX10_guess_51 : decode cX10_guess 51 = .ok (.iload_n 3, 1) := by decide +kernel
theorem dX10_guess_52 : decode cX10_guess 52 = .ok (.iconst (-1), 1) := by decide +kernel
theorem dX10_guess_53 : decode cX10_guess 53 = .ok (.if_icmp .eq 27, 3) := by decide +kernel
theorem dX10_guess_56 : decode cX10_guess 56 = .ok (.aload_n 0, 1) := by decide +kernel
theorem dX10_guess_57 : decode cX10_guess 57 = .ok (.getfield 13, 3) := by decide +kernel
theorem dX10_guess_60 : decode cX10_guess 60 = .ok (.sipush 207, 3) := by decide +kernel
theorem dX10_guess_63 : decode cX10_guess 63 = .ok (.iload 4, 2) := by decide +kernel
theorem dX10_guess_65 : decode cX10_guess 65 = .ok (.iadd, 1) := by decide +kernel
theorem dX10_guess_66 : decode cX10_guess 66 = .ok (.iaload, 1) := by decide +kernel
theorem dX10_guess_67 : decode cX10_guess 67 = .ok (.aload_n 0, 1) := by decide +kernel
theorem dX10_guess_68 : decode cX10_guess 68 = .ok (.getfield 13, 3) := by decide +kernel
theorem dX10_guess_71 : decode cX10_guess 71 = .ok (.sipush 207, 3) := by decide +kernel
theorem dX10_guess_74 : decode cX10_guess 74 = .ok (.iload_n 3, 1) := by decide +kernel
theorem dX10_guess_75 : decode cX10_guess 75 = .ok (.iadd, 1) := by decide +kernel
theorem dX10_guess_76 : decode cX10_guess 76 = .ok (.iaload, 1) := by decide +kernel
theorem dX10_guess_77 : decode cX10_guess 77 = .ok (.if_icmp .le 6, 3) := by decide +kernel
theorem dX10_guess_80 : decode cX10_guess 80 = .ok (.iload 4, 2) := by decide +kernel
theorem dX10_guess_82 : decode cX10_guess 82 = .ok (.istore_n 3, 1) := by decide +kernel
theorem dX10_guess_83 : decode cX10_guess 83 = .ok (.iinc 4 1, 3) := by decide +kernel
theorem dX10_guess_86 : decode cX10_guess 86 = .ok (.goto (-55), 3) := by decide +kernel
theorem dX10_guess_89 : decode cX10_guess 89 = .ok (.iload_n 3, 1) := by decide +kernel
theorem dX10_guess_90 : decode cX10_guess 90 = .ok (.ireturn, 1) := by decide +kernel
theorem dX10_isRun_0 : decode cX10_isRun 0 = .ok (.iload_n 1, 1) := by decide +kernel
theorem dX10_isRun_1 : decode cX10_isRun 1 = .ok (.i2l, 1) := by decide +kernel
theorem dX10_isRun_2 : decode cX10_isRun 2 = .ok (.lconst 0, 1) := by decide +kernel
theorem dX10_isRun_3 : decode cX10_isRun 3 = .ok (.aload_n 0, 1) := by decide +kernel
theorem dX10_isRun_4 : decode cX10_isRun 4 = .ok (.getfield 13, 3) := by decide +kernel
theorem dX10_isRun_7 : decode cX10_isRun 7 = .ok (.bipush 6, 2) := by decide +kernel
theorem dX10_isRun_9 : decode cX10_isRun 9 = .ok (.iaload, 1) := by decide +kernel
theorem dX10_isRun_10 : decode cX10_isRun 10 = .ok (.iconst 1, 1) := by decide +kernel
theorem dX10_isRun_11 : decode cX10_isRun 11 = .ok (.isub, 1) := by decide +kernel
theorem dX10_isRun_12 : decode cX10_isRun 12 = .ok (.i2l, 1) := by decide +kernel
theorem dX10_isRun_13 : decode cX10_isRun 13 = .ok (.invokestatic 83, 3) := by decide +kernel
theorem dX10_isRun_16 : decode cX10_isRun 16 = .ok (.ireturn, 1) := by decide +kernel
theorem dX10_words_0 : decode cX10_words 0 = .ok (.aload_n 0, 1) := by decide +kernel
theorem dX10_words_1 : decode cX10_words 1 = .ok (.iconst 0, 1) := by decide +kernel
theorem dX10_words_2 : decode cX10_words 2 = .ok (.putfield 1, 3) := by decide +kernel
theorem dX10_words_5 : decode cX10_words 5 = .ok (.aload_n 0, 1) := by decide +kernel
theorem dX10_words_6 : decode cX10_words 6 = .ok (.iload_n 1, 1) := by decide +kernel
theorem dX10_words_7 : decode cX10_words 7 = .ok (.invokevirtual 304, 3) := by decide +kernel
theorem dX10_words_10 : decode cX10_words 10 = .ok (.ifCond .ne 6, 3) := by decide +kernel
theorem dX10_words_13 : decode cX10_words 13 = .ok (.bipush (-2), 2) := by decide +kernel
theorem dX10_words_15 : decode cX10_words 15 = .ok (.ireturn, 1) := by decide +kernel
theorem dX10_words_16 : decode cX10_words 16 = .ok (.iload_n 2, 1) := by decide +kernel
theorem dX10_words_17 : decode cX10_words 17 = .ok (.iconst (-1), 1) := by decide +kernel
theorem dX10_words_18 : decode cX10_words 18 = .ok (.if_icmp .ge 6, 3) := by decide +kernel
theorem dX10_words_21 : decode cX10_words 21 = .ok (.bipush (-3), 2) := by decide +kernel
theorem dX10_words_23 : decode cX10_words 23 = .ok (.ireturn, 1) := by decide +kernel
theorem dX10_words_24 : decode cX10_words 24 = .ok (.aload_n 0, 1) := by decide +kernel
theorem dX10_words_25 : decode cX10_words 25 = .ok (.invokevirtual 295, 3) := by decide +kernel
theorem dX10_words_28 : decode cX10_words 28 = .ok (.iconst 0, 1) := by decide +kernel
theorem dX10_words_29 : decode cX10_words 29 = .ok (.istore_n 3, 1) := by decide +kernel
theorem dX10_words_30 : decode cX10_words 30 = .ok (.iconst 0, 1) := by decide +kernel
theorem dX10_words_31 : decode cX10_words 31 = .ok (.istore 4, 2) := by decide +kernel
theorem dX10_words_33 : decode cX10_words 33 = .ok (.iload 4, 2) := by decide +kernel
theorem dX10_words_35 : decode cX10_words 35 = .ok (.aload_n 0, 1) := by decide +kernel
theorem dX10_words_36 : decode cX10_words 36 = .ok (.getfield 13, 3) := by decide +kernel
theorem dX10_words_39 : decode cX10_words 39 = .ok (.iconst 5, 1) := by decide +kernel
theorem dX10_words_40 : decode cX10_words 40 = .ok (.iaload, 1) := by decide +kernel
theorem dX10_words_41 : decode cX10_words 41 = .ok (.if_icmp .ge 33, 3) := by decide +kernel
theorem dX10_words_44 : decode cX10_words 44 = .ok (.aload_n 0, 1) := by decide +kernel
theorem dX10_words_45 : decode cX10_words 45 = .ok (.iload 4, 2) := by decide +kernel
theorem dX10_words_47 : decode cX10_words 47 = .ok (.iload_n 1, 1) := by decide +kernel
theorem dX10_words_48 : decode cX10_words 48 = .ok (.invokevirtual 292, 3) := by decide +kernel
theorem dX10_words_51 : decode cX10_words 51 = .ok (.ifCond .ne 6, 3) := by decide +kernel
theorem dX10_words_54 : decode cX10_words 54 = .ok (.goto 14, 3) := by decide +kernel
theorem dX10_words_57 : decode cX10_words 57 = .ok (.iload_n 3, 1) := by decide +kernel
theorem dX10_words_58 : decode cX10_words 58 = .ok (.iload_n 2, 1) := by decide +kernel
theorem dX10_words_59 : decode cX10_words 59 = .ok (.if_icmp .ne 6, 3) := by decide +kernel
theorem dX10_words_62 : decode cX10_words 62 = .ok (.iload 4, 2) := by decide +kernel
theorem dX10_words_64 : decode cX10_words 64 = .ok (.ireturn, 1) := by decide +kernel
theorem dX10_words_65 : decode cX10_words 65 = .ok (.iinc 3 1, 3) := by decide +kernel
theorem dX10_words_68 : decode cX10_words 68 = .ok (.iinc 4 1, 3) := by decide +kernel
theorem dX10_words_71 : decode cX10_words 71 = .ok (.goto (-38), 3) := by decide +kernel
theorem dX10_words_74 : decode cX10_words 74 = .ok (.iload_n 2, 1) := by decide +kernel
theorem dX10_words_75 : decode cX10_words 75 = .ok (.iconst (-1), 1) := by decide +kernel
theorem dX10_words_76 : decode cX10_words 76 = .ok (.if_icmp .ne 7, 3) := by decide +kernel
theorem dX10_words_79 : decode cX10_words 79 = .ok (.iload_n 3, 1) := by decide +kernel
theorem dX10_words_80 : decode cX10_words 80 = .ok (.goto 4, 3) := by decide +kernel
theorem dX10_words_83 : decode cX10_words 83 = .ok (.iconst (-1), 1) := by decide +kernel
theorem dX10_words_84 : decode cX10_words 84 = .ok (.ireturn, 1) := by decide +kernel
theorem dX10_productOf_0 : decode cX10_productOf 0 = .ok (.lconst 1, 1) := by decide +kernel
theorem dX10_productOf_1 : decode cX10_productOf 1 = .ok (.lstore_n 2, 1) := by decide +kernel
theorem dX10_productOf_2 : decode cX10_productOf 2 = .ok (.iconst 0, 1) := by decide +kernel
theorem dX10_productOf_3 : decode cX10_productOf 3 = .ok (.istore 4, 2) := by decide +kernel
theorem dX10_productOf_5 : decode cX10_productOf 5 = .ok (.iload 4, 2) := by decide +kernel
theorem dX10_productOf_7 : decode cX10_productOf 7 = .ok (.aload_n 0, 1) := by decide +kernel
theorem dX10_productOf_8 : decode cX10_productOf 8 = .ok (.getfield 13, 3) := by decide +kernel
theorem dX10_productOf_11 : decode cX10_productOf 11 = .ok (.bipush 91, 2) := by decide +kernel
theorem dX10_productOf_13 : decode cX10_productOf 13 = .ok (.bipush 7, 2) := by decide +kernel
theorem dX10_productOf_15 : decode cX10_productOf 15 = .ok (.iload_n 1, 1) := by decide +kernel
theorem dX10_productOf_16 : decode cX10_productOf 16 = .ok (.imul, 1) := by decide +kernel
theorem dX10_productOf_17 : decode cX10_productOf 17 = .ok (.iadd, 1) := by decide +kernel
theorem dX10_productOf_18 : decode cX10_productOf 18 = .ok (.iaload, 1) := by decide +kernel
theorem dX10_productOf_19 : decode cX10_productOf 19 = .ok (.if_icmp .ge 39, 3) := by decide +kernel
theorem dX10_productOf_22 : decode cX10_productOf 22 = .ok (.lload_n 2, 1) := by decide +kernel
theorem dX10_productOf_23 : decode cX10_productOf 23 = .ok (.aload_n 0, 1) := by decide +kernel
theorem dX10_productOf_24 : decode cX10_productOf 24 = .ok (.getfield 13, 3) := by decide +kernel
theorem dX10_productOf_27 : decode cX10_productOf 27 = .ok (.sipush 207, 3) := by decide +kernel
theorem dX10_productOf_30 : decode cX10_productOf 30 = .ok (.aload_n 0, 1) := by decide +kernel
theorem dX10_productOf_31 : decode cX10_productOf 31 = .ok (.getfield 13, 3) := by decide +kernel
theorem dX10_productOf_34 : decode cX10_productOf 34 = .ok (.bipush 91, 2) := by decide +kernel
theorem dX10_productOf_36 : decode cX10_productOf 36 = .ok (.bipush 7, 2) := by decide +kernel
theorem dX10_productOf_38 : decode cX10_productOf 38 = .ok (.iload_n 1, 1) := by decide +kernel
theorem dX10_productOf_39 : decode cX10_productOf 39 = .ok (.imul, 1) := by decide +kernel
theorem dX10_productOf_40 : decode cX10_productOf 40 = .ok (.iadd, 1) := by decide +kernel
theorem dX10_productOf_41 : decode cX10_productOf 41 = .ok (.iconst 1, 1) := by decide +kernel
theorem dX10_productOf_42 : decode cX10_productOf 42 = .ok (.iadd, 1) := by decide +kernel
theorem dX10_productOf_43 : decode cX10_productOf 43 = .ok (.iload 4, 2) := by decide +kernel
theorem dX10_productOf_45 : decode cX10_productOf 45 = .ok (.iadd, 1) := by decide +kernel
theorem dX10_productOf_46 : decode cX10_productOf 46 = .ok (.iaload, 1) := by decide +kernel
theorem dX10_productOf_47 : decode cX10_productOf 47 = .ok (.iadd, 1) := by decide +kernel
theorem dX10_productOf_48 : decode cX10_productOf 48 = .ok (.iaload, 1) := by decide +kernel
theorem dX10_productOf_49 : decode cX10_productOf 49 = .ok (.i2l, 1) := by decide +kernel
theorem dX10_productOf_50 : decode cX10_productOf 50 = .ok (.lmul, 1) := by decide +kernel
theorem dX10_productOf_51 : decode cX10_productOf 51 = .ok (.lstore_n 2, 1) := by decide +kernel
theorem dX10_productOf_52 : decode cX10_productOf 52 = .ok (.iinc 4 1, 3) := by decide +kernel
theorem dX10_productOf_55 : decode cX10_productOf 55 = .ok (.goto (-50), 3) := by decide +kernel
theorem dX10_productOf_58 : decode cX10_productOf 58 = .ok (.lload_n 2, 1) := by decide +kernel
theorem dX10_productOf_59 : decode cX10_productOf 59 = .ok (.lreturn, 1) := by decide +kernel
theorem dX10_likely_0 : decode cX10_likely 0 = .ok (.aload_n 0, 1) := by decide +kernel
theorem dX10_likely_1 : decode cX10_likely 1 = .ok (.iconst 0, 1) := by decide +kernel
theorem dX10_likely_2 : decode cX10_likely 2 = .ok (.putfield 1, 3) := by decide +kernel
theorem dX10_likely_5 : decode cX10_likely 5 = .ok (.aload_n 0, 1) := by decide +kernel
theorem dX10_likely_6 : decode cX10_likely 6 = .ok (.iload_n 1, 1) := by decide +kernel
theorem dX10_likely_7 : decode cX10_likely 7 = .ok (.invokevirtual 304, 3) := by decide +kernel
theorem dX10_likely_10 : decode cX10_likely 10 = .ok (.ifCond .ne 6, 3) := by decide +kernel
theorem dX10_likely_13 : decode cX10_likely 13 = .ok (.bipush (-2), 2) := by decide +kernel
theorem dX10_likely_15 : decode cX10_likely 15 = .ok (.ireturn, 1) := by decide +kernel
theorem dX10_likely_16 : decode cX10_likely 16 = .ok (.aload_n 0, 1) := by decide +kernel
theorem dX10_likely_17 : decode cX10_likely 17 = .ok (.invokevirtual 295, 3) := by decide +kernel
theorem dX10_likely_20 : decode cX10_likely 20 = .ok (.iconst (-1), 1) := by decide +kernel
theorem dX10_likely_21 : decode cX10_likely 21 = .ok (.istore_n 2, 1) := by decide +kernel
theorem dX10_likely_22 : decode cX10_likely 22 = .ok (.iconst 0, 1) := by decide +kernel
theorem dX10_likely_23 : decode cX10_likely 23 = .ok (.istore_n 3, 1) := by decide +kernel
theorem dX10_likely_24 : decode cX10_likely 24 = .ok (.iload_n 3, 1) := by decide +kernel
theorem dX10_likely_25 : decode cX10_likely 25 = .ok (.aload_n 0, 1) := by decide +kernel
theorem dX10_likely_26 : decode cX10_likely 26 = .ok (.getfield 13, 3) := by decide +kernel
theorem dX10_likely_29 : decode cX10_likely 29 = .ok (.iconst 5, 1) := by decide +kernel
theorem dX10_likely_30 : decode cX10_likely 30 = .ok (.iaload, 1) := by decide +kernel
theorem dX10_likely_31 : decode cX10_likely 31 = .ok (.if_icmp .ge 39, 3) := by decide +kernel
theorem dX10_likely_34 : decode cX10_likely 34 = .ok (.aload_n 0, 1) := by decide +kernel
theorem dX10_likely_35 : decode cX10_likely 35 = .ok (.iload_n 3, 1) := by decide +kernel
theorem dX10_likely_36 : decode cX10_likely 36 = .ok (.iload_n 1, 1) := by decide +kernel
theorem dX10_likely_37 : decode cX10_likely 37 = .ok (.invokevirtual 292, 3) := by decide +kernel
theorem dX10_likely_40 : decode cX10_likely 40 = .ok (.ifCond .eq 24, 3) := by decide +kernel
theorem dX10_likely_43 : decode cX10_likely 43 = .ok (.iload_n 2, 1) := by decide +kernel
theorem dX10_likely_44 : decode cX10_likely 44 = .ok (.iconst (-1), 1) := by decide +kernel
theorem dX10_likely_45 : decode cX10_likely 45 = .ok (.if_icmp .eq 17, 3) := by decide +kernel
theorem dX10_likely_48 : decode cX10_likely 48 = .ok (.aload_n 0, 1) := by decide +kernel
theorem dX10_likely_49 : decode cX10_likely 49 = .ok (.iload_n 3, 1) := by decide +kernel
theorem dX10_likely_50 : decode cX10_likely 50 = .ok (.invokevirtual 307, 3) := by decide +kernel
theorem dX10_likely_53 : decode cX10_likely 53 = .ok (.aload_n 0, 1) := by decide +kernel
theorem dX10_likely_54 : decode cX10_likely 54 = .ok (.iload_n 2, 1) := by decide +kernel
theorem dX10_likely_55 : decode cX10_likely 55 = .ok (.invokevirtual 307, 3) := by decide +kernel
theorem dX10_likely_58 : decode cX10_likely 58 = .ok (.lcmp, 1) := by decide +kernel
theorem dX10_likely_59 : decode cX10_likely 59 = .ok (.ifCond .le 5, 3) := by decide +kernel
theorem dX10_likely_62 : decode cX10_likely 62 = .ok (.iload_n 3, 1) := by decide +kernel
theorem dX10_likely_63 : decode cX10_likely 63 = .ok (.istore_n 2, 1) := by decide +kernel
theorem dX10_likely_64 : decode cX10_likely 64 = .ok (.iinc 3 1, 3) := by decide +kernel
theorem dX10_likely_67 : decode cX10_likely 67 = .ok (.goto (-43), 3) := by decide +kernel
theorem dX10_likely_70 : decode cX10_likely 70 = .ok (.iload_n 2, 1) := by decide +kernel
theorem dX10_likely_71 : decode cX10_likely 71 = .ok (.ireturn, 1) := by decide +kernel
theorem dX10_timesOf_0 : decode cX10_timesOf 0 = .ok (.iload_n 0, 1) := by decide +kernel
theorem dX10_timesOf_1 : decode cX10_timesOf 1 = .ok (.bipush 23, 2) := by decide +kernel
theorem dX10_timesOf_3 : decode cX10_timesOf 3 = .ok (.iushr, 1) := by decide +kernel
theorem dX10_timesOf_4 : decode cX10_timesOf 4 = .ok (.iload_n 1, 1) := by decide +kernel
theorem dX10_timesOf_5 : decode cX10_timesOf 5 = .ok (.bipush 23, 2) := by decide +kernel
theorem dX10_timesOf_7 : decode cX10_timesOf 7 = .ok (.iushr, 1) := by decide +kernel
theorem dX10_timesOf_8 : decode cX10_timesOf 8 = .ok (.iadd, 1) := by decide +kernel
theorem dX10_timesOf_9 : decode cX10_timesOf 9 = .ok (.bipush 127, 2) := by decide +kernel
theorem dX10_timesOf_11 : decode cX10_timesOf 11 = .ok (.isub, 1) := by decide +kernel
theorem dX10_timesOf_12 : decode cX10_timesOf 12 = .ok (.istore_n 2, 1) := by decide +kernel
theorem dX10_timesOf_13 : decode cX10_timesOf 13 = .ok (.iload_n 0, 1) := by decide +kernel
theorem dX10_timesOf_14 : decode cX10_timesOf 14 = .ok (.ldc_w 311, 3) := by decide +kernel
theorem dX10_timesOf_17 : decode cX10_timesOf 17 = .ok (.iand, 1) := by decide +kernel
theorem dX10_timesOf_18 : decode cX10_timesOf 18 = .ok (.ldc_w 312, 3) := by decide +kernel
theorem dX10_timesOf_21 : decode cX10_timesOf 21 = .ok (.ior, 1) := by decide +kernel
theorem dX10_timesOf_22 : decode cX10_timesOf 22 = .ok (.i2l, 1) := by decide +kernel
theorem dX10_timesOf_23 : decode cX10_timesOf 23 = .ok (.iload_n 1, 1) := by decide +kernel
theorem dX10_timesOf_24 : decode cX10_timesOf 24 = .ok (.ldc_w 311, 3) := by decide +kernel
theorem dX10_timesOf_27 : decode cX10_timesOf 27 = .ok (.iand, 1) := by decide +kernel
theorem dX10_timesOf_28 : decode cX10_timesOf 28 = .ok (.ldc_w 312, 3) := by decide +kernel
theorem dX10_timesOf_31 : decode cX10_timesOf 31 = .ok (.ior, 1) := by decide +kernel
theorem dX10_timesOf_32 : decode cX10_timesOf 32 = .ok (.i2l, 1) := by decide +kernel
theorem dX10_timesOf_33 : decode cX10_timesOf 33 = .ok (.lmul, 1) := by decide +kernel
theorem dX10_timesOf_34 : decode cX10_timesOf 34 = .ok (.lstore_n 3, 1) := by decide +kernel
theorem dX10_timesOf_35 : decode cX10_timesOf 35 = .ok (.lload_n 3, 1) := by decide +kernel
theorem dX10_timesOf_36 : decode cX10_timesOf 36 = .ok (.bipush 47, 2) := by decide +kernel
theorem dX10_timesOf_38 : decode cX10_timesOf 38 = .ok (.lshr, 1) := by decide +kernel
theorem dX10_timesOf_39 : decode cX10_timesOf 39 = .ok (.lconst 1, 1) := by decide +kernel
theorem dX10_timesOf_40 : decode cX10_timesOf 40 = .ok (.lcmp, 1) := by decide +kernel
theorem dX10_timesOf_41 : decode cX10_timesOf 41 = .ok (.ifCond .ne 8, 3) := by decide +kernel
theorem dX10_timesOf_44 : decode cX10_timesOf 44 = .ok (.bipush 24, 2) := by decide +kernel
theorem dX10_timesOf_46 : decode cX10_timesOf 46 = .ok (.goto 5, 3) := by decide +kernel
theorem dX10_timesOf_49 : decode cX10_timesOf 49 = .ok (.bipush 23, 2) := by decide +kernel
theorem dX10_timesOf_51 : decode cX10_timesOf 51 = .ok (.istore 5, 2) := by decide +kernel
theorem dX10_timesOf_53 : decode cX10_timesOf 53 = .ok (.iload_n 2, 1) := by decide +kernel
theorem dX10_timesOf_54 : decode cX10_timesOf 54 = .ok (.iload 5, 2) := by decide +kernel
theorem dX10_timesOf_56 : decode cX10_timesOf 56 = .ok (.bipush 23, 2) := by decide +kernel
theorem dX10_timesOf_58 : decode cX10_timesOf 58 = .ok (.isub, 1) := by decide +kernel
theorem dX10_timesOf_59 : decode cX10_timesOf 59 = .ok (.iadd, 1) := by decide +kernel
theorem dX10_timesOf_60 : decode cX10_timesOf 60 = .ok (.istore_n 2, 1) := by decide +kernel
theorem dX10_timesOf_61 : decode cX10_timesOf 61 = .ok (.lload_n 3, 1) := by decide +kernel
theorem dX10_timesOf_62 : decode cX10_timesOf 62 = .ok (.iload 5, 2) := by decide +kernel
theorem dX10_timesOf_64 : decode cX10_timesOf 64 = .ok (.lshr, 1) := by decide +kernel
theorem dX10_timesOf_65 : decode cX10_timesOf 65 = .ok (.lstore 6, 2) := by decide +kernel
theorem dX10_timesOf_67 : decode cX10_timesOf 67 = .ok (.lload_n 3, 1) := by decide +kernel
theorem dX10_timesOf_68 : decode cX10_timesOf 68 = .ok (.lload 6, 2) := by decide +kernel
theorem dX10_timesOf_70 : decode cX10_timesOf 70 = .ok (.iload 5, 2) := by decide +kernel
theorem dX10_timesOf_72 : decode cX10_timesOf 72 = .ok (.lshl, 1) := by decide +kernel
theorem dX10_timesOf_73 : decode cX10_timesOf 73 = .ok (.lsub, 1) := by decide +kernel
theorem dX10_timesOf_74 : decode cX10_timesOf 74 = .ok (.lstore 8, 2) := by decide +kernel
theorem dX10_timesOf_76 : decode cX10_timesOf 76 = .ok (.lconst 1, 1) := by decide +kernel
theorem dX10_timesOf_77 : decode cX10_timesOf 77 = .ok (.iload 5, 2) := by decide +kernel
theorem dX10_timesOf_79 : decode cX10_timesOf 79 = .ok (.iconst 1, 1) := by decide +kernel
theorem dX10_timesOf_80 : decode cX10_timesOf 80 = .ok (.isub, 1) := by decide +kernel
theorem dX10_timesOf_81 : decode cX10_timesOf 81 = .ok (.lshl, 1) := by decide +kernel
theorem dX10_timesOf_82 : decode cX10_timesOf 82 = .ok (.lstore 10, 2) := by decide +kernel
theorem dX10_timesOf_84 : decode cX10_timesOf 84 = .ok (.lload 8, 2) := by decide +kernel
theorem dX10_timesOf_86 : decode cX10_timesOf 86 = .ok (.lload 10, 2) := by decide +kernel
theorem dX10_timesOf_88 : decode cX10_timesOf 88 = .ok (.lcmp, 1) := by decide +kernel
theorem dX10_timesOf_89 : decode cX10_timesOf 89 = .ok (.ifCond .gt 22, 3) := by decide +kernel
theorem dX10_timesOf_92 : decode cX10_timesOf 92 = .ok (.lload 8, 2) := by decide +kernel
theorem dX10_timesOf_94 : decode cX10_timesOf 94 = .ok (.lload 10, 2) := by decide +kernel
theorem dX10_timesOf_96 : decode cX10_timesOf 96 = .ok (.lcmp, 1) := by decide +kernel
theorem dX10_timesOf_97 : decode cX10_timesOf 97 = .ok (.ifCond .ne 20, 3) := by decide +kernel
theorem dX10_timesOf_100 : decode cX10_timesOf 100 = .ok (.lload 6, 2) := by decide +kernel
theorem dX10_timesOf_102 : decode cX10_timesOf 102 = .ok (.ldc2_w 269, 3) := by decide +kernel
theorem dX10_timesOf_105 : decode cX10_timesOf 105 = .ok (.lrem, 1) := by decide +kernel
theorem dX10_timesOf_106 : decode cX10_timesOf 106 = .ok (.lconst 1, 1) := by decide +kernel
theorem dX10_timesOf_107 : decode cX10_timesOf 107 = .ok (.lcmp, 1) := by decide +kernel
theorem dX10_timesOf_108 : decode cX10_timesOf 108 = .ok (.ifCond .ne 9, 3) := by decide +kernel
theorem dX10_timesOf_111 : decode cX10_timesOf 111 = .ok (.lload 6, 2) := by decide +kernel
theorem dX10_timesOf_113 : decode cX10_timesOf 113 = .ok (.lconst 1, 1) := by decide +kernel
theorem dX10_timesOf_114 : decode cX10_timesOf 114 = .ok (.ladd, 1) := by decide +kernel
theorem dX10_timesOf_115 : decode cX10_timesOf 115 = .ok (.lstore 6, 2) := by decide +kernel
theorem dX10_timesOf_117 : decode cX10_timesOf 117 = .ok (.iload_n 2, 1) := by decide +kernel
theorem dX10_timesOf_118 : decode cX10_timesOf 118 = .ok (.iconst 1, 1) := by decide +kernel
theorem dX10_timesOf_119 : decode cX10_timesOf 119 = .ok (.isub, 1) := by decide +kernel
theorem dX10_timesOf_120 : decode cX10_timesOf 120 = .ok (.bipush 23, 2) := by decide +kernel
theorem dX10_timesOf_122 : decode cX10_timesOf 122 = .ok (.ishl, 1) := by decide +kernel
theorem dX10_timesOf_123 : decode cX10_timesOf 123 = .ok (.lload 6, 2) := by decide +kernel
theorem dX10_timesOf_125 : decode cX10_timesOf 125 = .ok (.l2i, 1) := by decide +kernel
theorem dX10_timesOf_126 : decode cX10_timesOf 126 = .ok (.iadd, 1) := by decide +kernel
theorem dX10_timesOf_127 : decode cX10_timesOf 127 = .ok (.ireturn, 1) := by decide +kernel
theorem dX10_oddsOf_0 : decode cX10_oddsOf 0 = .ok (.aload_n 0, 1) := by decide +kernel
theorem dX10_oddsOf_1 : decode cX10_oddsOf 1 = .ok (.iload_n 1, 1) := by decide +kernel
theorem dX10_oddsOf_2 : decode cX10_oddsOf 2 = .ok (.invokevirtual 298, 3) := by decide +kernel
theorem dX10_oddsOf_5 : decode cX10_oddsOf 5 = .ok (.istore_n 3, 1) := by decide +kernel
theorem dX10_oddsOf_6 : decode cX10_oddsOf 6 = .ok (.iconst 0, 1) := by decide +kernel
theorem dX10_oddsOf_7 : decode cX10_oddsOf 7 = .ok (.istore 4, 2) := by decide +kernel
theorem dX10_oddsOf_9 : decode cX10_oddsOf 9 = .ok (.iconst 0, 1) := by decide +kernel
theorem dX10_oddsOf_10 : decode cX10_oddsOf 10 = .ok (.istore 5, 2) := by decide +kernel
theorem dX10_oddsOf_12 : decode cX10_oddsOf 12 = .ok (.iload 5, 2) := by decide +kernel
theorem dX10_oddsOf_14 : decode cX10_oddsOf 14 = .ok (.aload_n 0, 1) := by decide +kernel
theorem dX10_oddsOf_15 : decode cX10_oddsOf 15 = .ok (.getfield 13, 3) := by decide +kernel
theorem dX10_oddsOf_18 : decode cX10_oddsOf 18 = .ok (.iconst 3, 1) := by decide +kernel
theorem dX10_oddsOf_19 : decode cX10_oddsOf 19 = .ok (.iaload, 1) := by decide +kernel
theorem dX10_oddsOf_20 : decode cX10_oddsOf 20 = .ok (.if_icmp .ge 38, 3) := by decide +kernel
theorem dX10_oddsOf_23 : decode cX10_oddsOf 23 = .ok (.iload 4, 2) := by decide +kernel
theorem dX10_oddsOf_25 : decode cX10_oddsOf 25 = .ok (.iload_n 3, 1) := by decide +kernel
theorem dX10_oddsOf_26 : decode cX10_oddsOf 26 = .ok (.iload 5, 2) := by decide +kernel
theorem dX10_oddsOf_28 : decode cX10_oddsOf 28 = .ok (.invokestatic 178, 3) := by decide +kernel
theorem dX10_oddsOf_31 : decode cX10_oddsOf 31 = .ok (.ifCond .eq 17, 3) := by decide +kernel
theorem dX10_oddsOf_34 : decode cX10_oddsOf 34 = .ok (.aload_n 0, 1) := by decide +kernel
theorem dX10_oddsOf_35 : decode cX10_oddsOf 35 = .ok (.getfield 13, 3) := by decide +kernel
theorem dX10_oddsOf_38 : decode cX10_oddsOf 38 = .ok (.sipush 207, 3) := by decide +kernel
theorem dX10_oddsOf_41 : decode cX10_oddsOf 41 = .ok (.iload 5, 2) := by decide +kernel
theorem dX10_oddsOf_43 : decode cX10_oddsOf 43 = .ok (.iadd, 1) := by decide +kernel
theorem dX10_oddsOf_44 : decode cX10_oddsOf 44 = .ok (.iaload, 1) := by decide +kernel
theorem dX10_oddsOf_45 : decode cX10_oddsOf 45 = .ok (.goto 4, 3) := by decide +kernel
theorem dX10_oddsOf_48 : decode cX10_oddsOf 48 = .ok (.iconst 0, 1) := by decide +kernel
theorem dX10_oddsOf_49 : decode cX10_oddsOf 49 = .ok (.iadd, 1) := by decide +kernel
theorem dX10_oddsOf_50 : decode cX10_oddsOf 50 = .ok (.istore 4, 2) := by decide +kernel
theorem dX10_oddsOf_52 : decode cX10_oddsOf 52 = .ok (.iinc 5 1, 3) := by decide +kernel
theorem dX10_oddsOf_55 : decode cX10_oddsOf 55 = .ok (.goto (-43), 3) := by decide +kernel
theorem dX10_oddsOf_58 : decode cX10_oddsOf 58 = .ok (.iload_n 3, 1) := by decide +kernel
theorem dX10_oddsOf_59 : decode cX10_oddsOf 59 = .ok (.iload_n 2, 1) := by decide +kernel
theorem dX10_oddsOf_60 : decode cX10_oddsOf 60 = .ok (.invokestatic 178, 3) := by decide +kernel
theorem dX10_oddsOf_63 : decode cX10_oddsOf 63 = .ok (.ifCond .eq 21, 3) := by decide +kernel
theorem dX10_oddsOf_66 : decode cX10_oddsOf 66 = .ok (.aload_n 0, 1) := by decide +kernel
theorem dX10_oddsOf_67 : decode cX10_oddsOf 67 = .ok (.getfield 13, 3) := by decide +kernel
theorem dX10_oddsOf_70 : decode cX10_oddsOf 70 = .ok (.sipush 207, 3) := by decide +kernel
theorem dX10_oddsOf_73 : decode cX10_oddsOf 73 = .ok (.iload_n 2, 1) := by decide +kernel
theorem dX10_oddsOf_74 : decode cX10_oddsOf 74 = .ok (.iadd, 1) := by decide +kernel
theorem dX10_oddsOf_75 : decode cX10_oddsOf 75 = .ok (.iaload, 1) := by decide +kernel
theorem dX10_oddsOf_76 : decode cX10_oddsOf 76 = .ok (.iload 4, 2) := by decide +kernel
theorem dX10_oddsOf_78 : decode cX10_oddsOf 78 = .ok (.invokestatic 313, 3) := by decide +kernel
theorem dX10_oddsOf_81 : decode cX10_oddsOf 81 = .ok (.goto 4, 3) := by decide +kernel
theorem dX10_oddsOf_84 : decode cX10_oddsOf 84 = .ok (.iconst 0, 1) := by decide +kernel
theorem dX10_oddsOf_85 : decode cX10_oddsOf 85 = .ok (.ireturn, 1) := by decide +kernel
theorem dX10_likelihood_0 : decode cX10_likelihood 0 = .ok (.aload_n 0, 1) := by decide +kernel
theorem dX10_likelihood_1 : decode cX10_likelihood 1 = .ok (.iconst 0, 1) := by decide +kernel
theorem dX10_likelihood_2 : decode cX10_likelihood 2 = .ok (.putfield 1, 3) := by decide +kernel
theorem dX10_likelihood_5 : decode cX10_likelihood 5 = .ok (.aload_n 0, 1) := by decide +kernel
theorem dX10_likelihood_6 : decode cX10_likelihood 6 = .ok (.iload_n 1, 1) := by decide +kernel
theorem dX10_likelihood_7 : decode cX10_likelihood 7 = .ok (.invokevirtual 304, 3) := by decide +kernel
theorem dX10_likelihood_10 : decode cX10_likelihood 10 = .ok (.ifCond .eq 21, 3) := by decide +kernel
theorem dX10_likelihood_13 : decode cX10_likelihood 13 = .ok (.iload_n 2, 1) := by decide +kernel
theorem dX10_likelihood_14 : decode cX10_likelihood 14 = .ok (.i2l, 1) := by decide +kernel
theorem dX10_likelihood_15 : decode cX10_likelihood 15 = .ok (.lconst 0, 1) := by decide +kernel
theorem dX10_likelihood_16 : decode cX10_likelihood 16 = .ok (.aload_n 0, 1) := by decide +kernel
theorem dX10_likelihood_17 : decode cX10_likelihood 17 = .ok (.getfield 13, 3) := by decide +kernel
theorem dX10_likelihood_20 : decode cX10_likelihood 20 = .ok (.iconst 5, 1) := by decide +kernel
theorem dX10_likelihood_21 : decode cX10_likelihood 21 = .ok (.iaload, 1) := by decide +kernel
theorem dX10_likelihood_22 : decode cX10_likelihood 22 = .ok (.iconst 1, 1) := by decide +kernel
theorem dX10_likelihood_23 : decode cX10_likelihood 23 = .ok (.isub, 1) := by decide +kernel
theorem dX10_likelihood_24 : decode cX10_likelihood 24 = .ok (.i2l, 1) := by decide +kernel
theorem dX10_likelihood_25 : decode cX10_likelihood 25 = .ok (.invokestatic 83, 3) := by decide +kernel
theorem dX10_likelihood_28 : decode cX10_likelihood 28 = .ok (.ifCond .ne 6, 3) := by decide +kernel
theorem dX10_likelihood_31 : decode cX10_likelihood 31 = .ok (.bipush (-2), 2) := by decide +kernel
theorem dX10_likelihood_33 : decode cX10_likelihood 33 = .ok (.ireturn, 1) := by decide +kernel
theorem dX10_likelihood_34 : decode cX10_likelihood 34 = .ok (.aload_n 0, 1) := by decide +kernel
theorem dX10_likelihood_35 : decode cX10_likelihood 35 = .ok (.invokevirtual 295, 3) := by decide +kernel
theorem dX10_likelihood_38 : decode cX10_likelihood 38 = .ok (.aload_n 0, 1) := by decide +kernel
theorem dX10_likelihood_39 : decode cX10_likelihood 39 = .ok (.iload_n 2, 1) := by decide +kernel
theorem dX10_likelihood_40 : decode cX10_likelihood 40 = .ok (.iload_n 1, 1) := by decide +kernel
theorem dX10_likelihood_41 : decode cX10_likelihood 41 = .ok (.invokevirtual 292, 3) := by decide +kernel
theorem dX10_likelihood_44 : decode cX10_likelihood 44 = .ok (.ifCond .ne 5, 3) := by decide +kernel
theorem dX10_likelihood_47 : decode cX10_likelihood 47 = .ok (.iconst 0, 1) := by decide +kernel
theorem dX10_likelihood_48 : decode cX10_likelihood 48 = .ok (.ireturn, 1) := by decide +kernel
theorem dX10_likelihood_49 : decode cX10_likelihood 49 = .ok (.ldc_w 316, 3) := by decide +kernel
theorem dX10_likelihood_52 : decode cX10_likelihood 52 = .ok (.istore_n 3, 1) := by decide +kernel
theorem dX10_likelihood_53 : decode cX10_likelihood 53 = .ok (.iconst 0, 1) := by decide +kernel
theorem dX10_likelihood_54 : decode cX10_likelihood 54 = .ok (.istore 4, 2) := by decide +kernel
theorem dX10_likelihood_56 : decode cX10_likelihood 56 = .ok (.iload 4, 2) := by decide +kernel
theorem dX10_likelihood_58 : decode cX10_likelihood 58 = .ok (.aload_n 0, 1) := by decide +kernel
theorem dX10_likelihood_59 : decode cX10_likelihood 59 = .ok (.getfield 13, 3) := by decide +kernel
theorem dX10_likelihood_62 : decode cX10_likelihood 62 = .ok (.bipush 91, 2) := by decide +kernel
theorem dX10_likelihood_64 : decode cX10_likelihood 64 = .ok (.bipush 7, 2) := by decide +kernel
theorem dX10_likelihood_66 : decode cX10_likelihood 66 = .ok (.iload_n 2, 1) := by decide +kernel
theorem dX10_likelihood_67 : decode cX10_likelihood 67 = .ok (.imul, 1) := by decide +kernel
theorem dX10_likelihood_68 : decode cX10_likelihood 68 = .ok (.iadd, 1) := by decide +kernel
theorem dX10_likelihood_69 : decode cX10_likelihood 69 = .ok (.iaload, 1) := by decide +kernel
theorem dX10_likelihood_70 : decode cX10_likelihood 70 = .ok (.if_icmp .ge 50, 3) := by decide +kernel
theorem dX10_likelihood_73 : decode cX10_likelihood 73 = .ok (.iload_n 3, 1) := by decide +kernel
theorem dX10_likelihood_74 : decode cX10_likelihood 74 = .ok (.aload_n 0, 1) := by decide +kernel
theorem dX10_likelihood_75 : decode cX10_likelihood 75 = .ok (.aload_n 0, 1) := by decide +kernel
theorem dX10_likelihood_76 : decode cX10_likelihood 76 = .ok (.getfield 13, 3) := by decide +kernel
theorem dX10_likelihood_79 : decode cX10_likelihood 79 = .ok (.sipush 175, 3) := by decide +kernel
theorem dX10_likelihood_82 : decode cX10_likelihood 82 = .ok (.iconst 2, 1) := by decide +kernel
theorem dX10_likelihood_83 : decode cX10_likelihood 83 = .ok (.iload_n 1, 1) := by decide +kernel
theorem dX10_likelihood_84 : decode cX10_likelihood 84 = .ok (.imul, 1) := by decide +kernel
theorem dX10_likelihood_85 : decode cX10_likelihood 85 = .ok (.iadd, 1) := by decide +kernel
theorem dX10_likelihood_86 : decode cX10_likelihood 86 = .ok (.iaload, 1) := by decide +kernel
theorem dX10_likelihood_87 : decode cX10_likelihood 87 = .ok (.iload 4, 2) := by decide +kernel
theorem dX10_likelihood_89 : decode cX10_likelihood 89 = .ok (.iadd, 1) := by decide +kernel
theorem dX10_likelihood_90 : decode cX10_likelihood 90 = .ok (.aload_n 0, 1) := by decide +kernel
theorem dX10_likelihood_91 : decode cX10_likelihood 91 = .ok (.getfield 13, 3) := by decide +kernel
theorem dX10_likelihood_94 : decode cX10_likelihood 94 = .ok (.bipush 91, 2) := by decide +kernel
theorem dX10_likelihood_96 : decode cX10_likelihood 96 = .ok (.bipush 7, 2) := by decide +kernel
theorem dX10_likelihood_98 : decode cX10_likelihood 98 = .ok (.iload_n 2, 1) := by decide +kernel
theorem dX10_likelihood_99 : decode cX10_likelihood 99 = .ok (.imul, 1) := by decide +kernel
theorem dX10_likelihood_100 : decode cX10_likelihood 100 = .ok (.iadd, 1) := by decide +kernel
theorem dX10_likelihood_101 : decode cX10_likelihood 101 = .ok (.iconst 1, 1) := by decide +kernel
theorem dX10_likelihood_102 : decode cX10_likelihood 102 = .ok (.iadd, 1) := by decide +kernel
theorem dX10_likelihood_103 : decode cX10_likelihood 103 = .ok (.iload 4, 2) := by decide +kernel
theorem dX10_likelihood_105 : decode cX10_likelihood 105 = .ok (.iadd, 1) := by decide +kernel
theorem dX10_likelihood_106 : decode cX10_likelihood 106 = .ok (.iaload, 1) := by decide +kernel
theorem dX10_likelihood_107 : decode cX10_likelihood 107 = .ok (.invokevirtual 301, 3) := by decide +kernel
theorem dX10_likelihood_110 : decode cX10_likelihood 110 = .ok (.invokestatic 317, 3) := by decide +kernel
theorem dX10_likelihood_113 : decode cX10_likelihood 113 = .ok (.istore_n 3, 1) := by decide +kernel
theorem dX10_likelihood_114 : decode cX10_likelihood 114 = .ok (.iinc 4 1, 3) := by decide +kernel
theorem dX10_likelihood_117 : decode cX10_likelihood 117 = .ok (.goto (-61), 3) := by decide +kernel
theorem dX10_likelihood_120 : decode cX10_likelihood 120 = .ok (.iload_n 3, 1) := by decide +kernel
theorem dX10_likelihood_121 : decode cX10_likelihood 121 = .ok (.ireturn, 1) := by decide +kernel
theorem dX10_readOf_0 : decode cX10_readOf 0 = .ok (.aload_n 0, 1) := by decide +kernel
theorem dX10_readOf_1 : decode cX10_readOf 1 = .ok (.iload_n 1, 1) := by decide +kernel
theorem dX10_readOf_2 : decode cX10_readOf 2 = .ok (.invokevirtual 298, 3) := by decide +kernel
theorem dX10_readOf_5 : decode cX10_readOf 5 = .ok (.istore_n 2, 1) := by decide +kernel
theorem dX10_readOf_6 : decode cX10_readOf 6 = .ok (.iload_n 2, 1) := by decide +kernel
theorem dX10_readOf_7 : decode cX10_readOf 7 = .ok (.ifCond .ne 6, 3) := by decide +kernel
theorem dX10_readOf_10 : decode cX10_readOf 10 = .ok (.bipush 63, 2) := by decide +kernel
theorem dX10_readOf_12 : decode cX10_readOf 12 = .ok (.ireturn, 1) := by decide +kernel
theorem dX10_readOf_13 : decode cX10_readOf 13 = .ok (.iload_n 2, 1) := by decide +kernel
theorem dX10_readOf_14 : decode cX10_readOf 14 = .ok (.invokestatic 224, 3) := by decide +kernel
theorem dX10_readOf_17 : decode cX10_readOf 17 = .ok (.iconst 1, 1) := by decide +kernel
theorem dX10_readOf_18 : decode cX10_readOf 18 = .ok (.if_icmp .le 8, 3) := by decide +kernel
theorem dX10_readOf_21 : decode cX10_readOf 21 = .ok (.bipush 46, 2) := by decide +kernel
theorem dX10_readOf_23 : decode cX10_readOf 23 = .ok (.goto 20, 3) := by decide +kernel
theorem dX10_readOf_26 : decode cX10_readOf 26 = .ok (.bipush 96, 2) := by decide +kernel
theorem dX10_readOf_28 : decode cX10_readOf 28 = .ok (.aload_n 0, 1) := by decide +kernel
theorem dX10_readOf_29 : decode cX10_readOf 29 = .ok (.getfield 13, 3) := by decide +kernel
theorem dX10_readOf_32 : decode cX10_readOf 32 = .ok (.bipush 55, 2) := by decide +kernel
theorem dX10_readOf_34 : decode cX10_readOf 34 = .ok (.iconst 2, 1) := by decide +kernel
theorem dX10_readOf_35 : decode cX10_readOf 35 = .ok (.iload_n 2, 1) := by decide +kernel
theorem dX10_readOf_36 : decode cX10_readOf 36 = .ok (.invokestatic 320, 3) := by decide +kernel
theorem dX10_readOf_39 : decode cX10_readOf 39 = .ok (.imul, 1) := by decide +kernel
theorem dX10_readOf_40 : decode cX10_readOf 40 = .ok (.iadd, 1) := by decide +kernel
theorem dX10_readOf_41 : decode cX10_readOf 41 = .ok (.iaload, 1) := by decide +kernel
theorem dX10_readOf_42 : decode cX10_readOf 42 = .ok (.iadd, 1) := by decide +kernel
theorem dX10_readOf_43 : decode cX10_readOf 43 = .ok (.ireturn, 1) := by decide +kernel
theorem dX10_reads_0 : decode cX10_reads 0 = .ok (.aload_n 0, 1) := by decide +kernel
theorem dX10_reads_1 : decode cX10_reads 1 = .ok (.iconst 0, 1) := by decide +kernel
theorem dX10_reads_2 : decode cX10_reads 2 = .ok (.putfield 1, 3) := by decide +kernel
theorem dX10_reads_5 : decode cX10_reads 5 = .ok (.iload_n 1, 1) := by decide +kernel
theorem dX10_reads_6 : decode cX10_reads 6 = .ok (.iconst (-1), 1) := by decide +kernel
theorem dX10_reads_7 : decode cX10_reads 7 = .ok (.if_icmp .ge 6, 3) := by decide +kernel
theorem dX10_reads_10 : decode cX10_reads 10 = .ok (.bipush (-3), 2) := by decide +kernel
theorem dX10_reads_12 : decode cX10_reads 12 = .ok (.ireturn, 1) := by decide +kernel
theorem dX10_reads_13 : decode cX10_reads 13 = .ok (.aload_n 0, 1) := by decide +kernel
theorem dX10_reads_14 : decode cX10_reads 14 = .ok (.invokevirtual 295, 3) := by decide +kernel
theorem dX10_reads_17 : decode cX10_reads 17 = .ok (.iload_n 1, 1) := by decide +kernel
theorem dX10_reads_18 : decode cX10_reads 18 = .ok (.iconst (-1), 1) := by decide +kernel
theorem dX10_reads_19 : decode cX10_reads 19 = .ok (.if_icmp .ne 12, 3) := by decide +kernel
theorem dX10_reads_22 : decode cX10_reads 22 = .ok (.aload_n 0, 1) := by decide +kernel
theorem dX10_reads_23 : decode cX10_reads 23 = .ok (.getfield 13, 3) := by decide +kernel
theorem dX10_reads_26 : decode cX10_reads 26 = .ok (.iconst 4, 1) := by decide +kernel
theorem dX10_reads_27 : decode cX10_reads 27 = .ok (.iaload, 1) := by decide +kernel
theorem dX10_reads_28 : decode cX10_reads 28 = .ok (.goto 22, 3) := by decide +kernel
theorem dX10_reads_31 : decode cX10_reads 31 = .ok (.iload_n 1, 1) := by decide +kernel
theorem dX10_reads_32 : decode cX10_reads 32 = .ok (.aload_n 0, 1) := by decide +kernel
theorem dX10_reads_33 : decode cX10_reads 33 = .ok (.getfield 13, 3) := by decide +kernel
theorem dX10_reads_36 : decode cX10_reads 36 = .ok (.iconst 4, 1) := by decide +kernel
theorem dX10_reads_37 : decode cX10_reads 37 = .ok (.iaload, 1) := by decide +kernel
theorem dX10_reads_38 : decode cX10_reads 38 = .ok (.if_icmp .ge 11, 3) := by decide +kernel
theorem dX10_reads_41 : decode cX10_reads 41 = .ok (.aload_n 0, 1) := by decide +kernel
theorem dX10_reads_42 : decode cX10_reads 42 = .ok (.iload_n 1, 1) := by decide +kernel
theorem dX10_reads_43 : decode cX10_reads 43 = .ok (.invokevirtual 323, 3) := by decide +kernel
theorem dX10_reads_46 : decode cX10_reads 46 = .ok (.goto 4, 3) := by decide +kernel
theorem dX10_reads_49 : decode cX10_reads 49 = .ok (.iconst (-1), 1) := by decide +kernel
theorem dX10_reads_50 : decode cX10_reads 50 = .ok (.ireturn, 1) := by decide +kernel
theorem dX10_letter_0 : decode cX10_letter 0 = .ok (.aload_n 0, 1) := by decide +kernel
theorem dX10_letter_1 : decode cX10_letter 1 = .ok (.iconst 0, 1) := by decide +kernel
theorem dX10_letter_2 : decode cX10_letter 2 = .ok (.putfield 1, 3) := by decide +kernel
theorem dX10_letter_5 : decode cX10_letter 5 = .ok (.aload_n 0, 1) := by decide +kernel
theorem dX10_letter_6 : decode cX10_letter 6 = .ok (.iload_n 1, 1) := by decide +kernel
theorem dX10_letter_7 : decode cX10_letter 7 = .ok (.invokevirtual 240, 3) := by decide +kernel
theorem dX10_letter_10 : decode cX10_letter 10 = .ok (.ifCond .eq 15, 3) := by decide +kernel
theorem dX10_letter_13 : decode cX10_letter 13 = .ok (.iload_n 2, 1) := by decide +kernel
theorem dX10_letter_14 : decode cX10_letter 14 = .ok (.i2l, 1) := by decide +kernel
theorem dX10_letter_15 : decode cX10_letter 15 = .ok (.lconst 0, 1) := by decide +kernel
theorem dX10_letter_16 : decode cX10_letter 16 = .ok (.ldc2_w 326, 3) := by decide +kernel
theorem dX10_letter_19 : decode cX10_letter 19 = .ok (.invokestatic 83, 3) := by decide +kernel
theorem dX10_letter_22 : decode cX10_letter 22 = .ok (.ifCond .ne 6, 3) := by decide +kernel
theorem dX10_letter_25 : decode cX10_letter 25 = .ok (.bipush (-2), 2) := by decide +kernel
theorem dX10_letter_27 : decode cX10_letter 27 = .ok (.ireturn, 1) := by decide +kernel
theorem dX10_letter_28 : decode cX10_letter 28 = .ok (.iload_n 2, 1) := by decide +kernel
theorem dX10_letter_29 : decode cX10_letter 29 = .ok (.iconst 2, 1) := by decide +kernel
theorem dX10_letter_30 : decode cX10_letter 30 = .ok (.if_icmp .ge 17, 3) := by decide +kernel
theorem dX10_letter_33 : decode cX10_letter 33 = .ok (.aload_n 0, 1) := by decide +kernel
theorem dX10_letter_34 : decode cX10_letter 34 = .ok (.getfield 13, 3) := by decide +kernel
theorem dX10_letter_37 : decode cX10_letter 37 = .ok (.bipush 55, 2) := by decide +kernel
theorem dX10_letter_39 : decode cX10_letter 39 = .ok (.iconst 2, 1) := by decide +kernel
theorem dX10_letter_40 : decode cX10_letter 40 = .ok (.iload_n 1, 1) := by decide +kernel
theorem dX10_letter_41 : decode cX10_letter 41 = .ok (.imul, 1) := by decide +kernel
theorem dX10_letter_42 : decode cX10_letter 42 = .ok (.iadd, 1) := by decide +kernel
theorem dX10_letter_43 : decode cX10_letter 43 = .ok (.iload_n 2, 1) := by decide +kernel
theorem dX10_letter_44 : decode cX10_letter 44 = .ok (.iadd, 1) := by decide +kernel
theorem dX10_letter_45 : decode cX10_letter 45 = .ok (.iaload, 1) := by decide +kernel
theorem dX10_letter_46 : decode cX10_letter 46 = .ok (.ireturn, 1) := by decide +kernel
theorem dX10_letter_47 : decode cX10_letter 47 = .ok (.iload_n 2, 1) := by decide +kernel
theorem dX10_letter_48 : decode cX10_letter 48 = .ok (.iconst 2, 1) := by decide +kernel
theorem dX10_letter_49 : decode cX10_letter 49 = .ok (.if_icmp .ne 14, 3) := by decide +kernel
theorem dX10_letter_52 : decode cX10_letter 52 = .ok (.aload_n 0, 1) := by decide +kernel
theorem dX10_letter_53 : decode cX10_letter 53 = .ok (.getfield 13, 3) := by decide +kernel
theorem dX10_letter_56 : decode cX10_letter 56 = .ok (.sipush 207, 3) := by decide +kernel
theorem dX10_letter_59 : decode cX10_letter 59 = .ok (.iload_n 1, 1) := by decide +kernel
theorem dX10_letter_60 : decode cX10_letter 60 = .ok (.iadd, 1) := by decide +kernel
theorem dX10_letter_61 : decode cX10_letter 61 = .ok (.iaload, 1) := by decide +kernel
theorem dX10_letter_62 : decode cX10_letter 62 = .ok (.ireturn, 1) := by decide +kernel
theorem dX10_letter_63 : decode cX10_letter 63 = .ok (.aload_n 0, 1) := by decide +kernel
theorem dX10_letter_64 : decode cX10_letter 64 = .ok (.invokevirtual 295, 3) := by decide +kernel
theorem dX10_letter_67 : decode cX10_letter 67 = .ok (.iconst 0, 1) := by decide +kernel
theorem dX10_letter_68 : decode cX10_letter 68 = .ok (.istore_n 3, 1) := by decide +kernel
theorem dX10_letter_69 : decode cX10_letter 69 = .ok (.iconst 0, 1) := by decide +kernel
theorem dX10_letter_70 : decode cX10_letter 70 = .ok (.istore 4, 2) := by decide +kernel
theorem dX10_letter_72 : decode cX10_letter 72 = .ok (.iload 4, 2) := by decide +kernel
theorem dX10_letter_74 : decode cX10_letter 74 = .ok (.aload_n 0, 1) := by decide +kernel
theorem dX10_letter_75 : decode cX10_letter 75 = .ok (.getfield 13, 3) := by decide +kernel
theorem dX10_letter_78 : decode cX10_letter 78 = .ok (.iconst 4, 1) := by decide +kernel
theorem dX10_letter_79 : decode cX10_letter 79 = .ok (.iaload, 1) := by decide +kernel
theorem dX10_letter_80 : decode cX10_letter 80 = .ok (.if_icmp .ge 31, 3) := by decide +kernel
theorem dX10_letter_83 : decode cX10_letter 83 = .ok (.iload_n 3, 1) := by decide +kernel
theorem dX10_letter_84 : decode cX10_letter 84 = .ok (.aload_n 0, 1) := by decide +kernel
theorem dX10_letter_85 : decode cX10_letter 85 = .ok (.getfield 46, 3) := by decide +kernel
theorem dX10_letter_88 : decode cX10_letter 88 = .ok (.iload 4, 2) := by decide +kernel
theorem dX10_letter_90 : decode cX10_letter 90 = .ok (.iaload, 1) := by decide +kernel
theorem dX10_letter_91 : decode cX10_letter 91 = .ok (.iload_n 1, 1) := by decide +kernel
theorem dX10_letter_92 : decode cX10_letter 92 = .ok (.invokestatic 178, 3) := by decide +kernel
theorem dX10_letter_95 : decode cX10_letter 95 = .ok (.ifCond .eq 7, 3) := by decide +kernel
theorem dX10_letter_98 : decode cX10_letter 98 = .ok (.iconst 1, 1) := by decide +kernel
theorem dX10_letter_99 : decode cX10_letter 99 = .ok (.goto 4, 3) := by decide +kernel
theorem dX10_letter_102 : decode cX10_letter 102 = .ok (.iconst 0, 1) := by decide +kernel
theorem dX10_letter_103 : decode cX10_letter 103 = .ok (.iadd, 1) := by decide +kernel
theorem dX10_letter_104 : decode cX10_letter 104 = .ok (.istore_n 3, 1) := by decide +kernel
theorem dX10_letter_105 : decode cX10_letter 105 = .ok (.iinc 4 1, 3) := by decide +kernel
theorem dX10_letter_108 : decode cX10_letter 108 = .ok (.goto (-36), 3) := by decide +kernel
theorem dX10_letter_111 : decode cX10_letter 111 = .ok (.iload_n 3, 1) := by decide +kernel
theorem dX10_letter_112 : decode cX10_letter 112 = .ok (.ireturn, 1) := by decide +kernel
theorem dX10_asks_0 : decode cX10_asks 0 = .ok (.ldc2_w 238, 3) := by decide +kernel
theorem dX10_asks_3 : decode cX10_asks 3 = .ok (.lstore_n 1, 1) := by decide +kernel
theorem dX10_asks_4 : decode cX10_asks 4 = .ok (.iconst 0, 1) := by decide +kernel
theorem dX10_asks_5 : decode cX10_asks 5 = .ok (.istore_n 3, 1) := by decide +kernel
theorem dX10_asks_6 : decode cX10_asks 6 = .ok (.iload_n 3, 1) := by decide +kernel
theorem dX10_asks_7 : decode cX10_asks 7 = .ok (.aload_n 0, 1) := by decide +kernel
theorem dX10_asks_8 : decode cX10_asks 8 = .ok (.getfield 13, 3) := by decide +kernel
theorem dX10_asks_11 : decode cX10_asks 11 = .ok (.iconst 2, 1) := by decide +kernel
theorem dX10_asks_12 : decode cX10_asks 12 = .ok (.iaload, 1) := by decide +kernel
theorem dX10_asks_13 : decode cX10_asks 13 = .ok (.if_icmp .ge 143, 3) := by decide +kernel
theorem dX10_asks_16 : decode cX10_asks 16 = .ok (.iload_n 3, 1) := by decide +kernel
theorem dX10_asks_17 : decode cX10_asks 17 = .ok (.iconst 1, 1) := by decide +kernel
theorem dX10_asks_18 : decode cX10_asks 18 = .ok (.iadd, 1) := by decide +kernel
theorem dX10_asks_19 : decode cX10_asks 19 = .ok (.istore 4, 2) := by decide +kernel
theorem dX10_asks_21 : decode cX10_asks 21 = .ok (.iload 4, 2) := by decide +kernel
theorem dX10_asks_23 : decode cX10_asks 23 = .ok (.aload_n 0, 1) := by decide +kernel
theorem dX10_asks_24 : decode cX10_asks 24 = .ok (.getfield 13, 3) := by decide +kernel
theorem dX10_asks_27 : decode cX10_asks 27 = .ok (.iconst 2, 1) := by decide +kernel
theorem dX10_asks_28 : decode cX10_asks 28 = .ok (.iaload, 1) := by decide +kernel
theorem dX10_asks_29 : decode cX10_asks 29 = .ok (.if_icmp .ge 121, 3) := by decide +kernel
theorem dX10_asks_32 : decode cX10_asks 32 = .ok (.aload_n 0, 1) := by decide +kernel
theorem dX10_asks_33 : decode cX10_asks 33 = .ok (.invokevirtual 169, 3) := by decide +kernel
theorem dX10_asks_36 : decode cX10_asks 36 = .ok (.aload_n 0, 1) := by decide +kernel
theorem dX10_asks_37 : decode cX10_asks 37 = .ok (.iload_n 3, 1) := by decide +kernel
theorem dX10_asks_38 : decode cX10_asks 38 = .ok (.iload 4, 2) := by decide +kernel
theorem dX10_asks_40 : decode cX10_asks 40 = .ok (.invokevirtual 175, 3) := by decide +kernel
theorem dX10_asks_43 : decode cX10_asks 43 = .ok (.ifCond .eq 101, 3) := by decide +kernel
theorem dX10_asks_46 : decode cX10_asks 46 = .ok (.aload_n 0, 1) := by decide +kernel
theorem dX10_asks_47 : decode cX10_asks 47 = .ok (.getfield 30, 3) := by decide +kernel
theorem dX10_asks_50 : decode cX10_asks 50 = .ok (.iload_n 3, 1) := by decide +kernel
theorem dX10_asks_51 : decode cX10_asks 51 = .ok (.iaload, 1) := by decide +kernel
theorem dX10_asks_52 : decode cX10_asks 52 = .ok (.iload 4, 2) := by decide +kernel
theorem dX10_asks_54 : decode cX10_asks 54 = .ok (.invokestatic 178, 3) := by decide +kernel
theorem dX10_asks_57 : decode cX10_asks 57 = .ok (.ifCond .ne 87, 3) := by decide +kernel
theorem dX10_asks_60 : decode cX10_asks 60 = .ok (.aload_n 0, 1) := by decide +kernel
theorem dX10_asks_61 : decode cX10_asks 61 = .ok (.getfield 30, 3) := by decide +kernel
theorem dX10_asks_64 : decode cX10_asks 64 = .ok (.iload 4, 2) := by decide +kernel
theorem dX10_asks_66 : decode cX10_asks 66 = .ok (.iaload, 1) := by decide +kernel
theorem dX10_asks_67 : decode cX10_asks 67 = .ok (.iload_n 3, 1) := by decide +kernel
theorem dX10_asks_68 : decode cX10_asks 68 = .ok (.invokestatic 178, 3) := by decide +kernel
theorem dX10_asks_71 : decode cX10_asks 71 = .ok (.ifCond .eq 6, 3) := by decide +kernel
theorem dX10_asks_74 : decode cX10_asks 74 = .ok (.goto 70, 3) := by decide +kernel
theorem dX10_asks_77 : decode cX10_asks 77 = .ok (.aload_n 0, 1) := by decide +kernel
theorem dX10_asks_78 : decode cX10_asks 78 = .ok (.iload_n 3, 1) := by decide +kernel
theorem dX10_asks_79 : decode cX10_asks 79 = .ok (.iload 4, 2) := by decide +kernel
theorem dX10_asks_81 : decode cX10_asks 81 = .ok (.invokevirtual 263, 3) := by decide +kernel
theorem dX10_asks_84 : decode cX10_asks 84 = .ok (.lstore 5, 2) := by decide +kernel
theorem dX10_asks_86 : decode cX10_asks 86 = .ok (.aload_n 0, 1) := by decide +kernel
theorem dX10_asks_87 : decode cX10_asks 87 = .ok (.iload 4, 2) := by decide +kernel
theorem dX10_asks_89 : decode cX10_asks 89 = .ok (.iload_n 3, 1) := by decide +kernel
theorem dX10_asks_90 : decode cX10_asks 90 = .ok (.invokevirtual 263, 3) := by decide +kernel
theorem dX10_asks_93 : decode cX10_asks 93 = .ok (.lstore 7, 2) := by decide +kernel
theorem dX10_asks_95 : decode cX10_asks 95 = .ok (.lload 5, 2) := by decide +kernel
theorem dX10_asks_97 : decode cX10_asks 97 = .ok (.lload 7, 2) := by decide +kernel
theorem dX10_asks_99 : decode cX10_asks 99 = .ok (.lcmp, 1) := by decide +kernel
theorem dX10_asks_100 : decode cX10_asks 100 = .ok (.ifCond .le 8, 3) := by decide +kernel
theorem dX10_asks_103 : decode cX10_asks 103 = .ok (.lload 5, 2) := by decide +kernel
theorem dX10_asks_105 : decode cX10_asks 105 = .ok (.goto 5, 3) := by decide +kernel
theorem dX10_asks_108 : decode cX10_asks 108 = .ok (.lload 7, 2) := by decide +kernel
theorem dX10_asks_110 : decode cX10_asks 110 = .ok (.lstore 9, 2) := by decide +kernel
theorem dX10_asks_112 : decode cX10_asks 112 = .ok (.lload_n 1, 1) := by decide +kernel
theorem dX10_asks_113 : decode cX10_asks 113 = .ok (.ldc2_w 238, 3) := by decide +kernel
theorem dX10_asks_116 : decode cX10_asks 116 = .ok (.lcmp, 1) := by decide +kernel
theorem dX10_asks_117 : decode cX10_asks 117 = .ok (.ifCond .eq 13, 3) := by decide +kernel
theorem dX10_asks_120 : decode cX10_asks 120 = .ok (.lload 9, 2) := by decide +kernel
theorem dX10_asks_122 : decode cX10_asks 122 = .ok (.lload_n 1, 1) := by decide +kernel
theorem dX10_asks_123 : decode cX10_asks 123 = .ok (.lcmp, 1) := by decide +kernel
theorem dX10_asks_124 : decode cX10_asks 124 = .ok (.ifCond .lt 6, 3) := by decide +kernel
theorem dX10_asks_127 : decode cX10_asks 127 = .ok (.goto 17, 3) := by decide +kernel
theorem dX10_asks_130 : decode cX10_asks 130 = .ok (.lload 9, 2) := by decide +kernel
theorem dX10_asks_132 : decode cX10_asks 132 = .ok (.lstore_n 1, 1) := by decide +kernel
theorem dX10_asks_133 : decode cX10_asks 133 = .ok (.aload_n 0, 1) := by decide +kernel
theorem dX10_asks_134 : decode cX10_asks 134 = .ok (.iload_n 3, 1) := by decide +kernel
theorem dX10_asks_135 : decode cX10_asks 135 = .ok (.putfield 328, 3) := by decide +kernel
theorem dX10_asks_138 : decode cX10_asks 138 = .ok (.aload_n 0, 1) := by decide +kernel
theorem dX10_asks_139 : decode cX10_asks 139 = .ok (.iload 4, 2) := by decide +kernel
theorem dX10_asks_141 : decode cX10_asks 141 = .ok (.putfield 331, 3) := by decide +kernel
theorem dX10_asks_144 : decode cX10_asks 144 = .ok (.iinc 4 1, 3) := by decide +kernel
theorem dX10_asks_147 : decode cX10_asks 147 = .ok (.goto (-126), 3) := by decide +kernel
theorem dX10_asks_150 : decode cX10_asks 150 = .ok (.iinc 3 1, 3) := by decide +kernel
theorem dX10_asks_153 : decode cX10_asks 153 = .ok (.goto (-147), 3) := by decide +kernel
theorem dX10_asks_156 : decode cX10_asks 156 = .ok (.lload_n 1, 1) := by decide +kernel
theorem dX10_asks_157 : decode cX10_asks 157 = .ok (.lreturn, 1) := by decide +kernel
theorem dX10_asking_0 : decode cX10_asking 0 = .ok (.aload_n 0, 1) := by decide +kernel
theorem dX10_asking_1 : decode cX10_asking 1 = .ok (.iconst 0, 1) := by decide +kernel
theorem dX10_asking_2 : decode cX10_asking 2 = .ok (.putfield 1, 3) := by decide +kernel
theorem dX10_asking_5 : decode cX10_asking 5 = .ok (.iload_n 1, 1) := by decide +kernel
theorem dX10_asking_6 : decode cX10_asking 6 = .ok (.i2l, 1) := by decide +kernel
theorem dX10_asking_7 : decode cX10_asking 7 = .ok (.lconst 0, 1) := by decide +kernel
theorem dX10_asking_8 : decode cX10_asking 8 = .ok (.ldc2_w 269, 3) := by decide +kernel
theorem dX10_asking_11 : decode cX10_asking 11 = .ok (.invokestatic 83, 3) := by decide +kernel
theorem dX10_asking_14 : decode cX10_asking 14 = .ok (.ifCond .ne 7, 3) := by decide +kernel
theorem dX10_asking_17 : decode cX10_asking 17 = .ok (.ldc2_w 267, 3) := by decide +kernel
theorem dX10_asking_20 : decode cX10_asking 20 = .ok (.lreturn, 1) := by decide +kernel
theorem dX10_asking_21 : decode cX10_asking 21 = .ok (.aload_n 0, 1) := by decide +kernel
theorem dX10_asking_22 : decode cX10_asking 22 = .ok (.invokevirtual 334, 3) := by decide +kernel
theorem dX10_asking_25 : decode cX10_asking 25 = .ok (.lstore_n 2, 1) := by decide +kernel
theorem dX10_asking_26 : decode cX10_asking 26 = .ok (.lload_n 2, 1) := by decide +kernel
theorem dX10_asking_27 : decode cX10_asking 27 = .ok (.ldc2_w 238, 3) := by decide +kernel
theorem dX10_asking_30 : decode cX10_asking 30 = .ok (.lcmp, 1) := by decide +kernel
theorem dX10_asking_31 : decode cX10_asking 31 = .ok (.ifCond .eq 8, 3) := by decide +kernel
theorem dX10_asking_34 : decode cX10_asking 34 = .ok (.iload_n 1, 1) := by decide +kernel
theorem dX10_asking_35 : decode cX10_asking 35 = .ok (.iconst 2, 1) := by decide +kernel
theorem dX10_asking_36 : decode cX10_asking 36 = .ok (.if_icmp .ne 7, 3) := by decide +kernel
theorem dX10_asking_39 : decode cX10_asking 39 = .ok (.lload_n 2, 1) := by decide +kernel
theorem dX10_asking_40 : decode cX10_asking 40 = .ok (.goto 20, 3) := by decide +kernel
theorem dX10_asking_43 : decode cX10_asking 43 = .ok (.iload_n 1, 1) := by decide +kernel
theorem dX10_asking_44 : decode cX10_asking 44 = .ok (.ifCond .ne 11, 3) := by decide +kernel
theorem dX10_asking_47 : decode cX10_asking 47 = .ok (.aload_n 0, 1) := by decide +kernel
theorem dX10_asking_48 : decode cX10_asking 48 = .ok (.getfield 328, 3) := by decide +kernel
theorem dX10_asking_51 : decode cX10_asking 51 = .ok (.i2l, 1) := by decide +kernel
theorem dX10_asking_52 : decode cX10_asking 52 = .ok (.goto 8, 3) := by decide +kernel
theorem dX10_asking_55 : decode cX10_asking 55 = .ok (.aload_n 0, 1) := by decide +kernel
theorem dX10_asking_56 : decode cX10_asking 56 = .ok (.getfield 331, 3) := by decide +kernel
theorem dX10_asking_59 : decode cX10_asking 59 = .ok (.i2l, 1) := by decide +kernel
theorem dX10_asking_60 : decode cX10_asking 60 = .ok (.lreturn, 1) := by decide +kernel
theorem dX10_looseOf_0 : decode cX10_looseOf 0 = .ok (.iconst 0, 1) := by decide +kernel
theorem dX10_looseOf_1 : decode cX10_looseOf 1 = .ok (.istore_n 2, 1) := by decide +kernel
theorem dX10_looseOf_2 : decode cX10_looseOf 2 = .ok (.iconst 0, 1) := by decide +kernel
theorem dX10_looseOf_3 : decode cX10_looseOf 3 = .ok (.istore_n 3, 1) := by decide +kernel
theorem dX10_looseOf_4 : decode cX10_looseOf 4 = .ok (.iload_n 3, 1) := by decide +kernel
theorem dX10_looseOf_5 : decode cX10_looseOf 5 = .ok (.aload_n 0, 1) := by decide +kernel
theorem dX10_looseOf_6 : decode cX10_looseOf 6 = .ok (.getfield 13, 3) := by decide +kernel
theorem dX10_looseOf_9 : decode cX10_looseOf 9 = .ok (.iconst 4, 1) := by decide +kernel
theorem dX10_looseOf_10 : decode cX10_looseOf 10 = .ok (.iaload, 1) := by decide +kernel
theorem dX10_looseOf_11 : decode cX10_looseOf 11 = .ok (.if_icmp .ge 32, 3) := by decide +kernel
theorem dX10_looseOf_14 : decode cX10_looseOf 14 = .ok (.iload_n 2, 1) := by decide +kernel
theorem dX10_looseOf_15 : decode cX10_looseOf 15 = .ok (.aload_n 0, 1) := by decide +kernel
theorem dX10_looseOf_16 : decode cX10_looseOf 16 = .ok (.iload_n 3, 1) := by decide +kernel
theorem dX10_looseOf_17 : decode cX10_looseOf 17 = .ok (.iconst 2, 1) := by decide +kernel
theorem dX10_looseOf_18 : decode cX10_looseOf 18 = .ok (.iconst (-1), 1) := by decide +kernel
theorem dX10_looseOf_19 : decode cX10_looseOf 19 = .ok (.invokevirtual 286, 3) := by decide +kernel
theorem dX10_looseOf_22 : decode cX10_looseOf 22 = .ok (.aload_n 0, 1) := by decide +kernel
theorem dX10_looseOf_23 : decode cX10_looseOf 23 = .ok (.iload_n 3, 1) := by decide +kernel
theorem dX10_looseOf_24 : decode cX10_looseOf 24 = .ok (.iconst 2, 1) := by decide +kernel
theorem dX10_looseOf_25 : decode cX10_looseOf 25 = .ok (.iload_n 1, 1) := by decide +kernel
theorem dX10_looseOf_26 : decode cX10_looseOf 26 = .ok (.invokevirtual 286, 3) := by decide +kernel
theorem dX10_looseOf_29 : decode cX10_looseOf 29 = .ok (.iconst (-1), 1) := by decide +kernel
theorem dX10_looseOf_30 : decode cX10_looseOf 30 = .ok (.ixor, 1) := by decide +kernel
theorem dX10_looseOf_31 : decode cX10_looseOf 31 = .ok (.iand, 1) := by decide +kernel
theorem dX10_looseOf_32 : decode cX10_looseOf 32 = .ok (.invokestatic 224, 3) := by decide +kernel
theorem dX10_looseOf_35 : decode cX10_looseOf 35 = .ok (.iadd, 1) := by decide +kernel
theorem dX10_looseOf_36 : decode cX10_looseOf 36 = .ok (.istore_n 2, 1) := by decide +kernel
theorem dX10_looseOf_37 : decode cX10_looseOf 37 = .ok (.iinc 3 1, 3) := by decide +kernel
theorem dX10_looseOf_40 : decode cX10_looseOf 40 = .ok (.goto (-36), 3) := by decide +kernel
theorem dX10_looseOf_43 : decode cX10_looseOf 43 = .ok (.iload_n 2, 1) := by decide +kernel
theorem dX10_looseOf_44 : decode cX10_looseOf 44 = .ok (.ireturn, 1) := by decide +kernel
theorem dX10_loose_0 : decode cX10_loose 0 = .ok (.aload_n 0, 1) := by decide +kernel
theorem dX10_loose_1 : decode cX10_loose 1 = .ok (.iconst 0, 1) := by decide +kernel
theorem dX10_loose_2 : decode cX10_loose 2 = .ok (.putfield 1, 3) := by decide +kernel
theorem dX10_loose_5 : decode cX10_loose 5 = .ok (.aload_n 0, 1) := by decide +kernel
theorem dX10_loose_6 : decode cX10_loose 6 = .ok (.iload_n 1, 1) := by decide +kernel
theorem dX10_loose_7 : decode cX10_loose 7 = .ok (.invokevirtual 229, 3) := by decide +kernel
theorem dX10_loose_10 : decode cX10_loose 10 = .ok (.ifCond .ne 6, 3) := by decide +kernel
theorem dX10_loose_13 : decode cX10_loose 13 = .ok (.bipush (-2), 2) := by decide +kernel
theorem dX10_loose_15 : decode cX10_loose 15 = .ok (.ireturn, 1) := by decide +kernel
theorem dX10_loose_16 : decode cX10_loose 16 = .ok (.aload_n 0, 1) := by decide +kernel
theorem dX10_loose_17 : decode cX10_loose 17 = .ok (.invokevirtual 221, 3) := by decide +kernel
theorem dX10_loose_20 : decode cX10_loose 20 = .ok (.aload_n 0, 1) := by decide +kernel
theorem dX10_loose_21 : decode cX10_loose 21 = .ok (.iload_n 1, 1) := by decide +kernel
theorem dX10_loose_22 : decode cX10_loose 22 = .ok (.invokevirtual 337, 3) := by decide +kernel
theorem dX10_loose_25 : decode cX10_loose 25 = .ok (.ireturn, 1) := by decide +kernel
theorem dX10_scrape_0 : decode cX10_scrape 0 = .ok (.aload_n 0, 1) := by decide +kernel
theorem dX10_scrape_1 : decode cX10_scrape 1 = .ok (.iconst 0, 1) := by decide +kernel
theorem dX10_scrape_2 : decode cX10_scrape 2 = .ok (.putfield 1, 3) := by decide +kernel
theorem dX10_scrape_5 : decode cX10_scrape 5 = .ok (.aload_n 0, 1) := by decide +kernel
theorem dX10_scrape_6 : decode cX10_scrape 6 = .ok (.invokevirtual 221, 3) := by decide +kernel
theorem dX10_scrape_9 : decode cX10_scrape 9 = .ok (.iconst (-1), 1) := by decide +kernel
theorem dX10_scrape_10 : decode cX10_scrape 10 = .ok (.istore_n 1, 1) := by decide +kernel
theorem dX10_scrape_11 : decode cX10_scrape 11 = .ok (.iconst 0, 1) := by decide +kernel
theorem dX10_scrape_12 : decode cX10_scrape 12 = .ok (.istore_n 2, 1) := by decide +kernel
theorem dX10_scrape_13 : decode cX10_scrape 13 = .ok (.iconst 0, 1) := by decide +kernel
theorem dX10_scrape_14 : decode cX10_scrape 14 = .ok (.istore_n 3, 1) := by decide +kernel
theorem dX10_scrape_15 : decode cX10_scrape 15 = .ok (.iload_n 3, 1) := by decide +kernel
theorem dX10_scrape_16 : decode cX10_scrape 16 = .ok (.aload_n 0, 1) := by decide +kernel
theorem dX10_scrape_17 : decode cX10_scrape 17 = .ok (.getfield 13, 3) := by decide +kernel
theorem dX10_scrape_20 : decode cX10_scrape 20 = .ok (.iconst 2, 1) := by decide +kernel
theorem dX10_scrape_21 : decode cX10_scrape 21 = .ok (.iaload, 1) := by decide +kernel
theorem dX10_scrape_22 : decode cX10_scrape 22 = .ok (.if_icmp .ge 30, 3) := by decide +kernel
theorem dX10_scrape_25 : decode cX10_scrape 25 = .ok (.aload_n 0, 1) := by decide +kernel
theorem dX10_scrape_26 : decode cX10_scrape 26 = .ok (.iload_n 3, 1) := by decide +kernel
theorem dX10_scrape_27 : decode cX10_scrape 27 = .ok (.invokevirtual 337, 3) := by decide +kernel
theorem dX10_scrape_30 : decode cX10_scrape 30 = .ok (.istore 4, 2) := by decide +kernel
theorem dX10_scrape_32 : decode cX10_scrape 32 = .ok (.iload 4, 2) := by decide +kernel
theorem dX10_scrape_34 : decode cX10_scrape 34 = .ok (.iload_n 2, 1) := by decide +kernel
theorem dX10_scrape_35 : decode cX10_scrape 35 = .ok (.if_icmp .gt 6, 3) := by decide +kernel
theorem dX10_scrape_38 : decode cX10_scrape 38 = .ok (.goto 8, 3) := by decide +kernel
theorem dX10_scrape_41 : decode cX10_scrape 41 = .ok (.iload_n 3, 1) := by decide +kernel
theorem dX10_scrape_42 : decode cX10_scrape 42 = .ok (.istore_n 1, 1) := by decide +kernel
theorem dX10_scrape_43 : decode cX10_scrape 43 = .ok (.iload 4, 2) := by decide +kernel
theorem dX10_scrape_45 : decode cX10_scrape 45 = .ok (.istore_n 2, 1) := by decide +kernel
theorem dX10_scrape_46 : decode cX10_scrape 46 = .ok (.iinc 3 1, 3) := by decide +kernel
theorem dX10_scrape_49 : decode cX10_scrape 49 = .ok (.goto (-34), 3) := by decide +kernel
theorem dX10_scrape_52 : decode cX10_scrape 52 = .ok (.iload_n 1, 1) := by decide +kernel
theorem dX10_scrape_53 : decode cX10_scrape 53 = .ok (.ireturn, 1) := by decide +kernel
theorem dX10_clearer_0 : decode cX10_clearer 0 = .ok (.aload_n 0, 1) := by decide +kernel
theorem dX10_clearer_1 : decode cX10_clearer 1 = .ok (.iconst 0, 1) := by decide +kernel
theorem dX10_clearer_2 : decode cX10_clearer 2 = .ok (.putfield 1, 3) := by decide +kernel
theorem dX10_clearer_5 : decode cX10_clearer 5 = .ok (.aload_n 0, 1) := by decide +kernel
theorem dX10_clearer_6 : decode cX10_clearer 6 = .ok (.iload_n 1, 1) := by decide +kernel
theorem dX10_clearer_7 : decode cX10_clearer 7 = .ok (.invokevirtual 283, 3) := by decide +kernel
theorem dX10_clearer_10 : decode cX10_clearer 10 = .ok (.ifCond .eq 11, 3) := by decide +kernel
theorem dX10_clearer_13 : decode cX10_clearer 13 = .ok (.aload_n 0, 1) := by decide +kernel
theorem dX10_clearer_14 : decode cX10_clearer 14 = .ok (.iload_n 2, 1) := by decide +kernel
theorem dX10_clearer_15 : decode cX10_clearer 15 = .ok (.invokevirtual 229, 3) := by decide +kernel
theorem dX10_clearer_18 : decode cX10_clearer 18 = .ok (.ifCond .ne 6, 3) := by decide +kernel
theorem dX10_clearer_21 : decode cX10_clearer 21 = .ok (.bipush (-2), 2) := by decide +kernel
theorem dX10_clearer_23 : decode cX10_clearer 23 = .ok (.ireturn, 1) := by decide +kernel
theorem dX10_clearer_24 : decode cX10_clearer 24 = .ok (.aload_n 0, 1) := by decide +kernel
theorem dX10_clearer_25 : decode cX10_clearer 25 = .ok (.invokevirtual 221, 3) := by decide +kernel
theorem dX10_clearer_28 : decode cX10_clearer 28 = .ok (.aload_n 0, 1) := by decide +kernel
theorem dX10_clearer_29 : decode cX10_clearer 29 = .ok (.iload_n 1, 1) := by decide +kernel
theorem dX10_clearer_30 : decode cX10_clearer 30 = .ok (.iload_n 2, 1) := by decide +kernel
theorem dX10_clearer_31 : decode cX10_clearer 31 = .ok (.invokevirtual 289, 3) := by decide +kernel
theorem dX10_clearer_34 : decode cX10_clearer 34 = .ok (.invokestatic 224, 3) := by decide +kernel
theorem dX10_clearer_37 : decode cX10_clearer 37 = .ok (.ireturn, 1) := by decide +kernel
theorem dX10_fitMany_0 : decode cX10_fitMany 0 = .ok (.aload_n 0, 1) := by decide +kernel
theorem dX10_fitMany_1 : decode cX10_fitMany 1 = .ok (.invokevirtual 295, 3) := by decide +kernel
theorem dX10_fitMany_4 : decode cX10_fitMany 4 = .ok (.iconst 0, 1) := by decide +kernel
theorem dX10_fitMany_5 : decode cX10_fitMany 5 = .ok (.istore_n 1, 1) := by decide +kernel
theorem dX10_fitMany_6 : decode cX10_fitMany 6 = .ok (.iconst 0, 1) := by decide +kernel
theorem dX10_fitMany_7 : decode cX10_fitMany 7 = .ok (.istore_n 2, 1) := by decide +kernel
theorem dX10_fitMany_8 : decode cX10_fitMany 8 = .ok (.iload_n 2, 1) := by decide +kernel
theorem dX10_fitMany_9 : decode cX10_fitMany 9 = .ok (.aload_n 0, 1) := by decide +kernel
theorem dX10_fitMany_10 : decode cX10_fitMany 10 = .ok (.getfield 13, 3) := by decide +kernel
theorem dX10_fitMany_13 : decode cX10_fitMany 13 = .ok (.iconst 4, 1) := by decide +kernel
theorem dX10_fitMany_14 : decode cX10_fitMany 14 = .ok (.iaload, 1) := by decide +kernel
theorem dX10_fitMany_15 : decode cX10_fitMany 15 = .ok (.if_icmp .ge 21, 3) := by decide +kernel
theorem dX10_fitMany_18 : decode cX10_fitMany 18 = .ok (.iload_n 1, 1) := by decide +kernel
theorem dX10_fitMany_19 : decode cX10_fitMany 19 = .ok (.aload_n 0, 1) := by decide +kernel
theorem dX10_fitMany_20 : decode cX10_fitMany 20 = .ok (.getfield 46, 3) := by decide +kernel
theorem dX10_fitMany_23 : decode cX10_fitMany 23 = .ok (.iload_n 2, 1) := by decide +kernel
theorem dX10_fitMany_24 : decode cX10_fitMany 24 = .ok (.iaload, 1) := by decide +kernel
theorem dX10_fitMany_25 : decode cX10_fitMany 25 = .ok (.invokestatic 224, 3) := by decide +kernel
theorem dX10_fitMany_28 : decode cX10_fitMany 28 = .ok (.iadd, 1) := by decide +kernel
theorem dX10_fitMany_29 : decode cX10_fitMany 29 = .ok (.istore_n 1, 1) := by decide +kernel
theorem dX10_fitMany_30 : decode cX10_fitMany 30 = .ok (.iinc 2 1, 3) := by decide +kernel
theorem dX10_fitMany_33 : decode cX10_fitMany 33 = .ok (.goto (-25), 3) := by decide +kernel
theorem dX10_fitMany_36 : decode cX10_fitMany 36 = .ok (.iload_n 1, 1) := by decide +kernel
theorem dX10_fitMany_37 : decode cX10_fitMany 37 = .ok (.ireturn, 1) := by decide +kernel
theorem dX10_spoilt_0 : decode cX10_spoilt 0 = .ok (.aload_n 0, 1) := by decide +kernel
theorem dX10_spoilt_1 : decode cX10_spoilt 1 = .ok (.iconst 0, 1) := by decide +kernel
theorem dX10_spoilt_2 : decode cX10_spoilt 2 = .ok (.putfield 1, 3) := by decide +kernel
theorem dX10_spoilt_5 : decode cX10_spoilt 5 = .ok (.aload_n 0, 1) := by decide +kernel
theorem dX10_spoilt_6 : decode cX10_spoilt 6 = .ok (.iload_n 1, 1) := by decide +kernel
theorem dX10_spoilt_7 : decode cX10_spoilt 7 = .ok (.invokevirtual 229, 3) := by decide +kernel
theorem dX10_spoilt_10 : decode cX10_spoilt 10 = .ok (.ifCond .ne 6, 3) := by decide +kernel
theorem dX10_spoilt_13 : decode cX10_spoilt 13 = .ok (.bipush (-2), 2) := by decide +kernel
theorem dX10_spoilt_15 : decode cX10_spoilt 15 = .ok (.ireturn, 1) := by decide +kernel
theorem dX10_spoilt_16 : decode cX10_spoilt 16 = .ok (.iload_n 2, 1) := by decide +kernel
theorem dX10_spoilt_17 : decode cX10_spoilt 17 = .ok (.i2l, 1) := by decide +kernel
theorem dX10_spoilt_18 : decode cX10_spoilt 18 = .ok (.lconst 0, 1) := by decide +kernel
theorem dX10_spoilt_19 : decode cX10_spoilt 19 = .ok (.lconst 1, 1) := by decide +kernel
theorem dX10_spoilt_20 : decode cX10_spoilt 20 = .ok (.invokestatic 83, 3) := by decide +kernel
theorem dX10_spoilt_23 : decode cX10_spoilt 23 = .ok (.ifCond .ne 6, 3) := by decide +kernel
theorem dX10_spoilt_26 : decode cX10_spoilt 26 = .ok (.bipush (-3), 2) := by decide +kernel
theorem dX10_spoilt_28 : decode cX10_spoilt 28 = .ok (.ireturn, 1) := by decide +kernel
theorem dX10_spoilt_29 : decode cX10_spoilt 29 = .ok (.aload_n 0, 1) := by decide +kernel
theorem dX10_spoilt_30 : decode cX10_spoilt 30 = .ok (.invokevirtual 340, 3) := by decide +kernel
theorem dX10_spoilt_33 : decode cX10_spoilt 33 = .ok (.istore_n 3, 1) := by decide +kernel
theorem dX10_spoilt_34 : decode cX10_spoilt 34 = .ok (.aload_n 0, 1) := by decide +kernel
theorem dX10_spoilt_35 : decode cX10_spoilt 35 = .ok (.getfield 13, 3) := by decide +kernel
theorem dX10_spoilt_38 : decode cX10_spoilt 38 = .ok (.sipush 183, 3) := by decide +kernel
theorem dX10_spoilt_41 : decode cX10_spoilt 41 = .ok (.iload_n 1, 1) := by decide +kernel
theorem dX10_spoilt_42 : decode cX10_spoilt 42 = .ok (.iadd, 1) := by decide +kernel
theorem dX10_spoilt_43 : decode cX10_spoilt 43 = .ok (.iaload, 1) := by decide +kernel
theorem dX10_spoilt_44 : decode cX10_spoilt 44 = .ok (.istore 4, 2) := by decide +kernel
theorem dX10_spoilt_46 : decode cX10_spoilt 46 = .ok (.aload_n 0, 1) := by decide +kernel
theorem dX10_spoilt_47 : decode cX10_spoilt 47 = .ok (.getfield 13, 3) := by decide +kernel
theorem dX10_spoilt_50 : decode cX10_spoilt 50 = .ok (.sipush 183, 3) := by decide +kernel
theorem dX10_spoilt_53 : decode cX10_spoilt 53 = .ok (.iload_n 1, 1) := by decide +kernel
theorem dX10_spoilt_54 : decode cX10_spoilt 54 = .ok (.iadd, 1) := by decide +kernel
theorem dX10_spoilt_55 : decode cX10_spoilt 55 = .ok (.iload_n 2, 1) := by decide +kernel
theorem dX10_spoilt_56 : decode cX10_spoilt 56 = .ok (.iconst 1, 1) := by decide +kernel
theorem dX10_spoilt_57 : decode cX10_spoilt 57 = .ok (.iadd, 1) := by decide +kernel
theorem dX10_spoilt_58 : decode cX10_spoilt 58 = .ok (.iastore, 1) := by decide +kernel
theorem dX10_spoilt_59 : decode cX10_spoilt 59 = .ok (.aload_n 0, 1) := by decide +kernel
theorem dX10_spoilt_60 : decode cX10_spoilt 60 = .ok (.invokevirtual 340, 3) := by decide +kernel
theorem dX10_spoilt_63 : decode cX10_spoilt 63 = .ok (.istore 5, 2) := by decide +kernel
theorem dX10_spoilt_65 : decode cX10_spoilt 65 = .ok (.aload_n 0, 1) := by decide +kernel
theorem dX10_spoilt_66 : decode cX10_spoilt 66 = .ok (.getfield 212, 3) := by decide +kernel
theorem dX10_spoilt_69 : decode cX10_spoilt 69 = .ok (.ifCond .le 7, 3) := by decide +kernel
theorem dX10_spoilt_72 : decode cX10_spoilt 72 = .ok (.iconst 1, 1) := by decide +kernel
theorem dX10_spoilt_73 : decode cX10_spoilt 73 = .ok (.goto 4, 3) := by decide +kernel
theorem dX10_spoilt_76 : decode cX10_spoilt 76 = .ok (.iconst 0, 1) := by decide +kernel
theorem dX10_spoilt_77 : decode cX10_spoilt 77 = .ok (.istore 6, 2) := by decide +kernel
theorem dX10_spoilt_79 : decode cX10_spoilt 79 = .ok (.aload_n 0, 1) := by decide +kernel
theorem dX10_spoilt_80 : decode cX10_spoilt 80 = .ok (.getfield 13, 3) := by decide +kernel
theorem dX10_spoilt_83 : decode cX10_spoilt 83 = .ok (.sipush 183, 3) := by decide +kernel
theorem dX10_spoilt_86 : decode cX10_spoilt 86 = .ok (.iload_n 1, 1) := by decide +kernel
theorem dX10_spoilt_87 : decode cX10_spoilt 87 = .ok (.iadd, 1) := by decide +kernel
theorem dX10_spoilt_88 : decode cX10_spoilt 88 = .ok (.iload 4, 2) := by decide +kernel
theorem dX10_spoilt_90 : decode cX10_spoilt 90 = .ok (.iastore, 1) := by decide +kernel
theorem dX10_spoilt_91 : decode cX10_spoilt 91 = .ok (.iload 6, 2) := by decide +kernel
theorem dX10_spoilt_93 : decode cX10_spoilt 93 = .ok (.ifCond .eq 14, 3) := by decide +kernel
theorem dX10_spoilt_96 : decode cX10_spoilt 96 = .ok (.sipush 1000, 3) := by decide +kernel
theorem dX10_spoilt_99 : decode cX10_spoilt 99 = .ok (.iload_n 3, 1) := by decide +kernel
theorem dX10_spoilt_100 : decode cX10_spoilt 100 = .ok (.iadd, 1) := by decide +kernel
theorem dX10_spoilt_101 : decode cX10_spoilt 101 = .ok (.iload 5, 2) := by decide +kernel
theorem dX10_spoilt_103 : decode cX10_spoilt 103 = .ok (.isub, 1) := by decide +kernel
theorem dX10_spoilt_104 : decode cX10_spoilt 104 = .ok (.goto 6, 3) := by decide +kernel
theorem dX10_spoilt_107 : decode cX10_spoilt 107 = .ok (.ldc_w 343, 3) := by decide +kernel
theorem dX10_spoilt_110 : decode cX10_spoilt 110 = .ok (.ireturn, 1) := by decide +kernel
theorem dX10_isRowAt_0 : decode cX10_isRowAt 0 = .ok (.iload_n 0, 1) := by decide +kernel
theorem dX10_isRowAt_1 : decode cX10_isRowAt 1 = .ok (.i2l, 1) := by decide +kernel
theorem dX10_isRowAt_2 : decode cX10_isRowAt 2 = .ok (.lconst 0, 1) := by decide +kernel
theorem dX10_isRowAt_3 : decode cX10_isRowAt 3 = .ok (.ldc2_w 326, 3) := by decide +kernel
theorem dX10_isRowAt_6 : decode cX10_isRowAt 6 = .ok (.invokestatic 83, 3) := by decide +kernel
theorem dX10_isRowAt_9 : decode cX10_isRowAt 9 = .ok (.ireturn, 1) := by decide +kernel
theorem dX10_row_0 : decode cX10_row 0 = .ok (.aload_n 0, 1) := by decide +kernel
theorem dX10_row_1 : decode cX10_row 1 = .ok (.iconst 0, 1) := by decide +kernel
theorem dX10_row_2 : decode cX10_row 2 = .ok (.putfield 1, 3) := by decide +kernel
theorem dX10_row_5 : decode cX10_row 5 = .ok (.iload_n 1, 1) := by decide +kernel
theorem dX10_row_6 : decode cX10_row 6 = .ok (.invokestatic 344, 3) := by decide +kernel
theorem dX10_row_9 : decode cX10_row 9 = .ok (.ifCond .ne 6, 3) := by decide +kernel
theorem dX10_row_12 : decode cX10_row 12 = .ok (.bipush (-2), 2) := by decide +kernel
theorem dX10_row_14 : decode cX10_row 14 = .ok (.ireturn, 1) := by decide +kernel
theorem dX10_row_15 : decode cX10_row 15 = .ok (.iload_n 2, 1) := by decide +kernel
theorem dX10_row_16 : decode cX10_row 16 = .ok (.i2l, 1) := by decide +kernel
theorem dX10_row_17 : decode cX10_row 17 = .ok (.lconst 0, 1) := by decide +kernel
theorem dX10_row_18 : decode cX10_row 18 = .ok (.lconst 1, 1) := by decide +kernel
theorem dX10_row_19 : decode cX10_row 19 = .ok (.invokestatic 83, 3) := by decide +kernel
theorem dX10_row_22 : decode cX10_row 22 = .ok (.ifCond .eq 15, 3) := by decide +kernel
theorem dX10_row_25 : decode cX10_row 25 = .ok (.iload_n 3, 1) := by decide +kernel
theorem dX10_row_26 : decode cX10_row 26 = .ok (.i2l, 1) := by decide +kernel
theorem dX10_row_27 : decode cX10_row 27 = .ok (.lconst 0, 1) := by decide +kernel
theorem dX10_row_28 : decode cX10_row 28 = .ok (.ldc2_w 347, 3) := by decide +kernel
theorem dX10_row_31 : decode cX10_row 31 = .ok (.invokestatic 83, 3) := by decide +kernel
theorem dX10_row_34 : decode cX10_row 34 = .ok (.ifCond .ne 6, 3) := by decide +kernel
theorem dX10_row_37 : decode cX10_row 37 = .ok (.bipush (-3), 2) := by decide +kernel
theorem dX10_row_39 : decode cX10_row 39 = .ok (.ireturn, 1) := by decide +kernel
theorem dX10_row_40 : decode cX10_row 40 = .ok (.aload_n 0, 1) := by decide +kernel
theorem dX10_row_41 : decode cX10_row 41 = .ok (.getfield 49, 3) := by decide +kernel
theorem dX10_row_44 : decode cX10_row 44 = .ok (.iload_n 1, 1) := by decide +kernel
theorem dX10_row_45 : decode cX10_row 45 = .ok (.iload_n 3, 1) := by decide +kernel
theorem dX10_row_46 : decode cX10_row 46 = .ok (.iastore, 1) := by decide +kernel
theorem dX10_row_47 : decode cX10_row 47 = .ok (.aload_n 0, 1) := by decide +kernel
theorem dX10_row_48 : decode cX10_row 48 = .ok (.getfield 52, 3) := by decide +kernel
theorem dX10_row_51 : decode cX10_row 51 = .ok (.iload_n 1, 1) := by decide +kernel
theorem dX10_row_52 : decode cX10_row 52 = .ok (.iload_n 2, 1) := by decide +kernel
theorem dX10_row_53 : decode cX10_row 53 = .ok (.iastore, 1) := by decide +kernel
theorem dX10_row_54 : decode cX10_row 54 = .ok (.iconst 0, 1) := by decide +kernel
theorem dX10_row_55 : decode cX10_row 55 = .ok (.istore 4, 2) := by decide +kernel
theorem dX10_row_57 : decode cX10_row 57 = .ok (.iload 4, 2) := by decide +kernel
theorem dX10_row_59 : decode cX10_row 59 = .ok (.iload_n 3, 1) := by decide +kernel
theorem dX10_row_60 : decode cX10_row 60 = .ok (.if_icmp .ge 22, 3) := by decide +kernel
theorem dX10_row_63 : decode cX10_row 63 = .ok (.aload_n 0, 1) := by decide +kernel
theorem dX10_row_64 : decode cX10_row 64 = .ok (.getfield 55, 3) := by decide +kernel
theorem dX10_row_67 : decode cX10_row 67 = .ok (.bipush 12, 2) := by decide +kernel
theorem dX10_row_69 : decode cX10_row 69 = .ok (.iload_n 1, 1) := by decide +kernel
theorem dX10_row_70 : decode cX10_row 70 = .ok (.imul, 1) := by decide +kernel
theorem dX10_row_71 : decode cX10_row 71 = .ok (.iload 4, 2) := by decide +kernel
theorem dX10_row_73 : decode cX10_row 73 = .ok (.iadd, 1) := by decide +kernel
theorem dX10_row_74 : decode cX10_row 74 = .ok (.iconst 0, 1) := by decide +kernel
theorem dX10_row_75 : decode cX10_row 75 = .ok (.iastore, 1) := by decide +kernel
theorem dX10_row_76 : decode cX10_row 76 = .ok (.iinc 4 1, 3) := by decide +kernel
theorem dX10_row_79 : decode cX10_row 79 = .ok (.goto (-22), 3) := by decide +kernel
theorem dX10_row_82 : decode cX10_row 82 = .ok (.iconst 0, 1) := by decide +kernel
theorem dX10_row_83 : decode cX10_row 83 = .ok (.ireturn, 1) := by decide +kernel
theorem dX10_write_0 : decode cX10_write 0 = .ok (.aload_n 0, 1) := by decide +kernel
theorem dX10_write_1 : decode cX10_write 1 = .ok (.iconst 0, 1) := by decide +kernel
theorem dX10_write_2 : decode cX10_write 2 = .ok (.putfield 1, 3) := by decide +kernel
theorem dX10_write_5 : decode cX10_write 5 = .ok (.iload_n 1, 1) := by decide +kernel
theorem dX10_write_6 : decode cX10_write 6 = .ok (.invokestatic 344, 3) := by decide +kernel
theorem dX10_write_9 : decode cX10_write 9 = .ok (.ifCond .ne 6, 3) := by decide +kernel
theorem dX10_write_12 : decode cX10_write 12 = .ok (.bipush (-2), 2) := by decide +kernel
theorem dX10_write_14 : decode cX10_write 14 = .ok (.ireturn, 1) := by decide +kernel
theorem dX10_write_15 : decode cX10_write 15 = .ok (.aload_n 0, 1) := by decide +kernel
theorem dX10_write_16 : decode cX10_write 16 = .ok (.getfield 49, 3) := by decide +kernel
theorem dX10_write_19 : decode cX10_write 19 = .ok (.iload_n 1, 1) := by decide +kernel
theorem dX10_write_20 : decode cX10_write 20 = .ok (.iaload, 1) := by decide +kernel
theorem dX10_write_21 : decode cX10_write 21 = .ok (.iconst (-1), 1) := by decide +kernel
theorem dX10_write_22 : decode cX10_write 22 = .ok (.if_icmp .ne 6, 3) := by decide +kernel
theorem dX10_write_25 : decode cX10_write 25 = .ok (.bipush (-6), 2) := by decide +kernel
theorem dX10_write_27 : decode cX10_write 27 = .ok (.ireturn, 1) := by decide +kernel
theorem dX10_write_28 : decode cX10_write 28 = .ok (.iload_n 2, 1) := by decide +kernel
theorem dX10_write_29 : decode cX10_write 29 = .ok (.i2l, 1) := by decide +kernel
theorem dX10_write_30 : decode cX10_write 30 = .ok (.lconst 0, 1) := by decide +kernel
theorem dX10_write_31 : decode cX10_write 31 = .ok (.aload_n 0, 1) := by decide +kernel
theorem dX10_write_32 : decode cX10_write 32 = .ok (.getfield 49, 3) := by decide +kernel
theorem dX10_write_35 : decode cX10_write 35 = .ok (.iload_n 1, 1) := by decide +kernel
theorem dX10_write_36 : decode cX10_write 36 = .ok (.iaload, 1) := by decide +kernel
theorem dX10_write_37 : decode cX10_write 37 = .ok (.iconst 1, 1) := by decide +kernel
theorem dX10_write_38 : decode cX10_write 38 = .ok (.isub, 1) := by decide +kernel
theorem dX10_write_39 : decode cX10_write 39 = .ok (.i2l, 1) := by decide +kernel
theorem dX10_write_40 : decode cX10_write 40 = .ok (.invokestatic 83, 3) := by decide +kernel
theorem dX10_write_43 : decode cX10_write 43 = .ok (.ifCond .ne 6, 3) := by decide +kernel
theorem dX10_write_46 : decode cX10_write 46 = .ok (.bipush (-7), 2) := by decide +kernel
theorem dX10_write_48 : decode cX10_write 48 = .ok (.ireturn, 1) := by decide +kernel
theorem dX10_write_49 : decode cX10_write 49 = .ok (.aload_n 0, 1) := by decide +kernel
theorem dX10_write_50 : decode cX10_write 50 = .ok (.getfield 55, 3) := by decide +kernel
theorem dX10_write_53 : decode cX10_write 53 = .ok (.bipush 12, 2) := by decide +kernel
theorem dX10_write_55 : decode cX10_write 55 = .ok (.iload_n 1, 1) := by decide +kernel
theorem dX10_write_56 : decode cX10_write 56 = .ok (.imul, 1) := by decide +kernel
theorem dX10_write_57 : decode cX10_write 57 = .ok (.iload_n 2, 1) := by decide +kernel
theorem dX10_write_58 : decode cX10_write 58 = .ok (.iadd, 1) := by decide +kernel
theorem dX10_write_59 : decode cX10_write 59 = .ok (.aload_n 0, 1) := by decide +kernel
theorem dX10_write_60 : decode cX10_write 60 = .ok (.getfield 52, 3) := by decide +kernel
theorem dX10_write_63 : decode cX10_write 63 = .ok (.iload_n 1, 1) := by decide +kernel
theorem dX10_write_64 : decode cX10_write 64 = .ok (.iaload, 1) := by decide +kernel
theorem dX10_write_65 : decode cX10_write 65 = .ok (.ifCond .ne 8, 3) := by decide +kernel
theorem dX10_write_68 : decode cX10_write 68 = .ok (.iload_n 3, 1) := by decide +kernel
theorem dX10_write_69 : decode cX10_write 69 = .ok (.i2s, 1) := by decide +kernel
theorem dX10_write_70 : decode cX10_write 70 = .ok (.goto 4, 3) := by decide +kernel
theorem dX10_write_73 : decode cX10_write 73 = .ok (.iload_n 3, 1) := by decide +kernel
theorem dX10_write_74 : decode cX10_write 74 = .ok (.iastore, 1) := by decide +kernel
theorem dX10_write_75 : decode cX10_write 75 = .ok (.aload_n 0, 1) := by decide +kernel
theorem dX10_write_76 : decode cX10_write 76 = .ok (.getfield 55, 3) := by decide +kernel
theorem dX10_write_79 : decode cX10_write 79 = .ok (.bipush 12, 2) := by decide +kernel
theorem dX10_write_81 : decode cX10_write 81 = .ok (.iload_n 1, 1) := by decide +kernel
theorem dX10_write_82 : decode cX10_write 82 = .ok (.imul, 1) := by decide +kernel
theorem dX10_write_83 : decode cX10_write 83 = .ok (.iload_n 2, 1) := by decide +kernel
theorem dX10_write_84 : decode cX10_write 84 = .ok (.iadd, 1) := by decide +kernel
theorem dX10_write_85 : decode cX10_write 85 = .ok (.iaload, 1) := by decide +kernel
theorem dX10_write_86 : decode cX10_write 86 = .ok (.ireturn, 1) := by decide +kernel
theorem dX10_paste_0 : decode cX10_paste 0 = .ok (.aload_n 0, 1) := by decide +kernel
theorem dX10_paste_1 : decode cX10_paste 1 = .ok (.iconst 0, 1) := by decide +kernel
theorem dX10_paste_2 : decode cX10_paste 2 = .ok (.putfield 1, 3) := by decide +kernel
theorem dX10_paste_5 : decode cX10_paste 5 = .ok (.iload_n 1, 1) := by decide +kernel
theorem dX10_paste_6 : decode cX10_paste 6 = .ok (.invokestatic 344, 3) := by decide +kernel
theorem dX10_paste_9 : decode cX10_paste 9 = .ok (.ifCond .eq 10, 3) := by decide +kernel
theorem dX10_paste_12 : decode cX10_paste 12 = .ok (.iload_n 3, 1) := by decide +kernel
theorem dX10_paste_13 : decode cX10_paste 13 = .ok (.invokestatic 344, 3) := by decide +kernel
theorem dX10_paste_16 : decode cX10_paste 16 = .ok (.ifCond .ne 6, 3) := by decide +kernel
theorem dX10_paste_19 : decode cX10_paste 19 = .ok (.bipush (-2), 2) := by decide +kernel
theorem dX10_paste_21 : decode cX10_paste 21 = .ok (.ireturn, 1) := by decide +kernel
theorem dX10_paste_22 : decode cX10_paste 22 = .ok (.aload_n 0, 1) := by decide +kernel
theorem dX10_paste_23 : decode cX10_paste 23 = .ok (.getfield 49, 3) := by decide +kernel
theorem dX10_paste_26 : decode cX10_paste 26 = .ok (.iload_n 1, 1) := by decide +kernel
theorem dX10_paste_27 : decode cX10_paste 27 = .ok (.iaload, 1) := by decide +kernel
theorem dX10_paste_28 : decode cX10_paste 28 = .ok (.iconst (-1), 1) := by decide +kernel
theorem dX10_paste_29 : decode cX10_paste 29 = .ok (.if_icmp .eq 13, 3) := by decide +kernel
theorem dX10_paste_32 : decode cX10_paste 32 = .ok (.aload_n 0, 1) := by decide +kernel
theorem dX10_paste_33 : decode cX10_paste 33 = .ok (.getfield 49, 3) := by decide +kernel
theorem dX10_paste_36 : decode cX10_paste 36 = .ok (.iload_n 3, 1) := by decide +kernel
theorem dX10_paste_37 : decode cX10_paste 37 = .ok (.iaload, 1) := by decide +kernel
theorem dX10_paste_38 : decode cX10_paste 38 = .ok (.iconst (-1), 1) := by decide +kernel
theorem dX10_paste_39 : decode cX10_paste 39 = .ok (.if_icmp .ne 6, 3) := by decide +kernel
theorem dX10_paste_42 : decode cX10_paste 42 = .ok (.bipush (-6), 2) := by decide +kernel
theorem dX10_paste_44 : decode cX10_paste 44 = .ok (.ireturn, 1) := by decide +kernel
theorem dX10_paste_45 : decode cX10_paste 45 = .ok (.aload_n 0, 1) := by decide +kernel
theorem dX10_paste_46 : decode cX10_paste 46 = .ok (.getfield 52, 3) := by decide +kernel
theorem dX10_paste_49 : decode cX10_paste 49 = .ok (.iload_n 1, 1) := by decide +kernel
theorem dX10_paste_50 : decode cX10_paste 50 = .ok (.iaload, 1) := by decide +kernel
theorem dX10_paste_51 : decode cX10_paste 51 = .ok (.aload_n 0, 1) := by decide +kernel
theorem dX10_paste_52 : decode cX10_paste 52 = .ok (.getfield 52, 3) := by decide +kernel
theorem dX10_paste_55 : decode cX10_paste 55 = .ok (.iload_n 3, 1) := by decide +kernel
theorem dX10_paste_56 : decode cX10_paste 56 = .ok (.iaload, 1) := by decide +kernel
theorem dX10_paste_57 : decode cX10_paste 57 = .ok (.if_icmp .eq 6, 3) := by decide +kernel
theorem dX10_paste_60 : decode cX10_paste 60 = .ok (.bipush (-8), 2) := by decide +kernel
theorem dX10_paste_62 : decode cX10_paste 62 = .ok (.ireturn, 1) := by decide +kernel
theorem dX10_paste_63 : decode cX10_paste 63 = .ok (.iload_n 2, 1) := by decide +kernel
theorem dX10_paste_64 : decode cX10_paste 64 = .ok (.ifCond .lt 48, 3) := by decide +kernel
theorem dX10_paste_67 : decode cX10_paste 67 = .ok (.iload 4, 2) := by decide +kernel
theorem dX10_paste_69 : decode cX10_paste 69 = .ok (.ifCond .lt 43, 3) := by decide +kernel
theorem dX10_paste_72 : decode cX10_paste 72 = .ok (.iload 5, 2) := by decide +kernel
theorem dX10_paste_74 : decode cX10_paste 74 = .ok (.ifCond .lt 38, 3) := by decide +kernel
theorem dX10_paste_77 : decode cX10_paste 77 = .ok (.iload_n 2, 1) := by decide +kernel
theorem dX10_paste_78 : decode cX10_paste 78 = .ok (.i2l, 1) := by decide +kernel
theorem dX10_paste_79 : decode cX10_paste 79 = .ok (.iload 5, 2) := by decide +kernel
theorem dX10_paste_81 : decode cX10_paste 81 = .ok (.i2l, 1) := by decide +kernel
theorem dX10_paste_82 : decode cX10_paste 82 = .ok (.ladd, 1) := by decide +kernel
theorem dX10_paste_83 : decode cX10_paste 83 = .ok (.aload_n 0, 1) := by decide +kernel
theorem dX10_paste_84 : decode cX10_paste 84 = .ok (.getfield 49, 3) := by decide +kernel
theorem dX10_paste_87 : decode cX10_paste 87 = .ok (.iload_n 1, 1) := by decide +kernel
theorem dX10_paste_88 : decode cX10_paste 88 = .ok (.iaload, 1) := by decide +kernel
theorem dX10_paste_89 : decode cX10_paste 89 = .ok (.i2l, 1) := by decide +kernel
theorem dX10_paste_90 : decode cX10_paste 90 = .ok (.lcmp, 1) := by decide +kernel
theorem dX10_paste_91 : decode cX10_paste 91 = .ok (.ifCond .gt 21, 3) := by decide +kernel
theorem dX10_paste_94 : decode cX10_paste 94 = .ok (.iload 4, 2) := by decide +kernel
theorem dX10_paste_96 : decode cX10_paste 96 = .ok (.i2l, 1) := by decide +kernel
theorem dX10_paste_97 : decode cX10_paste 97 = .ok (.iload 5, 2) := by decide +kernel
theorem dX10_paste_99 : decode cX10_paste 99 = .ok (.i2l, 1) := by decide +kernel
theorem dX10_paste_100 : decode cX10_paste 100 = .ok (.ladd, 1) := by decide +kernel
theorem dX10_paste_101 : decode cX10_paste 101 = .ok (.aload_n 0, 1) := by decide +kernel
theorem dX10_paste_102 : decode cX10_paste 102 = .ok (.getfield 49, 3) := by decide +kernel
theorem dX10_paste_105 : decode cX10_paste 105 = .ok (.iload_n 3, 1) := by decide +kernel
theorem dX10_paste_106 : decode cX10_paste 106 = .ok (.iaload, 1) := by decide +kernel
theorem dX10_paste_107 : decode cX10_paste 107 = .ok (.i2l, 1) := by decide +kernel
theorem dX10_paste_108 : decode cX10_paste 108 = .ok (.lcmp, 1) := by decide +kernel
theorem dX10_paste_109 : decode cX10_paste 109 = .ok (.ifCond .le 6, 3) := by decide +kernel
theorem dX10_paste_112 : decode cX10_paste 112 = .ok (.bipush (-7), 2) := by decide +kernel
theorem dX10_paste_114 : decode cX10_paste 114 = .ok (.ireturn, 1) := by decide +kernel
theorem dX10_paste_115 : decode cX10_paste 115 = .ok (.iconst 0, 1) := by decide +kernel
theorem dX10_paste_116 : decode cX10_paste 116 = .ok (.istore 6, 2) := by decide +kernel
theorem dX10_paste_118 : decode cX10_paste 118 = .ok (.iload 6, 2) := by decide +kernel
theorem dX10_paste_120 : decode cX10_paste 120 = .ok (.iload 5, 2) := by decide +kernel
theorem dX10_paste_122 : decode cX10_paste 122 = .ok (.if_icmp .ge 58, 3) := by decide +kernel
theorem dX10_paste_125 : decode cX10_paste 125 = .ok (.iload_n 2, 1) := by decide +kernel
theorem dX10_paste_126 : decode cX10_paste 126 = .ok (.iload 4, 2) := by decide +kernel
theorem dX10_paste_128 : decode cX10_paste 128 = .ok (.if_icmp .ge 13, 3) := by decide +kernel
theorem dX10_paste_131 : decode cX10_paste 131 = .ok (.iload 5, 2) := by decide +kernel
theorem dX10_paste_133 : decode cX10_paste 133 = .ok (.iconst 1, 1) := by decide +kernel
theorem dX10_paste_134 : decode cX10_paste 134 = .ok (.isub, 1) := by decide +kernel
theorem dX10_paste_135 : decode cX10_paste 135 = .ok (.iload 6, 2) := by decide +kernel
theorem dX10_paste_137 : decode cX10_paste 137 = .ok (.isub, 1) := by decide +kernel
theorem dX10_paste_138 : decode cX10_paste 138 = .ok (.goto 5, 3) := by decide +kernel
theorem dX10_paste_141 : decode cX10_paste 141 = .ok (.iload 6, 2) := by decide +kernel
theorem dX10_paste_143 : decode cX10_paste 143 = .ok (.istore 7, 2) := by decide +kernel
theorem dX10_paste_145 : decode cX10_paste 145 = .ok (.aload_n 0, 1) := by decide +kernel
theorem dX10_paste_146 : decode cX10_paste 146 = .ok (.getfield 55, 3) := by decide +kernel
theorem dX10_paste_149 : decode cX10_paste 149 = .ok (.bipush 12, 2) := by decide +kernel
theorem dX10_paste_151 : decode cX10_paste 151 = .ok (.iload_n 3, 1) := by decide +kernel
theorem dX10_paste_152 : decode cX10_paste 152 = .ok (.imul, 1) := by decide +kernel
theorem dX10_paste_153 : decode cX10_paste 153 = .ok (.iload 4, 2) := by decide +kernel
theorem dX10_paste_155 : decode cX10_paste 155 = .ok (.iadd, 1) := by decide +kernel
theorem dX10_paste_156 : decode cX10_paste 156 = .ok (.iload 7, 2) := by decide +kernel
theorem dX10_paste_158 : decode cX10_paste 158 = .ok (.iadd, 1) := by decide +kernel
theorem dX10_paste_159 : decode cX10_paste 159 = .ok (.aload_n 0, 1) := by decide +kernel
theorem dX10_paste_160 : decode cX10_paste 160 = .ok (.getfield 55, 3) := by decide +kernel
theorem dX10_paste_163 : decode cX10_paste 163 = .ok (.bipush 12, 2) := by decide +kernel
theorem dX10_paste_165 : decode cX10_paste 165 = .ok (.iload_n 1, 1) := by decide +kernel
theorem dX10_paste_166 : decode cX10_paste 166 = .ok (.imul, 1) := by decide +kernel
theorem dX10_paste_167 : decode cX10_paste 167 = .ok (.iload_n 2, 1) := by decide +kernel
theorem dX10_paste_168 : decode cX10_paste 168 = .ok (.iadd, 1) := by decide +kernel
theorem dX10_paste_169 : decode cX10_paste 169 = .ok (.iload 7, 2) := by decide +kernel
theorem dX10_paste_171 : decode cX10_paste 171 = .ok (.iadd, 1) := by decide +kernel
theorem dX10_paste_172 : decode cX10_paste 172 = .ok (.iaload, 1) := by decide +kernel
theorem dX10_paste_173 : decode cX10_paste 173 = .ok (.iastore, 1) := by decide +kernel
theorem dX10_paste_174 : decode cX10_paste 174 = .ok (.iinc 6 1, 3) := by decide +kernel
theorem dX10_paste_177 : decode cX10_paste 177 = .ok (.goto (-59), 3) := by decide +kernel
theorem dX10_paste_180 : decode cX10_paste 180 = .ok (.iconst 0, 1) := by decide +kernel
theorem dX10_paste_181 : decode cX10_paste 181 = .ok (.ireturn, 1) := by decide +kernel
theorem dX10_judge_0 : decode cX10_judge 0 = .ok (.aload_n 0, 1) := by decide +kernel
theorem dX10_judge_1 : decode cX10_judge 1 = .ok (.iconst 0, 1) := by decide +kernel
theorem dX10_judge_2 : decode cX10_judge 2 = .ok (.putfield 1, 3) := by decide +kernel
theorem dX10_judge_5 : decode cX10_judge 5 = .ok (.iload_n 1, 1) := by decide +kernel
theorem dX10_judge_6 : decode cX10_judge 6 = .ok (.invokestatic 344, 3) := by decide +kernel
theorem dX10_judge_9 : decode cX10_judge 9 = .ok (.ifCond .ne 6, 3) := by decide +kernel
theorem dX10_judge_12 : decode cX10_judge 12 = .ok (.bipush (-2), 2) := by decide +kernel
theorem dX10_judge_14 : decode cX10_judge 14 = .ok (.ireturn, 1) := by decide +kernel
theorem dX10_judge_15 : decode cX10_judge 15 = .ok (.aload_n 0, 1) := by decide +kernel
theorem dX10_judge_16 : decode cX10_judge 16 = .ok (.getfield 49, 3) := by decide +kernel
theorem dX10_judge_19 : decode cX10_judge 19 = .ok (.iload_n 1, 1) := by decide +kernel
theorem dX10_judge_20 : decode cX10_judge 20 = .ok (.iaload, 1) := by decide +kernel
theorem dX10_judge_21 : decode cX10_judge 21 = .ok (.iconst (-1), 1) := by decide +kernel
theorem dX10_judge_22 : decode cX10_judge 22 = .ok (.if_icmp .ne 6, 3) := by decide +kernel
theorem dX10_judge_25 : decode cX10_judge 25 = .ok (.bipush (-6), 2) := by decide +kernel
theorem dX10_judge_27 : decode cX10_judge 27 = .ok (.ireturn, 1) := by decide +kernel
theorem dX10_judge_28 : decode cX10_judge 28 = .ok (.aload_n 0, 1) := by decide +kernel
theorem dX10_judge_29 : decode cX10_judge 29 = .ok (.invokevirtual 295, 3) := by decide +kernel
theorem dX10_judge_32 : decode cX10_judge 32 = .ok (.iconst 0, 1) := by decide +kernel
theorem dX10_judge_33 : decode cX10_judge 33 = .ok (.istore_n 2, 1) := by decide +kernel
theorem dX10_judge_34 : decode cX10_judge 34 = .ok (.iload_n 2, 1) := by decide +kernel
theorem dX10_judge_35 : decode cX10_judge 35 = .ok (.aload_n 0, 1) := by decide +kernel
theorem dX10_judge_36 : decode cX10_judge 36 = .ok (.getfield 49, 3) := by decide +kernel
theorem dX10_judge_39 : decode cX10_judge 39 = .ok (.iload_n 1, 1) := by decide +kernel
theorem dX10_judge_40 : decode cX10_judge 40 = .ok (.iaload, 1) := by decide +kernel
theorem dX10_judge_41 : decode cX10_judge 41 = .ok (.if_icmp .ge 54, 3) := by decide +kernel
theorem dX10_judge_44 : decode cX10_judge 44 = .ok (.iload_n 2, 1) := by decide +kernel
theorem dX10_judge_45 : decode cX10_judge 45 = .ok (.aload_n 0, 1) := by decide +kernel
theorem dX10_judge_46 : decode cX10_judge 46 = .ok (.getfield 13, 3) := by decide +kernel
theorem dX10_judge_49 : decode cX10_judge 49 = .ok (.iconst 4, 1) := by decide +kernel
theorem dX10_judge_50 : decode cX10_judge 50 = .ok (.iaload, 1) := by decide +kernel
theorem dX10_judge_51 : decode cX10_judge 51 = .ok (.if_icmp .ge 44, 3) := by decide +kernel
theorem dX10_judge_54 : decode cX10_judge 54 = .ok (.aload_n 0, 1) := by decide +kernel
theorem dX10_judge_55 : decode cX10_judge 55 = .ok (.getfield 55, 3) := by decide +kernel
theorem dX10_judge_58 : decode cX10_judge 58 = .ok (.bipush 12, 2) := by decide +kernel
theorem dX10_judge_60 : decode cX10_judge 60 = .ok (.iload_n 1, 1) := by decide +kernel
theorem dX10_judge_61 : decode cX10_judge 61 = .ok (.imul, 1) := by decide +kernel
theorem dX10_judge_62 : decode cX10_judge 62 = .ok (.iload_n 2, 1) := by decide +kernel
theorem dX10_judge_63 : decode cX10_judge 63 = .ok (.iadd, 1) := by decide +kernel
theorem dX10_judge_64 : decode cX10_judge 64 = .ok (.iaload, 1) := by decide +kernel
theorem dX10_judge_65 : decode cX10_judge 65 = .ok (.istore_n 3, 1) := by decide +kernel
theorem dX10_judge_66 : decode cX10_judge 66 = .ok (.aload_n 0, 1) := by decide +kernel
theorem dX10_judge_67 : decode cX10_judge 67 = .ok (.iload_n 3, 1) := by decide +kernel
theorem dX10_judge_68 : decode cX10_judge 68 = .ok (.invokevirtual 240, 3) := by decide +kernel
theorem dX10_judge_71 : decode cX10_judge 71 = .ok (.ifCond .eq 24, 3) := by decide +kernel
theorem dX10_judge_74 : decode cX10_judge 74 = .ok (.aload_n 0, 1) := by decide +kernel
theorem dX10_judge_75 : decode cX10_judge 75 = .ok (.iload_n 2, 1) := by decide +kernel
theorem dX10_judge_76 : decode cX10_judge 76 = .ok (.invokevirtual 298, 3) := by decide +kernel
theorem dX10_judge_79 : decode cX10_judge 79 = .ok (.iload_n 3, 1) := by decide +kernel
theorem dX10_judge_80 : decode cX10_judge 80 = .ok (.invokestatic 178, 3) := by decide +kernel
theorem dX10_judge_83 : decode cX10_judge 83 = .ok (.ifCond .ne 6, 3) := by decide +kernel
theorem dX10_judge_86 : decode cX10_judge 86 = .ok (.goto 9, 3) := by decide +kernel
