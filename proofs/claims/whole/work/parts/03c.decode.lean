theorem dX9_stroke_136 : decode cX9_stroke 136 = .ok (.ireturn, 1) := by decide +kernel
theorem dX9_stroke_137 : decode cX9_stroke 137 = .ok (.aload_n 0, 1) := by decide +kernel
theorem dX9_stroke_138 : decode cX9_stroke 138 = .ok (.getfield 10, 3) := by decide +kernel
theorem dX9_stroke_141 : decode cX9_stroke 141 = .ok (.getfield 207, 3) := by decide +kernel
theorem dX9_stroke_144 : decode cX9_stroke 144 = .ok (.iload_n 1, 1) := by decide +kernel
theorem dX9_stroke_145 : decode cX9_stroke 145 = .ok (.iaload, 1) := by decide +kernel
theorem dX9_stroke_146 : decode cX9_stroke 146 = .ok (.ireturn, 1) := by decide +kernel
theorem dX9_stroke_147 : decode cX9_stroke 147 = .ok (.aload_n 0, 1) := by decide +kernel
theorem dX9_stroke_148 : decode cX9_stroke 148 = .ok (.getfield 10, 3) := by decide +kernel
theorem dX9_stroke_151 : decode cX9_stroke 151 = .ok (.getfield 210, 3) := by decide +kernel
theorem dX9_stroke_154 : decode cX9_stroke 154 = .ok (.iload_n 1, 1) := by decide +kernel
theorem dX9_stroke_155 : decode cX9_stroke 155 = .ok (.iaload, 1) := by decide +kernel
theorem dX9_stroke_156 : decode cX9_stroke 156 = .ok (.ireturn, 1) := by decide +kernel
theorem dX9_stroke_157 : decode cX9_stroke 157 = .ok (.aload_n 0, 1) := by decide +kernel
theorem dX9_stroke_158 : decode cX9_stroke 158 = .ok (.getfield 10, 3) := by decide +kernel
theorem dX9_stroke_161 : decode cX9_stroke 161 = .ok (.getfield 213, 3) := by decide +kernel
theorem dX9_stroke_164 : decode cX9_stroke 164 = .ok (.iload_n 1, 1) := by decide +kernel
theorem dX9_stroke_165 : decode cX9_stroke 165 = .ok (.iaload, 1) := by decide +kernel
theorem dX9_stroke_166 : decode cX9_stroke 166 = .ok (.ireturn, 1) := by decide +kernel
theorem dX9_stroke_167 : decode cX9_stroke 167 = .ok (.bipush (-2), 2) := by decide +kernel
theorem dX9_stroke_169 : decode cX9_stroke 169 = .ok (.ireturn, 1) := by decide +kernel
theorem dX9_crossing_0 : decode cX9_crossing 0 = .ok (.aload_n 0, 1) := by decide +kernel
theorem dX9_crossing_1 : decode cX9_crossing 1 = .ok (.getfield 10, 3) := by decide +kernel
theorem dX9_crossing_4 : decode cX9_crossing 4 = .ok (.iload_n 1, 1) := by decide +kernel
theorem dX9_crossing_5 : decode cX9_crossing 5 = .ok (.iload_n 2, 1) := by decide +kernel
theorem dX9_crossing_6 : decode cX9_crossing 6 = .ok (.invokevirtual 216, 3) := by decide +kernel
theorem dX9_crossing_9 : decode cX9_crossing 9 = .ok (.ifCond .ne 6, 3) := by decide +kernel
theorem dX9_crossing_12 : decode cX9_crossing 12 = .ok (.bipush (-2), 2) := by decide +kernel
theorem dX9_crossing_14 : decode cX9_crossing 14 = .ok (.ireturn, 1) := by decide +kernel
theorem dX9_crossing_15 : decode cX9_crossing 15 = .ok (.aload_n 0, 1) := by decide +kernel
theorem dX9_crossing_16 : decode cX9_crossing 16 = .ok (.getfield 10, 3) := by decide +kernel
theorem dX9_crossing_19 : decode cX9_crossing 19 = .ok (.iload_n 1, 1) := by decide +kernel
theorem dX9_crossing_20 : decode cX9_crossing 20 = .ok (.iload_n 2, 1) := by decide +kernel
theorem dX9_crossing_21 : decode cX9_crossing 21 = .ok (.invokevirtual 219, 3) := by decide +kernel
theorem dX9_crossing_24 : decode cX9_crossing 24 = .ok (.ireturn, 1) := by decide +kernel
theorem dX9_ring_0 : decode cX9_ring 0 = .ok (.iload_n 1, 1) := by decide +kernel
theorem dX9_ring_1 : decode cX9_ring 1 = .ok (.ifCond .ge 6, 3) := by decide +kernel
theorem dX9_ring_4 : decode cX9_ring 4 = .ok (.bipush (-3), 2) := by decide +kernel
theorem dX9_ring_6 : decode cX9_ring 6 = .ok (.ireturn, 1) := by decide +kernel
theorem dX9_ring_7 : decode cX9_ring 7 = .ok (.iload_n 1, 1) := by decide +kernel
theorem dX9_ring_8 : decode cX9_ring 8 = .ok (.aload_n 0, 1) := by decide +kernel
theorem dX9_ring_9 : decode cX9_ring 9 = .ok (.getfield 39, 3) := by decide +kernel
theorem dX9_ring_12 : decode cX9_ring 12 = .ok (.getfield 223, 3) := by decide +kernel
theorem dX9_ring_15 : decode cX9_ring 15 = .ok (.if_icmp .ge 15, 3) := by decide +kernel
theorem dX9_ring_18 : decode cX9_ring 18 = .ok (.aload_n 0, 1) := by decide +kernel
theorem dX9_ring_19 : decode cX9_ring 19 = .ok (.getfield 39, 3) := by decide +kernel
theorem dX9_ring_22 : decode cX9_ring 22 = .ok (.getfield 224, 3) := by decide +kernel
theorem dX9_ring_25 : decode cX9_ring 25 = .ok (.iload_n 1, 1) := by decide +kernel
theorem dX9_ring_26 : decode cX9_ring 26 = .ok (.iaload, 1) := by decide +kernel
theorem dX9_ring_27 : decode cX9_ring 27 = .ok (.goto 4, 3) := by decide +kernel
theorem dX9_ring_30 : decode cX9_ring 30 = .ok (.iconst (-1), 1) := by decide +kernel
theorem dX9_ring_31 : decode cX9_ring 31 = .ok (.ireturn, 1) := by decide +kernel
theorem dX9_order_0 : decode cX9_order 0 = .ok (.iload_n 1, 1) := by decide +kernel
theorem dX9_order_1 : decode cX9_order 1 = .ok (.ifCond .ge 6, 3) := by decide +kernel
theorem dX9_order_4 : decode cX9_order 4 = .ok (.bipush (-3), 2) := by decide +kernel
theorem dX9_order_6 : decode cX9_order 6 = .ok (.ireturn, 1) := by decide +kernel
theorem dX9_order_7 : decode cX9_order 7 = .ok (.iload_n 1, 1) := by decide +kernel
theorem dX9_order_8 : decode cX9_order 8 = .ok (.aload_n 0, 1) := by decide +kernel
theorem dX9_order_9 : decode cX9_order 9 = .ok (.getfield 10, 3) := by decide +kernel
theorem dX9_order_12 : decode cX9_order 12 = .ok (.getfield 227, 3) := by decide +kernel
theorem dX9_order_15 : decode cX9_order 15 = .ok (.if_icmp .ge 14, 3) := by decide +kernel
theorem dX9_order_18 : decode cX9_order 18 = .ok (.aload_n 0, 1) := by decide +kernel
theorem dX9_order_19 : decode cX9_order 19 = .ok (.getfield 10, 3) := by decide +kernel
theorem dX9_order_22 : decode cX9_order 22 = .ok (.iload_n 1, 1) := by decide +kernel
theorem dX9_order_23 : decode cX9_order 23 = .ok (.invokevirtual 229, 3) := by decide +kernel
theorem dX9_order_26 : decode cX9_order 26 = .ok (.goto 4, 3) := by decide +kernel
theorem dX9_order_29 : decode cX9_order 29 = .ok (.iconst (-1), 1) := by decide +kernel
theorem dX9_order_30 : decode cX9_order 30 = .ok (.ireturn, 1) := by decide +kernel
theorem dX9_orders_0 : decode cX9_orders 0 = .ok (.aload_n 0, 1) := by decide +kernel
theorem dX9_orders_1 : decode cX9_orders 1 = .ok (.getfield 53, 3) := by decide +kernel
theorem dX9_orders_4 : decode cX9_orders 4 = .ok (.aload_n 0, 1) := by decide +kernel
theorem dX9_orders_5 : decode cX9_orders 5 = .ok (.getfield 10, 3) := by decide +kernel
theorem dX9_orders_8 : decode cX9_orders 8 = .ok (.invokevirtual 232, 3) := by decide +kernel
theorem dX9_orders_11 : decode cX9_orders 11 = .ok (.aload_n 0, 1) := by decide +kernel
theorem dX9_orders_12 : decode cX9_orders 12 = .ok (.getfield 53, 3) := by decide +kernel
theorem dX9_orders_15 : decode cX9_orders 15 = .ok (.getfield 236, 3) := by decide +kernel
theorem dX9_orders_18 : decode cX9_orders 18 = .ok (.i2l, 1) := by decide +kernel
theorem dX9_orders_19 : decode cX9_orders 19 = .ok (.lreturn, 1) := by decide +kernel
theorem dX9_ahead_0 : decode cX9_ahead 0 = .ok (.aload_n 0, 1) := by decide +kernel
theorem dX9_ahead_1 : decode cX9_ahead 1 = .ok (.getfield 10, 3) := by decide +kernel
theorem dX9_ahead_4 : decode cX9_ahead 4 = .ok (.iload_n 1, 1) := by decide +kernel
theorem dX9_ahead_5 : decode cX9_ahead 5 = .ok (.iload_n 2, 1) := by decide +kernel
theorem dX9_ahead_6 : decode cX9_ahead 6 = .ok (.invokevirtual 216, 3) := by decide +kernel
theorem dX9_ahead_9 : decode cX9_ahead 9 = .ok (.ifCond .ne 7, 3) := by decide +kernel
theorem dX9_ahead_12 : decode cX9_ahead 12 = .ok (.ldc2_w 239, 3) := by decide +kernel
theorem dX9_ahead_15 : decode cX9_ahead 15 = .ok (.lreturn, 1) := by decide +kernel
theorem dX9_ahead_16 : decode cX9_ahead 16 = .ok (.aload_n 0, 1) := by decide +kernel
theorem dX9_ahead_17 : decode cX9_ahead 17 = .ok (.getfield 53, 3) := by decide +kernel
theorem dX9_ahead_20 : decode cX9_ahead 20 = .ok (.aload_n 0, 1) := by decide +kernel
theorem dX9_ahead_21 : decode cX9_ahead 21 = .ok (.getfield 10, 3) := by decide +kernel
theorem dX9_ahead_24 : decode cX9_ahead 24 = .ok (.invokevirtual 241, 3) := by decide +kernel
theorem dX9_ahead_27 : decode cX9_ahead 27 = .ok (.aload_n 0, 1) := by decide +kernel
theorem dX9_ahead_28 : decode cX9_ahead 28 = .ok (.getfield 53, 3) := by decide +kernel
theorem dX9_ahead_31 : decode cX9_ahead 31 = .ok (.iload_n 1, 1) := by decide +kernel
theorem dX9_ahead_32 : decode cX9_ahead 32 = .ok (.iload_n 2, 1) := by decide +kernel
theorem dX9_ahead_33 : decode cX9_ahead 33 = .ok (.invokevirtual 244, 3) := by decide +kernel
theorem dX9_ahead_36 : decode cX9_ahead 36 = .ok (.i2l, 1) := by decide +kernel
theorem dX9_ahead_37 : decode cX9_ahead 37 = .ok (.lreturn, 1) := by decide +kernel
theorem dX9_ways_0 : decode cX9_ways 0 = .ok (.aload_n 0, 1) := by decide +kernel
theorem dX9_ways_1 : decode cX9_ways 1 = .ok (.getfield 53, 3) := by decide +kernel
theorem dX9_ways_4 : decode cX9_ways 4 = .ok (.aload_n 0, 1) := by decide +kernel
theorem dX9_ways_5 : decode cX9_ways 5 = .ok (.getfield 10, 3) := by decide +kernel
theorem dX9_ways_8 : decode cX9_ways 8 = .ok (.invokevirtual 232, 3) := by decide +kernel
theorem dX9_ways_11 : decode cX9_ways 11 = .ok (.aload_n 0, 1) := by decide +kernel
theorem dX9_ways_12 : decode cX9_ways 12 = .ok (.getfield 53, 3) := by decide +kernel
theorem dX9_ways_15 : decode cX9_ways 15 = .ok (.aload_n 0, 1) := by decide +kernel
theorem dX9_ways_16 : decode cX9_ways 16 = .ok (.getfield 10, 3) := by decide +kernel
theorem dX9_ways_19 : decode cX9_ways 19 = .ok (.invokevirtual 247, 3) := by decide +kernel
theorem dX9_ways_22 : decode cX9_ways 22 = .ok (.ireturn, 1) := by decide +kernel
theorem dX9_layers_0 : decode cX9_layers 0 = .ok (.aload_n 0, 1) := by decide +kernel
theorem dX9_layers_1 : decode cX9_layers 1 = .ok (.getfield 10, 3) := by decide +kernel
theorem dX9_layers_4 : decode cX9_layers 4 = .ok (.invokevirtual 251, 3) := by decide +kernel
theorem dX9_layers_7 : decode cX9_layers 7 = .ok (.ireturn, 1) := by decide +kernel
theorem dX9_top_0 : decode cX9_top 0 = .ok (.aload_n 0, 1) := by decide +kernel
theorem dX9_top_1 : decode cX9_top 1 = .ok (.getfield 10, 3) := by decide +kernel
theorem dX9_top_4 : decode cX9_top 4 = .ok (.iload_n 1, 1) := by decide +kernel
theorem dX9_top_5 : decode cX9_top 5 = .ok (.iload_n 2, 1) := by decide +kernel
theorem dX9_top_6 : decode cX9_top 6 = .ok (.invokevirtual 254, 3) := by decide +kernel
theorem dX9_top_9 : decode cX9_top 9 = .ok (.ifCond .ne 6, 3) := by decide +kernel
theorem dX9_top_12 : decode cX9_top 12 = .ok (.bipush (-2), 2) := by decide +kernel
theorem dX9_top_14 : decode cX9_top 14 = .ok (.ireturn, 1) := by decide +kernel
theorem dX9_top_15 : decode cX9_top 15 = .ok (.aload_n 0, 1) := by decide +kernel
theorem dX9_top_16 : decode cX9_top 16 = .ok (.getfield 10, 3) := by decide +kernel
theorem dX9_top_19 : decode cX9_top 19 = .ok (.aload_n 0, 1) := by decide +kernel
theorem dX9_top_20 : decode cX9_top 20 = .ok (.getfield 10, 3) := by decide +kernel
theorem dX9_top_23 : decode cX9_top 23 = .ok (.iload_n 1, 1) := by decide +kernel
theorem dX9_top_24 : decode cX9_top 24 = .ok (.iload_n 2, 1) := by decide +kernel
theorem dX9_top_25 : decode cX9_top 25 = .ok (.invokevirtual 257, 3) := by decide +kernel
theorem dX9_top_28 : decode cX9_top 28 = .ok (.invokevirtual 260, 3) := by decide +kernel
theorem dX9_top_31 : decode cX9_top 31 = .ok (.ireturn, 1) := by decide +kernel
theorem dX9_seen_0 : decode cX9_seen 0 = .ok (.aload_n 0, 1) := by decide +kernel
theorem dX9_seen_1 : decode cX9_seen 1 = .ok (.getfield 10, 3) := by decide +kernel
theorem dX9_seen_4 : decode cX9_seen 4 = .ok (.iload_n 1, 1) := by decide +kernel
theorem dX9_seen_5 : decode cX9_seen 5 = .ok (.iload_n 2, 1) := by decide +kernel
theorem dX9_seen_6 : decode cX9_seen 6 = .ok (.invokevirtual 254, 3) := by decide +kernel
theorem dX9_seen_9 : decode cX9_seen 9 = .ok (.ifCond .ne 6, 3) := by decide +kernel
theorem dX9_seen_12 : decode cX9_seen 12 = .ok (.bipush (-2), 2) := by decide +kernel
theorem dX9_seen_14 : decode cX9_seen 14 = .ok (.ireturn, 1) := by decide +kernel
theorem dX9_seen_15 : decode cX9_seen 15 = .ok (.aload_n 0, 1) := by decide +kernel
theorem dX9_seen_16 : decode cX9_seen 16 = .ok (.getfield 10, 3) := by decide +kernel
theorem dX9_seen_19 : decode cX9_seen 19 = .ok (.aload_n 0, 1) := by decide +kernel
theorem dX9_seen_20 : decode cX9_seen 20 = .ok (.getfield 10, 3) := by decide +kernel
theorem dX9_seen_23 : decode cX9_seen 23 = .ok (.iload_n 1, 1) := by decide +kernel
theorem dX9_seen_24 : decode cX9_seen 24 = .ok (.iload_n 2, 1) := by decide +kernel
theorem dX9_seen_25 : decode cX9_seen 25 = .ok (.invokevirtual 257, 3) := by decide +kernel
theorem dX9_seen_28 : decode cX9_seen 28 = .ok (.aload_n 0, 1) := by decide +kernel
theorem dX9_seen_29 : decode cX9_seen 29 = .ok (.getfield 10, 3) := by decide +kernel
theorem dX9_seen_32 : decode cX9_seen 32 = .ok (.aload_n 0, 1) := by decide +kernel
theorem dX9_seen_33 : decode cX9_seen 33 = .ok (.getfield 10, 3) := by decide +kernel
theorem dX9_seen_36 : decode cX9_seen 36 = .ok (.getfield 263, 3) := by decide +kernel
theorem dX9_seen_39 : decode cX9_seen 39 = .ok (.invokevirtual 266, 3) := by decide +kernel
theorem dX9_seen_42 : decode cX9_seen 42 = .ok (.invokevirtual 269, 3) := by decide +kernel
theorem dX9_seen_45 : decode cX9_seen 45 = .ok (.ireturn, 1) := by decide +kernel
theorem dX9_shows_0 : decode cX9_shows 0 = .ok (.aload_n 0, 1) := by decide +kernel
theorem dX9_shows_1 : decode cX9_shows 1 = .ok (.getfield 22, 3) := by decide +kernel
theorem dX9_shows_4 : decode cX9_shows 4 = .ok (.iload_n 1, 1) := by decide +kernel
theorem dX9_shows_5 : decode cX9_shows 5 = .ok (.invokevirtual 272, 3) := by decide +kernel
theorem dX9_shows_8 : decode cX9_shows 8 = .ok (.ifCond .eq 12, 3) := by decide +kernel
theorem dX9_shows_11 : decode cX9_shows 11 = .ok (.iload_n 2, 1) := by decide +kernel
theorem dX9_shows_12 : decode cX9_shows 12 = .ok (.ifCond .lt 8, 3) := by decide +kernel
theorem dX9_shows_15 : decode cX9_shows 15 = .ok (.iload_n 2, 1) := by decide +kernel
theorem dX9_shows_16 : decode cX9_shows 16 = .ok (.iconst 2, 1) := by decide +kernel
theorem dX9_shows_17 : decode cX9_shows 17 = .ok (.if_icmp .le 6, 3) := by decide +kernel
theorem dX9_shows_20 : decode cX9_shows 20 = .ok (.bipush (-2), 2) := by decide +kernel
theorem dX9_shows_22 : decode cX9_shows 22 = .ok (.ireturn, 1) := by decide +kernel
theorem dX9_shows_23 : decode cX9_shows 23 = .ok (.aload_n 0, 1) := by decide +kernel
theorem dX9_shows_24 : decode cX9_shows 24 = .ok (.getfield 60, 3) := by decide +kernel
theorem dX9_shows_27 : decode cX9_shows 27 = .ok (.aload_n 0, 1) := by decide +kernel
theorem dX9_shows_28 : decode cX9_shows 28 = .ok (.getfield 10, 3) := by decide +kernel
theorem dX9_shows_31 : decode cX9_shows 31 = .ok (.aload_n 0, 1) := by decide +kernel
theorem dX9_shows_32 : decode cX9_shows 32 = .ok (.getfield 22, 3) := by decide +kernel
theorem dX9_shows_35 : decode cX9_shows 35 = .ok (.invokevirtual 275, 3) := by decide +kernel
theorem dX9_shows_38 : decode cX9_shows 38 = .ok (.aload_n 0, 1) := by decide +kernel
theorem dX9_shows_39 : decode cX9_shows 39 = .ok (.getfield 60, 3) := by decide +kernel
theorem dX9_shows_42 : decode cX9_shows 42 = .ok (.getfield 278, 3) := by decide +kernel
theorem dX9_shows_45 : decode cX9_shows 45 = .ok (.iload_n 1, 1) := by decide +kernel
theorem dX9_shows_46 : decode cX9_shows 46 = .ok (.iaload, 1) := by decide +kernel
theorem dX9_shows_47 : decode cX9_shows 47 = .ok (.istore_n 3, 1) := by decide +kernel
theorem dX9_shows_48 : decode cX9_shows 48 = .ok (.iload_n 2, 1) := by decide +kernel
theorem dX9_shows_49 : decode cX9_shows 49 = .ok (.ifCond .ne 8, 3) := by decide +kernel
theorem dX9_shows_52 : decode cX9_shows 52 = .ok (.iload_n 3, 1) := by decide +kernel
theorem dX9_shows_53 : decode cX9_shows 53 = .ok (.invokestatic 281, 3) := by decide +kernel
theorem dX9_shows_56 : decode cX9_shows 56 = .ok (.ireturn, 1) := by decide +kernel
theorem dX9_shows_57 : decode cX9_shows 57 = .ok (.iload_n 2, 1) := by decide +kernel
theorem dX9_shows_58 : decode cX9_shows 58 = .ok (.iconst 1, 1) := by decide +kernel
theorem dX9_shows_59 : decode cX9_shows 59 = .ok (.if_icmp .ne 10, 3) := by decide +kernel
theorem dX9_shows_62 : decode cX9_shows 62 = .ok (.iload_n 3, 1) := by decide +kernel
theorem dX9_shows_63 : decode cX9_shows 63 = .ok (.invokestatic 284, 3) := by decide +kernel
theorem dX9_shows_66 : decode cX9_shows 66 = .ok (.goto 7, 3) := by decide +kernel
theorem dX9_shows_69 : decode cX9_shows 69 = .ok (.iload_n 3, 1) := by decide +kernel
theorem dX9_shows_70 : decode cX9_shows 70 = .ok (.invokestatic 287, 3) := by decide +kernel
theorem dX9_shows_73 : decode cX9_shows 73 = .ok (.ireturn, 1) := by decide +kernel
theorem dX9_fits_0 : decode cX9_fits 0 = .ok (.aload_n 0, 1) := by decide +kernel
theorem dX9_fits_1 : decode cX9_fits 1 = .ok (.getfield 22, 3) := by decide +kernel
theorem dX9_fits_4 : decode cX9_fits 4 = .ok (.iload_n 1, 1) := by decide +kernel
theorem dX9_fits_5 : decode cX9_fits 5 = .ok (.invokevirtual 272, 3) := by decide +kernel
theorem dX9_fits_8 : decode cX9_fits 8 = .ok (.ifCond .ne 6, 3) := by decide +kernel
theorem dX9_fits_11 : decode cX9_fits 11 = .ok (.bipush (-2), 2) := by decide +kernel
theorem dX9_fits_13 : decode cX9_fits 13 = .ok (.ireturn, 1) := by decide +kernel
theorem dX9_fits_14 : decode cX9_fits 14 = .ok (.aload_n 0, 1) := by decide +kernel
theorem dX9_fits_15 : decode cX9_fits 15 = .ok (.getfield 60, 3) := by decide +kernel
theorem dX9_fits_18 : decode cX9_fits 18 = .ok (.aload_n 0, 1) := by decide +kernel
theorem dX9_fits_19 : decode cX9_fits 19 = .ok (.getfield 10, 3) := by decide +kernel
theorem dX9_fits_22 : decode cX9_fits 22 = .ok (.aload_n 0, 1) := by decide +kernel
theorem dX9_fits_23 : decode cX9_fits 23 = .ok (.getfield 22, 3) := by decide +kernel
theorem dX9_fits_26 : decode cX9_fits 26 = .ok (.invokevirtual 275, 3) := by decide +kernel
theorem dX9_fits_29 : decode cX9_fits 29 = .ok (.aload_n 0, 1) := by decide +kernel
theorem dX9_fits_30 : decode cX9_fits 30 = .ok (.getfield 60, 3) := by decide +kernel
theorem dX9_fits_33 : decode cX9_fits 33 = .ok (.getfield 290, 3) := by decide +kernel
theorem dX9_fits_36 : decode cX9_fits 36 = .ok (.iload_n 1, 1) := by decide +kernel
theorem dX9_fits_37 : decode cX9_fits 37 = .ok (.iaload, 1) := by decide +kernel
theorem dX9_fits_38 : decode cX9_fits 38 = .ok (.ireturn, 1) := by decide +kernel
theorem dX9_sure_0 : decode cX9_sure 0 = .ok (.aload_n 0, 1) := by decide +kernel
theorem dX9_sure_1 : decode cX9_sure 1 = .ok (.getfield 22, 3) := by decide +kernel
theorem dX9_sure_4 : decode cX9_sure 4 = .ok (.iload_n 1, 1) := by decide +kernel
theorem dX9_sure_5 : decode cX9_sure 5 = .ok (.invokevirtual 272, 3) := by decide +kernel
theorem dX9_sure_8 : decode cX9_sure 8 = .ok (.ifCond .ne 6, 3) := by decide +kernel
theorem dX9_sure_11 : decode cX9_sure 11 = .ok (.bipush (-2), 2) := by decide +kernel
theorem dX9_sure_13 : decode cX9_sure 13 = .ok (.ireturn, 1) := by decide +kernel
theorem dX9_sure_14 : decode cX9_sure 14 = .ok (.aload_n 0, 1) := by decide +kernel
theorem dX9_sure_15 : decode cX9_sure 15 = .ok (.getfield 60, 3) := by decide +kernel
theorem dX9_sure_18 : decode cX9_sure 18 = .ok (.aload_n 0, 1) := by decide +kernel
theorem dX9_sure_19 : decode cX9_sure 19 = .ok (.getfield 10, 3) := by decide +kernel
theorem dX9_sure_22 : decode cX9_sure 22 = .ok (.aload_n 0, 1) := by decide +kernel
theorem dX9_sure_23 : decode cX9_sure 23 = .ok (.getfield 22, 3) := by decide +kernel
theorem dX9_sure_26 : decode cX9_sure 26 = .ok (.invokevirtual 275, 3) := by decide +kernel
theorem dX9_sure_29 : decode cX9_sure 29 = .ok (.aload_n 0, 1) := by decide +kernel
theorem dX9_sure_30 : decode cX9_sure 30 = .ok (.getfield 60, 3) := by decide +kernel
theorem dX9_sure_33 : decode cX9_sure 33 = .ok (.getfield 293, 3) := by decide +kernel
theorem dX9_sure_36 : decode cX9_sure 36 = .ok (.iload_n 1, 1) := by decide +kernel
theorem dX9_sure_37 : decode cX9_sure 37 = .ok (.iaload, 1) := by decide +kernel
theorem dX9_sure_38 : decode cX9_sure 38 = .ok (.ireturn, 1) := by decide +kernel
theorem dX9_odds_0 : decode cX9_odds 0 = .ok (.aload_n 0, 1) := by decide +kernel
theorem dX9_odds_1 : decode cX9_odds 1 = .ok (.getfield 22, 3) := by decide +kernel
theorem dX9_odds_4 : decode cX9_odds 4 = .ok (.iload_n 1, 1) := by decide +kernel
theorem dX9_odds_5 : decode cX9_odds 5 = .ok (.invokevirtual 272, 3) := by decide +kernel
theorem dX9_odds_8 : decode cX9_odds 8 = .ok (.ifCond .eq 14, 3) := by decide +kernel
theorem dX9_odds_11 : decode cX9_odds 11 = .ok (.aload_n 0, 1) := by decide +kernel
theorem dX9_odds_12 : decode cX9_odds 12 = .ok (.getfield 22, 3) := by decide +kernel
theorem dX9_odds_15 : decode cX9_odds 15 = .ok (.iload_n 2, 1) := by decide +kernel
theorem dX9_odds_16 : decode cX9_odds 16 = .ok (.invokevirtual 153, 3) := by decide +kernel
theorem dX9_odds_19 : decode cX9_odds 19 = .ok (.ifCond .ne 6, 3) := by decide +kernel
theorem dX9_odds_22 : decode cX9_odds 22 = .ok (.bipush (-2), 2) := by decide +kernel
theorem dX9_odds_24 : decode cX9_odds 24 = .ok (.ireturn, 1) := by decide +kernel
theorem dX9_odds_25 : decode cX9_odds 25 = .ok (.aload_n 0, 1) := by decide +kernel
theorem dX9_odds_26 : decode cX9_odds 26 = .ok (.getfield 60, 3) := by decide +kernel
theorem dX9_odds_29 : decode cX9_odds 29 = .ok (.aload_n 0, 1) := by decide +kernel
theorem dX9_odds_30 : decode cX9_odds 30 = .ok (.getfield 10, 3) := by decide +kernel
theorem dX9_odds_33 : decode cX9_odds 33 = .ok (.aload_n 0, 1) := by decide +kernel
theorem dX9_odds_34 : decode cX9_odds 34 = .ok (.getfield 22, 3) := by decide +kernel
theorem dX9_odds_37 : decode cX9_odds 37 = .ok (.invokevirtual 275, 3) := by decide +kernel
theorem dX9_odds_40 : decode cX9_odds 40 = .ok (.aload_n 0, 1) := by decide +kernel
theorem dX9_odds_41 : decode cX9_odds 41 = .ok (.getfield 22, 3) := by decide +kernel
theorem dX9_odds_44 : decode cX9_odds 44 = .ok (.iload_n 2, 1) := by decide +kernel
theorem dX9_odds_45 : decode cX9_odds 45 = .ok (.aload_n 0, 1) := by decide +kernel
theorem dX9_odds_46 : decode cX9_odds 46 = .ok (.getfield 60, 3) := by decide +kernel
theorem dX9_odds_49 : decode cX9_odds 49 = .ok (.getfield 293, 3) := by decide +kernel
theorem dX9_odds_52 : decode cX9_odds 52 = .ok (.iload_n 1, 1) := by decide +kernel
theorem dX9_odds_53 : decode cX9_odds 53 = .ok (.iaload, 1) := by decide +kernel
theorem dX9_odds_54 : decode cX9_odds 54 = .ok (.invokevirtual 296, 3) := by decide +kernel
theorem dX9_odds_57 : decode cX9_odds 57 = .ok (.invokestatic 300, 3) := by decide +kernel
theorem dX9_odds_60 : decode cX9_odds 60 = .ok (.ireturn, 1) := by decide +kernel
theorem dX9_guess_0 : decode cX9_guess 0 = .ok (.aload_n 0, 1) := by decide +kernel
theorem dX9_guess_1 : decode cX9_guess 1 = .ok (.getfield 22, 3) := by decide +kernel
theorem dX9_guess_4 : decode cX9_guess 4 = .ok (.iload_n 1, 1) := by decide +kernel
theorem dX9_guess_5 : decode cX9_guess 5 = .ok (.invokevirtual 272, 3) := by decide +kernel
theorem dX9_guess_8 : decode cX9_guess 8 = .ok (.ifCond .ne 6, 3) := by decide +kernel
theorem dX9_guess_11 : decode cX9_guess 11 = .ok (.bipush (-2), 2) := by decide +kernel
theorem dX9_guess_13 : decode cX9_guess 13 = .ok (.ireturn, 1) := by decide +kernel
theorem dX9_guess_14 : decode cX9_guess 14 = .ok (.aload_n 0, 1) := by decide +kernel
theorem dX9_guess_15 : decode cX9_guess 15 = .ok (.getfield 60, 3) := by decide +kernel
theorem dX9_guess_18 : decode cX9_guess 18 = .ok (.aload_n 0, 1) := by decide +kernel
theorem dX9_guess_19 : decode cX9_guess 19 = .ok (.getfield 10, 3) := by decide +kernel
theorem dX9_guess_22 : decode cX9_guess 22 = .ok (.aload_n 0, 1) := by decide +kernel
theorem dX9_guess_23 : decode cX9_guess 23 = .ok (.getfield 22, 3) := by decide +kernel
theorem dX9_guess_26 : decode cX9_guess 26 = .ok (.invokevirtual 275, 3) := by decide +kernel
theorem dX9_guess_29 : decode cX9_guess 29 = .ok (.aload_n 0, 1) := by decide +kernel
theorem dX9_guess_30 : decode cX9_guess 30 = .ok (.getfield 22, 3) := by decide +kernel
theorem dX9_guess_33 : decode cX9_guess 33 = .ok (.aload_n 0, 1) := by decide +kernel
theorem dX9_guess_34 : decode cX9_guess 34 = .ok (.getfield 60, 3) := by decide +kernel
theorem dX9_guess_37 : decode cX9_guess 37 = .ok (.getfield 293, 3) := by decide +kernel
theorem dX9_guess_40 : decode cX9_guess 40 = .ok (.iload_n 1, 1) := by decide +kernel
theorem dX9_guess_41 : decode cX9_guess 41 = .ok (.iaload, 1) := by decide +kernel
theorem dX9_guess_42 : decode cX9_guess 42 = .ok (.invokevirtual 304, 3) := by decide +kernel
theorem dX9_guess_45 : decode cX9_guess 45 = .ok (.ireturn, 1) := by decide +kernel
theorem dX9_words_0 : decode cX9_words 0 = .ok (.aload_n 0, 1) := by decide +kernel
theorem dX9_words_1 : decode cX9_words 1 = .ok (.getfield 22, 3) := by decide +kernel
theorem dX9_words_4 : decode cX9_words 4 = .ok (.iload_n 1, 1) := by decide +kernel
theorem dX9_words_5 : decode cX9_words 5 = .ok (.invokevirtual 307, 3) := by decide +kernel
theorem dX9_words_8 : decode cX9_words 8 = .ok (.ifCond .ne 6, 3) := by decide +kernel
theorem dX9_words_11 : decode cX9_words 11 = .ok (.bipush (-2), 2) := by decide +kernel
theorem dX9_words_13 : decode cX9_words 13 = .ok (.ireturn, 1) := by decide +kernel
theorem dX9_words_14 : decode cX9_words 14 = .ok (.iload_n 2, 1) := by decide +kernel
theorem dX9_words_15 : decode cX9_words 15 = .ok (.iconst (-1), 1) := by decide +kernel
theorem dX9_words_16 : decode cX9_words 16 = .ok (.if_icmp .ge 6, 3) := by decide +kernel
theorem dX9_words_19 : decode cX9_words 19 = .ok (.bipush (-3), 2) := by decide +kernel
theorem dX9_words_21 : decode cX9_words 21 = .ok (.ireturn, 1) := by decide +kernel
theorem dX9_words_22 : decode cX9_words 22 = .ok (.aload_n 0, 1) := by decide +kernel
theorem dX9_words_23 : decode cX9_words 23 = .ok (.getfield 60, 3) := by decide +kernel
theorem dX9_words_26 : decode cX9_words 26 = .ok (.aload_n 0, 1) := by decide +kernel
theorem dX9_words_27 : decode cX9_words 27 = .ok (.getfield 10, 3) := by decide +kernel
theorem dX9_words_30 : decode cX9_words 30 = .ok (.aload_n 0, 1) := by decide +kernel
theorem dX9_words_31 : decode cX9_words 31 = .ok (.getfield 22, 3) := by decide +kernel
theorem dX9_words_34 : decode cX9_words 34 = .ok (.invokevirtual 275, 3) := by decide +kernel
theorem dX9_words_37 : decode cX9_words 37 = .ok (.iconst 0, 1) := by decide +kernel
theorem dX9_words_38 : decode cX9_words 38 = .ok (.istore_n 3, 1) := by decide +kernel
theorem dX9_words_39 : decode cX9_words 39 = .ok (.iconst 0, 1) := by decide +kernel
theorem dX9_words_40 : decode cX9_words 40 = .ok (.istore 4, 2) := by decide +kernel
theorem dX9_words_42 : decode cX9_words 42 = .ok (.iload 4, 2) := by decide +kernel
theorem dX9_words_44 : decode cX9_words 44 = .ok (.aload_n 0, 1) := by decide +kernel
theorem dX9_words_45 : decode cX9_words 45 = .ok (.getfield 22, 3) := by decide +kernel
theorem dX9_words_48 : decode cX9_words 48 = .ok (.getfield 310, 3) := by decide +kernel
theorem dX9_words_51 : decode cX9_words 51 = .ok (.if_icmp .ge 40, 3) := by decide +kernel
theorem dX9_words_54 : decode cX9_words 54 = .ok (.aload_n 0, 1) := by decide +kernel
theorem dX9_words_55 : decode cX9_words 55 = .ok (.getfield 22, 3) := by decide +kernel
theorem dX9_words_58 : decode cX9_words 58 = .ok (.iload 4, 2) := by decide +kernel
theorem dX9_words_60 : decode cX9_words 60 = .ok (.iload_n 1, 1) := by decide +kernel
theorem dX9_words_61 : decode cX9_words 61 = .ok (.aload_n 0, 1) := by decide +kernel
theorem dX9_words_62 : decode cX9_words 62 = .ok (.getfield 60, 3) := by decide +kernel
theorem dX9_words_65 : decode cX9_words 65 = .ok (.getfield 290, 3) := by decide +kernel
theorem dX9_words_68 : decode cX9_words 68 = .ok (.invokevirtual 313, 3) := by decide +kernel
theorem dX9_words_71 : decode cX9_words 71 = .ok (.ifCond .eq 14, 3) := by decide +kernel
theorem dX9_words_74 : decode cX9_words 74 = .ok (.iload_n 3, 1) := by decide +kernel
theorem dX9_words_75 : decode cX9_words 75 = .ok (.iload_n 2, 1) := by decide +kernel
theorem dX9_words_76 : decode cX9_words 76 = .ok (.if_icmp .ne 6, 3) := by decide +kernel
theorem dX9_words_79 : decode cX9_words 79 = .ok (.iload 4, 2) := by decide +kernel
theorem dX9_words_81 : decode cX9_words 81 = .ok (.ireturn, 1) := by decide +kernel
theorem dX9_words_82 : decode cX9_words 82 = .ok (.iinc 3 1, 3) := by decide +kernel
theorem dX9_words_85 : decode cX9_words 85 = .ok (.iinc 4 1, 3) := by decide +kernel
theorem dX9_words_88 : decode cX9_words 88 = .ok (.goto (-46), 3) := by decide +kernel
theorem dX9_words_91 : decode cX9_words 91 = .ok (.iload_n 2, 1) := by decide +kernel
theorem dX9_words_92 : decode cX9_words 92 = .ok (.iconst (-1), 1) := by decide +kernel
theorem dX9_words_93 : decode cX9_words 93 = .ok (.if_icmp .ne 7, 3) := by decide +kernel
theorem dX9_words_96 : decode cX9_words 96 = .ok (.iload_n 3, 1) := by decide +kernel
theorem dX9_words_97 : decode cX9_words 97 = .ok (.goto 4, 3) := by decide +kernel
theorem dX9_words_100 : decode cX9_words 100 = .ok (.iconst (-1), 1) := by decide +kernel
theorem dX9_words_101 : decode cX9_words 101 = .ok (.ireturn, 1) := by decide +kernel
theorem dX9_likely_0 : decode cX9_likely 0 = .ok (.aload_n 0, 1) := by decide +kernel
theorem dX9_likely_1 : decode cX9_likely 1 = .ok (.getfield 22, 3) := by decide +kernel
theorem dX9_likely_4 : decode cX9_likely 4 = .ok (.iload_n 1, 1) := by decide +kernel
theorem dX9_likely_5 : decode cX9_likely 5 = .ok (.invokevirtual 307, 3) := by decide +kernel
theorem dX9_likely_8 : decode cX9_likely 8 = .ok (.ifCond .ne 6, 3) := by decide +kernel
theorem dX9_likely_11 : decode cX9_likely 11 = .ok (.bipush (-2), 2) := by decide +kernel
theorem dX9_likely_13 : decode cX9_likely 13 = .ok (.ireturn, 1) := by decide +kernel
theorem dX9_likely_14 : decode cX9_likely 14 = .ok (.aload_n 0, 1) := by decide +kernel
theorem dX9_likely_15 : decode cX9_likely 15 = .ok (.getfield 60, 3) := by decide +kernel
theorem dX9_likely_18 : decode cX9_likely 18 = .ok (.aload_n 0, 1) := by decide +kernel
theorem dX9_likely_19 : decode cX9_likely 19 = .ok (.getfield 10, 3) := by decide +kernel
theorem dX9_likely_22 : decode cX9_likely 22 = .ok (.aload_n 0, 1) := by decide +kernel
theorem dX9_likely_23 : decode cX9_likely 23 = .ok (.getfield 22, 3) := by decide +kernel
theorem dX9_likely_26 : decode cX9_likely 26 = .ok (.invokevirtual 275, 3) := by decide +kernel
theorem dX9_likely_29 : decode cX9_likely 29 = .ok (.iconst (-1), 1) := by decide +kernel
theorem dX9_likely_30 : decode cX9_likely 30 = .ok (.istore_n 2, 1) := by decide +kernel
theorem dX9_likely_31 : decode cX9_likely 31 = .ok (.lconst 0, 1) := by decide +kernel
theorem dX9_likely_32 : decode cX9_likely 32 = .ok (.lstore_n 3, 1) := by decide +kernel
theorem dX9_likely_33 : decode cX9_likely 33 = .ok (.iconst 0, 1) := by decide +kernel
theorem dX9_likely_34 : decode cX9_likely 34 = .ok (.istore 5, 2) := by decide +kernel
theorem dX9_likely_36 : decode cX9_likely 36 = .ok (.iload 5, 2) := by decide +kernel
theorem dX9_likely_38 : decode cX9_likely 38 = .ok (.aload_n 0, 1) := by decide +kernel
theorem dX9_likely_39 : decode cX9_likely 39 = .ok (.getfield 22, 3) := by decide +kernel
theorem dX9_likely_42 : decode cX9_likely 42 = .ok (.getfield 310, 3) := by decide +kernel
theorem dX9_likely_45 : decode cX9_likely 45 = .ok (.if_icmp .ge 56, 3) := by decide +kernel
theorem dX9_likely_48 : decode cX9_likely 48 = .ok (.aload_n 0, 1) := by decide +kernel
theorem dX9_likely_49 : decode cX9_likely 49 = .ok (.getfield 22, 3) := by decide +kernel
theorem dX9_likely_52 : decode cX9_likely 52 = .ok (.iload 5, 2) := by decide +kernel
theorem dX9_likely_54 : decode cX9_likely 54 = .ok (.iload_n 1, 1) := by decide +kernel
theorem dX9_likely_55 : decode cX9_likely 55 = .ok (.aload_n 0, 1) := by decide +kernel
theorem dX9_likely_56 : decode cX9_likely 56 = .ok (.getfield 60, 3) := by decide +kernel
theorem dX9_likely_59 : decode cX9_likely 59 = .ok (.getfield 290, 3) := by decide +kernel
theorem dX9_likely_62 : decode cX9_likely 62 = .ok (.invokevirtual 313, 3) := by decide +kernel
theorem dX9_likely_65 : decode cX9_likely 65 = .ok (.ifCond .eq 30, 3) := by decide +kernel
theorem dX9_likely_68 : decode cX9_likely 68 = .ok (.aload_n 0, 1) := by decide +kernel
theorem dX9_likely_69 : decode cX9_likely 69 = .ok (.getfield 22, 3) := by decide +kernel
theorem dX9_likely_72 : decode cX9_likely 72 = .ok (.iload 5, 2) := by decide +kernel
theorem dX9_likely_74 : decode cX9_likely 74 = .ok (.invokevirtual 317, 3) := by decide +kernel
theorem dX9_likely_77 : decode cX9_likely 77 = .ok (.lload_n 3, 1) := by decide +kernel
theorem dX9_likely_78 : decode cX9_likely 78 = .ok (.lcmp, 1) := by decide +kernel
theorem dX9_likely_79 : decode cX9_likely 79 = .ok (.ifCond .le 16, 3) := by decide +kernel
theorem dX9_likely_82 : decode cX9_likely 82 = .ok (.iload 5, 2) := by decide +kernel
theorem dX9_likely_84 : decode cX9_likely 84 = .ok (.istore_n 2, 1) := by decide +kernel
theorem dX9_likely_85 : decode cX9_likely 85 = .ok (.aload_n 0, 1) := by decide +kernel
theorem dX9_likely_86 : decode cX9_likely 86 = .ok (.getfield 22, 3) := by decide +kernel
theorem dX9_likely_89 : decode cX9_likely 89 = .ok (.iload 5, 2) := by decide +kernel
theorem dX9_likely_91 : decode cX9_likely 91 = .ok (.invokevirtual 317, 3) := by decide +kernel
theorem dX9_likely_94 : decode cX9_likely 94 = .ok (.lstore_n 3, 1) := by decide +kernel
theorem dX9_likely_95 : decode cX9_likely 95 = .ok (.iinc 5 1, 3) := by decide +kernel
theorem dX9_likely_98 : decode cX9_likely 98 = .ok (.goto (-62), 3) := by decide +kernel
theorem dX9_likely_101 : decode cX9_likely 101 = .ok (.iload_n 2, 1) := by decide +kernel
theorem dX9_likely_102 : decode cX9_likely 102 = .ok (.ireturn, 1) := by decide +kernel
theorem dX9_reads_0 : decode cX9_reads 0 = .ok (.iload_n 1, 1) := by decide +kernel
theorem dX9_reads_1 : decode cX9_reads 1 = .ok (.iconst (-1), 1) := by decide +kernel
theorem dX9_reads_2 : decode cX9_reads 2 = .ok (.if_icmp .ge 6, 3) := by decide +kernel
theorem dX9_reads_5 : decode cX9_reads 5 = .ok (.bipush (-3), 2) := by decide +kernel
theorem dX9_reads_7 : decode cX9_reads 7 = .ok (.ireturn, 1) := by decide +kernel
theorem dX9_reads_8 : decode cX9_reads 8 = .ok (.iload_n 1, 1) := by decide +kernel
theorem dX9_reads_9 : decode cX9_reads 9 = .ok (.iconst (-1), 1) := by decide +kernel
theorem dX9_reads_10 : decode cX9_reads 10 = .ok (.if_icmp .ne 11, 3) := by decide +kernel
theorem dX9_reads_13 : decode cX9_reads 13 = .ok (.aload_n 0, 1) := by decide +kernel
theorem dX9_reads_14 : decode cX9_reads 14 = .ok (.getfield 22, 3) := by decide +kernel
theorem dX9_reads_17 : decode cX9_reads 17 = .ok (.getfield 321, 3) := by decide +kernel
theorem dX9_reads_20 : decode cX9_reads 20 = .ok (.ireturn, 1) := by decide +kernel
theorem dX9_reads_21 : decode cX9_reads 21 = .ok (.iload_n 1, 1) := by decide +kernel
theorem dX9_reads_22 : decode cX9_reads 22 = .ok (.aload_n 0, 1) := by decide +kernel
theorem dX9_reads_23 : decode cX9_reads 23 = .ok (.getfield 22, 3) := by decide +kernel
theorem dX9_reads_26 : decode cX9_reads 26 = .ok (.getfield 321, 3) := by decide +kernel
theorem dX9_reads_29 : decode cX9_reads 29 = .ok (.if_icmp .lt 5, 3) := by decide +kernel
theorem dX9_reads_32 : decode cX9_reads 32 = .ok (.iconst (-1), 1) := by decide +kernel
theorem dX9_reads_33 : decode cX9_reads 33 = .ok (.ireturn, 1) := by decide +kernel
theorem dX9_reads_34 : decode cX9_reads 34 = .ok (.aload_n 0, 1) := by decide +kernel
theorem dX9_reads_35 : decode cX9_reads 35 = .ok (.getfield 60, 3) := by decide +kernel
theorem dX9_reads_38 : decode cX9_reads 38 = .ok (.aload_n 0, 1) := by decide +kernel
theorem dX9_reads_39 : decode cX9_reads 39 = .ok (.getfield 10, 3) := by decide +kernel
theorem dX9_reads_42 : decode cX9_reads 42 = .ok (.aload_n 0, 1) := by decide +kernel
theorem dX9_reads_43 : decode cX9_reads 43 = .ok (.getfield 22, 3) := by decide +kernel
theorem dX9_reads_46 : decode cX9_reads 46 = .ok (.invokevirtual 275, 3) := by decide +kernel
theorem dX9_reads_49 : decode cX9_reads 49 = .ok (.aload_n 0, 1) := by decide +kernel
theorem dX9_reads_50 : decode cX9_reads 50 = .ok (.getfield 22, 3) := by decide +kernel
theorem dX9_reads_53 : decode cX9_reads 53 = .ok (.aload_n 0, 1) := by decide +kernel
theorem dX9_reads_54 : decode cX9_reads 54 = .ok (.getfield 60, 3) := by decide +kernel
theorem dX9_reads_57 : decode cX9_reads 57 = .ok (.getfield 293, 3) := by decide +kernel
theorem dX9_reads_60 : decode cX9_reads 60 = .ok (.iload_n 1, 1) := by decide +kernel
theorem dX9_reads_61 : decode cX9_reads 61 = .ok (.iaload, 1) := by decide +kernel
theorem dX9_reads_62 : decode cX9_reads 62 = .ok (.invokevirtual 324, 3) := by decide +kernel
theorem dX9_reads_65 : decode cX9_reads 65 = .ok (.ireturn, 1) := by decide +kernel
theorem dX9_letter_0 : decode cX9_letter 0 = .ok (.aload_n 0, 1) := by decide +kernel
theorem dX9_letter_1 : decode cX9_letter 1 = .ok (.getfield 22, 3) := by decide +kernel
theorem dX9_letter_4 : decode cX9_letter 4 = .ok (.iload_n 1, 1) := by decide +kernel
theorem dX9_letter_5 : decode cX9_letter 5 = .ok (.invokevirtual 153, 3) := by decide +kernel
theorem dX9_letter_8 : decode cX9_letter 8 = .ok (.ifCond .ne 6, 3) := by decide +kernel
theorem dX9_letter_11 : decode cX9_letter 11 = .ok (.bipush (-2), 2) := by decide +kernel
theorem dX9_letter_13 : decode cX9_letter 13 = .ok (.ireturn, 1) := by decide +kernel
theorem dX9_letter_14 : decode cX9_letter 14 = .ok (.iload_n 2, 1) := by decide +kernel
theorem dX9_letter_15 : decode cX9_letter 15 = .ok (.tableswitch 95 0 3 #[29, 44, 54, 64], 29) := by decide +kernel
theorem dX9_letter_44 : decode cX9_letter 44 = .ok (.aload_n 0, 1) := by decide +kernel
theorem dX9_letter_45 : decode cX9_letter 45 = .ok (.getfield 22, 3) := by decide +kernel
theorem dX9_letter_48 : decode cX9_letter 48 = .ok (.getfield 327, 3) := by decide +kernel
theorem dX9_letter_51 : decode cX9_letter 51 = .ok (.iload_n 1, 1) := by decide +kernel
theorem dX9_letter_52 : decode cX9_letter 52 = .ok (.iaload, 1) := by decide +kernel
theorem dX9_letter_53 : decode cX9_letter 53 = .ok (.bipush 97, 2) := by decide +kernel
theorem dX9_letter_55 : decode cX9_letter 55 = .ok (.isub, 1) := by decide +kernel
theorem dX9_letter_56 : decode cX9_letter 56 = .ok (.iconst 1, 1) := by decide +kernel
theorem dX9_letter_57 : decode cX9_letter 57 = .ok (.iadd, 1) := by decide +kernel
theorem dX9_letter_58 : decode cX9_letter 58 = .ok (.ireturn, 1) := by decide +kernel
theorem dX9_letter_59 : decode cX9_letter 59 = .ok (.aload_n 0, 1) := by decide +kernel
theorem dX9_letter_60 : decode cX9_letter 60 = .ok (.getfield 22, 3) := by decide +kernel
theorem dX9_letter_63 : decode cX9_letter 63 = .ok (.getfield 330, 3) := by decide +kernel
theorem dX9_letter_66 : decode cX9_letter 66 = .ok (.iload_n 1, 1) := by decide +kernel
theorem dX9_letter_67 : decode cX9_letter 67 = .ok (.iaload, 1) := by decide +kernel
theorem dX9_letter_68 : decode cX9_letter 68 = .ok (.ireturn, 1) := by decide +kernel
theorem dX9_letter_69 : decode cX9_letter 69 = .ok (.aload_n 0, 1) := by decide +kernel
theorem dX9_letter_70 : decode cX9_letter 70 = .ok (.getfield 22, 3) := by decide +kernel
theorem dX9_letter_73 : decode cX9_letter 73 = .ok (.getfield 156, 3) := by decide +kernel
theorem dX9_letter_76 : decode cX9_letter 76 = .ok (.iload_n 1, 1) := by decide +kernel
theorem dX9_letter_77 : decode cX9_letter 77 = .ok (.iaload, 1) := by decide +kernel
theorem dX9_letter_78 : decode cX9_letter 78 = .ok (.ireturn, 1) := by decide +kernel
theorem dX9_letter_79 : decode cX9_letter 79 = .ok (.aload_n 0, 1) := by decide +kernel
theorem dX9_letter_80 : decode cX9_letter 80 = .ok (.getfield 60, 3) := by decide +kernel
theorem dX9_letter_83 : decode cX9_letter 83 = .ok (.aload_n 0, 1) := by decide +kernel
theorem dX9_letter_84 : decode cX9_letter 84 = .ok (.getfield 10, 3) := by decide +kernel
theorem dX9_letter_87 : decode cX9_letter 87 = .ok (.aload_n 0, 1) := by decide +kernel
theorem dX9_letter_88 : decode cX9_letter 88 = .ok (.getfield 22, 3) := by decide +kernel
theorem dX9_letter_91 : decode cX9_letter 91 = .ok (.invokevirtual 275, 3) := by decide +kernel
theorem dX9_letter_94 : decode cX9_letter 94 = .ok (.aload_n 0, 1) := by decide +kernel
theorem dX9_letter_95 : decode cX9_letter 95 = .ok (.getfield 60, 3) := by decide +kernel
theorem dX9_letter_98 : decode cX9_letter 98 = .ok (.iload_n 1, 1) := by decide +kernel
theorem dX9_letter_99 : decode cX9_letter 99 = .ok (.aload_n 0, 1) := by decide +kernel
theorem dX9_letter_100 : decode cX9_letter 100 = .ok (.getfield 22, 3) := by decide +kernel
theorem dX9_letter_103 : decode cX9_letter 103 = .ok (.getfield 321, 3) := by decide +kernel
theorem dX9_letter_106 : decode cX9_letter 106 = .ok (.invokevirtual 333, 3) := by decide +kernel
theorem dX9_letter_109 : decode cX9_letter 109 = .ok (.ireturn, 1) := by decide +kernel
theorem dX9_letter_110 : decode cX9_letter 110 = .ok (.bipush (-2), 2) := by decide +kernel
theorem dX9_letter_112 : decode cX9_letter 112 = .ok (.ireturn, 1) := by decide +kernel
theorem dX9_emptyCells_0 : decode cX9_emptyCells 0 = .ok (.iload_n 0, 1) := by decide +kernel
theorem dX9_emptyCells_1 : decode cX9_emptyCells 1 = .ok (.sipush 511, 3) := by decide +kernel
theorem dX9_emptyCells_4 : decode cX9_emptyCells 4 = .ok (.iand, 1) := by decide +kernel
theorem dX9_emptyCells_5 : decode cX9_emptyCells 5 = .ok (.ireturn, 1) := by decide +kernel
theorem dX9_shownCells_0 : decode cX9_shownCells 0 = .ok (.iload_n 0, 1) := by decide +kernel
theorem dX9_shownCells_1 : decode cX9_shownCells 1 = .ok (.bipush 9, 2) := by decide +kernel
theorem dX9_shownCells_3 : decode cX9_shownCells 3 = .ok (.ishr, 1) := by decide +kernel
theorem dX9_shownCells_4 : decode cX9_shownCells 4 = .ok (.sipush 511, 3) := by decide +kernel
theorem dX9_shownCells_7 : decode cX9_shownCells 7 = .ok (.iand, 1) := by decide +kernel
theorem dX9_shownCells_8 : decode cX9_shownCells 8 = .ok (.ireturn, 1) := by decide +kernel
theorem dX9_hiddenCells_0 : decode cX9_hiddenCells 0 = .ok (.sipush 511, 3) := by decide +kernel
theorem dX9_hiddenCells_3 : decode cX9_hiddenCells 3 = .ok (.iload_n 0, 1) := by decide +kernel
theorem dX9_hiddenCells_4 : decode cX9_hiddenCells 4 = .ok (.invokestatic 281, 3) := by decide +kernel
theorem dX9_hiddenCells_7 : decode cX9_hiddenCells 7 = .ok (.iload_n 0, 1) := by decide +kernel
theorem dX9_hiddenCells_8 : decode cX9_hiddenCells 8 = .ok (.invokestatic 284, 3) := by decide +kernel
theorem dX9_hiddenCells_11 : decode cX9_hiddenCells 11 = .ok (.ior, 1) := by decide +kernel
theorem dX9_hiddenCells_12 : decode cX9_hiddenCells 12 = .ok (.iconst (-1), 1) := by decide +kernel
theorem dX9_hiddenCells_13 : decode cX9_hiddenCells 13 = .ok (.ixor, 1) := by decide +kernel
theorem dX9_hiddenCells_14 : decode cX9_hiddenCells 14 = .ok (.iand, 1) := by decide +kernel
theorem dX9_hiddenCells_15 : decode cX9_hiddenCells 15 = .ok (.ireturn, 1) := by decide +kernel
theorem dX9_bitsOf_0 : decode cX9_bitsOf 0 = .ok (.fload_n 0, 1) := by decide +kernel
theorem dX9_bitsOf_1 : decode cX9_bitsOf 1 = .ok (.fconst 0, 1) := by decide +kernel
theorem dX9_bitsOf_2 : decode cX9_bitsOf 2 = .ok (.fcmp .l, 1) := by decide +kernel
theorem dX9_bitsOf_3 : decode cX9_bitsOf 3 = .ok (.ifCond .gt 5, 3) := by decide +kernel
theorem dX9_bitsOf_6 : decode cX9_bitsOf 6 = .ok (.iconst 0, 1) := by decide +kernel
theorem dX9_bitsOf_7 : decode cX9_bitsOf 7 = .ok (.ireturn, 1) := by decide +kernel
theorem dX9_bitsOf_8 : decode cX9_bitsOf 8 = .ok (.fload_n 0, 1) := by decide +kernel
theorem dX9_bitsOf_9 : decode cX9_bitsOf 9 = .ok (.fstore_n 1, 1) := by decide +kernel
theorem dX9_bitsOf_10 : decode cX9_bitsOf 10 = .ok (.bipush 127, 2) := by decide +kernel
theorem dX9_bitsOf_12 : decode cX9_bitsOf 12 = .ok (.istore_n 2, 1) := by decide +kernel
theorem dX9_bitsOf_13 : decode cX9_bitsOf 13 = .ok (.iconst 0, 1) := by decide +kernel
theorem dX9_bitsOf_14 : decode cX9_bitsOf 14 = .ok (.istore_n 3, 1) := by decide +kernel
theorem dX9_bitsOf_15 : decode cX9_bitsOf 15 = .ok (.iload_n 3, 1) := by decide +kernel
theorem dX9_bitsOf_16 : decode cX9_bitsOf 16 = .ok (.bipush 126, 2) := by decide +kernel
theorem dX9_bitsOf_18 : decode cX9_bitsOf 18 = .ok (.if_icmp .ge 22, 3) := by decide +kernel
theorem dX9_bitsOf_21 : decode cX9_bitsOf 21 = .ok (.fload_n 1, 1) := by decide +kernel
theorem dX9_bitsOf_22 : decode cX9_bitsOf 22 = .ok (.fconst 1, 1) := by decide +kernel
theorem dX9_bitsOf_23 : decode cX9_bitsOf 23 = .ok (.fcmp .g, 1) := by decide +kernel
theorem dX9_bitsOf_24 : decode cX9_bitsOf 24 = .ok (.ifCond .ge 16, 3) := by decide +kernel
theorem dX9_bitsOf_27 : decode cX9_bitsOf 27 = .ok (.fload_n 1, 1) := by decide +kernel
theorem dX9_bitsOf_28 : decode cX9_bitsOf 28 = .ok (.fconst 2, 1) := by decide +kernel
theorem dX9_bitsOf_29 : decode cX9_bitsOf 29 = .ok (.fmul, 1) := by decide +kernel
theorem dX9_bitsOf_30 : decode cX9_bitsOf 30 = .ok (.fstore_n 1, 1) := by decide +kernel
theorem dX9_bitsOf_31 : decode cX9_bitsOf 31 = .ok (.iinc 2 (-1), 3) := by decide +kernel
theorem dX9_bitsOf_34 : decode cX9_bitsOf 34 = .ok (.iinc 3 1, 3) := by decide +kernel
theorem dX9_bitsOf_37 : decode cX9_bitsOf 37 = .ok (.goto (-22), 3) := by decide +kernel
theorem dX9_bitsOf_40 : decode cX9_bitsOf 40 = .ok (.iload_n 2, 1) := by decide +kernel
theorem dX9_bitsOf_41 : decode cX9_bitsOf 41 = .ok (.bipush 23, 2) := by decide +kernel
theorem dX9_bitsOf_43 : decode cX9_bitsOf 43 = .ok (.ishl, 1) := by decide +kernel
theorem dX9_bitsOf_44 : decode cX9_bitsOf 44 = .ok (.fload_n 1, 1) := by decide +kernel
theorem dX9_bitsOf_45 : decode cX9_bitsOf 45 = .ok (.fconst 1, 1) := by decide +kernel
theorem dX9_bitsOf_46 : decode cX9_bitsOf 46 = .ok (.fsub, 1) := by decide +kernel
theorem dX9_bitsOf_47 : decode cX9_bitsOf 47 = .ok (.ldc_w 336, 3) := by decide +kernel
theorem dX9_bitsOf_50 : decode cX9_bitsOf 50 = .ok (.fmul, 1) := by decide +kernel
theorem dX9_bitsOf_51 : decode cX9_bitsOf 51 = .ok (.f2i, 1) := by decide +kernel
theorem dX9_bitsOf_52 : decode cX9_bitsOf 52 = .ok (.iadd, 1) := by decide +kernel
theorem dX9_bitsOf_53 : decode cX9_bitsOf 53 = .ok (.ireturn, 1) := by decide +kernel
theorem dX9_asking_0 : decode cX9_asking 0 = .ok (.iload_n 1, 1) := by decide +kernel
theorem dX9_asking_1 : decode cX9_asking 1 = .ok (.ifCond .lt 8, 3) := by decide +kernel
theorem dX9_asking_4 : decode cX9_asking 4 = .ok (.iload_n 1, 1) := by decide +kernel
theorem dX9_asking_5 : decode cX9_asking 5 = .ok (.iconst 2, 1) := by decide +kernel
theorem dX9_asking_6 : decode cX9_asking 6 = .ok (.if_icmp .le 7, 3) := by decide +kernel
theorem dX9_asking_9 : decode cX9_asking 9 = .ok (.ldc2_w 239, 3) := by decide +kernel
theorem dX9_asking_12 : decode cX9_asking 12 = .ok (.lreturn, 1) := by decide +kernel
theorem dX9_asking_13 : decode cX9_asking 13 = .ok (.aload_n 0, 1) := by decide +kernel
theorem dX9_asking_14 : decode cX9_asking 14 = .ok (.getfield 53, 3) := by decide +kernel
theorem dX9_asking_17 : decode cX9_asking 17 = .ok (.aload_n 0, 1) := by decide +kernel
theorem dX9_asking_18 : decode cX9_asking 18 = .ok (.getfield 10, 3) := by decide +kernel
theorem dX9_asking_21 : decode cX9_asking 21 = .ok (.invokevirtual 241, 3) := by decide +kernel
theorem dX9_asking_24 : decode cX9_asking 24 = .ok (.aload_n 0, 1) := by decide +kernel
theorem dX9_asking_25 : decode cX9_asking 25 = .ok (.getfield 53, 3) := by decide +kernel
theorem dX9_asking_28 : decode cX9_asking 28 = .ok (.aload_n 0, 1) := by decide +kernel
theorem dX9_asking_29 : decode cX9_asking 29 = .ok (.getfield 10, 3) := by decide +kernel
theorem dX9_asking_32 : decode cX9_asking 32 = .ok (.invokevirtual 337, 3) := by decide +kernel
theorem dX9_asking_35 : decode cX9_asking 35 = .ok (.istore_n 2, 1) := by decide +kernel
theorem dX9_asking_36 : decode cX9_asking 36 = .ok (.iload_n 2, 1) := by decide +kernel
theorem dX9_asking_37 : decode cX9_asking 37 = .ok (.iconst (-1), 1) := by decide +kernel
theorem dX9_asking_38 : decode cX9_asking 38 = .ok (.if_icmp .ne 7, 3) := by decide +kernel
theorem dX9_asking_41 : decode cX9_asking 41 = .ok (.ldc2_w 340, 3) := by decide +kernel
theorem dX9_asking_44 : decode cX9_asking 44 = .ok (.lreturn, 1) := by decide +kernel
theorem dX9_asking_45 : decode cX9_asking 45 = .ok (.iload_n 2, 1) := by decide +kernel
theorem dX9_asking_46 : decode cX9_asking 46 = .ok (.bipush 12, 2) := by decide +kernel
theorem dX9_asking_48 : decode cX9_asking 48 = .ok (.idiv, 1) := by decide +kernel
theorem dX9_asking_49 : decode cX9_asking 49 = .ok (.istore_n 3, 1) := by decide +kernel
theorem dX9_asking_50 : decode cX9_asking 50 = .ok (.iload_n 2, 1) := by decide +kernel
theorem dX9_asking_51 : decode cX9_asking 51 = .ok (.bipush 12, 2) := by decide +kernel
theorem dX9_asking_53 : decode cX9_asking 53 = .ok (.irem, 1) := by decide +kernel
theorem dX9_asking_54 : decode cX9_asking 54 = .ok (.istore 4, 2) := by decide +kernel
theorem dX9_asking_56 : decode cX9_asking 56 = .ok (.iload_n 1, 1) := by decide +kernel
theorem dX9_asking_57 : decode cX9_asking 57 = .ok (.iconst 2, 1) := by decide +kernel
theorem dX9_asking_58 : decode cX9_asking 58 = .ok (.if_icmp .ne 15, 3) := by decide +kernel
theorem dX9_asking_61 : decode cX9_asking 61 = .ok (.aload_n 0, 1) := by decide +kernel
theorem dX9_asking_62 : decode cX9_asking 62 = .ok (.getfield 53, 3) := by decide +kernel
theorem dX9_asking_65 : decode cX9_asking 65 = .ok (.iload_n 3, 1) := by decide +kernel
theorem dX9_asking_66 : decode cX9_asking 66 = .ok (.iload 4, 2) := by decide +kernel
theorem dX9_asking_68 : decode cX9_asking 68 = .ok (.invokevirtual 342, 3) := by decide +kernel
theorem dX9_asking_71 : decode cX9_asking 71 = .ok (.i2l, 1) := by decide +kernel
theorem dX9_asking_72 : decode cX9_asking 72 = .ok (.lreturn, 1) := by decide +kernel
theorem dX9_asking_73 : decode cX9_asking 73 = .ok (.iload_n 1, 1) := by decide +kernel
theorem dX9_asking_74 : decode cX9_asking 74 = .ok (.ifCond .ne 8, 3) := by decide +kernel
theorem dX9_asking_77 : decode cX9_asking 77 = .ok (.iload_n 3, 1) := by decide +kernel
theorem dX9_asking_78 : decode cX9_asking 78 = .ok (.i2l, 1) := by decide +kernel
theorem dX9_asking_79 : decode cX9_asking 79 = .ok (.goto 6, 3) := by decide +kernel
theorem dX9_asking_82 : decode cX9_asking 82 = .ok (.iload 4, 2) := by decide +kernel
theorem dX9_asking_84 : decode cX9_asking 84 = .ok (.i2l, 1) := by decide +kernel
theorem dX9_asking_85 : decode cX9_asking 85 = .ok (.lreturn, 1) := by decide +kernel
theorem dX9_loose_0 : decode cX9_loose 0 = .ok (.aload_n 0, 1) := by decide +kernel
theorem dX9_loose_1 : decode cX9_loose 1 = .ok (.getfield 10, 3) := by decide +kernel
theorem dX9_loose_4 : decode cX9_loose 4 = .ok (.iload_n 1, 1) := by decide +kernel
theorem dX9_loose_5 : decode cX9_loose 5 = .ok (.invokevirtual 128, 3) := by decide +kernel
theorem dX9_loose_8 : decode cX9_loose 8 = .ok (.ifCond .ne 6, 3) := by decide +kernel
theorem dX9_loose_11 : decode cX9_loose 11 = .ok (.bipush (-2), 2) := by decide +kernel
theorem dX9_loose_13 : decode cX9_loose 13 = .ok (.ireturn, 1) := by decide +kernel
theorem dX9_loose_14 : decode cX9_loose 14 = .ok (.aload_n 0, 1) := by decide +kernel
theorem dX9_loose_15 : decode cX9_loose 15 = .ok (.iload_n 1, 1) := by decide +kernel
theorem dX9_loose_16 : decode cX9_loose 16 = .ok (.invokevirtual 345, 3) := by decide +kernel
theorem dX9_loose_19 : decode cX9_loose 19 = .ok (.ireturn, 1) := by decide +kernel
theorem dX9_countLoose_0 : decode cX9_countLoose 0 = .ok (.aload_n 0, 1) := by decide +kernel
theorem dX9_countLoose_1 : decode cX9_countLoose 1 = .ok (.getfield 60, 3) := by decide +kernel
theorem dX9_countLoose_4 : decode cX9_countLoose 4 = .ok (.aload_n 0, 1) := by decide +kernel
theorem dX9_countLoose_5 : decode cX9_countLoose 5 = .ok (.getfield 10, 3) := by decide +kernel
theorem dX9_countLoose_8 : decode cX9_countLoose 8 = .ok (.aload_n 0, 1) := by decide +kernel
theorem dX9_countLoose_9 : decode cX9_countLoose 9 = .ok (.getfield 22, 3) := by decide +kernel
theorem dX9_countLoose_12 : decode cX9_countLoose 12 = .ok (.invokevirtual 275, 3) := by decide +kernel
theorem dX9_countLoose_15 : decode cX9_countLoose 15 = .ok (.aload_n 0, 1) := by decide +kernel
theorem dX9_countLoose_16 : decode cX9_countLoose 16 = .ok (.getfield 10, 3) := by decide +kernel
theorem dX9_countLoose_19 : decode cX9_countLoose 19 = .ok (.aload_n 0, 1) := by decide +kernel
theorem dX9_countLoose_20 : decode cX9_countLoose 20 = .ok (.getfield 10, 3) := by decide +kernel
theorem dX9_countLoose_23 : decode cX9_countLoose 23 = .ok (.getfield 263, 3) := by decide +kernel
theorem dX9_countLoose_26 : decode cX9_countLoose 26 = .ok (.invokevirtual 266, 3) := by decide +kernel
theorem dX9_countLoose_29 : decode cX9_countLoose 29 = .ok (.istore_n 2, 1) := by decide +kernel
theorem dX9_countLoose_30 : decode cX9_countLoose 30 = .ok (.iconst 0, 1) := by decide +kernel
theorem dX9_countLoose_31 : decode cX9_countLoose 31 = .ok (.istore_n 3, 1) := by decide +kernel
theorem dX9_countLoose_32 : decode cX9_countLoose 32 = .ok (.iconst 0, 1) := by decide +kernel
theorem dX9_countLoose_33 : decode cX9_countLoose 33 = .ok (.istore 4, 2) := by decide +kernel
theorem dX9_countLoose_35 : decode cX9_countLoose 35 = .ok (.iload 4, 2) := by decide +kernel
theorem dX9_countLoose_37 : decode cX9_countLoose 37 = .ok (.aload_n 0, 1) := by decide +kernel
theorem dX9_countLoose_38 : decode cX9_countLoose 38 = .ok (.getfield 22, 3) := by decide +kernel
theorem dX9_countLoose_41 : decode cX9_countLoose 41 = .ok (.getfield 321, 3) := by decide +kernel
theorem dX9_countLoose_44 : decode cX9_countLoose 44 = .ok (.if_icmp .ge 69, 3) := by decide +kernel
theorem dX9_countLoose_47 : decode cX9_countLoose 47 = .ok (.aload_n 0, 1) := by decide +kernel
theorem dX9_countLoose_48 : decode cX9_countLoose 48 = .ok (.getfield 10, 3) := by decide +kernel
theorem dX9_countLoose_51 : decode cX9_countLoose 51 = .ok (.aload_n 0, 1) := by decide +kernel
theorem dX9_countLoose_52 : decode cX9_countLoose 52 = .ok (.getfield 22, 3) := by decide +kernel
theorem dX9_countLoose_55 : decode cX9_countLoose 55 = .ok (.getfield 348, 3) := by decide +kernel
theorem dX9_countLoose_58 : decode cX9_countLoose 58 = .ok (.iload 4, 2) := by decide +kernel
theorem dX9_countLoose_60 : decode cX9_countLoose 60 = .ok (.iaload, 1) := by decide +kernel
theorem dX9_countLoose_61 : decode cX9_countLoose 61 = .ok (.aload_n 0, 1) := by decide +kernel
theorem dX9_countLoose_62 : decode cX9_countLoose 62 = .ok (.getfield 22, 3) := by decide +kernel
theorem dX9_countLoose_65 : decode cX9_countLoose 65 = .ok (.getfield 351, 3) := by decide +kernel
theorem dX9_countLoose_68 : decode cX9_countLoose 68 = .ok (.iload 4, 2) := by decide +kernel
theorem dX9_countLoose_70 : decode cX9_countLoose 70 = .ok (.iaload, 1) := by decide +kernel
theorem dX9_countLoose_71 : decode cX9_countLoose 71 = .ok (.iload_n 2, 1) := by decide +kernel
theorem dX9_countLoose_72 : decode cX9_countLoose 72 = .ok (.iconst 1, 1) := by decide +kernel
theorem dX9_countLoose_73 : decode cX9_countLoose 73 = .ok (.iload_n 1, 1) := by decide +kernel
theorem dX9_countLoose_74 : decode cX9_countLoose 74 = .ok (.ishl, 1) := by decide +kernel
theorem dX9_countLoose_75 : decode cX9_countLoose 75 = .ok (.invokevirtual 354, 3) := by decide +kernel
theorem dX9_countLoose_78 : decode cX9_countLoose 78 = .ok (.istore 5, 2) := by decide +kernel
theorem dX9_countLoose_80 : decode cX9_countLoose 80 = .ok (.iload_n 3, 1) := by decide +kernel
theorem dX9_countLoose_81 : decode cX9_countLoose 81 = .ok (.aload_n 0, 1) := by decide +kernel
theorem dX9_countLoose_82 : decode cX9_countLoose 82 = .ok (.getfield 60, 3) := by decide +kernel
theorem dX9_countLoose_85 : decode cX9_countLoose 85 = .ok (.getfield 278, 3) := by decide +kernel
theorem dX9_countLoose_88 : decode cX9_countLoose 88 = .ok (.iload 4, 2) := by decide +kernel
theorem dX9_countLoose_90 : decode cX9_countLoose 90 = .ok (.iaload, 1) := by decide +kernel
theorem dX9_countLoose_91 : decode cX9_countLoose 91 = .ok (.invokestatic 287, 3) := by decide +kernel
theorem dX9_countLoose_94 : decode cX9_countLoose 94 = .ok (.iload 5, 2) := by decide +kernel
theorem dX9_countLoose_96 : decode cX9_countLoose 96 = .ok (.invokestatic 287, 3) := by decide +kernel
theorem dX9_countLoose_99 : decode cX9_countLoose 99 = .ok (.iconst (-1), 1) := by decide +kernel
theorem dX9_countLoose_100 : decode cX9_countLoose 100 = .ok (.ixor, 1) := by decide +kernel
theorem dX9_countLoose_101 : decode cX9_countLoose 101 = .ok (.iand, 1) := by decide +kernel
theorem dX9_countLoose_102 : decode cX9_countLoose 102 = .ok (.invokestatic 358, 3) := by decide +kernel
theorem dX9_countLoose_105 : decode cX9_countLoose 105 = .ok (.iadd, 1) := by decide +kernel
theorem dX9_countLoose_106 : decode cX9_countLoose 106 = .ok (.istore_n 3, 1) := by decide +kernel
theorem dX9_countLoose_107 : decode cX9_countLoose 107 = .ok (.iinc 4 1, 3) := by decide +kernel
theorem dX9_countLoose_110 : decode cX9_countLoose 110 = .ok (.goto (-75), 3) := by decide +kernel
theorem dX9_countLoose_113 : decode cX9_countLoose 113 = .ok (.iload_n 3, 1) := by decide +kernel
theorem dX9_countLoose_114 : decode cX9_countLoose 114 = .ok (.ireturn, 1) := by decide +kernel
theorem dX9_scrape_0 : decode cX9_scrape 0 = .ok (.iconst (-1), 1) := by decide +kernel
theorem dX9_scrape_1 : decode cX9_scrape 1 = .ok (.istore_n 1, 1) := by decide +kernel
theorem dX9_scrape_2 : decode cX9_scrape 2 = .ok (.iconst 0, 1) := by decide +kernel
theorem dX9_scrape_3 : decode cX9_scrape 3 = .ok (.istore_n 2, 1) := by decide +kernel
theorem dX9_scrape_4 : decode cX9_scrape 4 = .ok (.iconst 0, 1) := by decide +kernel
theorem dX9_scrape_5 : decode cX9_scrape 5 = .ok (.istore_n 3, 1) := by decide +kernel
theorem dX9_scrape_6 : decode cX9_scrape 6 = .ok (.iload_n 3, 1) := by decide +kernel
theorem dX9_scrape_7 : decode cX9_scrape 7 = .ok (.aload_n 0, 1) := by decide +kernel
theorem dX9_scrape_8 : decode cX9_scrape 8 = .ok (.getfield 10, 3) := by decide +kernel
theorem dX9_scrape_11 : decode cX9_scrape 11 = .ok (.getfield 227, 3) := by decide +kernel
theorem dX9_scrape_14 : decode cX9_scrape 14 = .ok (.if_icmp .ge 27, 3) := by decide +kernel
theorem dX9_scrape_17 : decode cX9_scrape 17 = .ok (.aload_n 0, 1) := by decide +kernel
theorem dX9_scrape_18 : decode cX9_scrape 18 = .ok (.iload_n 3, 1) := by decide +kernel
theorem dX9_scrape_19 : decode cX9_scrape 19 = .ok (.invokevirtual 345, 3) := by decide +kernel
theorem dX9_scrape_22 : decode cX9_scrape 22 = .ok (.istore 4, 2) := by decide +kernel
theorem dX9_scrape_24 : decode cX9_scrape 24 = .ok (.iload 4, 2) := by decide +kernel
theorem dX9_scrape_26 : decode cX9_scrape 26 = .ok (.iload_n 2, 1) := by decide +kernel
theorem dX9_scrape_27 : decode cX9_scrape 27 = .ok (.if_icmp .le 8, 3) := by decide +kernel
theorem dX9_scrape_30 : decode cX9_scrape 30 = .ok (.iload_n 3, 1) := by decide +kernel
theorem dX9_scrape_31 : decode cX9_scrape 31 = .ok (.istore_n 1, 1) := by decide +kernel
theorem dX9_scrape_32 : decode cX9_scrape 32 = .ok (.iload 4, 2) := by decide +kernel
theorem dX9_scrape_34 : decode cX9_scrape 34 = .ok (.istore_n 2, 1) := by decide +kernel
theorem dX9_scrape_35 : decode cX9_scrape 35 = .ok (.iinc 3 1, 3) := by decide +kernel
theorem dX9_scrape_38 : decode cX9_scrape 38 = .ok (.goto (-32), 3) := by decide +kernel
theorem dX9_scrape_41 : decode cX9_scrape 41 = .ok (.iload_n 1, 1) := by decide +kernel
theorem dX9_scrape_42 : decode cX9_scrape 42 = .ok (.ireturn, 1) := by decide +kernel
theorem dX9_clearer_0 : decode cX9_clearer 0 = .ok (.aload_n 0, 1) := by decide +kernel
theorem dX9_clearer_1 : decode cX9_clearer 1 = .ok (.getfield 22, 3) := by decide +kernel
theorem dX9_clearer_4 : decode cX9_clearer 4 = .ok (.iload_n 1, 1) := by decide +kernel
theorem dX9_clearer_5 : decode cX9_clearer 5 = .ok (.invokevirtual 272, 3) := by decide +kernel
theorem dX9_clearer_8 : decode cX9_clearer 8 = .ok (.ifCond .eq 14, 3) := by decide +kernel
theorem dX9_clearer_11 : decode cX9_clearer 11 = .ok (.aload_n 0, 1) := by decide +kernel
theorem dX9_clearer_12 : decode cX9_clearer 12 = .ok (.getfield 10, 3) := by decide +kernel
theorem dX9_clearer_15 : decode cX9_clearer 15 = .ok (.iload_n 2, 1) := by decide +kernel
theorem dX9_clearer_16 : decode cX9_clearer 16 = .ok (.invokevirtual 128, 3) := by decide +kernel
theorem dX9_clearer_19 : decode cX9_clearer 19 = .ok (.ifCond .ne 6, 3) := by decide +kernel
theorem dX9_clearer_22 : decode cX9_clearer 22 = .ok (.bipush (-2), 2) := by decide +kernel
theorem dX9_clearer_24 : decode cX9_clearer 24 = .ok (.ireturn, 1) := by decide +kernel
theorem dX9_clearer_25 : decode cX9_clearer 25 = .ok (.aload_n 0, 1) := by decide +kernel
theorem dX9_clearer_26 : decode cX9_clearer 26 = .ok (.getfield 10, 3) := by decide +kernel
theorem dX9_clearer_29 : decode cX9_clearer 29 = .ok (.aload_n 0, 1) := by decide +kernel
theorem dX9_clearer_30 : decode cX9_clearer 30 = .ok (.getfield 10, 3) := by decide +kernel
theorem dX9_clearer_33 : decode cX9_clearer 33 = .ok (.getfield 263, 3) := by decide +kernel
theorem dX9_clearer_36 : decode cX9_clearer 36 = .ok (.invokevirtual 266, 3) := by decide +kernel
theorem dX9_clearer_39 : decode cX9_clearer 39 = .ok (.istore_n 3, 1) := by decide +kernel
theorem dX9_clearer_40 : decode cX9_clearer 40 = .ok (.aload_n 0, 1) := by decide +kernel
theorem dX9_clearer_41 : decode cX9_clearer 41 = .ok (.getfield 10, 3) := by decide +kernel
theorem dX9_clearer_44 : decode cX9_clearer 44 = .ok (.aload_n 0, 1) := by decide +kernel
theorem dX9_clearer_45 : decode cX9_clearer 45 = .ok (.getfield 22, 3) := by decide +kernel
theorem dX9_clearer_48 : decode cX9_clearer 48 = .ok (.getfield 348, 3) := by decide +kernel
theorem dX9_clearer_51 : decode cX9_clearer 51 = .ok (.iload_n 1, 1) := by decide +kernel
theorem dX9_clearer_52 : decode cX9_clearer 52 = .ok (.iaload, 1) := by decide +kernel
theorem dX9_clearer_53 : decode cX9_clearer 53 = .ok (.aload_n 0, 1) := by decide +kernel
theorem dX9_clearer_54 : decode cX9_clearer 54 = .ok (.getfield 22, 3) := by decide +kernel
theorem dX9_clearer_57 : decode cX9_clearer 57 = .ok (.getfield 351, 3) := by decide +kernel
theorem dX9_clearer_60 : decode cX9_clearer 60 = .ok (.iload_n 1, 1) := by decide +kernel
theorem dX9_clearer_61 : decode cX9_clearer 61 = .ok (.iaload, 1) := by decide +kernel
theorem dX9_clearer_62 : decode cX9_clearer 62 = .ok (.iload_n 3, 1) := by decide +kernel
theorem dX9_clearer_63 : decode cX9_clearer 63 = .ok (.iconst 1, 1) := by decide +kernel
theorem dX9_clearer_64 : decode cX9_clearer 64 = .ok (.iload_n 2, 1) := by decide +kernel
theorem dX9_clearer_65 : decode cX9_clearer 65 = .ok (.ishl, 1) := by decide +kernel
theorem dX9_clearer_66 : decode cX9_clearer 66 = .ok (.invokevirtual 354, 3) := by decide +kernel
theorem dX9_clearer_69 : decode cX9_clearer 69 = .ok (.istore 4, 2) := by decide +kernel
theorem dX9_clearer_71 : decode cX9_clearer 71 = .ok (.aload_n 0, 1) := by decide +kernel
theorem dX9_clearer_72 : decode cX9_clearer 72 = .ok (.getfield 22, 3) := by decide +kernel
theorem dX9_clearer_75 : decode cX9_clearer 75 = .ok (.iload 4, 2) := by decide +kernel
theorem dX9_clearer_77 : decode cX9_clearer 77 = .ok (.invokevirtual 363, 3) := by decide +kernel
theorem dX9_clearer_80 : decode cX9_clearer 80 = .ok (.invokestatic 358, 3) := by decide +kernel
theorem dX9_clearer_83 : decode cX9_clearer 83 = .ok (.ireturn, 1) := by decide +kernel
theorem dX9_span_0 : decode cX9_span 0 = .ok (.aload_n 0, 1) := by decide +kernel
theorem dX9_span_1 : decode cX9_span 1 = .ok (.getfield 10, 3) := by decide +kernel
theorem dX9_span_4 : decode cX9_span 4 = .ok (.iload_n 1, 1) := by decide +kernel
theorem dX9_span_5 : decode cX9_span 5 = .ok (.invokevirtual 128, 3) := by decide +kernel
theorem dX9_span_8 : decode cX9_span 8 = .ok (.ifCond .ne 7, 3) := by decide +kernel
theorem dX9_span_11 : decode cX9_span 11 = .ok (.ldc2_w 239, 3) := by decide +kernel
theorem dX9_span_14 : decode cX9_span 14 = .ok (.lreturn, 1) := by decide +kernel
theorem dX9_span_15 : decode cX9_span 15 = .ok (.iload_n 2, 1) := by decide +kernel
theorem dX9_span_16 : decode cX9_span 16 = .ok (.tableswitch 86 0 2 #[28, 42, 66], 28) := by decide +kernel
theorem dX9_span_44 : decode cX9_span 44 = .ok (.aload_n 0, 1) := by decide +kernel
theorem dX9_span_45 : decode cX9_span 45 = .ok (.getfield 10, 3) := by decide +kernel
theorem dX9_span_48 : decode cX9_span 48 = .ok (.getfield 210, 3) := by decide +kernel
theorem dX9_span_51 : decode cX9_span 51 = .ok (.iload_n 1, 1) := by decide +kernel
theorem dX9_span_52 : decode cX9_span 52 = .ok (.iaload, 1) := by decide +kernel
theorem dX9_span_53 : decode cX9_span 53 = .ok (.invokestatic 358, 3) := by decide +kernel
theorem dX9_span_56 : decode cX9_span 56 = .ok (.i2l, 1) := by decide +kernel
theorem dX9_span_57 : decode cX9_span 57 = .ok (.lreturn, 1) := by decide +kernel
theorem dX9_span_58 : decode cX9_span 58 = .ok (.aload_n 0, 1) := by decide +kernel
theorem dX9_span_59 : decode cX9_span 59 = .ok (.getfield 10, 3) := by decide +kernel
theorem dX9_span_62 : decode cX9_span 62 = .ok (.getfield 227, 3) := by decide +kernel
theorem dX9_span_65 : decode cX9_span 65 = .ok (.iconst 1, 1) := by decide +kernel
theorem dX9_span_66 : decode cX9_span 66 = .ok (.isub, 1) := by decide +kernel
theorem dX9_span_67 : decode cX9_span 67 = .ok (.aload_n 0, 1) := by decide +kernel
theorem dX9_span_68 : decode cX9_span 68 = .ok (.getfield 10, 3) := by decide +kernel
theorem dX9_span_71 : decode cX9_span 71 = .ok (.getfield 213, 3) := by decide +kernel
theorem dX9_span_74 : decode cX9_span 74 = .ok (.iload_n 1, 1) := by decide +kernel
theorem dX9_span_75 : decode cX9_span 75 = .ok (.iaload, 1) := by decide +kernel
theorem dX9_span_76 : decode cX9_span 76 = .ok (.invokestatic 358, 3) := by decide +kernel
theorem dX9_span_79 : decode cX9_span 79 = .ok (.isub, 1) := by decide +kernel
theorem dX9_span_80 : decode cX9_span 80 = .ok (.i2l, 1) := by decide +kernel
theorem dX9_span_81 : decode cX9_span 81 = .ok (.lreturn, 1) := by decide +kernel
theorem dX9_span_82 : decode cX9_span 82 = .ok (.aload_n 0, 1) := by decide +kernel
theorem dX9_span_83 : decode cX9_span 83 = .ok (.getfield 53, 3) := by decide +kernel
theorem dX9_span_86 : decode cX9_span 86 = .ok (.aload_n 0, 1) := by decide +kernel
theorem dX9_span_87 : decode cX9_span 87 = .ok (.getfield 10, 3) := by decide +kernel
theorem dX9_span_90 : decode cX9_span 90 = .ok (.invokevirtual 241, 3) := by decide +kernel
theorem dX9_span_93 : decode cX9_span 93 = .ok (.aload_n 0, 1) := by decide +kernel
theorem dX9_span_94 : decode cX9_span 94 = .ok (.getfield 53, 3) := by decide +kernel
theorem dX9_span_97 : decode cX9_span 97 = .ok (.iload_n 1, 1) := by decide +kernel
theorem dX9_span_98 : decode cX9_span 98 = .ok (.invokevirtual 366, 3) := by decide +kernel
theorem dX9_span_101 : decode cX9_span 101 = .ok (.lreturn, 1) := by decide +kernel
theorem dX9_span_102 : decode cX9_span 102 = .ok (.ldc2_w 239, 3) := by decide +kernel
theorem dX9_span_105 : decode cX9_span 105 = .ok (.lreturn, 1) := by decide +kernel
theorem dX9_paired_0 : decode cX9_paired 0 = .ok (.aload_n 0, 1) := by decide +kernel
theorem dX9_paired_1 : decode cX9_paired 1 = .ok (.getfield 10, 3) := by decide +kernel
theorem dX9_paired_4 : decode cX9_paired 4 = .ok (.iload_n 1, 1) := by decide +kernel
theorem dX9_paired_5 : decode cX9_paired 5 = .ok (.iload_n 2, 1) := by decide +kernel
theorem dX9_paired_6 : decode cX9_paired 6 = .ok (.invokevirtual 216, 3) := by decide +kernel
theorem dX9_paired_9 : decode cX9_paired 9 = .ok (.ifCond .ne 6, 3) := by decide +kernel
theorem dX9_paired_12 : decode cX9_paired 12 = .ok (.bipush (-2), 2) := by decide +kernel
theorem dX9_paired_14 : decode cX9_paired 14 = .ok (.ireturn, 1) := by decide +kernel
theorem dX9_paired_15 : decode cX9_paired 15 = .ok (.aload_n 0, 1) := by decide +kernel
theorem dX9_paired_16 : decode cX9_paired 16 = .ok (.getfield 10, 3) := by decide +kernel
theorem dX9_paired_19 : decode cX9_paired 19 = .ok (.iload_n 1, 1) := by decide +kernel
theorem dX9_paired_20 : decode cX9_paired 20 = .ok (.iload_n 2, 1) := by decide +kernel
theorem dX9_paired_21 : decode cX9_paired 21 = .ok (.invokevirtual 369, 3) := by decide +kernel
theorem dX9_paired_24 : decode cX9_paired 24 = .ok (.ifCond .eq 7, 3) := by decide +kernel
theorem dX9_paired_27 : decode cX9_paired 27 = .ok (.iconst 0, 1) := by decide +kernel
theorem dX9_paired_28 : decode cX9_paired 28 = .ok (.goto 4, 3) := by decide +kernel
theorem dX9_paired_31 : decode cX9_paired 31 = .ok (.iconst 1, 1) := by decide +kernel
theorem dX9_paired_32 : decode cX9_paired 32 = .ok (.ireturn, 1) := by decide +kernel
theorem dX9_likelihood_0 : decode cX9_likelihood 0 = .ok (.aload_n 0, 1) := by decide +kernel
theorem dX9_likelihood_1 : decode cX9_likelihood 1 = .ok (.getfield 22, 3) := by decide +kernel
theorem dX9_likelihood_4 : decode cX9_likelihood 4 = .ok (.iload_n 1, 1) := by decide +kernel
theorem dX9_likelihood_5 : decode cX9_likelihood 5 = .ok (.invokevirtual 307, 3) := by decide +kernel
theorem dX9_likelihood_8 : decode cX9_likelihood 8 = .ok (.ifCond .eq 14, 3) := by decide +kernel
theorem dX9_likelihood_11 : decode cX9_likelihood 11 = .ok (.aload_n 0, 1) := by decide +kernel
theorem dX9_likelihood_12 : decode cX9_likelihood 12 = .ok (.getfield 22, 3) := by decide +kernel
theorem dX9_likelihood_15 : decode cX9_likelihood 15 = .ok (.iload_n 2, 1) := by decide +kernel
theorem dX9_likelihood_16 : decode cX9_likelihood 16 = .ok (.invokevirtual 372, 3) := by decide +kernel
theorem dX9_likelihood_19 : decode cX9_likelihood 19 = .ok (.ifCond .ne 6, 3) := by decide +kernel
theorem dX9_likelihood_22 : decode cX9_likelihood 22 = .ok (.bipush (-2), 2) := by decide +kernel
theorem dX9_likelihood_24 : decode cX9_likelihood 24 = .ok (.ireturn, 1) := by decide +kernel
theorem dX9_likelihood_25 : decode cX9_likelihood 25 = .ok (.aload_n 0, 1) := by decide +kernel
theorem dX9_likelihood_26 : decode cX9_likelihood 26 = .ok (.getfield 60, 3) := by decide +kernel
theorem dX9_likelihood_29 : decode cX9_likelihood 29 = .ok (.aload_n 0, 1) := by decide +kernel
theorem dX9_likelihood_30 : decode cX9_likelihood 30 = .ok (.getfield 10, 3) := by decide +kernel
theorem dX9_likelihood_33 : decode cX9_likelihood 33 = .ok (.aload_n 0, 1) := by decide +kernel
theorem dX9_likelihood_34 : decode cX9_likelihood 34 = .ok (.getfield 22, 3) := by decide +kernel
theorem dX9_likelihood_37 : decode cX9_likelihood 37 = .ok (.invokevirtual 275, 3) := by decide +kernel
theorem dX9_likelihood_40 : decode cX9_likelihood 40 = .ok (.aload_n 0, 1) := by decide +kernel
theorem dX9_likelihood_41 : decode cX9_likelihood 41 = .ok (.getfield 22, 3) := by decide +kernel
theorem dX9_likelihood_44 : decode cX9_likelihood 44 = .ok (.iload_n 2, 1) := by decide +kernel
theorem dX9_likelihood_45 : decode cX9_likelihood 45 = .ok (.iload_n 1, 1) := by decide +kernel
theorem dX9_likelihood_46 : decode cX9_likelihood 46 = .ok (.aload_n 0, 1) := by decide +kernel
theorem dX9_likelihood_47 : decode cX9_likelihood 47 = .ok (.getfield 60, 3) := by decide +kernel
theorem dX9_likelihood_50 : decode cX9_likelihood 50 = .ok (.getfield 290, 3) := by decide +kernel
theorem dX9_likelihood_53 : decode cX9_likelihood 53 = .ok (.invokevirtual 313, 3) := by decide +kernel
theorem dX9_likelihood_56 : decode cX9_likelihood 56 = .ok (.ifCond .ne 5, 3) := by decide +kernel
theorem dX9_likelihood_59 : decode cX9_likelihood 59 = .ok (.iconst 0, 1) := by decide +kernel
theorem dX9_likelihood_60 : decode cX9_likelihood 60 = .ok (.ireturn, 1) := by decide +kernel
theorem dX9_likelihood_61 : decode cX9_likelihood 61 = .ok (.fconst 1, 1) := by decide +kernel
theorem dX9_likelihood_62 : decode cX9_likelihood 62 = .ok (.fstore_n 3, 1) := by decide +kernel
theorem dX9_likelihood_63 : decode cX9_likelihood 63 = .ok (.aload_n 0, 1) := by decide +kernel
theorem dX9_likelihood_64 : decode cX9_likelihood 64 = .ok (.getfield 22, 3) := by decide +kernel
theorem dX9_likelihood_67 : decode cX9_likelihood 67 = .ok (.getfield 375, 3) := by decide +kernel
theorem dX9_likelihood_70 : decode cX9_likelihood 70 = .ok (.iload_n 1, 1) := by decide +kernel
theorem dX9_likelihood_71 : decode cX9_likelihood 71 = .ok (.iaload, 1) := by decide +kernel
theorem dX9_likelihood_72 : decode cX9_likelihood 72 = .ok (.istore 4, 2) := by decide +kernel
theorem dX9_likelihood_74 : decode cX9_likelihood 74 = .ok (.iconst 0, 1) := by decide +kernel
theorem dX9_likelihood_75 : decode cX9_likelihood 75 = .ok (.istore 5, 2) := by decide +kernel
theorem dX9_likelihood_77 : decode cX9_likelihood 77 = .ok (.iload 5, 2) := by decide +kernel
theorem dX9_likelihood_79 : decode cX9_likelihood 79 = .ok (.aload_n 0, 1) := by decide +kernel
theorem dX9_likelihood_80 : decode cX9_likelihood 80 = .ok (.getfield 22, 3) := by decide +kernel
theorem dX9_likelihood_83 : decode cX9_likelihood 83 = .ok (.getfield 378, 3) := by decide +kernel
theorem dX9_likelihood_86 : decode cX9_likelihood 86 = .ok (.iload_n 2, 1) := by decide +kernel
theorem dX9_likelihood_87 : decode cX9_likelihood 87 = .ok (.iaload, 1) := by decide +kernel
theorem dX9_likelihood_88 : decode cX9_likelihood 88 = .ok (.if_icmp .ge 42, 3) := by decide +kernel
theorem dX9_likelihood_91 : decode cX9_likelihood 91 = .ok (.fload_n 3, 1) := by decide +kernel
theorem dX9_likelihood_92 : decode cX9_likelihood 92 = .ok (.aload_n 0, 1) := by decide +kernel
theorem dX9_likelihood_93 : decode cX9_likelihood 93 = .ok (.getfield 22, 3) := by decide +kernel
theorem dX9_likelihood_96 : decode cX9_likelihood 96 = .ok (.aload_n 0, 1) := by decide +kernel
theorem dX9_likelihood_97 : decode cX9_likelihood 97 = .ok (.getfield 22, 3) := by decide +kernel
theorem dX9_likelihood_100 : decode cX9_likelihood 100 = .ok (.iload_n 2, 1) := by decide +kernel
theorem dX9_likelihood_101 : decode cX9_likelihood 101 = .ok (.iload 5, 2) := by decide +kernel
theorem dX9_likelihood_103 : decode cX9_likelihood 103 = .ok (.invokevirtual 381, 3) := by decide +kernel
theorem dX9_likelihood_106 : decode cX9_likelihood 106 = .ok (.aload_n 0, 1) := by decide +kernel
theorem dX9_likelihood_107 : decode cX9_likelihood 107 = .ok (.getfield 60, 3) := by decide +kernel
theorem dX9_likelihood_110 : decode cX9_likelihood 110 = .ok (.getfield 293, 3) := by decide +kernel
theorem dX9_likelihood_113 : decode cX9_likelihood 113 = .ok (.iload 4, 2) := by decide +kernel
theorem dX9_likelihood_115 : decode cX9_likelihood 115 = .ok (.iload 5, 2) := by decide +kernel
theorem dX9_likelihood_117 : decode cX9_likelihood 117 = .ok (.iadd, 1) := by decide +kernel
theorem dX9_likelihood_118 : decode cX9_likelihood 118 = .ok (.iaload, 1) := by decide +kernel
theorem dX9_likelihood_119 : decode cX9_likelihood 119 = .ok (.invokevirtual 296, 3) := by decide +kernel
theorem dX9_likelihood_122 : decode cX9_likelihood 122 = .ok (.fmul, 1) := by decide +kernel
theorem dX9_likelihood_123 : decode cX9_likelihood 123 = .ok (.fstore_n 3, 1) := by decide +kernel
theorem dX9_likelihood_124 : decode cX9_likelihood 124 = .ok (.iinc 5 1, 3) := by decide +kernel
theorem dX9_likelihood_127 : decode cX9_likelihood 127 = .ok (.goto (-50), 3) := by decide +kernel
theorem dX9_likelihood_130 : decode cX9_likelihood 130 = .ok (.fload_n 3, 1) := by decide +kernel
theorem dX9_likelihood_131 : decode cX9_likelihood 131 = .ok (.invokestatic 300, 3) := by decide +kernel
theorem dX9_likelihood_134 : decode cX9_likelihood 134 = .ok (.ireturn, 1) := by decide +kernel
theorem dX9_spoilt_0 : decode cX9_spoilt 0 = .ok (.aload_n 0, 1) := by decide +kernel
theorem dX9_spoilt_1 : decode cX9_spoilt 1 = .ok (.getfield 10, 3) := by decide +kernel
theorem dX9_spoilt_4 : decode cX9_spoilt 4 = .ok (.iload_n 1, 1) := by decide +kernel
theorem dX9_spoilt_5 : decode cX9_spoilt 5 = .ok (.invokevirtual 128, 3) := by decide +kernel
theorem dX9_spoilt_8 : decode cX9_spoilt 8 = .ok (.ifCond .ne 6, 3) := by decide +kernel
theorem dX9_spoilt_11 : decode cX9_spoilt 11 = .ok (.bipush (-2), 2) := by decide +kernel
theorem dX9_spoilt_13 : decode cX9_spoilt 13 = .ok (.ireturn, 1) := by decide +kernel
theorem dX9_spoilt_14 : decode cX9_spoilt 14 = .ok (.iload_n 2, 1) := by decide +kernel
theorem dX9_spoilt_15 : decode cX9_spoilt 15 = .ok (.ifCond .eq 11, 3) := by decide +kernel
theorem dX9_spoilt_18 : decode cX9_spoilt 18 = .ok (.iload_n 2, 1) := by decide +kernel
theorem dX9_spoilt_19 : decode cX9_spoilt 19 = .ok (.iconst 1, 1) := by decide +kernel
theorem dX9_spoilt_20 : decode cX9_spoilt 20 = .ok (.if_icmp .eq 6, 3) := by decide +kernel
theorem dX9_spoilt_23 : decode cX9_spoilt 23 = .ok (.bipush (-3), 2) := by decide +kernel
theorem dX9_spoilt_25 : decode cX9_spoilt 25 = .ok (.ireturn, 1) := by decide +kernel
theorem dX9_spoilt_26 : decode cX9_spoilt 26 = .ok (.aload_n 0, 1) := by decide +kernel
theorem dX9_spoilt_27 : decode cX9_spoilt 27 = .ok (.getfield 10, 3) := by decide +kernel
theorem dX9_spoilt_30 : decode cX9_spoilt 30 = .ok (.iload_n 1, 1) := by decide +kernel
theorem dX9_spoilt_31 : decode cX9_spoilt 31 = .ok (.iload_n 2, 1) := by decide +kernel
theorem dX9_spoilt_32 : decode cX9_spoilt 32 = .ok (.invokevirtual 139, 3) := by decide +kernel
theorem dX9_spoilt_35 : decode cX9_spoilt 35 = .ok (.ifCond .eq 7, 3) := by decide +kernel
theorem dX9_spoilt_38 : decode cX9_spoilt 38 = .ok (.ldc_w 384, 3) := by decide +kernel
theorem dX9_spoilt_41 : decode cX9_spoilt 41 = .ok (.ireturn, 1) := by decide +kernel
theorem dX9_spoilt_42 : decode cX9_spoilt 42 = .ok (.iconst 1, 1) := by decide +kernel
theorem dX9_spoilt_43 : decode cX9_spoilt 43 = .ok (.iload_n 1, 1) := by decide +kernel
theorem dX9_spoilt_44 : decode cX9_spoilt 44 = .ok (.ishl, 1) := by decide +kernel
theorem dX9_spoilt_45 : decode cX9_spoilt 45 = .ok (.istore_n 3, 1) := by decide +kernel
theorem dX9_spoilt_46 : decode cX9_spoilt 46 = .ok (.iload_n 2, 1) := by decide +kernel
theorem dX9_spoilt_47 : decode cX9_spoilt 47 = .ok (.ifCond .ne 15, 3) := by decide +kernel
theorem dX9_spoilt_50 : decode cX9_spoilt 50 = .ok (.aload_n 0, 1) := by decide +kernel
theorem dX9_spoilt_51 : decode cX9_spoilt 51 = .ok (.getfield 10, 3) := by decide +kernel
theorem dX9_spoilt_54 : decode cX9_spoilt 54 = .ok (.getfield 263, 3) := by decide +kernel
theorem dX9_spoilt_57 : decode cX9_spoilt 57 = .ok (.iload_n 3, 1) := by decide +kernel
theorem dX9_spoilt_58 : decode cX9_spoilt 58 = .ok (.ior, 1) := by decide +kernel
theorem dX9_spoilt_59 : decode cX9_spoilt 59 = .ok (.goto 14, 3) := by decide +kernel
theorem dX9_spoilt_62 : decode cX9_spoilt 62 = .ok (.aload_n 0, 1) := by decide +kernel
theorem dX9_spoilt_63 : decode cX9_spoilt 63 = .ok (.getfield 10, 3) := by decide +kernel
theorem dX9_spoilt_66 : decode cX9_spoilt 66 = .ok (.getfield 263, 3) := by decide +kernel
theorem dX9_spoilt_69 : decode cX9_spoilt 69 = .ok (.iload_n 3, 1) := by decide +kernel
theorem dX9_spoilt_70 : decode cX9_spoilt 70 = .ok (.iconst (-1), 1) := by decide +kernel
theorem dX9_spoilt_71 : decode cX9_spoilt 71 = .ok (.ixor, 1) := by decide +kernel
theorem dX9_spoilt_72 : decode cX9_spoilt 72 = .ok (.iand, 1) := by decide +kernel
theorem dX9_spoilt_73 : decode cX9_spoilt 73 = .ok (.istore 4, 2) := by decide +kernel
theorem dX9_spoilt_75 : decode cX9_spoilt 75 = .ok (.aload_n 0, 1) := by decide +kernel
theorem dX9_spoilt_76 : decode cX9_spoilt 76 = .ok (.aload_n 0, 1) := by decide +kernel
theorem dX9_spoilt_77 : decode cX9_spoilt 77 = .ok (.getfield 10, 3) := by decide +kernel
theorem dX9_spoilt_80 : decode cX9_spoilt 80 = .ok (.aload_n 0, 1) := by decide +kernel
theorem dX9_spoilt_81 : decode cX9_spoilt 81 = .ok (.getfield 10, 3) := by decide +kernel
theorem dX9_spoilt_84 : decode cX9_spoilt 84 = .ok (.getfield 263, 3) := by decide +kernel
theorem dX9_spoilt_87 : decode cX9_spoilt 87 = .ok (.invokevirtual 266, 3) := by decide +kernel
theorem dX9_spoilt_90 : decode cX9_spoilt 90 = .ok (.invokevirtual 385, 3) := by decide +kernel
theorem dX9_spoilt_93 : decode cX9_spoilt 93 = .ok (.istore 5, 2) := by decide +kernel
theorem dX9_spoilt_95 : decode cX9_spoilt 95 = .ok (.sipush 1000, 3) := by decide +kernel
theorem dX9_spoilt_98 : decode cX9_spoilt 98 = .ok (.iload 5, 2) := by decide +kernel
theorem dX9_spoilt_100 : decode cX9_spoilt 100 = .ok (.iadd, 1) := by decide +kernel
theorem dX9_spoilt_101 : decode cX9_spoilt 101 = .ok (.aload_n 0, 1) := by decide +kernel
theorem dX9_spoilt_102 : decode cX9_spoilt 102 = .ok (.aload_n 0, 1) := by decide +kernel
theorem dX9_spoilt_103 : decode cX9_spoilt 103 = .ok (.getfield 10, 3) := by decide +kernel
theorem dX9_spoilt_106 : decode cX9_spoilt 106 = .ok (.iload 4, 2) := by decide +kernel
theorem dX9_spoilt_108 : decode cX9_spoilt 108 = .ok (.invokevirtual 266, 3) := by decide +kernel
theorem dX9_spoilt_111 : decode cX9_spoilt 111 = .ok (.invokevirtual 385, 3) := by decide +kernel
theorem dX9_spoilt_114 : decode cX9_spoilt 114 = .ok (.isub, 1) := by decide +kernel
theorem dX9_spoilt_115 : decode cX9_spoilt 115 = .ok (.ireturn, 1) := by decide +kernel
theorem dX9_countFitting_0 : decode cX9_countFitting 0 = .ok (.iconst 0, 1) := by decide +kernel
theorem dX9_countFitting_1 : decode cX9_countFitting 1 = .ok (.istore_n 2, 1) := by decide +kernel
theorem dX9_countFitting_2 : decode cX9_countFitting 2 = .ok (.iconst 0, 1) := by decide +kernel
theorem dX9_countFitting_3 : decode cX9_countFitting 3 = .ok (.istore_n 3, 1) := by decide +kernel
theorem dX9_countFitting_4 : decode cX9_countFitting 4 = .ok (.iload_n 3, 1) := by decide +kernel
theorem dX9_countFitting_5 : decode cX9_countFitting 5 = .ok (.aload_n 0, 1) := by decide +kernel
theorem dX9_countFitting_6 : decode cX9_countFitting 6 = .ok (.getfield 22, 3) := by decide +kernel
theorem dX9_countFitting_9 : decode cX9_countFitting 9 = .ok (.getfield 321, 3) := by decide +kernel
theorem dX9_countFitting_12 : decode cX9_countFitting 12 = .ok (.if_icmp .ge 53, 3) := by decide +kernel
theorem dX9_countFitting_15 : decode cX9_countFitting 15 = .ok (.aload_n 0, 1) := by decide +kernel
theorem dX9_countFitting_16 : decode cX9_countFitting 16 = .ok (.getfield 10, 3) := by decide +kernel
theorem dX9_countFitting_19 : decode cX9_countFitting 19 = .ok (.aload_n 0, 1) := by decide +kernel
theorem dX9_countFitting_20 : decode cX9_countFitting 20 = .ok (.getfield 22, 3) := by decide +kernel
theorem dX9_countFitting_23 : decode cX9_countFitting 23 = .ok (.getfield 348, 3) := by decide +kernel
theorem dX9_countFitting_26 : decode cX9_countFitting 26 = .ok (.iload_n 3, 1) := by decide +kernel
theorem dX9_countFitting_27 : decode cX9_countFitting 27 = .ok (.iaload, 1) := by decide +kernel
theorem dX9_countFitting_28 : decode cX9_countFitting 28 = .ok (.aload_n 0, 1) := by decide +kernel
theorem dX9_countFitting_29 : decode cX9_countFitting 29 = .ok (.getfield 22, 3) := by decide +kernel
theorem dX9_countFitting_32 : decode cX9_countFitting 32 = .ok (.getfield 351, 3) := by decide +kernel
theorem dX9_countFitting_35 : decode cX9_countFitting 35 = .ok (.iload_n 3, 1) := by decide +kernel
theorem dX9_countFitting_36 : decode cX9_countFitting 36 = .ok (.iaload, 1) := by decide +kernel
theorem dX9_countFitting_37 : decode cX9_countFitting 37 = .ok (.iload_n 1, 1) := by decide +kernel
theorem dX9_countFitting_38 : decode cX9_countFitting 38 = .ok (.iconst 0, 1) := by decide +kernel
theorem dX9_countFitting_39 : decode cX9_countFitting 39 = .ok (.invokevirtual 354, 3) := by decide +kernel
theorem dX9_countFitting_42 : decode cX9_countFitting 42 = .ok (.istore 4, 2) := by decide +kernel
theorem dX9_countFitting_44 : decode cX9_countFitting 44 = .ok (.iload_n 2, 1) := by decide +kernel
theorem dX9_countFitting_45 : decode cX9_countFitting 45 = .ok (.aload_n 0, 1) := by decide +kernel
theorem dX9_countFitting_46 : decode cX9_countFitting 46 = .ok (.getfield 22, 3) := by decide +kernel
theorem dX9_countFitting_49 : decode cX9_countFitting 49 = .ok (.iload 4, 2) := by decide +kernel
theorem dX9_countFitting_51 : decode cX9_countFitting 51 = .ok (.invokevirtual 363, 3) := by decide +kernel
theorem dX9_countFitting_54 : decode cX9_countFitting 54 = .ok (.invokestatic 358, 3) := by decide +kernel
theorem dX9_countFitting_57 : decode cX9_countFitting 57 = .ok (.iadd, 1) := by decide +kernel
theorem dX9_countFitting_58 : decode cX9_countFitting 58 = .ok (.istore_n 2, 1) := by decide +kernel
theorem dX9_countFitting_59 : decode cX9_countFitting 59 = .ok (.iinc 3 1, 3) := by decide +kernel
theorem dX9_countFitting_62 : decode cX9_countFitting 62 = .ok (.goto (-58), 3) := by decide +kernel
theorem dX9_countFitting_65 : decode cX9_countFitting 65 = .ok (.iload_n 2, 1) := by decide +kernel
theorem dX9_countFitting_66 : decode cX9_countFitting 66 = .ok (.ireturn, 1) := by decide +kernel
theorem dX9_row_0 : decode cX9_row 0 = .ok (.iload_n 1, 1) := by decide +kernel
theorem dX9_row_1 : decode cX9_row 1 = .ok (.invokestatic 388, 3) := by decide +kernel
theorem dX9_row_4 : decode cX9_row 4 = .ok (.ifCond .ne 6, 3) := by decide +kernel
theorem dX9_row_7 : decode cX9_row 7 = .ok (.bipush (-2), 2) := by decide +kernel
theorem dX9_row_9 : decode cX9_row 9 = .ok (.ireturn, 1) := by decide +kernel
theorem dX9_row_10 : decode cX9_row 10 = .ok (.iload_n 2, 1) := by decide +kernel
theorem dX9_row_11 : decode cX9_row 11 = .ok (.ifCond .lt 18, 3) := by decide +kernel
theorem dX9_row_14 : decode cX9_row 14 = .ok (.iload_n 2, 1) := by decide +kernel
theorem dX9_row_15 : decode cX9_row 15 = .ok (.iconst 1, 1) := by decide +kernel
theorem dX9_row_16 : decode cX9_row 16 = .ok (.if_icmp .gt 13, 3) := by decide +kernel
theorem dX9_row_19 : decode cX9_row 19 = .ok (.iload_n 3, 1) := by decide +kernel
theorem dX9_row_20 : decode cX9_row 20 = .ok (.ifCond .lt 9, 3) := by decide +kernel
theorem dX9_row_23 : decode cX9_row 23 = .ok (.iload_n 3, 1) := by decide +kernel
theorem dX9_row_24 : decode cX9_row 24 = .ok (.bipush 12, 2) := by decide +kernel
theorem dX9_row_26 : decode cX9_row 26 = .ok (.if_icmp .le 6, 3) := by decide +kernel
theorem dX9_row_29 : decode cX9_row 29 = .ok (.bipush (-3), 2) := by decide +kernel
theorem dX9_row_31 : decode cX9_row 31 = .ok (.ireturn, 1) := by decide +kernel
theorem dX9_row_32 : decode cX9_row 32 = .ok (.aload_n 0, 1) := by decide +kernel
theorem dX9_row_33 : decode cX9_row 33 = .ok (.getfield 66, 3) := by decide +kernel
theorem dX9_row_36 : decode cX9_row 36 = .ok (.iload_n 1, 1) := by decide +kernel
theorem dX9_row_37 : decode cX9_row 37 = .ok (.aaload, 1) := by decide +kernel
theorem dX9_row_38 : decode cX9_row 38 = .ok (.iload_n 2, 1) := by decide +kernel
theorem dX9_row_39 : decode cX9_row 39 = .ok (.iload_n 3, 1) := by decide +kernel
theorem dX9_row_40 : decode cX9_row 40 = .ok (.invokevirtual 391, 3) := by decide +kernel
theorem dX9_row_43 : decode cX9_row 43 = .ok (.iconst 0, 1) := by decide +kernel
theorem dX9_row_44 : decode cX9_row 44 = .ok (.ireturn, 1) := by decide +kernel
theorem dX9_write_0 : decode cX9_write 0 = .ok (.iload_n 1, 1) := by decide +kernel
theorem dX9_write_1 : decode cX9_write 1 = .ok (.invokestatic 388, 3) := by decide +kernel
theorem dX9_write_4 : decode cX9_write 4 = .ok (.ifCond .ne 6, 3) := by decide +kernel
theorem dX9_write_7 : decode cX9_write 7 = .ok (.bipush (-2), 2) := by decide +kernel
theorem dX9_write_9 : decode cX9_write 9 = .ok (.ireturn, 1) := by decide +kernel
theorem dX9_write_10 : decode cX9_write 10 = .ok (.aload_n 0, 1) := by decide +kernel
theorem dX9_write_11 : decode cX9_write 11 = .ok (.getfield 66, 3) := by decide +kernel
theorem dX9_write_14 : decode cX9_write 14 = .ok (.iload_n 1, 1) := by decide +kernel
theorem dX9_write_15 : decode cX9_write 15 = .ok (.aaload, 1) := by decide +kernel
theorem dX9_write_16 : decode cX9_write 16 = .ok (.astore 4, 2) := by decide +kernel
theorem dX9_write_18 : decode cX9_write 18 = .ok (.aload 4, 2) := by decide +kernel
theorem dX9_write_20 : decode cX9_write 20 = .ok (.getfield 394, 3) := by decide +kernel
theorem dX9_write_23 : decode cX9_write 23 = .ok (.ifCond .ne 6, 3) := by decide +kernel
theorem dX9_write_26 : decode cX9_write 26 = .ok (.bipush (-6), 2) := by decide +kernel
theorem dX9_write_28 : decode cX9_write 28 = .ok (.ireturn, 1) := by decide +kernel
theorem dX9_write_29 : decode cX9_write 29 = .ok (.iload_n 2, 1) := by decide +kernel
theorem dX9_write_30 : decode cX9_write 30 = .ok (.ifCond .lt 12, 3) := by decide +kernel
theorem dX9_write_33 : decode cX9_write 33 = .ok (.iload_n 2, 1) := by decide +kernel
theorem dX9_write_34 : decode cX9_write 34 = .ok (.aload 4, 2) := by decide +kernel
theorem dX9_write_36 : decode cX9_write 36 = .ok (.getfield 397, 3) := by decide +kernel
theorem dX9_write_39 : decode cX9_write 39 = .ok (.if_icmp .lt 6, 3) := by decide +kernel
theorem dX9_write_42 : decode cX9_write 42 = .ok (.bipush (-7), 2) := by decide +kernel
theorem dX9_write_44 : decode cX9_write 44 = .ok (.ireturn, 1) := by decide +kernel
theorem dX9_write_45 : decode cX9_write 45 = .ok (.aload 4, 2) := by decide +kernel
theorem dX9_write_47 : decode cX9_write 47 = .ok (.getfield 398, 3) := by decide +kernel
theorem dX9_write_50 : decode cX9_write 50 = .ok (.iload_n 2, 1) := by decide +kernel
theorem dX9_write_51 : decode cX9_write 51 = .ok (.aload 4, 2) := by decide +kernel
theorem dX9_write_53 : decode cX9_write 53 = .ok (.iload_n 3, 1) := by decide +kernel
theorem dX9_write_54 : decode cX9_write 54 = .ok (.invokevirtual 401, 3) := by decide +kernel
theorem dX9_write_57 : decode cX9_write 57 = .ok (.iastore, 1) := by decide +kernel
theorem dX9_write_58 : decode cX9_write 58 = .ok (.aload 4, 2) := by decide +kernel
theorem dX9_write_60 : decode cX9_write 60 = .ok (.getfield 398, 3) := by decide +kernel
theorem dX9_write_63 : decode cX9_write 63 = .ok (.iload_n 2, 1) := by decide +kernel
theorem dX9_write_64 : decode cX9_write 64 = .ok (.iaload, 1) := by decide +kernel
theorem dX9_write_65 : decode cX9_write 65 = .ok (.ireturn, 1) := by decide +kernel
theorem dX9_paste_0 : decode cX9_paste 0 = .ok (.iload_n 1, 1) := by decide +kernel
theorem dX9_paste_1 : decode cX9_paste 1 = .ok (.invokestatic 388, 3) := by decide +kernel
theorem dX9_paste_4 : decode cX9_paste 4 = .ok (.ifCond .eq 10, 3) := by decide +kernel
theorem dX9_paste_7 : decode cX9_paste 7 = .ok (.iload_n 3, 1) := by decide +kernel
theorem dX9_paste_8 : decode cX9_paste 8 = .ok (.invokestatic 388, 3) := by decide +kernel
theorem dX9_paste_11 : decode cX9_paste 11 = .ok (.ifCond .ne 6, 3) := by decide +kernel
theorem dX9_paste_14 : decode cX9_paste 14 = .ok (.bipush (-2), 2) := by decide +kernel
theorem dX9_paste_16 : decode cX9_paste 16 = .ok (.ireturn, 1) := by decide +kernel
theorem dX9_paste_17 : decode cX9_paste 17 = .ok (.aload_n 0, 1) := by decide +kernel
theorem dX9_paste_18 : decode cX9_paste 18 = .ok (.getfield 66, 3) := by decide +kernel
theorem dX9_paste_21 : decode cX9_paste 21 = .ok (.iload_n 1, 1) := by decide +kernel
theorem dX9_paste_22 : decode cX9_paste 22 = .ok (.aaload, 1) := by decide +kernel
theorem dX9_paste_23 : decode cX9_paste 23 = .ok (.astore 6, 2) := by decide +kernel
theorem dX9_paste_25 : decode cX9_paste 25 = .ok (.aload_n 0, 1) := by decide +kernel
theorem dX9_paste_26 : decode cX9_paste 26 = .ok (.getfield 66, 3) := by decide +kernel
theorem dX9_paste_29 : decode cX9_paste 29 = .ok (.iload_n 3, 1) := by decide +kernel
theorem dX9_paste_30 : decode cX9_paste 30 = .ok (.aaload, 1) := by decide +kernel
theorem dX9_paste_31 : decode cX9_paste 31 = .ok (.astore 7, 2) := by decide +kernel
theorem dX9_paste_33 : decode cX9_paste 33 = .ok (.aload 6, 2) := by decide +kernel
theorem dX9_paste_35 : decode cX9_paste 35 = .ok (.getfield 394, 3) := by decide +kernel
theorem dX9_paste_38 : decode cX9_paste 38 = .ok (.ifCond .eq 11, 3) := by decide +kernel
theorem dX9_paste_41 : decode cX9_paste 41 = .ok (.aload 7, 2) := by decide +kernel
theorem dX9_paste_43 : decode cX9_paste 43 = .ok (.getfield 394, 3) := by decide +kernel
theorem dX9_paste_46 : decode cX9_paste 46 = .ok (.ifCond .ne 6, 3) := by decide +kernel
theorem dX9_paste_49 : decode cX9_paste 49 = .ok (.bipush (-6), 2) := by decide +kernel
theorem dX9_paste_51 : decode cX9_paste 51 = .ok (.ireturn, 1) := by decide +kernel
theorem dX9_paste_52 : decode cX9_paste 52 = .ok (.aload 6, 2) := by decide +kernel
theorem dX9_paste_54 : decode cX9_paste 54 = .ok (.getfield 404, 3) := by decide +kernel
theorem dX9_paste_57 : decode cX9_paste 57 = .ok (.aload 7, 2) := by decide +kernel
theorem dX9_paste_59 : decode cX9_paste 59 = .ok (.getfield 404, 3) := by decide +kernel
theorem dX9_paste_62 : decode cX9_paste 62 = .ok (.if_icmp .eq 6, 3) := by decide +kernel
theorem dX9_paste_65 : decode cX9_paste 65 = .ok (.bipush (-8), 2) := by decide +kernel
theorem dX9_paste_67 : decode cX9_paste 67 = .ok (.ireturn, 1) := by decide +kernel
theorem dX9_paste_68 : decode cX9_paste 68 = .ok (.aload 6, 2) := by decide +kernel
theorem dX9_paste_70 : decode cX9_paste 70 = .ok (.iload_n 2, 1) := by decide +kernel
theorem dX9_paste_71 : decode cX9_paste 71 = .ok (.iload 5, 2) := by decide +kernel
theorem dX9_paste_73 : decode cX9_paste 73 = .ok (.invokevirtual 407, 3) := by decide +kernel
theorem dX9_paste_76 : decode cX9_paste 76 = .ok (.ifCond .eq 15, 3) := by decide +kernel
theorem dX9_paste_79 : decode cX9_paste 79 = .ok (.aload 7, 2) := by decide +kernel
theorem dX9_paste_81 : decode cX9_paste 81 = .ok (.iload 4, 2) := by decide +kernel
theorem dX9_paste_83 : decode cX9_paste 83 = .ok (.iload 5, 2) := by decide +kernel
theorem dX9_paste_85 : decode cX9_paste 85 = .ok (.invokevirtual 407, 3) := by decide +kernel
theorem dX9_paste_88 : decode cX9_paste 88 = .ok (.ifCond .ne 6, 3) := by decide +kernel
theorem dX9_paste_91 : decode cX9_paste 91 = .ok (.bipush (-7), 2) := by decide +kernel
theorem dX9_paste_93 : decode cX9_paste 93 = .ok (.ireturn, 1) := by decide +kernel
theorem dX9_paste_94 : decode cX9_paste 94 = .ok (.aload 6, 2) := by decide +kernel
theorem dX9_paste_96 : decode cX9_paste 96 = .ok (.getfield 398, 3) := by decide +kernel
theorem dX9_paste_99 : decode cX9_paste 99 = .ok (.iload_n 2, 1) := by decide +kernel
theorem dX9_paste_100 : decode cX9_paste 100 = .ok (.aload 7, 2) := by decide +kernel
theorem dX9_paste_102 : decode cX9_paste 102 = .ok (.getfield 398, 3) := by decide +kernel
theorem dX9_paste_105 : decode cX9_paste 105 = .ok (.iload 4, 2) := by decide +kernel
theorem dX9_paste_107 : decode cX9_paste 107 = .ok (.iload 5, 2) := by decide +kernel
theorem dX9_paste_109 : decode cX9_paste 109 = .ok (.invokestatic 410, 3) := by decide +kernel
theorem dX9_paste_112 : decode cX9_paste 112 = .ok (.iconst 0, 1) := by decide +kernel
theorem dX9_paste_113 : decode cX9_paste 113 = .ok (.ireturn, 1) := by decide +kernel
theorem dX9_mending_0 : decode cX9_mending 0 = .ok (.iload_n 1, 1) := by decide +kernel
theorem dX9_mending_1 : decode cX9_mending 1 = .ok (.invokestatic 388, 3) := by decide +kernel
theorem dX9_mending_4 : decode cX9_mending 4 = .ok (.ifCond .eq 12, 3) := by decide +kernel
theorem dX9_mending_7 : decode cX9_mending 7 = .ok (.iload_n 2, 1) := by decide +kernel
theorem dX9_mending_8 : decode cX9_mending 8 = .ok (.ifCond .lt 8, 3) := by decide +kernel
theorem dX9_mending_11 : decode cX9_mending 11 = .ok (.iload_n 2, 1) := by decide +kernel
theorem dX9_mending_12 : decode cX9_mending 12 = .ok (.iconst 1, 1) := by decide +kernel
theorem dX9_mending_13 : decode cX9_mending 13 = .ok (.if_icmp .le 7, 3) := by decide +kernel
theorem dX9_mending_16 : decode cX9_mending 16 = .ok (.ldc2_w 239, 3) := by decide +kernel
theorem dX9_mending_19 : decode cX9_mending 19 = .ok (.lreturn, 1) := by decide +kernel
theorem dX9_mending_20 : decode cX9_mending 20 = .ok (.aload_n 0, 1) := by decide +kernel
theorem dX9_mending_21 : decode cX9_mending 21 = .ok (.getfield 66, 3) := by decide +kernel
theorem dX9_mending_24 : decode cX9_mending 24 = .ok (.iload_n 1, 1) := by decide +kernel
theorem dX9_mending_25 : decode cX9_mending 25 = .ok (.aaload, 1) := by decide +kernel
theorem dX9_mending_26 : decode cX9_mending 26 = .ok (.getfield 394, 3) := by decide +kernel
theorem dX9_mending_29 : decode cX9_mending 29 = .ok (.ifCond .ne 7, 3) := by decide +kernel
theorem dX9_mending_32 : decode cX9_mending 32 = .ok (.ldc2_w 416, 3) := by decide +kernel
theorem dX9_mending_35 : decode cX9_mending 35 = .ok (.lreturn, 1) := by decide +kernel
theorem dX9_mending_36 : decode cX9_mending 36 = .ok (.aload_n 0, 1) := by decide +kernel
theorem dX9_mending_37 : decode cX9_mending 37 = .ok (.aload_n 0, 1) := by decide +kernel
theorem dX9_mending_38 : decode cX9_mending 38 = .ok (.getfield 66, 3) := by decide +kernel
theorem dX9_mending_41 : decode cX9_mending 41 = .ok (.iload_n 1, 1) := by decide +kernel
theorem dX9_mending_42 : decode cX9_mending 42 = .ok (.aaload, 1) := by decide +kernel
theorem dX9_mending_43 : decode cX9_mending 43 = .ok (.invokevirtual 418, 3) := by decide +kernel
theorem dX9_mending_46 : decode cX9_mending 46 = .ok (.istore_n 3, 1) := by decide +kernel
theorem dX9_mending_47 : decode cX9_mending 47 = .ok (.iload_n 2, 1) := by decide +kernel
theorem dX9_mending_48 : decode cX9_mending 48 = .ok (.iconst 1, 1) := by decide +kernel
theorem dX9_mending_49 : decode cX9_mending 49 = .ok (.if_icmp .ne 6, 3) := by decide +kernel
theorem dX9_mending_52 : decode cX9_mending 52 = .ok (.iload_n 3, 1) := by decide +kernel
theorem dX9_mending_53 : decode cX9_mending 53 = .ok (.i2l, 1) := by decide +kernel
theorem dX9_mending_54 : decode cX9_mending 54 = .ok (.lreturn, 1) := by decide +kernel
theorem dX9_mending_55 : decode cX9_mending 55 = .ok (.aload_n 0, 1) := by decide +kernel
theorem dX9_mending_56 : decode cX9_mending 56 = .ok (.getfield 53, 3) := by decide +kernel
theorem dX9_mending_59 : decode cX9_mending 59 = .ok (.aload_n 0, 1) := by decide +kernel
theorem dX9_mending_60 : decode cX9_mending 60 = .ok (.getfield 16, 3) := by decide +kernel
theorem dX9_mending_63 : decode cX9_mending 63 = .ok (.invokevirtual 422, 3) := by decide +kernel
theorem dX9_mending_66 : decode cX9_mending 66 = .ok (.i2l, 1) := by decide +kernel
theorem dX9_mending_67 : decode cX9_mending 67 = .ok (.lreturn, 1) := by decide +kernel
theorem dX9_mendSparePage_0 : decode cX9_mendSparePage 0 = .ok (.aload_n 0, 1) := by decide +kernel
theorem dX9_mendSparePage_1 : decode cX9_mendSparePage 1 = .ok (.getfield 16, 3) := by decide +kernel
theorem dX9_mendSparePage_4 : decode cX9_mendSparePage 4 = .ok (.aload_n 0, 1) := by decide +kernel
theorem dX9_mendSparePage_5 : decode cX9_mendSparePage 5 = .ok (.getfield 10, 3) := by decide +kernel
theorem dX9_mendSparePage_8 : decode cX9_mendSparePage 8 = .ok (.invokevirtual 425, 3) := by decide +kernel
theorem dX9_mendSparePage_11 : decode cX9_mendSparePage 11 = .ok (.iconst 0, 1) := by decide +kernel
theorem dX9_mendSparePage_12 : decode cX9_mendSparePage 12 = .ok (.istore_n 2, 1) := by decide +kernel
theorem dX9_mendSparePage_13 : decode cX9_mendSparePage 13 = .ok (.iconst 0, 1) := by decide +kernel
theorem dX9_mendSparePage_14 : decode cX9_mendSparePage 14 = .ok (.istore_n 3, 1) := by decide +kernel
theorem dX9_mendSparePage_15 : decode cX9_mendSparePage 15 = .ok (.iconst 2, 1) := by decide +kernel
theorem dX9_mendSparePage_16 : decode cX9_mendSparePage 16 = .ok (.iload_n 3, 1) := by decide +kernel
theorem dX9_mendSparePage_17 : decode cX9_mendSparePage 17 = .ok (.imul, 1) := by decide +kernel
theorem dX9_mendSparePage_18 : decode cX9_mendSparePage 18 = .ok (.iconst 1, 1) := by decide +kernel
theorem dX9_mendSparePage_19 : decode cX9_mendSparePage 19 = .ok (.iadd, 1) := by decide +kernel
theorem dX9_mendSparePage_20 : decode cX9_mendSparePage 20 = .ok (.aload_n 1, 1) := by decide +kernel
theorem dX9_mendSparePage_21 : decode cX9_mendSparePage 21 = .ok (.getfield 397, 3) := by decide +kernel
theorem dX9_mendSparePage_24 : decode cX9_mendSparePage 24 = .ok (.if_icmp .ge 65, 3) := by decide +kernel
theorem dX9_mendSparePage_27 : decode cX9_mendSparePage 27 = .ok (.aload_n 1, 1) := by decide +kernel
theorem dX9_mendSparePage_28 : decode cX9_mendSparePage 28 = .ok (.getfield 398, 3) := by decide +kernel
theorem dX9_mendSparePage_31 : decode cX9_mendSparePage 31 = .ok (.iconst 2, 1) := by decide +kernel
theorem dX9_mendSparePage_32 : decode cX9_mendSparePage 32 = .ok (.iload_n 3, 1) := by decide +kernel
theorem dX9_mendSparePage_33 : decode cX9_mendSparePage 33 = .ok (.imul, 1) := by decide +kernel
theorem dX9_mendSparePage_34 : decode cX9_mendSparePage 34 = .ok (.iaload, 1) := by decide +kernel
theorem dX9_mendSparePage_35 : decode cX9_mendSparePage 35 = .ok (.istore 4, 2) := by decide +kernel
theorem dX9_mendSparePage_37 : decode cX9_mendSparePage 37 = .ok (.aload_n 1, 1) := by decide +kernel
theorem dX9_mendSparePage_38 : decode cX9_mendSparePage 38 = .ok (.getfield 398, 3) := by decide +kernel
theorem dX9_mendSparePage_41 : decode cX9_mendSparePage 41 = .ok (.iconst 2, 1) := by decide +kernel
theorem dX9_mendSparePage_42 : decode cX9_mendSparePage 42 = .ok (.iload_n 3, 1) := by decide +kernel
theorem dX9_mendSparePage_43 : decode cX9_mendSparePage 43 = .ok (.imul, 1) := by decide +kernel
theorem dX9_mendSparePage_44 : decode cX9_mendSparePage 44 = .ok (.iconst 1, 1) := by decide +kernel
theorem dX9_mendSparePage_45 : decode cX9_mendSparePage 45 = .ok (.iadd, 1) := by decide +kernel
theorem dX9_mendSparePage_46 : decode cX9_mendSparePage 46 = .ok (.iaload, 1) := by decide +kernel
theorem dX9_mendSparePage_47 : decode cX9_mendSparePage 47 = .ok (.istore 5, 2) := by decide +kernel
theorem dX9_mendSparePage_49 : decode cX9_mendSparePage 49 = .ok (.aload_n 0, 1) := by decide +kernel
theorem dX9_mendSparePage_50 : decode cX9_mendSparePage 50 = .ok (.getfield 16, 3) := by decide +kernel
theorem dX9_mendSparePage_53 : decode cX9_mendSparePage 53 = .ok (.iload 4, 2) := by decide +kernel
theorem dX9_mendSparePage_55 : decode cX9_mendSparePage 55 = .ok (.iload 5, 2) := by decide +kernel
theorem dX9_mendSparePage_57 : decode cX9_mendSparePage 57 = .ok (.invokestatic 109, 3) := by decide +kernel
theorem dX9_mendSparePage_60 : decode cX9_mendSparePage 60 = .ok (.ifCond .ne 17, 3) := by decide +kernel
theorem dX9_mendSparePage_63 : decode cX9_mendSparePage 63 = .ok (.aload_n 0, 1) := by decide +kernel
theorem dX9_mendSparePage_64 : decode cX9_mendSparePage 64 = .ok (.getfield 16, 3) := by decide +kernel
theorem dX9_mendSparePage_67 : decode cX9_mendSparePage 67 = .ok (.iload 4, 2) := by decide +kernel
theorem dX9_mendSparePage_69 : decode cX9_mendSparePage 69 = .ok (.iload 5, 2) := by decide +kernel
theorem dX9_mendSparePage_71 : decode cX9_mendSparePage 71 = .ok (.invokevirtual 117, 3) := by decide +kernel
theorem dX9_mendSparePage_74 : decode cX9_mendSparePage 74 = .ok (.goto 9, 3) := by decide +kernel
theorem dX9_mendSparePage_77 : decode cX9_mendSparePage 77 = .ok (.iload_n 2, 1) := by decide +kernel
theorem dX9_mendSparePage_78 : decode cX9_mendSparePage 78 = .ok (.iconst 1, 1) := by decide +kernel
theorem dX9_mendSparePage_79 : decode cX9_mendSparePage 79 = .ok (.iload_n 3, 1) := by decide +kernel
theorem dX9_mendSparePage_80 : decode cX9_mendSparePage 80 = .ok (.ishl, 1) := by decide +kernel
theorem dX9_mendSparePage_81 : decode cX9_mendSparePage 81 = .ok (.ior, 1) := by decide +kernel
theorem dX9_mendSparePage_82 : decode cX9_mendSparePage 82 = .ok (.istore_n 2, 1) := by decide +kernel
theorem dX9_mendSparePage_83 : decode cX9_mendSparePage 83 = .ok (.iinc 3 1, 3) := by decide +kernel
theorem dX9_mendSparePage_86 : decode cX9_mendSparePage 86 = .ok (.goto (-71), 3) := by decide +kernel
theorem dX9_mendSparePage_89 : decode cX9_mendSparePage 89 = .ok (.iload_n 2, 1) := by decide +kernel
theorem dX9_mendSparePage_90 : decode cX9_mendSparePage 90 = .ok (.ireturn, 1) := by decide +kernel
theorem dX9_judge_0 : decode cX9_judge 0 = .ok (.iload_n 1, 1) := by decide +kernel
theorem dX9_judge_1 : decode cX9_judge 1 = .ok (.invokestatic 388, 3) := by decide +kernel
theorem dX9_judge_4 : decode cX9_judge 4 = .ok (.ifCond .ne 6, 3) := by decide +kernel
theorem dX9_judge_7 : decode cX9_judge 7 = .ok (.bipush (-2), 2) := by decide +kernel
theorem dX9_judge_9 : decode cX9_judge 9 = .ok (.ireturn, 1) := by decide +kernel
theorem dX9_judge_10 : decode cX9_judge 10 = .ok (.aload_n 0, 1) := by decide +kernel
theorem dX9_judge_11 : decode cX9_judge 11 = .ok (.getfield 66, 3) := by decide +kernel
theorem dX9_judge_14 : decode cX9_judge 14 = .ok (.iload_n 1, 1) := by decide +kernel
theorem dX9_judge_15 : decode cX9_judge 15 = .ok (.aaload, 1) := by decide +kernel
theorem dX9_judge_16 : decode cX9_judge 16 = .ok (.astore_n 2, 1) := by decide +kernel
theorem dX9_judge_17 : decode cX9_judge 17 = .ok (.aload_n 2, 1) := by decide +kernel
theorem dX9_judge_18 : decode cX9_judge 18 = .ok (.getfield 394, 3) := by decide +kernel
theorem dX9_judge_21 : decode cX9_judge 21 = .ok (.ifCond .ne 6, 3) := by decide +kernel
theorem dX9_judge_24 : decode cX9_judge 24 = .ok (.bipush (-6), 2) := by decide +kernel
theorem dX9_judge_26 : decode cX9_judge 26 = .ok (.ireturn, 1) := by decide +kernel
theorem dX9_judge_27 : decode cX9_judge 27 = .ok (.aload_n 0, 1) := by decide +kernel
theorem dX9_judge_28 : decode cX9_judge 28 = .ok (.getfield 60, 3) := by decide +kernel
theorem dX9_judge_31 : decode cX9_judge 31 = .ok (.aload_n 0, 1) := by decide +kernel
theorem dX9_judge_32 : decode cX9_judge 32 = .ok (.getfield 10, 3) := by decide +kernel
theorem dX9_judge_35 : decode cX9_judge 35 = .ok (.aload_n 0, 1) := by decide +kernel
theorem dX9_judge_36 : decode cX9_judge 36 = .ok (.getfield 22, 3) := by decide +kernel
theorem dX9_judge_39 : decode cX9_judge 39 = .ok (.invokevirtual 275, 3) := by decide +kernel
theorem dX9_judge_42 : decode cX9_judge 42 = .ok (.iconst 0, 1) := by decide +kernel
theorem dX9_judge_43 : decode cX9_judge 43 = .ok (.istore_n 3, 1) := by decide +kernel
theorem dX9_judge_44 : decode cX9_judge 44 = .ok (.iconst 0, 1) := by decide +kernel
theorem dX9_judge_45 : decode cX9_judge 45 = .ok (.istore 4, 2) := by decide +kernel
theorem dX9_judge_47 : decode cX9_judge 47 = .ok (.iload 4, 2) := by decide +kernel
theorem dX9_judge_49 : decode cX9_judge 49 = .ok (.aload_n 2, 1) := by decide +kernel
theorem dX9_judge_50 : decode cX9_judge 50 = .ok (.getfield 397, 3) := by decide +kernel
theorem dX9_judge_53 : decode cX9_judge 53 = .ok (.if_icmp .ge 66, 3) := by decide +kernel
theorem dX9_judge_56 : decode cX9_judge 56 = .ok (.iload 4, 2) := by decide +kernel
theorem dX9_judge_58 : decode cX9_judge 58 = .ok (.aload_n 0, 1) := by decide +kernel
theorem dX9_judge_59 : decode cX9_judge 59 = .ok (.getfield 22, 3) := by decide +kernel
theorem dX9_judge_62 : decode cX9_judge 62 = .ok (.getfield 321, 3) := by decide +kernel
theorem dX9_judge_65 : decode cX9_judge 65 = .ok (.if_icmp .ge 54, 3) := by decide +kernel
theorem dX9_judge_68 : decode cX9_judge 68 = .ok (.aload_n 2, 1) := by decide +kernel
theorem dX9_judge_69 : decode cX9_judge 69 = .ok (.getfield 398, 3) := by decide +kernel
theorem dX9_judge_72 : decode cX9_judge 72 = .ok (.iload 4, 2) := by decide +kernel
theorem dX9_judge_74 : decode cX9_judge 74 = .ok (.iaload, 1) := by decide +kernel
theorem dX9_judge_75 : decode cX9_judge 75 = .ok (.istore 5, 2) := by decide +kernel
theorem dX9_judge_77 : decode cX9_judge 77 = .ok (.aload_n 0, 1) := by decide +kernel
theorem dX9_judge_78 : decode cX9_judge 78 = .ok (.getfield 22, 3) := by decide +kernel
theorem dX9_judge_81 : decode cX9_judge 81 = .ok (.iload 5, 2) := by decide +kernel
theorem dX9_judge_83 : decode cX9_judge 83 = .ok (.invokevirtual 153, 3) := by decide +kernel
theorem dX9_judge_86 : decode cX9_judge 86 = .ok (.ifCond .eq 33, 3) := by decide +kernel
theorem dX9_judge_89 : decode cX9_judge 89 = .ok (.aload_n 0, 1) := by decide +kernel
theorem dX9_judge_90 : decode cX9_judge 90 = .ok (.getfield 60, 3) := by decide +kernel
theorem dX9_judge_93 : decode cX9_judge 93 = .ok (.getfield 293, 3) := by decide +kernel
theorem dX9_judge_96 : decode cX9_judge 96 = .ok (.iload 4, 2) := by decide +kernel
theorem dX9_judge_98 : decode cX9_judge 98 = .ok (.iaload, 1) := by decide +kernel
theorem dX9_judge_99 : decode cX9_judge 99 = .ok (.iload 5, 2) := by decide +kernel
theorem dX9_judge_101 : decode cX9_judge 101 = .ok (.ishr, 1) := by decide +kernel
theorem dX9_judge_102 : decode cX9_judge 102 = .ok (.iconst 1, 1) := by decide +kernel
theorem dX9_judge_103 : decode cX9_judge 103 = .ok (.iand, 1) := by decide +kernel
theorem dX9_judge_104 : decode cX9_judge 104 = .ok (.ifCond .ne 6, 3) := by decide +kernel
theorem dX9_judge_107 : decode cX9_judge 107 = .ok (.goto 12, 3) := by decide +kernel
theorem dX9_judge_110 : decode cX9_judge 110 = .ok (.iinc 3 1, 3) := by decide +kernel
theorem dX9_judge_113 : decode cX9_judge 113 = .ok (.iinc 4 1, 3) := by decide +kernel
theorem dX9_judge_116 : decode cX9_judge 116 = .ok (.goto (-69), 3) := by decide +kernel
theorem dX9_judge_119 : decode cX9_judge 119 = .ok (.iload_n 3, 1) := by decide +kernel
theorem dX9_judge_120 : decode cX9_judge 120 = .ok (.ireturn, 1) := by decide +kernel
theorem dX9_count_0 : decode cX9_count 0 = .ok (.iload_n 1, 1) := by decide +kernel
theorem dX9_count_1 : decode cX9_count 1 = .ok (.tableswitch 165 0 12 #[67, 75, 83, 91, 99, 107, 115, 123, 131, 139, 147, 152, 160], 67) := by decide +kernel
theorem dX9_count_68 : decode cX9_count 68 = .ok (.aload_n 0, 1) := by decide +kernel
theorem dX9_count_69 : decode cX9_count 69 = .ok (.getfield 10, 3) := by decide +kernel
theorem dX9_count_72 : decode cX9_count 72 = .ok (.getfield 227, 3) := by decide +kernel
theorem dX9_count_75 : decode cX9_count 75 = .ok (.ireturn, 1) := by decide +kernel
theorem dX9_count_76 : decode cX9_count 76 = .ok (.aload_n 0, 1) := by decide +kernel
theorem dX9_count_77 : decode cX9_count 77 = .ok (.getfield 22, 3) := by decide +kernel
theorem dX9_count_80 : decode cX9_count 80 = .ok (.getfield 428, 3) := by decide +kernel
theorem dX9_count_83 : decode cX9_count 83 = .ok (.ireturn, 1) := by decide +kernel
theorem dX9_count_84 : decode cX9_count 84 = .ok (.aload_n 0, 1) := by decide +kernel
theorem dX9_count_85 : decode cX9_count 85 = .ok (.getfield 22, 3) := by decide +kernel
theorem dX9_count_88 : decode cX9_count 88 = .ok (.getfield 321, 3) := by decide +kernel
theorem dX9_count_91 : decode cX9_count 91 = .ok (.ireturn, 1) := by decide +kernel
theorem dX9_count_92 : decode cX9_count 92 = .ok (.aload_n 0, 1) := by decide +kernel
theorem dX9_count_93 : decode cX9_count 93 = .ok (.getfield 22, 3) := by decide +kernel
theorem dX9_count_96 : decode cX9_count 96 = .ok (.getfield 310, 3) := by decide +kernel
theorem dX9_count_99 : decode cX9_count 99 = .ok (.ireturn, 1) := by decide +kernel
theorem dX9_count_100 : decode cX9_count 100 = .ok (.aload_n 0, 1) := by decide +kernel
theorem dX9_count_101 : decode cX9_count 101 = .ok (.getfield 22, 3) := by decide +kernel
theorem dX9_count_104 : decode cX9_count 104 = .ok (.getfield 431, 3) := by decide +kernel
theorem dX9_count_107 : decode cX9_count 107 = .ok (.ireturn, 1) := by decide +kernel
theorem dX9_count_108 : decode cX9_count 108 = .ok (.aload_n 0, 1) := by decide +kernel
theorem dX9_count_109 : decode cX9_count 109 = .ok (.getfield 10, 3) := by decide +kernel
theorem dX9_count_112 : decode cX9_count 112 = .ok (.getfield 125, 3) := by decide +kernel
theorem dX9_count_115 : decode cX9_count 115 = .ok (.ireturn, 1) := by decide +kernel
theorem dX9_count_116 : decode cX9_count 116 = .ok (.aload_n 0, 1) := by decide +kernel
theorem dX9_count_117 : decode cX9_count 117 = .ok (.getfield 46, 3) := by decide +kernel
theorem dX9_count_120 : decode cX9_count 120 = .ok (.getfield 105, 3) := by decide +kernel
theorem dX9_count_123 : decode cX9_count 123 = .ok (.ireturn, 1) := by decide +kernel
theorem dX9_count_124 : decode cX9_count 124 = .ok (.aload_n 0, 1) := by decide +kernel
theorem dX9_count_125 : decode cX9_count 125 = .ok (.getfield 32, 3) := by decide +kernel
theorem dX9_count_128 : decode cX9_count 128 = .ok (.getfield 78, 3) := by decide +kernel
theorem dX9_count_131 : decode cX9_count 131 = .ok (.ireturn, 1) := by decide +kernel
theorem dX9_count_132 : decode cX9_count 132 = .ok (.aload_n 0, 1) := by decide +kernel
theorem dX9_count_133 : decode cX9_count 133 = .ok (.getfield 10, 3) := by decide +kernel
theorem dX9_count_136 : decode cX9_count 136 = .ok (.getfield 434, 3) := by decide +kernel
theorem dX9_count_139 : decode cX9_count 139 = .ok (.ireturn, 1) := by decide +kernel
theorem dX9_count_140 : decode cX9_count 140 = .ok (.aload_n 0, 1) := by decide +kernel
theorem dX9_count_141 : decode cX9_count 141 = .ok (.getfield 10, 3) := by decide +kernel
theorem dX9_count_144 : decode cX9_count 144 = .ok (.getfield 437, 3) := by decide +kernel
theorem dX9_count_147 : decode cX9_count 147 = .ok (.ireturn, 1) := by decide +kernel
theorem dX9_count_148 : decode cX9_count 148 = .ok (.aload_n 0, 1) := by decide +kernel
theorem dX9_count_149 : decode cX9_count 149 = .ok (.invokevirtual 440, 3) := by decide +kernel
theorem dX9_count_152 : decode cX9_count 152 = .ok (.ireturn, 1) := by decide +kernel
theorem dX9_count_153 : decode cX9_count 153 = .ok (.aload_n 0, 1) := by decide +kernel
theorem dX9_count_154 : decode cX9_count 154 = .ok (.getfield 10, 3) := by decide +kernel
theorem dX9_count_157 : decode cX9_count 157 = .ok (.invokevirtual 443, 3) := by decide +kernel
theorem dX9_count_160 : decode cX9_count 160 = .ok (.ireturn, 1) := by decide +kernel
theorem dX9_count_161 : decode cX9_count 161 = .ok (.aload_n 0, 1) := by decide +kernel
theorem dX9_count_162 : decode cX9_count 162 = .ok (.invokevirtual 446, 3) := by decide +kernel
theorem dX9_count_165 : decode cX9_count 165 = .ok (.ireturn, 1) := by decide +kernel
theorem dX9_count_166 : decode cX9_count 166 = .ok (.iconst (-1), 1) := by decide +kernel
theorem dX9_count_167 : decode cX9_count 167 = .ok (.ireturn, 1) := by decide +kernel
theorem dX9_countHidden_0 : decode cX9_countHidden 0 = .ok (.aload_n 0, 1) := by decide +kernel
theorem dX9_countHidden_1 : decode cX9_countHidden 1 = .ok (.getfield 60, 3) := by decide +kernel
theorem dX9_countHidden_4 : decode cX9_countHidden 4 = .ok (.aload_n 0, 1) := by decide +kernel
theorem dX9_countHidden_5 : decode cX9_countHidden 5 = .ok (.getfield 10, 3) := by decide +kernel
theorem dX9_countHidden_8 : decode cX9_countHidden 8 = .ok (.aload_n 0, 1) := by decide +kernel
theorem dX9_countHidden_9 : decode cX9_countHidden 9 = .ok (.getfield 22, 3) := by decide +kernel
theorem dX9_countHidden_12 : decode cX9_countHidden 12 = .ok (.invokevirtual 275, 3) := by decide +kernel
theorem dX9_countHidden_15 : decode cX9_countHidden 15 = .ok (.iconst 0, 1) := by decide +kernel
theorem dX9_countHidden_16 : decode cX9_countHidden 16 = .ok (.istore_n 1, 1) := by decide +kernel
theorem dX9_countHidden_17 : decode cX9_countHidden 17 = .ok (.iconst 0, 1) := by decide +kernel
theorem dX9_countHidden_18 : decode cX9_countHidden 18 = .ok (.istore_n 2, 1) := by decide +kernel
theorem dX9_countHidden_19 : decode cX9_countHidden 19 = .ok (.iload_n 2, 1) := by decide +kernel
theorem dX9_countHidden_20 : decode cX9_countHidden 20 = .ok (.aload_n 0, 1) := by decide +kernel
theorem dX9_countHidden_21 : decode cX9_countHidden 21 = .ok (.getfield 22, 3) := by decide +kernel
theorem dX9_countHidden_24 : decode cX9_countHidden 24 = .ok (.getfield 321, 3) := by decide +kernel
theorem dX9_countHidden_27 : decode cX9_countHidden 27 = .ok (.if_icmp .ge 27, 3) := by decide +kernel
theorem dX9_countHidden_30 : decode cX9_countHidden 30 = .ok (.iload_n 1, 1) := by decide +kernel
theorem dX9_countHidden_31 : decode cX9_countHidden 31 = .ok (.aload_n 0, 1) := by decide +kernel
theorem dX9_countHidden_32 : decode cX9_countHidden 32 = .ok (.getfield 60, 3) := by decide +kernel
theorem dX9_countHidden_35 : decode cX9_countHidden 35 = .ok (.getfield 278, 3) := by decide +kernel
theorem dX9_countHidden_38 : decode cX9_countHidden 38 = .ok (.iload_n 2, 1) := by decide +kernel
theorem dX9_countHidden_39 : decode cX9_countHidden 39 = .ok (.iaload, 1) := by decide +kernel
theorem dX9_countHidden_40 : decode cX9_countHidden 40 = .ok (.invokestatic 287, 3) := by decide +kernel
theorem dX9_countHidden_43 : decode cX9_countHidden 43 = .ok (.invokestatic 358, 3) := by decide +kernel
theorem dX9_countHidden_46 : decode cX9_countHidden 46 = .ok (.iadd, 1) := by decide +kernel
theorem dX9_countHidden_47 : decode cX9_countHidden 47 = .ok (.istore_n 1, 1) := by decide +kernel
theorem dX9_countHidden_48 : decode cX9_countHidden 48 = .ok (.iinc 2 1, 3) := by decide +kernel
theorem dX9_countHidden_51 : decode cX9_countHidden 51 = .ok (.goto (-32), 3) := by decide +kernel
theorem dX9_countHidden_54 : decode cX9_countHidden 54 = .ok (.iload_n 1, 1) := by decide +kernel
theorem dX9_countHidden_55 : decode cX9_countHidden 55 = .ok (.ireturn, 1) := by decide +kernel
theorem dX9_countRows_0 : decode cX9_countRows 0 = .ok (.iconst 0, 1) := by decide +kernel
theorem dX9_countRows_1 : decode cX9_countRows 1 = .ok (.istore_n 1, 1) := by decide +kernel
theorem dX9_countRows_2 : decode cX9_countRows 2 = .ok (.iconst 0, 1) := by decide +kernel
theorem dX9_countRows_3 : decode cX9_countRows 3 = .ok (.istore_n 2, 1) := by decide +kernel
theorem dX9_countRows_4 : decode cX9_countRows 4 = .ok (.iload_n 2, 1) := by decide +kernel
theorem dX9_countRows_5 : decode cX9_countRows 5 = .ok (.iconst 4, 1) := by decide +kernel
theorem dX9_countRows_6 : decode cX9_countRows 6 = .ok (.if_icmp .ge 24, 3) := by decide +kernel
theorem dX9_countRows_9 : decode cX9_countRows 9 = .ok (.aload_n 0, 1) := by decide +kernel
theorem dX9_countRows_10 : decode cX9_countRows 10 = .ok (.getfield 66, 3) := by decide +kernel
theorem dX9_countRows_13 : decode cX9_countRows 13 = .ok (.iload_n 2, 1) := by decide +kernel
theorem dX9_countRows_14 : decode cX9_countRows 14 = .ok (.aaload, 1) := by decide +kernel
theorem dX9_countRows_15 : decode cX9_countRows 15 = .ok (.getfield 394, 3) := by decide +kernel
theorem dX9_countRows_18 : decode cX9_countRows 18 = .ok (.ifCond .eq 6, 3) := by decide +kernel
theorem dX9_countRows_21 : decode cX9_countRows 21 = .ok (.iinc 1 1, 3) := by decide +kernel
theorem dX9_countRows_24 : decode cX9_countRows 24 = .ok (.iinc 2 1, 3) := by decide +kernel
theorem dX9_countRows_27 : decode cX9_countRows 27 = .ok (.goto (-23), 3) := by decide +kernel
theorem dX9_countRows_30 : decode cX9_countRows 30 = .ok (.iload_n 1, 1) := by decide +kernel
theorem dX9_countRows_31 : decode cX9_countRows 31 = .ok (.ireturn, 1) := by decide +kernel
theorem dX9_isRow_0 : decode cX9_isRow 0 = .ok (.iload_n 0, 1) := by decide +kernel
theorem dX9_isRow_1 : decode cX9_isRow 1 = .ok (.ifCond .lt 12, 3) := by decide +kernel
theorem dX9_isRow_4 : decode cX9_isRow 4 = .ok (.iload_n 0, 1) := by decide +kernel
theorem dX9_isRow_5 : decode cX9_isRow 5 = .ok (.iconst 4, 1) := by decide +kernel
theorem dX9_isRow_6 : decode cX9_isRow 6 = .ok (.if_icmp .ge 7, 3) := by decide +kernel
theorem dX9_isRow_9 : decode cX9_isRow 9 = .ok (.iconst 1, 1) := by decide +kernel
theorem dX9_isRow_10 : decode cX9_isRow 10 = .ok (.goto 4, 3) := by decide +kernel
theorem dX9_isRow_13 : decode cX9_isRow 13 = .ok (.iconst 0, 1) := by decide +kernel
theorem dX9_isRow_14 : decode cX9_isRow 14 = .ok (.ireturn, 1) := by decide +kernel
theorem dX10_isIn_0 : decode cX10_isIn 0 = .ok (.lload_n 0, 1) := by decide +kernel
theorem dX10_isIn_1 : decode cX10_isIn 1 = .ok (.lload_n 2, 1) := by decide +kernel
theorem dX10_isIn_2 : decode cX10_isIn 2 = .ok (.lcmp, 1) := by decide +kernel
theorem dX10_isIn_3 : decode cX10_isIn 3 = .ok (.ifCond .lt 14, 3) := by decide +kernel
theorem dX10_isIn_6 : decode cX10_isIn 6 = .ok (.lload_n 0, 1) := by decide +kernel
theorem dX10_isIn_7 : decode cX10_isIn 7 = .ok (.lload 4, 2) := by decide +kernel
theorem dX10_isIn_9 : decode cX10_isIn 9 = .ok (.lcmp, 1) := by decide +kernel
theorem dX10_isIn_10 : decode cX10_isIn 10 = .ok (.ifCond .gt 7, 3) := by decide +kernel
theorem dX10_isIn_13 : decode cX10_isIn 13 = .ok (.iconst 1, 1) := by decide +kernel
theorem dX10_isIn_14 : decode cX10_isIn 14 = .ok (.goto 4, 3) := by decide +kernel
theorem dX10_isIn_17 : decode cX10_isIn 17 = .ok (.iconst 0, 1) := by decide +kernel
theorem dX10_isIn_18 : decode cX10_isIn 18 = .ok (.ireturn, 1) := by decide +kernel
theorem dX10_has_0 : decode cX10_has 0 = .ok (.iload_n 0, 1) := by decide +kernel
theorem dX10_has_1 : decode cX10_has 1 = .ok (.iload_n 1, 1) := by decide +kernel
theorem dX10_has_2 : decode cX10_has 2 = .ok (.ishr, 1) := by decide +kernel
theorem dX10_has_3 : decode cX10_has 3 = .ok (.iconst 1, 1) := by decide +kernel
theorem dX10_has_4 : decode cX10_has 4 = .ok (.iand, 1) := by decide +kernel
theorem dX10_has_5 : decode cX10_has 5 = .ok (.iconst 1, 1) := by decide +kernel
theorem dX10_has_6 : decode cX10_has 6 = .ok (.if_icmp .ne 7, 3) := by decide +kernel
theorem dX10_has_9 : decode cX10_has 9 = .ok (.iconst 1, 1) := by decide +kernel
theorem dX10_has_10 : decode cX10_has 10 = .ok (.goto 4, 3) := by decide +kernel
theorem dX10_has_13 : decode cX10_has 13 = .ok (.iconst 0, 1) := by decide +kernel
theorem dX10_has_14 : decode cX10_has 14 = .ok (.ireturn, 1) := by decide +kernel
theorem dX10_init_0 : decode cX10_init 0 = .ok (.aload_n 0, 1) := by decide +kernel
theorem dX10_init_1 : decode cX10_init 1 = .ok (.invokespecial 7, 3) := by decide +kernel
theorem dX10_init_4 : decode cX10_init 4 = .ok (.aload_n 0, 1) := by decide +kernel
theorem dX10_init_5 : decode cX10_init 5 = .ok (.sipush 217, 3) := by decide +kernel
theorem dX10_init_8 : decode cX10_init 8 = .ok (.newarray .int, 2) := by decide +kernel
theorem dX10_init_10 : decode cX10_init 10 = .ok (.putfield 13, 3) := by decide +kernel
theorem dX10_init_13 : decode cX10_init 13 = .ok (.aload_n 0, 1) := by decide +kernel
theorem dX10_init_14 : decode cX10_init 14 = .ok (.sipush 217, 3) := by decide +kernel
theorem dX10_init_17 : decode cX10_init 17 = .ok (.newarray .int, 2) := by decide +kernel
theorem dX10_init_19 : decode cX10_init 19 = .ok (.putfield 17, 3) := by decide +kernel
theorem dX10_init_22 : decode cX10_init 22 = .ok (.aload_n 0, 1) := by decide +kernel
theorem dX10_init_23 : decode cX10_init 23 = .ok (.sipush 408, 3) := by decide +kernel
theorem dX10_init_26 : decode cX10_init 26 = .ok (.newarray .int, 2) := by decide +kernel
theorem dX10_init_28 : decode cX10_init 28 = .ok (.putfield 20, 3) := by decide +kernel
theorem dX10_init_31 : decode cX10_init 31 = .ok (.aload_n 0, 1) := by decide +kernel
theorem dX10_init_32 : decode cX10_init 32 = .ok (.sipush 900, 3) := by decide +kernel
theorem dX10_init_35 : decode cX10_init 35 = .ok (.newarray .byte, 2) := by decide +kernel
theorem dX10_init_37 : decode cX10_init 37 = .ok (.putfield 23, 3) := by decide +kernel
theorem dX10_init_40 : decode cX10_init 40 = .ok (.aload_n 0, 1) := by decide +kernel
theorem dX10_init_41 : decode cX10_init 41 = .ok (.iconst (-1), 1) := by decide +kernel
theorem dX10_init_42 : decode cX10_init 42 = .ok (.putfield 27, 3) := by decide +kernel
theorem dX10_init_45 : decode cX10_init 45 = .ok (.aload_n 0, 1) := by decide +kernel
theorem dX10_init_46 : decode cX10_init 46 = .ok (.bipush 12, 2) := by decide +kernel
theorem dX10_init_48 : decode cX10_init 48 = .ok (.newarray .int, 2) := by decide +kernel
theorem dX10_init_50 : decode cX10_init 50 = .ok (.putfield 30, 3) := by decide +kernel
theorem dX10_init_53 : decode cX10_init 53 = .ok (.aload_n 0, 1) := by decide +kernel
theorem dX10_init_54 : decode cX10_init 54 = .ok (.bipush 12, 2) := by decide +kernel
theorem dX10_init_56 : decode cX10_init 56 = .ok (.newarray .int, 2) := by decide +kernel
theorem dX10_init_58 : decode cX10_init 58 = .ok (.putfield 33, 3) := by decide +kernel
theorem dX10_init_61 : decode cX10_init 61 = .ok (.aload_n 0, 1) := by decide +kernel
theorem dX10_init_62 : decode cX10_init 62 = .ok (.bipush 12, 2) := by decide +kernel
theorem dX10_init_64 : decode cX10_init 64 = .ok (.newarray .int, 2) := by decide +kernel
theorem dX10_init_66 : decode cX10_init 66 = .ok (.putfield 36, 3) := by decide +kernel
theorem dX10_init_69 : decode cX10_init 69 = .ok (.aload_n 0, 1) := by decide +kernel
theorem dX10_init_70 : decode cX10_init 70 = .ok (.bipush 12, 2) := by decide +kernel
theorem dX10_init_72 : decode cX10_init 72 = .ok (.newarray .int, 2) := by decide +kernel
theorem dX10_init_74 : decode cX10_init 74 = .ok (.putfield 39, 3) := by decide +kernel
theorem dX10_init_77 : decode cX10_init 77 = .ok (.aload_n 0, 1) := by decide +kernel
theorem dX10_init_78 : decode cX10_init 78 = .ok (.sipush 4096, 3) := by decide +kernel
theorem dX10_init_81 : decode cX10_init 81 = .ok (.newarray .long, 2) := by decide +kernel
theorem dX10_init_83 : decode cX10_init 83 = .ok (.putfield 42, 3) := by decide +kernel
theorem dX10_init_86 : decode cX10_init 86 = .ok (.aload_n 0, 1) := by decide +kernel
theorem dX10_init_87 : decode cX10_init 87 = .ok (.bipush 8, 2) := by decide +kernel
theorem dX10_init_89 : decode cX10_init 89 = .ok (.newarray .int, 2) := by decide +kernel
theorem dX10_init_91 : decode cX10_init 91 = .ok (.putfield 46, 3) := by decide +kernel
theorem dX10_init_94 : decode cX10_init 94 = .ok (.aload_n 0, 1) := by decide +kernel
theorem dX10_init_95 : decode cX10_init 95 = .ok (.iconst 4, 1) := by decide +kernel
theorem dX10_init_96 : decode cX10_init 96 = .ok (.newarray .int, 2) := by decide +kernel
theorem dX10_init_98 : decode cX10_init 98 = .ok (.dup, 1) := by decide +kernel
theorem dX10_init_99 : decode cX10_init 99 = .ok (.iconst 0, 1) := by decide +kernel
theorem dX10_init_100 : decode cX10_init 100 = .ok (.iconst (-1), 1) := by decide +kernel
theorem dX10_init_101 : decode cX10_init 101 = .ok (.iastore, 1) := by decide +kernel
theorem dX10_init_102 : decode cX10_init 102 = .ok (.dup, 1) := by decide +kernel
theorem dX10_init_103 : decode cX10_init 103 = .ok (.iconst 1, 1) := by decide +kernel
theorem dX10_init_104 : decode cX10_init 104 = .ok (.iconst (-1), 1) := by decide +kernel
theorem dX10_init_105 : decode cX10_init 105 = .ok (.iastore, 1) := by decide +kernel
theorem dX10_init_106 : decode cX10_init 106 = .ok (.dup, 1) := by decide +kernel
theorem dX10_init_107 : decode cX10_init 107 = .ok (.iconst 2, 1) := by decide +kernel
theorem dX10_init_108 : decode cX10_init 108 = .ok (.iconst (-1), 1) := by decide +kernel
theorem dX10_init_109 : decode cX10_init 109 = .ok (.iastore, 1) := by decide +kernel
theorem dX10_init_110 : decode cX10_init 110 = .ok (.dup, 1) := by decide +kernel
theorem dX10_init_111 : decode cX10_init 111 = .ok (.iconst 3, 1) := by decide +kernel
theorem dX10_init_112 : decode cX10_init 112 = .ok (.iconst (-1), 1) := by decide +kernel
theorem dX10_init_113 : decode cX10_init 113 = .ok (.iastore, 1) := by decide +kernel
theorem dX10_init_114 : decode cX10_init 114 = .ok (.putfield 49, 3) := by decide +kernel
theorem dX10_init_117 : decode cX10_init 117 = .ok (.aload_n 0, 1) := by decide +kernel
theorem dX10_init_118 : decode cX10_init 118 = .ok (.iconst 4, 1) := by decide +kernel
theorem dX10_init_119 : decode cX10_init 119 = .ok (.newarray .int, 2) := by decide +kernel
theorem dX10_init_121 : decode cX10_init 121 = .ok (.putfield 52, 3) := by decide +kernel
theorem dX10_init_124 : decode cX10_init 124 = .ok (.aload_n 0, 1) := by decide +kernel
theorem dX10_init_125 : decode cX10_init 125 = .ok (.bipush 48, 2) := by decide +kernel
theorem dX10_init_127 : decode cX10_init 127 = .ok (.newarray .int, 2) := by decide +kernel
theorem dX10_init_129 : decode cX10_init 129 = .ok (.putfield 55, 3) := by decide +kernel
theorem dX10_init_132 : decode cX10_init 132 = .ok (.aload_n 0, 1) := by decide +kernel
theorem dX10_init_133 : decode cX10_init 133 = .ok (.bipush 12, 2) := by decide +kernel
theorem dX10_init_135 : decode cX10_init 135 = .ok (.newarray .int, 2) := by decide +kernel
theorem dX10_init_137 : decode cX10_init 137 = .ok (.putfield 58, 3) := by decide +kernel
theorem dX10_init_140 : decode cX10_init 140 = .ok (.aload_n 0, 1) := by decide +kernel
theorem dX10_init_141 : decode cX10_init 141 = .ok (.bipush 12, 2) := by decide +kernel
theorem dX10_init_143 : decode cX10_init 143 = .ok (.newarray .int, 2) := by decide +kernel
theorem dX10_init_145 : decode cX10_init 145 = .ok (.putfield 61, 3) := by decide +kernel
theorem dX10_init_148 : decode cX10_init 148 = .ok (.aload_n 0, 1) := by decide +kernel
theorem dX10_init_149 : decode cX10_init 149 = .ok (.invokevirtual 64, 3) := by decide +kernel
theorem dX10_init_152 : decode cX10_init 152 = .ok (.return_, 1) := by decide +kernel
theorem dX10_plain_0 : decode cX10_plain 0 = .ok (.iconst 0, 1) := by decide +kernel
theorem dX10_plain_1 : decode cX10_plain 1 = .ok (.istore_n 1, 1) := by decide +kernel
theorem dX10_plain_2 : decode cX10_plain 2 = .ok (.iload_n 1, 1) := by decide +kernel
theorem dX10_plain_3 : decode cX10_plain 3 = .ok (.sipush 217, 3) := by decide +kernel
theorem dX10_plain_6 : decode cX10_plain 6 = .ok (.if_icmp .ge 16, 3) := by decide +kernel
theorem dX10_plain_9 : decode cX10_plain 9 = .ok (.aload_n 0, 1) := by decide +kernel
theorem dX10_plain_10 : decode cX10_plain 10 = .ok (.getfield 13, 3) := by decide +kernel
theorem dX10_plain_13 : decode cX10_plain 13 = .ok (.iload_n 1, 1) := by decide +kernel
theorem dX10_plain_14 : decode cX10_plain 14 = .ok (.iconst 0, 1) := by decide +kernel
theorem dX10_plain_15 : decode cX10_plain 15 = .ok (.iastore, 1) := by decide +kernel
theorem dX10_plain_16 : decode cX10_plain 16 = .ok (.iinc 1 1, 3) := by decide +kernel
theorem dX10_plain_19 : decode cX10_plain 19 = .ok (.goto (-17), 3) := by decide +kernel
theorem dX10_plain_22 : decode cX10_plain 22 = .ok (.aload_n 0, 1) := by decide +kernel
theorem dX10_plain_23 : decode cX10_plain 23 = .ok (.getfield 13, 3) := by decide +kernel
theorem dX10_plain_26 : decode cX10_plain 26 = .ok (.iconst 0, 1) := by decide +kernel
theorem dX10_plain_27 : decode cX10_plain 27 = .ok (.iconst 3, 1) := by decide +kernel
theorem dX10_plain_28 : decode cX10_plain 28 = .ok (.iastore, 1) := by decide +kernel
theorem dX10_plain_29 : decode cX10_plain 29 = .ok (.aload_n 0, 1) := by decide +kernel
theorem dX10_plain_30 : decode cX10_plain 30 = .ok (.getfield 13, 3) := by decide +kernel
theorem dX10_plain_33 : decode cX10_plain 33 = .ok (.iconst 1, 1) := by decide +kernel
theorem dX10_plain_34 : decode cX10_plain 34 = .ok (.iconst 3, 1) := by decide +kernel
theorem dX10_plain_35 : decode cX10_plain 35 = .ok (.iastore, 1) := by decide +kernel
theorem dX10_plain_36 : decode cX10_plain 36 = .ok (.return_, 1) := by decide +kernel
theorem dX10_feed_0 : decode cX10_feed 0 = .ok (.aload_n 0, 1) := by decide +kernel
theorem dX10_feed_1 : decode cX10_feed 1 = .ok (.iconst 0, 1) := by decide +kernel
theorem dX10_feed_2 : decode cX10_feed 2 = .ok (.putfield 1, 3) := by decide +kernel
theorem dX10_feed_5 : decode cX10_feed 5 = .ok (.aload_n 0, 1) := by decide +kernel
theorem dX10_feed_6 : decode cX10_feed 6 = .ok (.getfield 67, 3) := by decide +kernel
theorem dX10_feed_9 : decode cX10_feed 9 = .ok (.bipush 20, 2) := by decide +kernel
theorem dX10_feed_11 : decode cX10_feed 11 = .ok (.iadd, 1) := by decide +kernel
theorem dX10_feed_12 : decode cX10_feed 12 = .ok (.sipush 900, 3) := by decide +kernel
theorem dX10_feed_15 : decode cX10_feed 15 = .ok (.if_icmp .le 6, 3) := by decide +kernel
theorem dX10_feed_18 : decode cX10_feed 18 = .ok (.bipush (-3), 2) := by decide +kernel
theorem dX10_feed_20 : decode cX10_feed 20 = .ok (.ireturn, 1) := by decide +kernel
theorem dX10_feed_21 : decode cX10_feed 21 = .ok (.iconst 0, 1) := by decide +kernel
theorem dX10_feed_22 : decode cX10_feed 22 = .ok (.istore 6, 2) := by decide +kernel
theorem dX10_feed_24 : decode cX10_feed 24 = .ok (.iload 6, 2) := by decide +kernel
theorem dX10_feed_26 : decode cX10_feed 26 = .ok (.bipush 20, 2) := by decide +kernel
theorem dX10_feed_28 : decode cX10_feed 28 = .ok (.if_icmp .ge 90, 3) := by decide +kernel
theorem dX10_feed_31 : decode cX10_feed 31 = .ok (.iload 6, 2) := by decide +kernel
theorem dX10_feed_33 : decode cX10_feed 33 = .ok (.iconst 4, 1) := by decide +kernel
theorem dX10_feed_34 : decode cX10_feed 34 = .ok (.if_icmp .ge 7, 3) := by decide +kernel
theorem dX10_feed_37 : decode cX10_feed 37 = .ok (.iload_n 1, 1) := by decide +kernel
theorem dX10_feed_38 : decode cX10_feed 38 = .ok (.goto 39, 3) := by decide +kernel
theorem dX10_feed_41 : decode cX10_feed 41 = .ok (.iload 6, 2) := by decide +kernel
theorem dX10_feed_43 : decode cX10_feed 43 = .ok (.bipush 8, 2) := by decide +kernel
theorem dX10_feed_45 : decode cX10_feed 45 = .ok (.if_icmp .ge 7, 3) := by decide +kernel
theorem dX10_feed_48 : decode cX10_feed 48 = .ok (.iload_n 2, 1) := by decide +kernel
theorem dX10_feed_49 : decode cX10_feed 49 = .ok (.goto 28, 3) := by decide +kernel
theorem dX10_feed_52 : decode cX10_feed 52 = .ok (.iload 6, 2) := by decide +kernel
theorem dX10_feed_54 : decode cX10_feed 54 = .ok (.bipush 12, 2) := by decide +kernel
theorem dX10_feed_56 : decode cX10_feed 56 = .ok (.if_icmp .ge 7, 3) := by decide +kernel
theorem dX10_feed_59 : decode cX10_feed 59 = .ok (.iload_n 3, 1) := by decide +kernel
theorem dX10_feed_60 : decode cX10_feed 60 = .ok (.goto 17, 3) := by decide +kernel
theorem dX10_feed_63 : decode cX10_feed 63 = .ok (.iload 6, 2) := by decide +kernel
theorem dX10_feed_65 : decode cX10_feed 65 = .ok (.bipush 16, 2) := by decide +kernel
theorem dX10_feed_67 : decode cX10_feed 67 = .ok (.if_icmp .ge 8, 3) := by decide +kernel
theorem dX10_feed_70 : decode cX10_feed 70 = .ok (.iload 4, 2) := by decide +kernel
theorem dX10_feed_72 : decode cX10_feed 72 = .ok (.goto 5, 3) := by decide +kernel
theorem dX10_feed_75 : decode cX10_feed 75 = .ok (.iload 5, 2) := by decide +kernel
theorem dX10_feed_77 : decode cX10_feed 77 = .ok (.istore 7, 2) := by decide +kernel
theorem dX10_feed_79 : decode cX10_feed 79 = .ok (.aload_n 0, 1) := by decide +kernel
theorem dX10_feed_80 : decode cX10_feed 80 = .ok (.getfield 23, 3) := by decide +kernel
theorem dX10_feed_83 : decode cX10_feed 83 = .ok (.aload_n 0, 1) := by decide +kernel
theorem dX10_feed_84 : decode cX10_feed 84 = .ok (.getfield 67, 3) := by decide +kernel
theorem dX10_feed_87 : decode cX10_feed 87 = .ok (.iload 7, 2) := by decide +kernel
theorem dX10_feed_89 : decode cX10_feed 89 = .ok (.bipush 24, 2) := by decide +kernel
theorem dX10_feed_91 : decode cX10_feed 91 = .ok (.bipush 8, 2) := by decide +kernel
theorem dX10_feed_93 : decode cX10_feed 93 = .ok (.iload 6, 2) := by decide +kernel
theorem dX10_feed_95 : decode cX10_feed 95 = .ok (.iconst 4, 1) := by decide +kernel
theorem dX10_feed_96 : decode cX10_feed 96 = .ok (.irem, 1) := by decide +kernel
theorem dX10_feed_97 : decode cX10_feed 97 = .ok (.imul, 1) := by decide +kernel
theorem dX10_feed_98 : decode cX10_feed 98 = .ok (.isub, 1) := by decide +kernel
theorem dX10_feed_99 : decode cX10_feed 99 = .ok (.ishr, 1) := by decide +kernel
theorem dX10_feed_100 : decode cX10_feed 100 = .ok (.i2b, 1) := by decide +kernel
theorem dX10_feed_101 : decode cX10_feed 101 = .ok (.bastore, 1) := by decide +kernel
theorem dX10_feed_102 : decode cX10_feed 102 = .ok (.aload_n 0, 1) := by decide +kernel
theorem dX10_feed_103 : decode cX10_feed 103 = .ok (.dup, 1) := by decide +kernel
theorem dX10_feed_104 : decode cX10_feed 104 = .ok (.getfield 67, 3) := by decide +kernel
theorem dX10_feed_107 : decode cX10_feed 107 = .ok (.iconst 1, 1) := by decide +kernel
theorem dX10_feed_108 : decode cX10_feed 108 = .ok (.iadd, 1) := by decide +kernel
theorem dX10_feed_109 : decode cX10_feed 109 = .ok (.putfield 67, 3) := by decide +kernel
theorem dX10_feed_112 : decode cX10_feed 112 = .ok (.iinc 6 1, 3) := by decide +kernel
theorem dX10_feed_115 : decode cX10_feed 115 = .ok (.goto (-91), 3) := by decide +kernel
theorem dX10_feed_118 : decode cX10_feed 118 = .ok (.aload_n 0, 1) := by decide +kernel
theorem dX10_feed_119 : decode cX10_feed 119 = .ok (.getfield 67, 3) := by decide +kernel
theorem dX10_feed_122 : decode cX10_feed 122 = .ok (.ireturn, 1) := by decide +kernel
theorem dX10_peek_0 : decode cX10_peek 0 = .ok (.aload_n 0, 1) := by decide +kernel
theorem dX10_peek_1 : decode cX10_peek 1 = .ok (.getfield 70, 3) := by decide +kernel
theorem dX10_peek_4 : decode cX10_peek 4 = .ok (.aload_n 0, 1) := by decide +kernel
theorem dX10_peek_5 : decode cX10_peek 5 = .ok (.getfield 73, 3) := by decide +kernel
theorem dX10_peek_8 : decode cX10_peek 8 = .ok (.if_icmp .ge 30, 3) := by decide +kernel
theorem dX10_peek_11 : decode cX10_peek 11 = .ok (.aload_n 0, 1) := by decide +kernel
theorem dX10_peek_12 : decode cX10_peek 12 = .ok (.getfield 23, 3) := by decide +kernel
theorem dX10_peek_15 : decode cX10_peek 15 = .ok (.aload_n 0, 1) := by decide +kernel
theorem dX10_peek_16 : decode cX10_peek 16 = .ok (.getfield 70, 3) := by decide +kernel
theorem dX10_peek_19 : decode cX10_peek 19 = .ok (.baload, 1) := by decide +kernel
theorem dX10_peek_20 : decode cX10_peek 20 = .ok (.bipush 32, 2) := by decide +kernel
theorem dX10_peek_22 : decode cX10_peek 22 = .ok (.if_icmp .ne 16, 3) := by decide +kernel
theorem dX10_peek_25 : decode cX10_peek 25 = .ok (.aload_n 0, 1) := by decide +kernel
theorem dX10_peek_26 : decode cX10_peek 26 = .ok (.dup, 1) := by decide +kernel
theorem dX10_peek_27 : decode cX10_peek 27 = .ok (.getfield 70, 3) := by decide +kernel
theorem dX10_peek_30 : decode cX10_peek 30 = .ok (.iconst 1, 1) := by decide +kernel
theorem dX10_peek_31 : decode cX10_peek 31 = .ok (.iadd, 1) := by decide +kernel
theorem dX10_peek_32 : decode cX10_peek 32 = .ok (.putfield 70, 3) := by decide +kernel
theorem dX10_peek_35 : decode cX10_peek 35 = .ok (.goto (-35), 3) := by decide +kernel
theorem dX10_peek_38 : decode cX10_peek 38 = .ok (.aload_n 0, 1) := by decide +kernel
theorem dX10_peek_39 : decode cX10_peek 39 = .ok (.getfield 70, 3) := by decide +kernel
theorem dX10_peek_42 : decode cX10_peek 42 = .ok (.aload_n 0, 1) := by decide +kernel
theorem dX10_peek_43 : decode cX10_peek 43 = .ok (.getfield 73, 3) := by decide +kernel
theorem dX10_peek_46 : decode cX10_peek 46 = .ok (.if_icmp .ge 19, 3) := by decide +kernel
theorem dX10_peek_49 : decode cX10_peek 49 = .ok (.aload_n 0, 1) := by decide +kernel
theorem dX10_peek_50 : decode cX10_peek 50 = .ok (.getfield 23, 3) := by decide +kernel
theorem dX10_peek_53 : decode cX10_peek 53 = .ok (.aload_n 0, 1) := by decide +kernel
theorem dX10_peek_54 : decode cX10_peek 54 = .ok (.getfield 70, 3) := by decide +kernel
theorem dX10_peek_57 : decode cX10_peek 57 = .ok (.baload, 1) := by decide +kernel
theorem dX10_peek_58 : decode cX10_peek 58 = .ok (.sipush 255, 3) := by decide +kernel
theorem dX10_peek_61 : decode cX10_peek 61 = .ok (.iand, 1) := by decide +kernel
theorem dX10_peek_62 : decode cX10_peek 62 = .ok (.goto 4, 3) := by decide +kernel
theorem dX10_peek_65 : decode cX10_peek 65 = .ok (.iconst (-1), 1) := by decide +kernel
theorem dX10_peek_66 : decode cX10_peek 66 = .ok (.ireturn, 1) := by decide +kernel
theorem dX10_fails_0 : decode cX10_fails 0 = .ok (.aload_n 0, 1) := by decide +kernel
theorem dX10_fails_1 : decode cX10_fails 1 = .ok (.getfield 76, 3) := by decide +kernel
theorem dX10_fails_4 : decode cX10_fails 4 = .ok (.ifCond .eq 4, 3) := by decide +kernel
theorem dX10_fails_7 : decode cX10_fails 7 = .ok (.return_, 1) := by decide +kernel
theorem dX10_fails_8 : decode cX10_fails 8 = .ok (.aload_n 0, 1) := by decide +kernel
theorem dX10_fails_9 : decode cX10_fails 9 = .ok (.iload_n 1, 1) := by decide +kernel
theorem dX10_fails_10 : decode cX10_fails 10 = .ok (.putfield 76, 3) := by decide +kernel
theorem dX10_fails_13 : decode cX10_fails 13 = .ok (.aload_n 0, 1) := by decide +kernel
theorem dX10_fails_14 : decode cX10_fails 14 = .ok (.iload_n 2, 1) := by decide +kernel
theorem dX10_fails_15 : decode cX10_fails 15 = .ok (.putfield 27, 3) := by decide +kernel
theorem dX10_fails_18 : decode cX10_fails 18 = .ok (.return_, 1) := by decide +kernel
theorem dX10_isLetter_0 : decode cX10_isLetter 0 = .ok (.iload_n 0, 1) := by decide +kernel
theorem dX10_isLetter_1 : decode cX10_isLetter 1 = .ok (.i2l, 1) := by decide +kernel
theorem dX10_isLetter_2 : decode cX10_isLetter 2 = .ok (.ldc2_w 79, 3) := by decide +kernel
theorem dX10_isLetter_5 : decode cX10_isLetter 5 = .ok (.ldc2_w 81, 3) := by decide +kernel
theorem dX10_isLetter_8 : decode cX10_isLetter 8 = .ok (.invokestatic 83, 3) := by decide +kernel
theorem dX10_isLetter_11 : decode cX10_isLetter 11 = .ok (.ireturn, 1) := by decide +kernel
theorem dX10_isDigit_0 : decode cX10_isDigit 0 = .ok (.iload_n 0, 1) := by decide +kernel
theorem dX10_isDigit_1 : decode cX10_isDigit 1 = .ok (.i2l, 1) := by decide +kernel
theorem dX10_isDigit_2 : decode cX10_isDigit 2 = .ok (.ldc2_w 87, 3) := by decide +kernel
theorem dX10_isDigit_5 : decode cX10_isDigit 5 = .ok (.ldc2_w 89, 3) := by decide +kernel
theorem dX10_isDigit_8 : decode cX10_isDigit 8 = .ok (.invokestatic 83, 3) := by decide +kernel
theorem dX10_isDigit_11 : decode cX10_isDigit 11 = .ok (.ireturn, 1) := by decide +kernel
theorem dX10_lettersHere_0 : decode cX10_lettersHere 0 = .ok (.iconst 0, 1) := by decide +kernel
theorem dX10_lettersHere_1 : decode cX10_lettersHere 1 = .ok (.istore_n 1, 1) := by decide +kernel
theorem dX10_lettersHere_2 : decode cX10_lettersHere 2 = .ok (.aload_n 0, 1) := by decide +kernel
theorem dX10_lettersHere_3 : decode cX10_lettersHere 3 = .ok (.getfield 70, 3) := by decide +kernel
theorem dX10_lettersHere_6 : decode cX10_lettersHere 6 = .ok (.iload_n 1, 1) := by decide +kernel
theorem dX10_lettersHere_7 : decode cX10_lettersHere 7 = .ok (.iadd, 1) := by decide +kernel
theorem dX10_lettersHere_8 : decode cX10_lettersHere 8 = .ok (.aload_n 0, 1) := by decide +kernel
theorem dX10_lettersHere_9 : decode cX10_lettersHere 9 = .ok (.getfield 73, 3) := by decide +kernel
theorem dX10_lettersHere_12 : decode cX10_lettersHere 12 = .ok (.if_icmp .ge 26, 3) := by decide +kernel
theorem dX10_lettersHere_15 : decode cX10_lettersHere 15 = .ok (.aload_n 0, 1) := by decide +kernel
theorem dX10_lettersHere_16 : decode cX10_lettersHere 16 = .ok (.getfield 23, 3) := by decide +kernel
theorem dX10_lettersHere_19 : decode cX10_lettersHere 19 = .ok (.aload_n 0, 1) := by decide +kernel
theorem dX10_lettersHere_20 : decode cX10_lettersHere 20 = .ok (.getfield 70, 3) := by decide +kernel
theorem dX10_lettersHere_23 : decode cX10_lettersHere 23 = .ok (.iload_n 1, 1) := by decide +kernel
theorem dX10_lettersHere_24 : decode cX10_lettersHere 24 = .ok (.iadd, 1) := by decide +kernel
theorem dX10_lettersHere_25 : decode cX10_lettersHere 25 = .ok (.baload, 1) := by decide +kernel
theorem dX10_lettersHere_26 : decode cX10_lettersHere 26 = .ok (.invokestatic 91, 3) := by decide +kernel
theorem dX10_lettersHere_29 : decode cX10_lettersHere 29 = .ok (.ifCond .eq 9, 3) := by decide +kernel
theorem dX10_lettersHere_32 : decode cX10_lettersHere 32 = .ok (.iinc 1 1, 3) := by decide +kernel
theorem dX10_lettersHere_35 : decode cX10_lettersHere 35 = .ok (.goto (-33), 3) := by decide +kernel
theorem dX10_lettersHere_38 : decode cX10_lettersHere 38 = .ok (.iload_n 1, 1) := by decide +kernel
theorem dX10_lettersHere_39 : decode cX10_lettersHere 39 = .ok (.ireturn, 1) := by decide +kernel
theorem dX10_wordHere_0 : decode cX10_wordHere 0 = .ok (.aload_n 0, 1) := by decide +kernel
theorem dX10_wordHere_1 : decode cX10_wordHere 1 = .ok (.getfield 76, 3) := by decide +kernel
theorem dX10_wordHere_4 : decode cX10_wordHere 4 = .ok (.ifCond .ne 13, 3) := by decide +kernel
theorem dX10_wordHere_7 : decode cX10_wordHere 7 = .ok (.aload_n 0, 1) := by decide +kernel
theorem dX10_wordHere_8 : decode cX10_wordHere 8 = .ok (.invokevirtual 95, 3) := by decide +kernel
theorem dX10_wordHere_11 : decode cX10_wordHere 11 = .ok (.invokestatic 91, 3) := by decide +kernel
theorem dX10_wordHere_14 : decode cX10_wordHere 14 = .ok (.ifCond .ne 5, 3) := by decide +kernel
theorem dX10_wordHere_17 : decode cX10_wordHere 17 = .ok (.iconst (-1), 1) := by decide +kernel
theorem dX10_wordHere_18 : decode cX10_wordHere 18 = .ok (.ireturn, 1) := by decide +kernel
theorem dX10_wordHere_19 : decode cX10_wordHere 19 = .ok (.aload_n 0, 1) := by decide +kernel
theorem dX10_wordHere_20 : decode cX10_wordHere 20 = .ok (.invokevirtual 99, 3) := by decide +kernel
theorem dX10_wordHere_23 : decode cX10_wordHere 23 = .ok (.istore_n 1, 1) := by decide +kernel
theorem dX10_wordHere_24 : decode cX10_wordHere 24 = .ok (.iconst 0, 1) := by decide +kernel
theorem dX10_wordHere_25 : decode cX10_wordHere 25 = .ok (.istore_n 2, 1) := by decide +kernel
theorem dX10_wordHere_26 : decode cX10_wordHere 26 = .ok (.iconst 1, 1) := by decide +kernel
theorem dX10_wordHere_27 : decode cX10_wordHere 27 = .ok (.istore_n 3, 1) := by decide +kernel
theorem dX10_wordHere_28 : decode cX10_wordHere 28 = .ok (.iload_n 3, 1) := by decide +kernel
theorem dX10_wordHere_29 : decode cX10_wordHere 29 = .ok (.ldc 102, 2) := by decide +kernel
theorem dX10_wordHere_31 : decode cX10_wordHere 31 = .ok (.invokevirtual 104, 3) := by decide +kernel
theorem dX10_wordHere_34 : decode cX10_wordHere 34 = .ok (.if_icmp .ge 108, 3) := by decide +kernel
theorem dX10_wordHere_37 : decode cX10_wordHere 37 = .ok (.iload_n 3, 1) := by decide +kernel
theorem dX10_wordHere_38 : decode cX10_wordHere 38 = .ok (.istore 4, 2) := by decide +kernel
theorem dX10_wordHere_40 : decode cX10_wordHere 40 = .ok (.ldc 102, 2) := by decide +kernel
theorem dX10_wordHere_42 : decode cX10_wordHere 42 = .ok (.iload 4, 2) := by decide +kernel
theorem dX10_wordHere_44 : decode cX10_wordHere 44 = .ok (.invokevirtual 109, 3) := by decide +kernel
theorem dX10_wordHere_47 : decode cX10_wordHere 47 = .ok (.bipush 32, 2) := by decide +kernel
theorem dX10_wordHere_49 : decode cX10_wordHere 49 = .ok (.if_icmp .eq 9, 3) := by decide +kernel
theorem dX10_wordHere_52 : decode cX10_wordHere 52 = .ok (.iinc 4 1, 3) := by decide +kernel
theorem dX10_wordHere_55 : decode cX10_wordHere 55 = .ok (.goto (-15), 3) := by decide +kernel
theorem dX10_wordHere_58 : decode cX10_wordHere 58 = .ok (.iload 4, 2) := by decide +kernel
theorem dX10_wordHere_60 : decode cX10_wordHere 60 = .ok (.iload_n 3, 1) := by decide +kernel
theorem dX10_wordHere_61 : decode cX10_wordHere 61 = .ok (.isub, 1) := by decide +kernel
theorem dX10_wordHere_62 : decode cX10_wordHere 62 = .ok (.iload_n 1, 1) := by decide +kernel
theorem dX10_wordHere_63 : decode cX10_wordHere 63 = .ok (.if_icmp .ne 7, 3) := by decide +kernel
theorem dX10_wordHere_66 : decode cX10_wordHere 66 = .ok (.iconst 1, 1) := by decide +kernel
theorem dX10_wordHere_67 : decode cX10_wordHere 67 = .ok (.goto 4, 3) := by decide +kernel
theorem dX10_wordHere_70 : decode cX10_wordHere 70 = .ok (.iconst 0, 1) := by decide +kernel
theorem dX10_wordHere_71 : decode cX10_wordHere 71 = .ok (.istore 5, 2) := by decide +kernel
theorem dX10_wordHere_73 : decode cX10_wordHere 73 = .ok (.iconst 0, 1) := by decide +kernel
theorem dX10_wordHere_74 : decode cX10_wordHere 74 = .ok (.istore 6, 2) := by decide +kernel
theorem dX10_wordHere_76 : decode cX10_wordHere 76 = .ok (.iload 6, 2) := by decide +kernel
theorem dX10_wordHere_78 : decode cX10_wordHere 78 = .ok (.iload_n 1, 1) := by decide +kernel
theorem dX10_wordHere_79 : decode cX10_wordHere 79 = .ok (.if_icmp .ge 45, 3) := by decide +kernel
theorem dX10_wordHere_82 : decode cX10_wordHere 82 = .ok (.iload 5, 2) := by decide +kernel
theorem dX10_wordHere_84 : decode cX10_wordHere 84 = .ok (.ifCond .eq 40, 3) := by decide +kernel
theorem dX10_wordHere_87 : decode cX10_wordHere 87 = .ok (.ldc 102, 2) := by decide +kernel
theorem dX10_wordHere_89 : decode cX10_wordHere 89 = .ok (.iload_n 3, 1) := by decide +kernel
theorem dX10_wordHere_90 : decode cX10_wordHere 90 = .ok (.iload 6, 2) := by decide +kernel
theorem dX10_wordHere_92 : decode cX10_wordHere 92 = .ok (.iadd, 1) := by decide +kernel
theorem dX10_wordHere_93 : decode cX10_wordHere 93 = .ok (.invokevirtual 109, 3) := by decide +kernel
theorem dX10_wordHere_96 : decode cX10_wordHere 96 = .ok (.aload_n 0, 1) := by decide +kernel
theorem dX10_wordHere_97 : decode cX10_wordHere 97 = .ok (.getfield 23, 3) := by decide +kernel
theorem dX10_wordHere_100 : decode cX10_wordHere 100 = .ok (.aload_n 0, 1) := by decide +kernel
theorem dX10_wordHere_101 : decode cX10_wordHere 101 = .ok (.getfield 70, 3) := by decide +kernel
theorem dX10_wordHere_104 : decode cX10_wordHere 104 = .ok (.iload 6, 2) := by decide +kernel
theorem dX10_wordHere_106 : decode cX10_wordHere 106 = .ok (.iadd, 1) := by decide +kernel
theorem dX10_wordHere_107 : decode cX10_wordHere 107 = .ok (.baload, 1) := by decide +kernel
theorem dX10_wordHere_108 : decode cX10_wordHere 108 = .ok (.if_icmp .ne 7, 3) := by decide +kernel
theorem dX10_wordHere_111 : decode cX10_wordHere 111 = .ok (.iconst 1, 1) := by decide +kernel
theorem dX10_wordHere_112 : decode cX10_wordHere 112 = .ok (.goto 4, 3) := by decide +kernel
theorem dX10_wordHere_115 : decode cX10_wordHere 115 = .ok (.iconst 0, 1) := by decide +kernel
theorem dX10_wordHere_116 : decode cX10_wordHere 116 = .ok (.istore 5, 2) := by decide +kernel
theorem dX10_wordHere_118 : decode cX10_wordHere 118 = .ok (.iinc 6 1, 3) := by decide +kernel
theorem dX10_wordHere_121 : decode cX10_wordHere 121 = .ok (.goto (-45), 3) := by decide +kernel
theorem dX10_wordHere_124 : decode cX10_wordHere 124 = .ok (.iload 5, 2) := by decide +kernel
theorem dX10_wordHere_126 : decode cX10_wordHere 126 = .ok (.ifCond .eq 5, 3) := by decide +kernel
theorem dX10_wordHere_129 : decode cX10_wordHere 129 = .ok (.iload_n 2, 1) := by decide +kernel
theorem dX10_wordHere_130 : decode cX10_wordHere 130 = .ok (.ireturn, 1) := by decide +kernel
theorem dX10_wordHere_131 : decode cX10_wordHere 131 = .ok (.iinc 2 1, 3) := by decide +kernel
theorem dX10_wordHere_134 : decode cX10_wordHere 134 = .ok (.iload 4, 2) := by decide +kernel
theorem dX10_wordHere_136 : decode cX10_wordHere 136 = .ok (.iconst 1, 1) := by decide +kernel
theorem dX10_wordHere_137 : decode cX10_wordHere 137 = .ok (.iadd, 1) := by decide +kernel
theorem dX10_wordHere_138 : decode cX10_wordHere 138 = .ok (.istore_n 3, 1) := by decide +kernel
theorem dX10_wordHere_139 : decode cX10_wordHere 139 = .ok (.goto (-111), 3) := by decide +kernel
theorem dX10_wordHere_142 : decode cX10_wordHere 142 = .ok (.iconst (-1), 1) := by decide +kernel
theorem dX10_wordHere_143 : decode cX10_wordHere 143 = .ok (.ireturn, 1) := by decide +kernel
theorem dX10_numeral_0 : decode cX10_numeral 0 = .ok (.aload_n 0, 1) := by decide +kernel
theorem dX10_numeral_1 : decode cX10_numeral 1 = .ok (.getfield 76, 3) := by decide +kernel
theorem dX10_numeral_4 : decode cX10_numeral 4 = .ok (.ifCond .eq 5, 3) := by decide +kernel
theorem dX10_numeral_7 : decode cX10_numeral 7 = .ok (.iload_n 1, 1) := by decide +kernel
theorem dX10_numeral_8 : decode cX10_numeral 8 = .ok (.ireturn, 1) := by decide +kernel
theorem dX10_numeral_9 : decode cX10_numeral 9 = .ok (.aload_n 0, 1) := by decide +kernel
theorem dX10_numeral_10 : decode cX10_numeral 10 = .ok (.invokevirtual 95, 3) := by decide +kernel
theorem dX10_numeral_13 : decode cX10_numeral 13 = .ok (.invokestatic 113, 3) := by decide +kernel
theorem dX10_numeral_16 : decode cX10_numeral 16 = .ok (.ifCond .ne 14, 3) := by decide +kernel
theorem dX10_numeral_19 : decode cX10_numeral 19 = .ok (.aload_n 0, 1) := by decide +kernel
theorem dX10_numeral_20 : decode cX10_numeral 20 = .ok (.iconst 1, 1) := by decide +kernel
theorem dX10_numeral_21 : decode cX10_numeral 21 = .ok (.aload_n 0, 1) := by decide +kernel
theorem dX10_numeral_22 : decode cX10_numeral 22 = .ok (.getfield 70, 3) := by decide +kernel
theorem dX10_numeral_25 : decode cX10_numeral 25 = .ok (.invokevirtual 116, 3) := by decide +kernel
theorem dX10_numeral_28 : decode cX10_numeral 28 = .ok (.iload_n 1, 1) := by decide +kernel
theorem dX10_numeral_29 : decode cX10_numeral 29 = .ok (.ireturn, 1) := by decide +kernel
theorem dX10_numeral_30 : decode cX10_numeral 30 = .ok (.aload_n 0, 1) := by decide +kernel
theorem dX10_numeral_31 : decode cX10_numeral 31 = .ok (.aload_n 0, 1) := by decide +kernel
theorem dX10_numeral_32 : decode cX10_numeral 32 = .ok (.getfield 70, 3) := by decide +kernel
theorem dX10_numeral_35 : decode cX10_numeral 35 = .ok (.putfield 120, 3) := by decide +kernel
theorem dX10_numeral_38 : decode cX10_numeral 38 = .ok (.iconst 0, 1) := by decide +kernel
theorem dX10_numeral_39 : decode cX10_numeral 39 = .ok (.istore_n 3, 1) := by decide +kernel
theorem dX10_numeral_40 : decode cX10_numeral 40 = .ok (.aload_n 0, 1) := by decide +kernel
theorem dX10_numeral_41 : decode cX10_numeral 41 = .ok (.getfield 70, 3) := by decide +kernel
theorem dX10_numeral_44 : decode cX10_numeral 44 = .ok (.aload_n 0, 1) := by decide +kernel
theorem dX10_numeral_45 : decode cX10_numeral 45 = .ok (.getfield 73, 3) := by decide +kernel
theorem dX10_numeral_48 : decode cX10_numeral 48 = .ok (.if_icmp .ge 62, 3) := by decide +kernel
theorem dX10_numeral_51 : decode cX10_numeral 51 = .ok (.aload_n 0, 1) := by decide +kernel
theorem dX10_numeral_52 : decode cX10_numeral 52 = .ok (.getfield 23, 3) := by decide +kernel
theorem dX10_numeral_55 : decode cX10_numeral 55 = .ok (.aload_n 0, 1) := by decide +kernel
theorem dX10_numeral_56 : decode cX10_numeral 56 = .ok (.getfield 70, 3) := by decide +kernel
theorem dX10_numeral_59 : decode cX10_numeral 59 = .ok (.baload, 1) := by decide +kernel
theorem dX10_numeral_60 : decode cX10_numeral 60 = .ok (.invokestatic 113, 3) := by decide +kernel
theorem dX10_numeral_63 : decode cX10_numeral 63 = .ok (.ifCond .eq 47, 3) := by decide +kernel
theorem dX10_numeral_66 : decode cX10_numeral 66 = .ok (.aload_n 0, 1) := by decide +kernel
theorem dX10_numeral_67 : decode cX10_numeral 67 = .ok (.getfield 70, 3) := by decide +kernel
theorem dX10_numeral_70 : decode cX10_numeral 70 = .ok (.aload_n 0, 1) := by decide +kernel
theorem dX10_numeral_71 : decode cX10_numeral 71 = .ok (.getfield 120, 3) := by decide +kernel
theorem dX10_numeral_74 : decode cX10_numeral 74 = .ok (.isub, 1) := by decide +kernel
theorem dX10_numeral_75 : decode cX10_numeral 75 = .ok (.iconst 4, 1) := by decide +kernel
theorem dX10_numeral_76 : decode cX10_numeral 76 = .ok (.if_icmp .ge 21, 3) := by decide +kernel
theorem dX10_numeral_79 : decode cX10_numeral 79 = .ok (.bipush 10, 2) := by decide +kernel
theorem dX10_numeral_81 : decode cX10_numeral 81 = .ok (.iload_n 3, 1) := by decide +kernel
theorem dX10_numeral_82 : decode cX10_numeral 82 = .ok (.imul, 1) := by decide +kernel
theorem dX10_numeral_83 : decode cX10_numeral 83 = .ok (.aload_n 0, 1) := by decide +kernel
theorem dX10_numeral_84 : decode cX10_numeral 84 = .ok (.getfield 23, 3) := by decide +kernel
theorem dX10_numeral_87 : decode cX10_numeral 87 = .ok (.aload_n 0, 1) := by decide +kernel
theorem dX10_numeral_88 : decode cX10_numeral 88 = .ok (.getfield 70, 3) := by decide +kernel
theorem dX10_numeral_91 : decode cX10_numeral 91 = .ok (.baload, 1) := by decide +kernel
theorem dX10_numeral_92 : decode cX10_numeral 92 = .ok (.iadd, 1) := by decide +kernel
theorem dX10_numeral_93 : decode cX10_numeral 93 = .ok (.bipush 48, 2) := by decide +kernel
theorem dX10_numeral_95 : decode cX10_numeral 95 = .ok (.isub, 1) := by decide +kernel
theorem dX10_numeral_96 : decode cX10_numeral 96 = .ok (.istore_n 3, 1) := by decide +kernel
theorem dX10_numeral_97 : decode cX10_numeral 97 = .ok (.aload_n 0, 1) := by decide +kernel
theorem dX10_numeral_98 : decode cX10_numeral 98 = .ok (.dup, 1) := by decide +kernel
theorem dX10_numeral_99 : decode cX10_numeral 99 = .ok (.getfield 70, 3) := by decide +kernel
theorem dX10_numeral_102 : decode cX10_numeral 102 = .ok (.iconst 1, 1) := by decide +kernel
theorem dX10_numeral_103 : decode cX10_numeral 103 = .ok (.iadd, 1) := by decide +kernel
theorem dX10_numeral_104 : decode cX10_numeral 104 = .ok (.putfield 70, 3) := by decide +kernel
theorem dX10_numeral_107 : decode cX10_numeral 107 = .ok (.goto (-67), 3) := by decide +kernel
theorem dX10_numeral_110 : decode cX10_numeral 110 = .ok (.aload_n 0, 1) := by decide +kernel
theorem dX10_numeral_111 : decode cX10_numeral 111 = .ok (.getfield 70, 3) := by decide +kernel
theorem dX10_numeral_114 : decode cX10_numeral 114 = .ok (.aload_n 0, 1) := by decide +kernel
theorem dX10_numeral_115 : decode cX10_numeral 115 = .ok (.getfield 120, 3) := by decide +kernel
theorem dX10_numeral_118 : decode cX10_numeral 118 = .ok (.isub, 1) := by decide +kernel
theorem dX10_numeral_119 : decode cX10_numeral 119 = .ok (.iconst 4, 1) := by decide +kernel
theorem dX10_numeral_120 : decode cX10_numeral 120 = .ok (.if_icmp .gt 15, 3) := by decide +kernel
theorem dX10_numeral_123 : decode cX10_numeral 123 = .ok (.iload_n 3, 1) := by decide +kernel
theorem dX10_numeral_124 : decode cX10_numeral 124 = .ok (.i2l, 1) := by decide +kernel
theorem dX10_numeral_125 : decode cX10_numeral 125 = .ok (.iload_n 1, 1) := by decide +kernel
theorem dX10_numeral_126 : decode cX10_numeral 126 = .ok (.i2l, 1) := by decide +kernel
theorem dX10_numeral_127 : decode cX10_numeral 127 = .ok (.iload_n 2, 1) := by decide +kernel
theorem dX10_numeral_128 : decode cX10_numeral 128 = .ok (.i2l, 1) := by decide +kernel
theorem dX10_numeral_129 : decode cX10_numeral 129 = .ok (.invokestatic 83, 3) := by decide +kernel
theorem dX10_numeral_132 : decode cX10_numeral 132 = .ok (.ifCond .ne 12, 3) := by decide +kernel
theorem dX10_numeral_135 : decode cX10_numeral 135 = .ok (.aload_n 0, 1) := by decide +kernel
theorem dX10_numeral_136 : decode cX10_numeral 136 = .ok (.iconst 2, 1) := by decide +kernel
theorem dX10_numeral_137 : decode cX10_numeral 137 = .ok (.aload_n 0, 1) := by decide +kernel
theorem dX10_numeral_138 : decode cX10_numeral 138 = .ok (.getfield 120, 3) := by decide +kernel
theorem dX10_numeral_141 : decode cX10_numeral 141 = .ok (.invokevirtual 116, 3) := by decide +kernel
theorem dX10_numeral_144 : decode cX10_numeral 144 = .ok (.aload_n 0, 1) := by decide +kernel
theorem dX10_numeral_145 : decode cX10_numeral 145 = .ok (.getfield 76, 3) := by decide +kernel
theorem dX10_numeral_148 : decode cX10_numeral 148 = .ok (.ifCond .ne 7, 3) := by decide +kernel
theorem dX10_numeral_151 : decode cX10_numeral 151 = .ok (.iload_n 3, 1) := by decide +kernel
theorem dX10_numeral_152 : decode cX10_numeral 152 = .ok (.goto 4, 3) := by decide +kernel
theorem dX10_numeral_155 : decode cX10_numeral 155 = .ok (.iload_n 1, 1) := by decide +kernel
theorem dX10_numeral_156 : decode cX10_numeral 156 = .ok (.ireturn, 1) := by decide +kernel
theorem dX10_isFull_0 : decode cX10_isFull 0 = .ok (.iload_n 1, 1) := by decide +kernel
theorem dX10_isFull_1 : decode cX10_isFull 1 = .ok (.iconst 1, 1) := by decide +kernel
theorem dX10_isFull_2 : decode cX10_isFull 2 = .ok (.if_icmp .ne 14, 3) := by decide +kernel
theorem dX10_isFull_5 : decode cX10_isFull 5 = .ok (.aload_n 0, 1) := by decide +kernel
theorem dX10_isFull_6 : decode cX10_isFull 6 = .ok (.getfield 13, 3) := by decide +kernel
theorem dX10_isFull_9 : decode cX10_isFull 9 = .ok (.iconst 2, 1) := by decide +kernel
theorem dX10_isFull_10 : decode cX10_isFull 10 = .ok (.iaload, 1) := by decide +kernel
theorem dX10_isFull_11 : decode cX10_isFull 11 = .ok (.bipush 12, 2) := by decide +kernel
theorem dX10_isFull_13 : decode cX10_isFull 13 = .ok (.if_icmp .eq 69, 3) := by decide +kernel
theorem dX10_isFull_16 : decode cX10_isFull 16 = .ok (.iload_n 1, 1) := by decide +kernel
theorem dX10_isFull_17 : decode cX10_isFull 17 = .ok (.iconst 4, 1) := by decide +kernel
theorem dX10_isFull_18 : decode cX10_isFull 18 = .ok (.if_icmp .ne 14, 3) := by decide +kernel
theorem dX10_isFull_21 : decode cX10_isFull 21 = .ok (.aload_n 0, 1) := by decide +kernel
theorem dX10_isFull_22 : decode cX10_isFull 22 = .ok (.getfield 13, 3) := by decide +kernel
theorem dX10_isFull_25 : decode cX10_isFull 25 = .ok (.iconst 3, 1) := by decide +kernel
theorem dX10_isFull_26 : decode cX10_isFull 26 = .ok (.iaload, 1) := by decide +kernel
theorem dX10_isFull_27 : decode cX10_isFull 27 = .ok (.bipush 10, 2) := by decide +kernel
theorem dX10_isFull_29 : decode cX10_isFull 29 = .ok (.if_icmp .eq 53, 3) := by decide +kernel
theorem dX10_isFull_32 : decode cX10_isFull 32 = .ok (.iload_n 1, 1) := by decide +kernel
theorem dX10_isFull_33 : decode cX10_isFull 33 = .ok (.iconst 5, 1) := by decide +kernel
theorem dX10_isFull_34 : decode cX10_isFull 34 = .ok (.if_icmp .ne 14, 3) := by decide +kernel
theorem dX10_isFull_37 : decode cX10_isFull 37 = .ok (.aload_n 0, 1) := by decide +kernel
theorem dX10_isFull_38 : decode cX10_isFull 38 = .ok (.getfield 13, 3) := by decide +kernel
theorem dX10_isFull_41 : decode cX10_isFull 41 = .ok (.iconst 4, 1) := by decide +kernel
theorem dX10_isFull_42 : decode cX10_isFull 42 = .ok (.iaload, 1) := by decide +kernel
theorem dX10_isFull_43 : decode cX10_isFull 43 = .ok (.bipush 8, 2) := by decide +kernel
theorem dX10_isFull_45 : decode cX10_isFull 45 = .ok (.if_icmp .eq 37, 3) := by decide +kernel
theorem dX10_isFull_48 : decode cX10_isFull 48 = .ok (.iload_n 1, 1) := by decide +kernel
theorem dX10_isFull_49 : decode cX10_isFull 49 = .ok (.bipush 6, 2) := by decide +kernel
theorem dX10_isFull_51 : decode cX10_isFull 51 = .ok (.if_icmp .ne 14, 3) := by decide +kernel
theorem dX10_isFull_54 : decode cX10_isFull 54 = .ok (.aload_n 0, 1) := by decide +kernel
theorem dX10_isFull_55 : decode cX10_isFull 55 = .ok (.getfield 13, 3) := by decide +kernel
theorem dX10_isFull_58 : decode cX10_isFull 58 = .ok (.iconst 5, 1) := by decide +kernel
theorem dX10_isFull_59 : decode cX10_isFull 59 = .ok (.iaload, 1) := by decide +kernel
theorem dX10_isFull_60 : decode cX10_isFull 60 = .ok (.bipush 12, 2) := by decide +kernel
theorem dX10_isFull_62 : decode cX10_isFull 62 = .ok (.if_icmp .eq 20, 3) := by decide +kernel
theorem dX10_isFull_65 : decode cX10_isFull 65 = .ok (.iload_n 1, 1) := by decide +kernel
theorem dX10_isFull_66 : decode cX10_isFull 66 = .ok (.bipush 6, 2) := by decide +kernel
theorem dX10_isFull_68 : decode cX10_isFull 68 = .ok (.if_icmp .le 18, 3) := by decide +kernel
theorem dX10_isFull_71 : decode cX10_isFull 71 = .ok (.aload_n 0, 1) := by decide +kernel
theorem dX10_isFull_72 : decode cX10_isFull 72 = .ok (.getfield 13, 3) := by decide +kernel
theorem dX10_isFull_75 : decode cX10_isFull 75 = .ok (.bipush 6, 2) := by decide +kernel
theorem dX10_isFull_77 : decode cX10_isFull 77 = .ok (.iaload, 1) := by decide +kernel
theorem dX10_isFull_78 : decode cX10_isFull 78 = .ok (.iconst 4, 1) := by decide +kernel
theorem dX10_isFull_79 : decode cX10_isFull 79 = .ok (.if_icmp .ne 7, 3) := by decide +kernel
theorem dX10_isFull_82 : decode cX10_isFull 82 = .ok (.iconst 1, 1) := by decide +kernel
theorem dX10_isFull_83 : decode cX10_isFull 83 = .ok (.goto 4, 3) := by decide +kernel
theorem dX10_isFull_86 : decode cX10_isFull 86 = .ok (.iconst 0, 1) := by decide +kernel
theorem dX10_isFull_87 : decode cX10_isFull 87 = .ok (.ireturn, 1) := by decide +kernel
theorem dX10_lineRead_0 : decode cX10_lineRead 0 = .ok (.aload_n 0, 1) := by decide +kernel
theorem dX10_lineRead_1 : decode cX10_lineRead 1 = .ok (.invokevirtual 123, 3) := by decide +kernel
theorem dX10_lineRead_4 : decode cX10_lineRead 4 = .ok (.istore_n 1, 1) := by decide +kernel
theorem dX10_lineRead_5 : decode cX10_lineRead 5 = .ok (.iload_n 1, 1) := by decide +kernel
theorem dX10_lineRead_6 : decode cX10_lineRead 6 = .ok (.iconst (-1), 1) := by decide +kernel
theorem dX10_lineRead_7 : decode cX10_lineRead 7 = .ok (.if_icmp .eq 14, 3) := by decide +kernel
theorem dX10_lineRead_10 : decode cX10_lineRead 10 = .ok (.iload_n 1, 1) := by decide +kernel
theorem dX10_lineRead_11 : decode cX10_lineRead 11 = .ok (.ifCond .ne 22, 3) := by decide +kernel
theorem dX10_lineRead_14 : decode cX10_lineRead 14 = .ok (.aload_n 0, 1) := by decide +kernel
theorem dX10_lineRead_15 : decode cX10_lineRead 15 = .ok (.getfield 126, 3) := by decide +kernel
theorem dX10_lineRead_18 : decode cX10_lineRead 18 = .ok (.ifCond .le 15, 3) := by decide +kernel
theorem dX10_lineRead_21 : decode cX10_lineRead 21 = .ok (.aload_n 0, 1) := by decide +kernel
theorem dX10_lineRead_22 : decode cX10_lineRead 22 = .ok (.iconst 1, 1) := by decide +kernel
theorem dX10_lineRead_23 : decode cX10_lineRead 23 = .ok (.aload_n 0, 1) := by decide +kernel
theorem dX10_lineRead_24 : decode cX10_lineRead 24 = .ok (.getfield 70, 3) := by decide +kernel
theorem dX10_lineRead_27 : decode cX10_lineRead 27 = .ok (.invokevirtual 116, 3) := by decide +kernel
theorem dX10_lineRead_30 : decode cX10_lineRead 30 = .ok (.goto 20, 3) := by decide +kernel
theorem dX10_lineRead_33 : decode cX10_lineRead 33 = .ok (.aload_n 0, 1) := by decide +kernel
theorem dX10_lineRead_34 : decode cX10_lineRead 34 = .ok (.iload_n 1, 1) := by decide +kernel
theorem dX10_lineRead_35 : decode cX10_lineRead 35 = .ok (.invokevirtual 129, 3) := by decide +kernel
theorem dX10_lineRead_38 : decode cX10_lineRead 38 = .ok (.ifCond .eq 12, 3) := by decide +kernel
theorem dX10_lineRead_41 : decode cX10_lineRead 41 = .ok (.aload_n 0, 1) := by decide +kernel
theorem dX10_lineRead_42 : decode cX10_lineRead 42 = .ok (.iconst 4, 1) := by decide +kernel
theorem dX10_lineRead_43 : decode cX10_lineRead 43 = .ok (.aload_n 0, 1) := by decide +kernel
theorem dX10_lineRead_44 : decode cX10_lineRead 44 = .ok (.getfield 70, 3) := by decide +kernel
theorem dX10_lineRead_47 : decode cX10_lineRead 47 = .ok (.invokevirtual 116, 3) := by decide +kernel
theorem dX10_lineRead_50 : decode cX10_lineRead 50 = .ok (.aload_n 0, 1) := by decide +kernel
theorem dX10_lineRead_51 : decode cX10_lineRead 51 = .ok (.getfield 76, 3) := by decide +kernel
theorem dX10_lineRead_54 : decode cX10_lineRead 54 = .ok (.ifCond .eq 4, 3) := by decide +kernel
theorem dX10_lineRead_57 : decode cX10_lineRead 57 = .ok (.return_, 1) := by decide +kernel
theorem dX10_lineRead_58 : decode cX10_lineRead 58 = .ok (.aload_n 0, 1) := by decide +kernel
theorem dX10_lineRead_59 : decode cX10_lineRead 59 = .ok (.getfield 70, 3) := by decide +kernel
theorem dX10_lineRead_62 : decode cX10_lineRead 62 = .ok (.istore_n 2, 1) := by decide +kernel
theorem dX10_lineRead_63 : decode cX10_lineRead 63 = .ok (.aload_n 0, 1) := by decide +kernel
theorem dX10_lineRead_64 : decode cX10_lineRead 64 = .ok (.dup, 1) := by decide +kernel
theorem dX10_lineRead_65 : decode cX10_lineRead 65 = .ok (.getfield 70, 3) := by decide +kernel
theorem dX10_lineRead_68 : decode cX10_lineRead 68 = .ok (.aload_n 0, 1) := by decide +kernel
theorem dX10_lineRead_69 : decode cX10_lineRead 69 = .ok (.invokevirtual 99, 3) := by decide +kernel
theorem dX10_lineRead_72 : decode cX10_lineRead 72 = .ok (.iadd, 1) := by decide +kernel
theorem dX10_lineRead_73 : decode cX10_lineRead 73 = .ok (.putfield 70, 3) := by decide +kernel
theorem dX10_lineRead_76 : decode cX10_lineRead 76 = .ok (.aload_n 0, 1) := by decide +kernel
theorem dX10_lineRead_77 : decode cX10_lineRead 77 = .ok (.iload_n 1, 1) := by decide +kernel
theorem dX10_lineRead_78 : decode cX10_lineRead 78 = .ok (.iload_n 2, 1) := by decide +kernel
theorem dX10_lineRead_79 : decode cX10_lineRead 79 = .ok (.invokevirtual 132, 3) := by decide +kernel
theorem dX10_lineRead_82 : decode cX10_lineRead 82 = .ok (.aload_n 0, 1) := by decide +kernel
theorem dX10_lineRead_83 : decode cX10_lineRead 83 = .ok (.getfield 76, 3) := by decide +kernel
theorem dX10_lineRead_86 : decode cX10_lineRead 86 = .ok (.ifCond .ne 21, 3) := by decide +kernel
theorem dX10_lineRead_89 : decode cX10_lineRead 89 = .ok (.aload_n 0, 1) := by decide +kernel
theorem dX10_lineRead_90 : decode cX10_lineRead 90 = .ok (.invokevirtual 95, 3) := by decide +kernel
theorem dX10_lineRead_93 : decode cX10_lineRead 93 = .ok (.bipush 59, 2) := by decide +kernel
theorem dX10_lineRead_95 : decode cX10_lineRead 95 = .ok (.if_icmp .eq 12, 3) := by decide +kernel
theorem dX10_lineRead_98 : decode cX10_lineRead 98 = .ok (.aload_n 0, 1) := by decide +kernel
theorem dX10_lineRead_99 : decode cX10_lineRead 99 = .ok (.iconst 1, 1) := by decide +kernel
theorem dX10_lineRead_100 : decode cX10_lineRead 100 = .ok (.aload_n 0, 1) := by decide +kernel
theorem dX10_lineRead_101 : decode cX10_lineRead 101 = .ok (.getfield 70, 3) := by decide +kernel
theorem dX10_lineRead_104 : decode cX10_lineRead 104 = .ok (.invokevirtual 116, 3) := by decide +kernel
theorem dX10_lineRead_107 : decode cX10_lineRead 107 = .ok (.aload_n 0, 1) := by decide +kernel
theorem dX10_lineRead_108 : decode cX10_lineRead 108 = .ok (.dup, 1) := by decide +kernel
theorem dX10_lineRead_109 : decode cX10_lineRead 109 = .ok (.getfield 70, 3) := by decide +kernel
theorem dX10_lineRead_112 : decode cX10_lineRead 112 = .ok (.iconst 1, 1) := by decide +kernel
theorem dX10_lineRead_113 : decode cX10_lineRead 113 = .ok (.iadd, 1) := by decide +kernel
theorem dX10_lineRead_114 : decode cX10_lineRead 114 = .ok (.putfield 70, 3) := by decide +kernel
theorem dX10_lineRead_117 : decode cX10_lineRead 117 = .ok (.aload_n 0, 1) := by decide +kernel
theorem dX10_lineRead_118 : decode cX10_lineRead 118 = .ok (.dup, 1) := by decide +kernel
theorem dX10_lineRead_119 : decode cX10_lineRead 119 = .ok (.getfield 126, 3) := by decide +kernel
theorem dX10_lineRead_122 : decode cX10_lineRead 122 = .ok (.iconst 1, 1) := by decide +kernel
theorem dX10_lineRead_123 : decode cX10_lineRead 123 = .ok (.iadd, 1) := by decide +kernel
theorem dX10_lineRead_124 : decode cX10_lineRead 124 = .ok (.putfield 126, 3) := by decide +kernel
theorem dX10_lineRead_127 : decode cX10_lineRead 127 = .ok (.return_, 1) := by decide +kernel
theorem dX10_behind_0 : decode cX10_behind 0 = .ok (.iload_n 1, 1) := by decide +kernel
theorem dX10_behind_1 : decode cX10_behind 1 = .ok (.tableswitch 202 0 6 #[43, 70, 86, 92, 98, 114, 185], 43) := by decide +kernel
theorem dX10_behind_44 : decode cX10_behind 44 = .ok (.aload_n 0, 1) := by decide +kernel
theorem dX10_behind_45 : decode cX10_behind 45 = .ok (.getfield 13, 3) := by decide +kernel
theorem dX10_behind_48 : decode cX10_behind 48 = .ok (.iconst 0, 1) := by decide +kernel
theorem dX10_behind_49 : decode cX10_behind 49 = .ok (.aload_n 0, 1) := by decide +kernel
theorem dX10_behind_50 : decode cX10_behind 50 = .ok (.iconst 3, 1) := by decide +kernel
theorem dX10_behind_51 : decode cX10_behind 51 = .ok (.bipush 24, 2) := by decide +kernel
theorem dX10_behind_53 : decode cX10_behind 53 = .ok (.invokevirtual 135, 3) := by decide +kernel
theorem dX10_behind_56 : decode cX10_behind 56 = .ok (.iastore, 1) := by decide +kernel
theorem dX10_behind_57 : decode cX10_behind 57 = .ok (.aload_n 0, 1) := by decide +kernel
theorem dX10_behind_58 : decode cX10_behind 58 = .ok (.getfield 13, 3) := by decide +kernel
theorem dX10_behind_61 : decode cX10_behind 61 = .ok (.iconst 1, 1) := by decide +kernel
theorem dX10_behind_62 : decode cX10_behind 62 = .ok (.aload_n 0, 1) := by decide +kernel
theorem dX10_behind_63 : decode cX10_behind 63 = .ok (.iconst 3, 1) := by decide +kernel
theorem dX10_behind_64 : decode cX10_behind 64 = .ok (.bipush 12, 2) := by decide +kernel
theorem dX10_behind_66 : decode cX10_behind 66 = .ok (.invokevirtual 135, 3) := by decide +kernel
